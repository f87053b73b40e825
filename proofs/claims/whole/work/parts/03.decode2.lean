theorem dX9_isDefended_51 : decode cX9_isDefended 51 = .ok (.if_icmp .ne 25, 3) := by decide +kernel
theorem dX9_isDefended_54 : decode cX9_isDefended 54 = .ok (.aload_n 0, 1) := by decide +kernel
theorem dX9_isDefended_55 : decode cX9_isDefended 55 = .ok (.getfield 7, 3) := by decide +kernel
theorem dX9_isDefended_58 : decode cX9_isDefended 58 = .ok (.iload_n 3, 1) := by decide +kernel
theorem dX9_isDefended_59 : decode cX9_isDefended 59 = .ok (.bipush 6, 2) := by decide +kernel
theorem dX9_isDefended_61 : decode cX9_isDefended 61 = .ok (.iadd, 1) := by decide +kernel
theorem dX9_isDefended_62 : decode cX9_isDefended 62 = .ok (.iaload, 1) := by decide +kernel
theorem dX9_isDefended_63 : decode cX9_isDefended 63 = .ok (.iconst 1, 1) := by decide +kernel
theorem dX9_isDefended_64 : decode cX9_isDefended 64 = .ok (.if_icmp .ne 12, 3) := by decide +kernel
theorem dX9_isDefended_67 : decode cX9_isDefended 67 = .ok (.iload 4, 2) := by decide +kernel
theorem dX9_isDefended_69 : decode cX9_isDefended 69 = .ok (.ifCond .eq 7, 3) := by decide +kernel
theorem dX9_isDefended_72 : decode cX9_isDefended 72 = .ok (.iconst 1, 1) := by decide +kernel
theorem dX9_isDefended_73 : decode cX9_isDefended 73 = .ok (.goto 4, 3) := by decide +kernel
theorem dX9_isDefended_76 : decode cX9_isDefended 76 = .ok (.iconst 0, 1) := by decide +kernel
theorem dX9_isDefended_77 : decode cX9_isDefended 77 = .ok (.ireturn, 1) := by decide +kernel
theorem dX9_dropsEntry_0 : decode cX9_dropsEntry 0 = .ok (.aload_n 0, 1) := by decide +kernel
theorem dX9_dropsEntry_1 : decode cX9_dropsEntry 1 = .ok (.getfield 7, 3) := by decide +kernel
theorem dX9_dropsEntry_4 : decode cX9_dropsEntry 4 = .ok (.bipush 10, 2) := by decide +kernel
theorem dX9_dropsEntry_6 : decode cX9_dropsEntry 6 = .ok (.iconst 4, 1) := by decide +kernel
theorem dX9_dropsEntry_7 : decode cX9_dropsEntry 7 = .ok (.iload_n 1, 1) := by decide +kernel
theorem dX9_dropsEntry_8 : decode cX9_dropsEntry 8 = .ok (.imul, 1) := by decide +kernel
theorem dX9_dropsEntry_9 : decode cX9_dropsEntry 9 = .ok (.iadd, 1) := by decide +kernel
theorem dX9_dropsEntry_10 : decode cX9_dropsEntry 10 = .ok (.iconst 3, 1) := by decide +kernel
theorem dX9_dropsEntry_11 : decode cX9_dropsEntry 11 = .ok (.iadd, 1) := by decide +kernel
theorem dX9_dropsEntry_12 : decode cX9_dropsEntry 12 = .ok (.dup2, 1) := by decide +kernel
theorem dX9_dropsEntry_13 : decode cX9_dropsEntry 13 = .ok (.iaload, 1) := by decide +kernel
theorem dX9_dropsEntry_14 : decode cX9_dropsEntry 14 = .ok (.iconst 1, 1) := by decide +kernel
theorem dX9_dropsEntry_15 : decode cX9_dropsEntry 15 = .ok (.isub, 1) := by decide +kernel
theorem dX9_dropsEntry_16 : decode cX9_dropsEntry 16 = .ok (.iastore, 1) := by decide +kernel
theorem dX9_dropsEntry_17 : decode cX9_dropsEntry 17 = .ok (.iload_n 1, 1) := by decide +kernel
theorem dX9_dropsEntry_18 : decode cX9_dropsEntry 18 = .ok (.iload_n 2, 1) := by decide +kernel
theorem dX9_dropsEntry_19 : decode cX9_dropsEntry 19 = .ok (.invokestatic 67, 3) := by decide +kernel
theorem dX9_dropsEntry_22 : decode cX9_dropsEntry 22 = .ok (.istore_n 3, 1) := by decide +kernel
theorem dX9_dropsEntry_23 : decode cX9_dropsEntry 23 = .ok (.iload_n 3, 1) := by decide +kernel
theorem dX9_dropsEntry_24 : decode cX9_dropsEntry 24 = .ok (.iload_n 1, 1) := by decide +kernel
theorem dX9_dropsEntry_25 : decode cX9_dropsEntry 25 = .ok (.aload_n 0, 1) := by decide +kernel
theorem dX9_dropsEntry_26 : decode cX9_dropsEntry 26 = .ok (.iload_n 1, 1) := by decide +kernel
theorem dX9_dropsEntry_27 : decode cX9_dropsEntry 27 = .ok (.invokevirtual 70, 3) := by decide +kernel
theorem dX9_dropsEntry_30 : decode cX9_dropsEntry 30 = .ok (.invokestatic 67, 3) := by decide +kernel
theorem dX9_dropsEntry_33 : decode cX9_dropsEntry 33 = .ok (.if_icmp .ge 23, 3) := by decide +kernel
theorem dX9_dropsEntry_36 : decode cX9_dropsEntry 36 = .ok (.aload_n 0, 1) := by decide +kernel
theorem dX9_dropsEntry_37 : decode cX9_dropsEntry 37 = .ok (.getfield 7, 3) := by decide +kernel
theorem dX9_dropsEntry_40 : decode cX9_dropsEntry 40 = .ok (.iload_n 3, 1) := by decide +kernel
theorem dX9_dropsEntry_41 : decode cX9_dropsEntry 41 = .ok (.aload_n 0, 1) := by decide +kernel
theorem dX9_dropsEntry_42 : decode cX9_dropsEntry 42 = .ok (.getfield 7, 3) := by decide +kernel
theorem dX9_dropsEntry_45 : decode cX9_dropsEntry 45 = .ok (.iload_n 3, 1) := by decide +kernel
theorem dX9_dropsEntry_46 : decode cX9_dropsEntry 46 = .ok (.iconst 5, 1) := by decide +kernel
theorem dX9_dropsEntry_47 : decode cX9_dropsEntry 47 = .ok (.iadd, 1) := by decide +kernel
theorem dX9_dropsEntry_48 : decode cX9_dropsEntry 48 = .ok (.iaload, 1) := by decide +kernel
theorem dX9_dropsEntry_49 : decode cX9_dropsEntry 49 = .ok (.iastore, 1) := by decide +kernel
theorem dX9_dropsEntry_50 : decode cX9_dropsEntry 50 = .ok (.iinc 3 1, 3) := by decide +kernel
theorem dX9_dropsEntry_53 : decode cX9_dropsEntry 53 = .ok (.goto (-30), 3) := by decide +kernel
theorem dX9_dropsEntry_56 : decode cX9_dropsEntry 56 = .ok (.return_, 1) := by decide +kernel
theorem dX9_hasSame_0 : decode cX9_hasSame 0 = .ok (.iconst 0, 1) := by decide +kernel
theorem dX9_hasSame_1 : decode cX9_hasSame 1 = .ok (.istore_n 3, 1) := by decide +kernel
theorem dX9_hasSame_2 : decode cX9_hasSame 2 = .ok (.iconst 0, 1) := by decide +kernel
theorem dX9_hasSame_3 : decode cX9_hasSame 3 = .ok (.istore 4, 2) := by decide +kernel
theorem dX9_hasSame_5 : decode cX9_hasSame 5 = .ok (.iload 4, 2) := by decide +kernel
theorem dX9_hasSame_7 : decode cX9_hasSame 7 = .ok (.aload_n 0, 1) := by decide +kernel
theorem dX9_hasSame_8 : decode cX9_hasSame 8 = .ok (.iload_n 1, 1) := by decide +kernel
theorem dX9_hasSame_9 : decode cX9_hasSame 9 = .ok (.invokevirtual 73, 3) := by decide +kernel
theorem dX9_hasSame_12 : decode cX9_hasSame 12 = .ok (.if_icmp .ge 33, 3) := by decide +kernel
theorem dX9_hasSame_15 : decode cX9_hasSame 15 = .ok (.iload_n 3, 1) := by decide +kernel
theorem dX9_hasSame_16 : decode cX9_hasSame 16 = .ok (.ifCond .ne 17, 3) := by decide +kernel
theorem dX9_hasSame_19 : decode cX9_hasSame 19 = .ok (.aload_n 0, 1) := by decide +kernel
theorem dX9_hasSame_20 : decode cX9_hasSame 20 = .ok (.iload_n 1, 1) := by decide +kernel
theorem dX9_hasSame_21 : decode cX9_hasSame 21 = .ok (.iload 4, 2) := by decide +kernel
theorem dX9_hasSame_23 : decode cX9_hasSame 23 = .ok (.invokestatic 55, 3) := by decide +kernel
theorem dX9_hasSame_26 : decode cX9_hasSame 26 = .ok (.iload_n 2, 1) := by decide +kernel
theorem dX9_hasSame_27 : decode cX9_hasSame 27 = .ok (.invokevirtual 76, 3) := by decide +kernel
theorem dX9_hasSame_30 : decode cX9_hasSame 30 = .ok (.ifCond .eq 7, 3) := by decide +kernel
theorem dX9_hasSame_33 : decode cX9_hasSame 33 = .ok (.iconst 1, 1) := by decide +kernel
theorem dX9_hasSame_34 : decode cX9_hasSame 34 = .ok (.goto 4, 3) := by decide +kernel
theorem dX9_hasSame_37 : decode cX9_hasSame 37 = .ok (.iconst 0, 1) := by decide +kernel
theorem dX9_hasSame_38 : decode cX9_hasSame 38 = .ok (.istore_n 3, 1) := by decide +kernel
theorem dX9_hasSame_39 : decode cX9_hasSame 39 = .ok (.iinc 4 1, 3) := by decide +kernel
theorem dX9_hasSame_42 : decode cX9_hasSame 42 = .ok (.goto (-37), 3) := by decide +kernel
theorem dX9_hasSame_45 : decode cX9_hasSame 45 = .ok (.iload_n 3, 1) := by decide +kernel
theorem dX9_hasSame_46 : decode cX9_hasSame 46 = .ok (.ireturn, 1) := by decide +kernel
theorem dX9_shortens_0 : decode cX9_shortens 0 = .ok (.aload_n 0, 1) := by decide +kernel
theorem dX9_shortens_1 : decode cX9_shortens 1 = .ok (.getfield 7, 3) := by decide +kernel
theorem dX9_shortens_4 : decode cX9_shortens 4 = .ok (.iload_n 1, 1) := by decide +kernel
theorem dX9_shortens_5 : decode cX9_shortens 5 = .ok (.iconst 4, 1) := by decide +kernel
theorem dX9_shortens_6 : decode cX9_shortens 6 = .ok (.iadd, 1) := by decide +kernel
theorem dX9_shortens_7 : decode cX9_shortens 7 = .ok (.aload_n 0, 1) := by decide +kernel
theorem dX9_shortens_8 : decode cX9_shortens 8 = .ok (.getfield 7, 3) := by decide +kernel
theorem dX9_shortens_11 : decode cX9_shortens 11 = .ok (.iload_n 1, 1) := by decide +kernel
theorem dX9_shortens_12 : decode cX9_shortens 12 = .ok (.iconst 4, 1) := by decide +kernel
theorem dX9_shortens_13 : decode cX9_shortens 13 = .ok (.iadd, 1) := by decide +kernel
theorem dX9_shortens_14 : decode cX9_shortens 14 = .ok (.iaload, 1) := by decide +kernel
theorem dX9_shortens_15 : decode cX9_shortens 15 = .ok (.aload_n 0, 1) := by decide +kernel
theorem dX9_shortens_16 : decode cX9_shortens 16 = .ok (.getfield 7, 3) := by decide +kernel
theorem dX9_shortens_19 : decode cX9_shortens 19 = .ok (.iconst 1, 1) := by decide +kernel
theorem dX9_shortens_20 : decode cX9_shortens 20 = .ok (.iaload, 1) := by decide +kernel
theorem dX9_shortens_21 : decode cX9_shortens 21 = .ok (.iconst 1, 1) := by decide +kernel
theorem dX9_shortens_22 : decode cX9_shortens 22 = .ok (.iadd, 1) := by decide +kernel
theorem dX9_shortens_23 : decode cX9_shortens 23 = .ok (.if_icmp .le 14, 3) := by decide +kernel
theorem dX9_shortens_26 : decode cX9_shortens 26 = .ok (.aload_n 0, 1) := by decide +kernel
theorem dX9_shortens_27 : decode cX9_shortens 27 = .ok (.getfield 7, 3) := by decide +kernel
theorem dX9_shortens_30 : decode cX9_shortens 30 = .ok (.iconst 1, 1) := by decide +kernel
theorem dX9_shortens_31 : decode cX9_shortens 31 = .ok (.iaload, 1) := by decide +kernel
theorem dX9_shortens_32 : decode cX9_shortens 32 = .ok (.iconst 1, 1) := by decide +kernel
theorem dX9_shortens_33 : decode cX9_shortens 33 = .ok (.iadd, 1) := by decide +kernel
theorem dX9_shortens_34 : decode cX9_shortens 34 = .ok (.goto 11, 3) := by decide +kernel
theorem dX9_shortens_37 : decode cX9_shortens 37 = .ok (.aload_n 0, 1) := by decide +kernel
theorem dX9_shortens_38 : decode cX9_shortens 38 = .ok (.getfield 7, 3) := by decide +kernel
theorem dX9_shortens_41 : decode cX9_shortens 41 = .ok (.iload_n 1, 1) := by decide +kernel
theorem dX9_shortens_42 : decode cX9_shortens 42 = .ok (.iconst 4, 1) := by decide +kernel
theorem dX9_shortens_43 : decode cX9_shortens 43 = .ok (.iadd, 1) := by decide +kernel
theorem dX9_shortens_44 : decode cX9_shortens 44 = .ok (.iaload, 1) := by decide +kernel
theorem dX9_shortens_45 : decode cX9_shortens 45 = .ok (.iastore, 1) := by decide +kernel
theorem dX9_shortens_46 : decode cX9_shortens 46 = .ok (.return_, 1) := by decide +kernel
theorem dX9_hears_0 : decode cX9_hears 0 = .ok (.aload_n 0, 1) := by decide +kernel
theorem dX9_hears_1 : decode cX9_hears 1 = .ok (.iload_n 1, 1) := by decide +kernel
theorem dX9_hears_2 : decode cX9_hears 2 = .ok (.invokevirtual 59, 3) := by decide +kernel
theorem dX9_hears_5 : decode cX9_hears 5 = .ok (.ifCond .eq 12, 3) := by decide +kernel
theorem dX9_hears_8 : decode cX9_hears 8 = .ok (.aload_n 0, 1) := by decide +kernel
theorem dX9_hears_9 : decode cX9_hears 9 = .ok (.iload_n 1, 1) := by decide +kernel
theorem dX9_hears_10 : decode cX9_hears 10 = .ok (.iload_n 2, 1) := by decide +kernel
theorem dX9_hears_11 : decode cX9_hears 11 = .ok (.invokevirtual 79, 3) := by decide +kernel
theorem dX9_hears_14 : decode cX9_hears 14 = .ok (.ifCond .eq 4, 3) := by decide +kernel
theorem dX9_hears_17 : decode cX9_hears 17 = .ok (.return_, 1) := by decide +kernel
theorem dX9_hears_18 : decode cX9_hears 18 = .ok (.aload_n 0, 1) := by decide +kernel
theorem dX9_hears_19 : decode cX9_hears 19 = .ok (.iload_n 1, 1) := by decide +kernel
theorem dX9_hears_20 : decode cX9_hears 20 = .ok (.invokevirtual 70, 3) := by decide +kernel
theorem dX9_hears_23 : decode cX9_hears 23 = .ok (.iconst 1, 1) := by decide +kernel
theorem dX9_hears_24 : decode cX9_hears 24 = .ok (.isub, 1) := by decide +kernel
theorem dX9_hears_25 : decode cX9_hears 25 = .ok (.istore_n 3, 1) := by decide +kernel
theorem dX9_hears_26 : decode cX9_hears 26 = .ok (.iload_n 3, 1) := by decide +kernel
theorem dX9_hears_27 : decode cX9_hears 27 = .ok (.ifCond .lt 28, 3) := by decide +kernel
theorem dX9_hears_30 : decode cX9_hears 30 = .ok (.aload_n 0, 1) := by decide +kernel
theorem dX9_hears_31 : decode cX9_hears 31 = .ok (.iload_n 1, 1) := by decide +kernel
theorem dX9_hears_32 : decode cX9_hears 32 = .ok (.iload_n 3, 1) := by decide +kernel
theorem dX9_hears_33 : decode cX9_hears 33 = .ok (.invokestatic 67, 3) := by decide +kernel
theorem dX9_hears_36 : decode cX9_hears 36 = .ok (.iload_n 2, 1) := by decide +kernel
theorem dX9_hears_37 : decode cX9_hears 37 = .ok (.invokevirtual 76, 3) := by decide +kernel
theorem dX9_hears_40 : decode cX9_hears 40 = .ok (.ifCond .eq 9, 3) := by decide +kernel
theorem dX9_hears_43 : decode cX9_hears 43 = .ok (.aload_n 0, 1) := by decide +kernel
theorem dX9_hears_44 : decode cX9_hears 44 = .ok (.iload_n 1, 1) := by decide +kernel
theorem dX9_hears_45 : decode cX9_hears 45 = .ok (.iload_n 3, 1) := by decide +kernel
theorem dX9_hears_46 : decode cX9_hears 46 = .ok (.invokevirtual 82, 3) := by decide +kernel
theorem dX9_hears_49 : decode cX9_hears 49 = .ok (.iinc 3 (-1), 3) := by decide +kernel
theorem dX9_hears_52 : decode cX9_hears 52 = .ok (.goto (-26), 3) := by decide +kernel
theorem dX9_hears_55 : decode cX9_hears 55 = .ok (.aload_n 0, 1) := by decide +kernel
theorem dX9_hears_56 : decode cX9_hears 56 = .ok (.iload_n 1, 1) := by decide +kernel
theorem dX9_hears_57 : decode cX9_hears 57 = .ok (.invokevirtual 70, 3) := by decide +kernel
theorem dX9_hears_60 : decode cX9_hears 60 = .ok (.bipush 6, 2) := by decide +kernel
theorem dX9_hears_62 : decode cX9_hears 62 = .ok (.if_icmp .ne 9, 3) := by decide +kernel
theorem dX9_hears_65 : decode cX9_hears 65 = .ok (.aload_n 0, 1) := by decide +kernel
theorem dX9_hears_66 : decode cX9_hears 66 = .ok (.iload_n 1, 1) := by decide +kernel
theorem dX9_hears_67 : decode cX9_hears 67 = .ok (.iconst 0, 1) := by decide +kernel
theorem dX9_hears_68 : decode cX9_hears 68 = .ok (.invokevirtual 82, 3) := by decide +kernel
theorem dX9_hears_71 : decode cX9_hears 71 = .ok (.iload_n 1, 1) := by decide +kernel
theorem dX9_hears_72 : decode cX9_hears 72 = .ok (.aload_n 0, 1) := by decide +kernel
theorem dX9_hears_73 : decode cX9_hears 73 = .ok (.iload_n 1, 1) := by decide +kernel
theorem dX9_hears_74 : decode cX9_hears 74 = .ok (.invokevirtual 70, 3) := by decide +kernel
theorem dX9_hears_77 : decode cX9_hears 77 = .ok (.invokestatic 67, 3) := by decide +kernel
theorem dX9_hears_80 : decode cX9_hears 80 = .ok (.istore_n 3, 1) := by decide +kernel
theorem dX9_hears_81 : decode cX9_hears 81 = .ok (.iconst 0, 1) := by decide +kernel
theorem dX9_hears_82 : decode cX9_hears 82 = .ok (.istore 4, 2) := by decide +kernel
theorem dX9_hears_84 : decode cX9_hears 84 = .ok (.iload 4, 2) := by decide +kernel
theorem dX9_hears_86 : decode cX9_hears 86 = .ok (.iconst 4, 1) := by decide +kernel
theorem dX9_hears_87 : decode cX9_hears 87 = .ok (.if_icmp .ge 27, 3) := by decide +kernel
theorem dX9_hears_90 : decode cX9_hears 90 = .ok (.aload_n 0, 1) := by decide +kernel
theorem dX9_hears_91 : decode cX9_hears 91 = .ok (.getfield 7, 3) := by decide +kernel
theorem dX9_hears_94 : decode cX9_hears 94 = .ok (.iload_n 3, 1) := by decide +kernel
theorem dX9_hears_95 : decode cX9_hears 95 = .ok (.iload 4, 2) := by decide +kernel
theorem dX9_hears_97 : decode cX9_hears 97 = .ok (.iadd, 1) := by decide +kernel
theorem dX9_hears_98 : decode cX9_hears 98 = .ok (.aload_n 0, 1) := by decide +kernel
theorem dX9_hears_99 : decode cX9_hears 99 = .ok (.getfield 7, 3) := by decide +kernel
theorem dX9_hears_102 : decode cX9_hears 102 = .ok (.iload_n 2, 1) := by decide +kernel
theorem dX9_hears_103 : decode cX9_hears 103 = .ok (.iload 4, 2) := by decide +kernel
theorem dX9_hears_105 : decode cX9_hears 105 = .ok (.iadd, 1) := by decide +kernel
theorem dX9_hears_106 : decode cX9_hears 106 = .ok (.iaload, 1) := by decide +kernel
theorem dX9_hears_107 : decode cX9_hears 107 = .ok (.iastore, 1) := by decide +kernel
theorem dX9_hears_108 : decode cX9_hears 108 = .ok (.iinc 4 1, 3) := by decide +kernel
theorem dX9_hears_111 : decode cX9_hears 111 = .ok (.goto (-27), 3) := by decide +kernel
theorem dX9_hears_114 : decode cX9_hears 114 = .ok (.aload_n 0, 1) := by decide +kernel
theorem dX9_hears_115 : decode cX9_hears 115 = .ok (.getfield 7, 3) := by decide +kernel
theorem dX9_hears_118 : decode cX9_hears 118 = .ok (.iload_n 3, 1) := by decide +kernel
theorem dX9_hears_119 : decode cX9_hears 119 = .ok (.iconst 4, 1) := by decide +kernel
theorem dX9_hears_120 : decode cX9_hears 120 = .ok (.iadd, 1) := by decide +kernel
theorem dX9_hears_121 : decode cX9_hears 121 = .ok (.aload_n 0, 1) := by decide +kernel
theorem dX9_hears_122 : decode cX9_hears 122 = .ok (.getfield 7, 3) := by decide +kernel
theorem dX9_hears_125 : decode cX9_hears 125 = .ok (.iconst 1, 1) := by decide +kernel
theorem dX9_hears_126 : decode cX9_hears 126 = .ok (.iaload, 1) := by decide +kernel
theorem dX9_hears_127 : decode cX9_hears 127 = .ok (.aload_n 0, 1) := by decide +kernel
theorem dX9_hears_128 : decode cX9_hears 128 = .ok (.getfield 7, 3) := by decide +kernel
theorem dX9_hears_131 : decode cX9_hears 131 = .ok (.iload_n 2, 1) := by decide +kernel
theorem dX9_hears_132 : decode cX9_hears 132 = .ok (.iconst 3, 1) := by decide +kernel
theorem dX9_hears_133 : decode cX9_hears 133 = .ok (.iadd, 1) := by decide +kernel
theorem dX9_hears_134 : decode cX9_hears 134 = .ok (.iaload, 1) := by decide +kernel
theorem dX9_hears_135 : decode cX9_hears 135 = .ok (.iadd, 1) := by decide +kernel
theorem dX9_hears_136 : decode cX9_hears 136 = .ok (.iastore, 1) := by decide +kernel
theorem dX9_hears_137 : decode cX9_hears 137 = .ok (.aload_n 0, 1) := by decide +kernel
theorem dX9_hears_138 : decode cX9_hears 138 = .ok (.getfield 7, 3) := by decide +kernel
theorem dX9_hears_141 : decode cX9_hears 141 = .ok (.bipush 10, 2) := by decide +kernel
theorem dX9_hears_143 : decode cX9_hears 143 = .ok (.iconst 4, 1) := by decide +kernel
theorem dX9_hears_144 : decode cX9_hears 144 = .ok (.iload_n 1, 1) := by decide +kernel
theorem dX9_hears_145 : decode cX9_hears 145 = .ok (.imul, 1) := by decide +kernel
theorem dX9_hears_146 : decode cX9_hears 146 = .ok (.iadd, 1) := by decide +kernel
theorem dX9_hears_147 : decode cX9_hears 147 = .ok (.iconst 3, 1) := by decide +kernel
theorem dX9_hears_148 : decode cX9_hears 148 = .ok (.iadd, 1) := by decide +kernel
theorem dX9_hears_149 : decode cX9_hears 149 = .ok (.dup2, 1) := by decide +kernel
theorem dX9_hears_150 : decode cX9_hears 150 = .ok (.iaload, 1) := by decide +kernel
theorem dX9_hears_151 : decode cX9_hears 151 = .ok (.iconst 1, 1) := by decide +kernel
theorem dX9_hears_152 : decode cX9_hears 152 = .ok (.iadd, 1) := by decide +kernel
theorem dX9_hears_153 : decode cX9_hears 153 = .ok (.iastore, 1) := by decide +kernel
theorem dX9_hears_154 : decode cX9_hears 154 = .ok (.iconst 0, 1) := by decide +kernel
theorem dX9_hears_155 : decode cX9_hears 155 = .ok (.istore 4, 2) := by decide +kernel
theorem dX9_hears_157 : decode cX9_hears 157 = .ok (.iload 4, 2) := by decide +kernel
theorem dX9_hears_159 : decode cX9_hears 159 = .ok (.aload_n 0, 1) := by decide +kernel
theorem dX9_hears_160 : decode cX9_hears 160 = .ok (.iload_n 1, 1) := by decide +kernel
theorem dX9_hears_161 : decode cX9_hears 161 = .ok (.invokevirtual 70, 3) := by decide +kernel
theorem dX9_hears_164 : decode cX9_hears 164 = .ok (.if_icmp .ge 60, 3) := by decide +kernel
theorem dX9_hears_167 : decode cX9_hears 167 = .ok (.aload_n 0, 1) := by decide +kernel
theorem dX9_hears_168 : decode cX9_hears 168 = .ok (.getfield 7, 3) := by decide +kernel
theorem dX9_hears_171 : decode cX9_hears 171 = .ok (.iload_n 2, 1) := by decide +kernel
theorem dX9_hears_172 : decode cX9_hears 172 = .ok (.bipush 6, 2) := by decide +kernel
theorem dX9_hears_174 : decode cX9_hears 174 = .ok (.iadd, 1) := by decide +kernel
theorem dX9_hears_175 : decode cX9_hears 175 = .ok (.iaload, 1) := by decide +kernel
theorem dX9_hears_176 : decode cX9_hears 176 = .ok (.iconst 1, 1) := by decide +kernel
theorem dX9_hears_177 : decode cX9_hears 177 = .ok (.if_icmp .ne 47, 3) := by decide +kernel
theorem dX9_hears_180 : decode cX9_hears 180 = .ok (.aload_n 0, 1) := by decide +kernel
theorem dX9_hears_181 : decode cX9_hears 181 = .ok (.iload_n 1, 1) := by decide +kernel
theorem dX9_hears_182 : decode cX9_hears 182 = .ok (.iload 4, 2) := by decide +kernel
theorem dX9_hears_184 : decode cX9_hears 184 = .ok (.invokestatic 67, 3) := by decide +kernel
theorem dX9_hears_187 : decode cX9_hears 187 = .ok (.iload_n 2, 1) := by decide +kernel
theorem dX9_hears_188 : decode cX9_hears 188 = .ok (.invokevirtual 51, 3) := by decide +kernel
theorem dX9_hears_191 : decode cX9_hears 191 = .ok (.ifCond .eq 27, 3) := by decide +kernel
theorem dX9_hears_194 : decode cX9_hears 194 = .ok (.aload_n 0, 1) := by decide +kernel
theorem dX9_hears_195 : decode cX9_hears 195 = .ok (.iload_n 1, 1) := by decide +kernel
theorem dX9_hears_196 : decode cX9_hears 196 = .ok (.iload 4, 2) := by decide +kernel
theorem dX9_hears_198 : decode cX9_hears 198 = .ok (.invokestatic 67, 3) := by decide +kernel
theorem dX9_hears_201 : decode cX9_hears 201 = .ok (.iload_n 2, 1) := by decide +kernel
theorem dX9_hears_202 : decode cX9_hears 202 = .ok (.invokevirtual 76, 3) := by decide +kernel
theorem dX9_hears_205 : decode cX9_hears 205 = .ok (.ifCond .ne 13, 3) := by decide +kernel
theorem dX9_hears_208 : decode cX9_hears 208 = .ok (.aload_n 0, 1) := by decide +kernel
theorem dX9_hears_209 : decode cX9_hears 209 = .ok (.iload_n 1, 1) := by decide +kernel
theorem dX9_hears_210 : decode cX9_hears 210 = .ok (.iload 4, 2) := by decide +kernel
theorem dX9_hears_212 : decode cX9_hears 212 = .ok (.invokestatic 67, 3) := by decide +kernel
theorem dX9_hears_215 : decode cX9_hears 215 = .ok (.invokevirtual 86, 3) := by decide +kernel
theorem dX9_hears_218 : decode cX9_hears 218 = .ok (.iinc 4 1, 3) := by decide +kernel
theorem dX9_hears_221 : decode cX9_hears 221 = .ok (.goto (-64), 3) := by decide +kernel
theorem dX9_hears_224 : decode cX9_hears 224 = .ok (.return_, 1) := by decide +kernel
theorem dX9_says_0 : decode cX9_says 0 = .ok (.iconst 0, 1) := by decide +kernel
theorem dX9_says_1 : decode cX9_says 1 = .ok (.istore_n 3, 1) := by decide +kernel
theorem dX9_says_2 : decode cX9_says 2 = .ok (.iload_n 3, 1) := by decide +kernel
theorem dX9_says_3 : decode cX9_says 3 = .ok (.aload_n 0, 1) := by decide +kernel
theorem dX9_says_4 : decode cX9_says 4 = .ok (.getfield 7, 3) := by decide +kernel
theorem dX9_says_7 : decode cX9_says 7 = .ok (.iconst 0, 1) := by decide +kernel
theorem dX9_says_8 : decode cX9_says 8 = .ok (.iaload, 1) := by decide +kernel
theorem dX9_says_9 : decode cX9_says 9 = .ok (.if_icmp .ge 20, 3) := by decide +kernel
theorem dX9_says_12 : decode cX9_says 12 = .ok (.iload_n 3, 1) := by decide +kernel
theorem dX9_says_13 : decode cX9_says 13 = .ok (.iload_n 1, 1) := by decide +kernel
theorem dX9_says_14 : decode cX9_says 14 = .ok (.if_icmp .eq 9, 3) := by decide +kernel
theorem dX9_says_17 : decode cX9_says 17 = .ok (.aload_n 0, 1) := by decide +kernel
theorem dX9_says_18 : decode cX9_says 18 = .ok (.iload_n 3, 1) := by decide +kernel
theorem dX9_says_19 : decode cX9_says 19 = .ok (.iload_n 2, 1) := by decide +kernel
theorem dX9_says_20 : decode cX9_says 20 = .ok (.invokevirtual 90, 3) := by decide +kernel
theorem dX9_says_23 : decode cX9_says 23 = .ok (.iinc 3 1, 3) := by decide +kernel
theorem dX9_says_26 : decode cX9_says 26 = .ok (.goto (-24), 3) := by decide +kernel
theorem dX9_says_29 : decode cX9_says 29 = .ok (.aload_n 0, 1) := by decide +kernel
theorem dX9_says_30 : decode cX9_says 30 = .ok (.getfield 7, 3) := by decide +kernel
theorem dX9_says_33 : decode cX9_says 33 = .ok (.iconst 2, 1) := by decide +kernel
theorem dX9_says_34 : decode cX9_says 34 = .ok (.dup2, 1) := by decide +kernel
theorem dX9_says_35 : decode cX9_says 35 = .ok (.iaload, 1) := by decide +kernel
theorem dX9_says_36 : decode cX9_says 36 = .ok (.iconst 1, 1) := by decide +kernel
theorem dX9_says_37 : decode cX9_says 37 = .ok (.iadd, 1) := by decide +kernel
theorem dX9_says_38 : decode cX9_says 38 = .ok (.iastore, 1) := by decide +kernel
theorem dX9_says_39 : decode cX9_says 39 = .ok (.return_, 1) := by decide +kernel
theorem dX9_canHost_0 : decode cX9_canHost 0 = .ok (.aload_n 0, 1) := by decide +kernel
theorem dX9_canHost_1 : decode cX9_canHost 1 = .ok (.getfield 7, 3) := by decide +kernel
theorem dX9_canHost_4 : decode cX9_canHost 4 = .ok (.iconst 0, 1) := by decide +kernel
theorem dX9_canHost_5 : decode cX9_canHost 5 = .ok (.iaload, 1) := by decide +kernel
theorem dX9_canHost_6 : decode cX9_canHost 6 = .ok (.bipush 6, 2) := by decide +kernel
theorem dX9_canHost_8 : decode cX9_canHost 8 = .ok (.if_icmp .ne 8, 3) := by decide +kernel
theorem dX9_canHost_11 : decode cX9_canHost 11 = .ok (.bipush (-4), 2) := by decide +kernel
theorem dX9_canHost_13 : decode cX9_canHost 13 = .ok (.goto 4, 3) := by decide +kernel
theorem dX9_canHost_16 : decode cX9_canHost 16 = .ok (.iconst 0, 1) := by decide +kernel
theorem dX9_canHost_17 : decode cX9_canHost 17 = .ok (.ireturn, 1) := by decide +kernel
theorem dX9_hostNow_0 : decode cX9_hostNow 0 = .ok (.aload_n 0, 1) := by decide +kernel
theorem dX9_hostNow_1 : decode cX9_hostNow 1 = .ok (.getfield 7, 3) := by decide +kernel
theorem dX9_hostNow_4 : decode cX9_hostNow 4 = .ok (.iconst 0, 1) := by decide +kernel
theorem dX9_hostNow_5 : decode cX9_hostNow 5 = .ok (.iaload, 1) := by decide +kernel
theorem dX9_hostNow_6 : decode cX9_hostNow 6 = .ok (.istore_n 1, 1) := by decide +kernel
theorem dX9_hostNow_7 : decode cX9_hostNow 7 = .ok (.aload_n 0, 1) := by decide +kernel
theorem dX9_hostNow_8 : decode cX9_hostNow 8 = .ok (.getfield 7, 3) := by decide +kernel
theorem dX9_hostNow_11 : decode cX9_hostNow 11 = .ok (.bipush 10, 2) := by decide +kernel
theorem dX9_hostNow_13 : decode cX9_hostNow 13 = .ok (.iconst 4, 1) := by decide +kernel
theorem dX9_hostNow_14 : decode cX9_hostNow 14 = .ok (.iload_n 1, 1) := by decide +kernel
theorem dX9_hostNow_15 : decode cX9_hostNow 15 = .ok (.imul, 1) := by decide +kernel
theorem dX9_hostNow_16 : decode cX9_hostNow 16 = .ok (.iadd, 1) := by decide +kernel
theorem dX9_hostNow_17 : decode cX9_hostNow 17 = .ok (.iconst 1, 1) := by decide +kernel
theorem dX9_hostNow_18 : decode cX9_hostNow 18 = .ok (.iastore, 1) := by decide +kernel
theorem dX9_hostNow_19 : decode cX9_hostNow 19 = .ok (.aload_n 0, 1) := by decide +kernel
theorem dX9_hostNow_20 : decode cX9_hostNow 20 = .ok (.getfield 7, 3) := by decide +kernel
theorem dX9_hostNow_23 : decode cX9_hostNow 23 = .ok (.bipush 10, 2) := by decide +kernel
theorem dX9_hostNow_25 : decode cX9_hostNow 25 = .ok (.iconst 4, 1) := by decide +kernel
theorem dX9_hostNow_26 : decode cX9_hostNow 26 = .ok (.iload_n 1, 1) := by decide +kernel
theorem dX9_hostNow_27 : decode cX9_hostNow 27 = .ok (.imul, 1) := by decide +kernel
theorem dX9_hostNow_28 : decode cX9_hostNow 28 = .ok (.iadd, 1) := by decide +kernel
theorem dX9_hostNow_29 : decode cX9_hostNow 29 = .ok (.iconst 1, 1) := by decide +kernel
theorem dX9_hostNow_30 : decode cX9_hostNow 30 = .ok (.iadd, 1) := by decide +kernel
theorem dX9_hostNow_31 : decode cX9_hostNow 31 = .ok (.iconst (-1), 1) := by decide +kernel
theorem dX9_hostNow_32 : decode cX9_hostNow 32 = .ok (.iastore, 1) := by decide +kernel
theorem dX9_hostNow_33 : decode cX9_hostNow 33 = .ok (.aload_n 0, 1) := by decide +kernel
theorem dX9_hostNow_34 : decode cX9_hostNow 34 = .ok (.getfield 7, 3) := by decide +kernel
theorem dX9_hostNow_37 : decode cX9_hostNow 37 = .ok (.bipush 10, 2) := by decide +kernel
theorem dX9_hostNow_39 : decode cX9_hostNow 39 = .ok (.iconst 4, 1) := by decide +kernel
theorem dX9_hostNow_40 : decode cX9_hostNow 40 = .ok (.iload_n 1, 1) := by decide +kernel
theorem dX9_hostNow_41 : decode cX9_hostNow 41 = .ok (.imul, 1) := by decide +kernel
theorem dX9_hostNow_42 : decode cX9_hostNow 42 = .ok (.iadd, 1) := by decide +kernel
theorem dX9_hostNow_43 : decode cX9_hostNow 43 = .ok (.iconst 2, 1) := by decide +kernel
theorem dX9_hostNow_44 : decode cX9_hostNow 44 = .ok (.iadd, 1) := by decide +kernel
theorem dX9_hostNow_45 : decode cX9_hostNow 45 = .ok (.iconst 0, 1) := by decide +kernel
theorem dX9_hostNow_46 : decode cX9_hostNow 46 = .ok (.iastore, 1) := by decide +kernel
theorem dX9_hostNow_47 : decode cX9_hostNow 47 = .ok (.aload_n 0, 1) := by decide +kernel
theorem dX9_hostNow_48 : decode cX9_hostNow 48 = .ok (.getfield 7, 3) := by decide +kernel
theorem dX9_hostNow_51 : decode cX9_hostNow 51 = .ok (.bipush 10, 2) := by decide +kernel
theorem dX9_hostNow_53 : decode cX9_hostNow 53 = .ok (.iconst 4, 1) := by decide +kernel
theorem dX9_hostNow_54 : decode cX9_hostNow 54 = .ok (.iload_n 1, 1) := by decide +kernel
theorem dX9_hostNow_55 : decode cX9_hostNow 55 = .ok (.imul, 1) := by decide +kernel
theorem dX9_hostNow_56 : decode cX9_hostNow 56 = .ok (.iadd, 1) := by decide +kernel
theorem dX9_hostNow_57 : decode cX9_hostNow 57 = .ok (.iconst 3, 1) := by decide +kernel
theorem dX9_hostNow_58 : decode cX9_hostNow 58 = .ok (.iadd, 1) := by decide +kernel
theorem dX9_hostNow_59 : decode cX9_hostNow 59 = .ok (.iconst 0, 1) := by decide +kernel
theorem dX9_hostNow_60 : decode cX9_hostNow 60 = .ok (.iastore, 1) := by decide +kernel
theorem dX9_hostNow_61 : decode cX9_hostNow 61 = .ok (.aload_n 0, 1) := by decide +kernel
theorem dX9_hostNow_62 : decode cX9_hostNow 62 = .ok (.getfield 7, 3) := by decide +kernel
theorem dX9_hostNow_65 : decode cX9_hostNow 65 = .ok (.iconst 0, 1) := by decide +kernel
theorem dX9_hostNow_66 : decode cX9_hostNow 66 = .ok (.dup2, 1) := by decide +kernel
theorem dX9_hostNow_67 : decode cX9_hostNow 67 = .ok (.iaload, 1) := by decide +kernel
theorem dX9_hostNow_68 : decode cX9_hostNow 68 = .ok (.iconst 1, 1) := by decide +kernel
theorem dX9_hostNow_69 : decode cX9_hostNow 69 = .ok (.iadd, 1) := by decide +kernel
theorem dX9_hostNow_70 : decode cX9_hostNow 70 = .ok (.iastore, 1) := by decide +kernel
theorem dX9_hostNow_71 : decode cX9_hostNow 71 = .ok (.iload_n 1, 1) := by decide +kernel
theorem dX9_hostNow_72 : decode cX9_hostNow 72 = .ok (.ireturn, 1) := by decide +kernel
theorem dX9_host_0 : decode cX9_host 0 = .ok (.aload_n 0, 1) := by decide +kernel
theorem dX9_host_1 : decode cX9_host 1 = .ok (.invokevirtual 93, 3) := by decide +kernel
theorem dX9_host_4 : decode cX9_host 4 = .ok (.istore_n 1, 1) := by decide +kernel
theorem dX9_host_5 : decode cX9_host 5 = .ok (.iload_n 1, 1) := by decide +kernel
theorem dX9_host_6 : decode cX9_host 6 = .ok (.ifCond .ge 9, 3) := by decide +kernel
theorem dX9_host_9 : decode cX9_host 9 = .ok (.aload_n 0, 1) := by decide +kernel
theorem dX9_host_10 : decode cX9_host 10 = .ok (.iload_n 1, 1) := by decide +kernel
theorem dX9_host_11 : decode cX9_host 11 = .ok (.invokevirtual 97, 3) := by decide +kernel
theorem dX9_host_14 : decode cX9_host 14 = .ok (.ireturn, 1) := by decide +kernel
theorem dX9_host_15 : decode cX9_host 15 = .ok (.aload_n 0, 1) := by decide +kernel
theorem dX9_host_16 : decode cX9_host 16 = .ok (.invokevirtual 100, 3) := by decide +kernel
theorem dX9_host_19 : decode cX9_host 19 = .ok (.aload_n 0, 1) := by decide +kernel
theorem dX9_host_20 : decode cX9_host 20 = .ok (.invokevirtual 103, 3) := by decide +kernel
theorem dX9_host_23 : decode cX9_host 23 = .ok (.ireturn, 1) := by decide +kernel
theorem dX9_isName_0 : decode cX9_isName 0 = .ok (.iload_n 0, 1) := by decide +kernel
theorem dX9_isName_1 : decode cX9_isName 1 = .ok (.i2l, 1) := by decide +kernel
theorem dX9_isName_2 : decode cX9_isName 2 = .ok (.lconst 0, 1) := by decide +kernel
theorem dX9_isName_3 : decode cX9_isName 3 = .ok (.ldc2_w 106, 3) := by decide +kernel
theorem dX9_isName_6 : decode cX9_isName 6 = .ok (.invokestatic 47, 3) := by decide +kernel
theorem dX9_isName_9 : decode cX9_isName 9 = .ok (.ifCond .eq 19, 3) := by decide +kernel
theorem dX9_isName_12 : decode cX9_isName 12 = .ok (.iload_n 1, 1) := by decide +kernel
theorem dX9_isName_13 : decode cX9_isName 13 = .ok (.i2l, 1) := by decide +kernel
theorem dX9_isName_14 : decode cX9_isName 14 = .ok (.lconst 0, 1) := by decide +kernel
theorem dX9_isName_15 : decode cX9_isName 15 = .ok (.ldc2_w 108, 3) := by decide +kernel
theorem dX9_isName_18 : decode cX9_isName 18 = .ok (.invokestatic 47, 3) := by decide +kernel
theorem dX9_isName_21 : decode cX9_isName 21 = .ok (.ifCond .eq 7, 3) := by decide +kernel
theorem dX9_isName_24 : decode cX9_isName 24 = .ok (.iconst 1, 1) := by decide +kernel
theorem dX9_isName_25 : decode cX9_isName 25 = .ok (.goto 4, 3) := by decide +kernel
theorem dX9_isName_28 : decode cX9_isName 28 = .ok (.iconst 0, 1) := by decide +kernel
theorem dX9_isName_29 : decode cX9_isName 29 = .ok (.ireturn, 1) := by decide +kernel
theorem dX9_canRecord_0 : decode cX9_canRecord 0 = .ok (.aload_n 0, 1) := by decide +kernel
theorem dX9_canRecord_1 : decode cX9_canRecord 1 = .ok (.iload_n 1, 1) := by decide +kernel
theorem dX9_canRecord_2 : decode cX9_canRecord 2 = .ok (.invokevirtual 110, 3) := by decide +kernel
theorem dX9_canRecord_5 : decode cX9_canRecord 5 = .ok (.ifCond .eq 39, 3) := by decide +kernel
theorem dX9_canRecord_8 : decode cX9_canRecord 8 = .ok (.iload_n 2, 1) := by decide +kernel
theorem dX9_canRecord_9 : decode cX9_canRecord 9 = .ok (.iload_n 3, 1) := by decide +kernel
theorem dX9_canRecord_10 : decode cX9_canRecord 10 = .ok (.invokestatic 113, 3) := by decide +kernel
theorem dX9_canRecord_13 : decode cX9_canRecord 13 = .ok (.ifCond .eq 31, 3) := by decide +kernel
theorem dX9_canRecord_16 : decode cX9_canRecord 16 = .ok (.iload 4, 2) := by decide +kernel
theorem dX9_canRecord_18 : decode cX9_canRecord 18 = .ok (.i2l, 1) := by decide +kernel
theorem dX9_canRecord_19 : decode cX9_canRecord 19 = .ok (.lconst 0, 1) := by decide +kernel
theorem dX9_canRecord_20 : decode cX9_canRecord 20 = .ok (.ldc2_w 116, 3) := by decide +kernel
theorem dX9_canRecord_23 : decode cX9_canRecord 23 = .ok (.invokestatic 47, 3) := by decide +kernel
theorem dX9_canRecord_26 : decode cX9_canRecord 26 = .ok (.ifCond .eq 18, 3) := by decide +kernel
theorem dX9_canRecord_29 : decode cX9_canRecord 29 = .ok (.iload 5, 2) := by decide +kernel
theorem dX9_canRecord_31 : decode cX9_canRecord 31 = .ok (.i2l, 1) := by decide +kernel
theorem dX9_canRecord_32 : decode cX9_canRecord 32 = .ok (.ldc2_w 118, 3) := by decide +kernel
theorem dX9_canRecord_35 : decode cX9_canRecord 35 = .ok (.ldc2_w 120, 3) := by decide +kernel
theorem dX9_canRecord_38 : decode cX9_canRecord 38 = .ok (.invokestatic 47, 3) := by decide +kernel
theorem dX9_canRecord_41 : decode cX9_canRecord 41 = .ok (.ifCond .ne 6, 3) := by decide +kernel
theorem dX9_canRecord_44 : decode cX9_canRecord 44 = .ok (.bipush (-2), 2) := by decide +kernel
theorem dX9_canRecord_46 : decode cX9_canRecord 46 = .ok (.ireturn, 1) := by decide +kernel
theorem dX9_canRecord_47 : decode cX9_canRecord 47 = .ok (.iconst 0, 1) := by decide +kernel
theorem dX9_canRecord_48 : decode cX9_canRecord 48 = .ok (.istore 6, 2) := by decide +kernel
theorem dX9_canRecord_50 : decode cX9_canRecord 50 = .ok (.iconst 0, 1) := by decide +kernel
theorem dX9_canRecord_51 : decode cX9_canRecord 51 = .ok (.istore 7, 2) := by decide +kernel
theorem dX9_canRecord_53 : decode cX9_canRecord 53 = .ok (.iload 7, 2) := by decide +kernel
theorem dX9_canRecord_55 : decode cX9_canRecord 55 = .ok (.aload_n 0, 1) := by decide +kernel
theorem dX9_canRecord_56 : decode cX9_canRecord 56 = .ok (.iload_n 1, 1) := by decide +kernel
theorem dX9_canRecord_57 : decode cX9_canRecord 57 = .ok (.invokevirtual 73, 3) := by decide +kernel
theorem dX9_canRecord_60 : decode cX9_canRecord 60 = .ok (.if_icmp .ge 55, 3) := by decide +kernel
theorem dX9_canRecord_63 : decode cX9_canRecord 63 = .ok (.iload 6, 2) := by decide +kernel
theorem dX9_canRecord_65 : decode cX9_canRecord 65 = .ok (.ifCond .ne 37, 3) := by decide +kernel
theorem dX9_canRecord_68 : decode cX9_canRecord 68 = .ok (.aload_n 0, 1) := by decide +kernel
theorem dX9_canRecord_69 : decode cX9_canRecord 69 = .ok (.getfield 7, 3) := by decide +kernel
theorem dX9_canRecord_72 : decode cX9_canRecord 72 = .ok (.iload_n 1, 1) := by decide +kernel
theorem dX9_canRecord_73 : decode cX9_canRecord 73 = .ok (.iload 7, 2) := by decide +kernel
theorem dX9_canRecord_75 : decode cX9_canRecord 75 = .ok (.invokestatic 55, 3) := by decide +kernel
theorem dX9_canRecord_78 : decode cX9_canRecord 78 = .ok (.iconst 0, 1) := by decide +kernel
theorem dX9_canRecord_79 : decode cX9_canRecord 79 = .ok (.iadd, 1) := by decide +kernel
theorem dX9_canRecord_80 : decode cX9_canRecord 80 = .ok (.iaload, 1) := by decide +kernel
theorem dX9_canRecord_81 : decode cX9_canRecord 81 = .ok (.iload_n 2, 1) := by decide +kernel
theorem dX9_canRecord_82 : decode cX9_canRecord 82 = .ok (.if_icmp .ne 24, 3) := by decide +kernel
theorem dX9_canRecord_85 : decode cX9_canRecord 85 = .ok (.aload_n 0, 1) := by decide +kernel
theorem dX9_canRecord_86 : decode cX9_canRecord 86 = .ok (.getfield 7, 3) := by decide +kernel
theorem dX9_canRecord_89 : decode cX9_canRecord 89 = .ok (.iload_n 1, 1) := by decide +kernel
theorem dX9_canRecord_90 : decode cX9_canRecord 90 = .ok (.iload 7, 2) := by decide +kernel
theorem dX9_canRecord_92 : decode cX9_canRecord 92 = .ok (.invokestatic 55, 3) := by decide +kernel
theorem dX9_canRecord_95 : decode cX9_canRecord 95 = .ok (.iconst 1, 1) := by decide +kernel
theorem dX9_canRecord_96 : decode cX9_canRecord 96 = .ok (.iadd, 1) := by decide +kernel
theorem dX9_canRecord_97 : decode cX9_canRecord 97 = .ok (.iaload, 1) := by decide +kernel
theorem dX9_canRecord_98 : decode cX9_canRecord 98 = .ok (.iload_n 3, 1) := by decide +kernel
theorem dX9_canRecord_99 : decode cX9_canRecord 99 = .ok (.if_icmp .ne 7, 3) := by decide +kernel
theorem dX9_canRecord_102 : decode cX9_canRecord 102 = .ok (.iconst 1, 1) := by decide +kernel
theorem dX9_canRecord_103 : decode cX9_canRecord 103 = .ok (.goto 4, 3) := by decide +kernel
theorem dX9_canRecord_106 : decode cX9_canRecord 106 = .ok (.iconst 0, 1) := by decide +kernel
theorem dX9_canRecord_107 : decode cX9_canRecord 107 = .ok (.istore 6, 2) := by decide +kernel
theorem dX9_canRecord_109 : decode cX9_canRecord 109 = .ok (.iinc 7 1, 3) := by decide +kernel
theorem dX9_canRecord_112 : decode cX9_canRecord 112 = .ok (.goto (-59), 3) := by decide +kernel
theorem dX9_canRecord_115 : decode cX9_canRecord 115 = .ok (.aload_n 0, 1) := by decide +kernel
theorem dX9_canRecord_116 : decode cX9_canRecord 116 = .ok (.iload_n 1, 1) := by decide +kernel
theorem dX9_canRecord_117 : decode cX9_canRecord 117 = .ok (.invokevirtual 59, 3) := by decide +kernel
theorem dX9_canRecord_120 : decode cX9_canRecord 120 = .ok (.ifCond .eq 8, 3) := by decide +kernel
theorem dX9_canRecord_123 : decode cX9_canRecord 123 = .ok (.iload 6, 2) := by decide +kernel
theorem dX9_canRecord_125 : decode cX9_canRecord 125 = .ok (.ifCond .eq 8, 3) := by decide +kernel
theorem dX9_canRecord_128 : decode cX9_canRecord 128 = .ok (.bipush (-3), 2) := by decide +kernel
theorem dX9_canRecord_130 : decode cX9_canRecord 130 = .ok (.goto 18, 3) := by decide +kernel
theorem dX9_canRecord_133 : decode cX9_canRecord 133 = .ok (.aload_n 0, 1) := by decide +kernel
theorem dX9_canRecord_134 : decode cX9_canRecord 134 = .ok (.iload_n 1, 1) := by decide +kernel
theorem dX9_canRecord_135 : decode cX9_canRecord 135 = .ok (.invokevirtual 73, 3) := by decide +kernel
theorem dX9_canRecord_138 : decode cX9_canRecord 138 = .ok (.iconst 5, 1) := by decide +kernel
theorem dX9_canRecord_139 : decode cX9_canRecord 139 = .ok (.if_icmp .ne 8, 3) := by decide +kernel
theorem dX9_canRecord_142 : decode cX9_canRecord 142 = .ok (.bipush (-4), 2) := by decide +kernel
theorem dX9_canRecord_144 : decode cX9_canRecord 144 = .ok (.goto 4, 3) := by decide +kernel
theorem dX9_canRecord_147 : decode cX9_canRecord 147 = .ok (.iconst 0, 1) := by decide +kernel
theorem dX9_canRecord_148 : decode cX9_canRecord 148 = .ok (.ireturn, 1) := by decide +kernel
theorem dX9_recordNow_0 : decode cX9_recordNow 0 = .ok (.aload_n 0, 1) := by decide +kernel
theorem dX9_recordNow_1 : decode cX9_recordNow 1 = .ok (.iload_n 1, 1) := by decide +kernel
theorem dX9_recordNow_2 : decode cX9_recordNow 2 = .ok (.invokevirtual 73, 3) := by decide +kernel
theorem dX9_recordNow_5 : decode cX9_recordNow 5 = .ok (.istore 7, 2) := by decide +kernel
theorem dX9_recordNow_7 : decode cX9_recordNow 7 = .ok (.iload_n 1, 1) := by decide +kernel
theorem dX9_recordNow_8 : decode cX9_recordNow 8 = .ok (.iload 7, 2) := by decide +kernel
theorem dX9_recordNow_10 : decode cX9_recordNow 10 = .ok (.invokestatic 55, 3) := by decide +kernel
theorem dX9_recordNow_13 : decode cX9_recordNow 13 = .ok (.istore 8, 2) := by decide +kernel
theorem dX9_recordNow_15 : decode cX9_recordNow 15 = .ok (.aload_n 0, 1) := by decide +kernel
theorem dX9_recordNow_16 : decode cX9_recordNow 16 = .ok (.getfield 7, 3) := by decide +kernel
theorem dX9_recordNow_19 : decode cX9_recordNow 19 = .ok (.iload 8, 2) := by decide +kernel
theorem dX9_recordNow_21 : decode cX9_recordNow 21 = .ok (.iconst 0, 1) := by decide +kernel
theorem dX9_recordNow_22 : decode cX9_recordNow 22 = .ok (.iadd, 1) := by decide +kernel
theorem dX9_recordNow_23 : decode cX9_recordNow 23 = .ok (.iload_n 2, 1) := by decide +kernel
theorem dX9_recordNow_24 : decode cX9_recordNow 24 = .ok (.iastore, 1) := by decide +kernel
theorem dX9_recordNow_25 : decode cX9_recordNow 25 = .ok (.aload_n 0, 1) := by decide +kernel
theorem dX9_recordNow_26 : decode cX9_recordNow 26 = .ok (.getfield 7, 3) := by decide +kernel
theorem dX9_recordNow_29 : decode cX9_recordNow 29 = .ok (.iload 8, 2) := by decide +kernel
theorem dX9_recordNow_31 : decode cX9_recordNow 31 = .ok (.iconst 1, 1) := by decide +kernel
theorem dX9_recordNow_32 : decode cX9_recordNow 32 = .ok (.iadd, 1) := by decide +kernel
theorem dX9_recordNow_33 : decode cX9_recordNow 33 = .ok (.iload_n 3, 1) := by decide +kernel
theorem dX9_recordNow_34 : decode cX9_recordNow 34 = .ok (.iastore, 1) := by decide +kernel
theorem dX9_recordNow_35 : decode cX9_recordNow 35 = .ok (.aload_n 0, 1) := by decide +kernel
theorem dX9_recordNow_36 : decode cX9_recordNow 36 = .ok (.getfield 7, 3) := by decide +kernel
theorem dX9_recordNow_39 : decode cX9_recordNow 39 = .ok (.iload 8, 2) := by decide +kernel
theorem dX9_recordNow_41 : decode cX9_recordNow 41 = .ok (.iconst 2, 1) := by decide +kernel
theorem dX9_recordNow_42 : decode cX9_recordNow 42 = .ok (.iadd, 1) := by decide +kernel
theorem dX9_recordNow_43 : decode cX9_recordNow 43 = .ok (.iload 4, 2) := by decide +kernel
theorem dX9_recordNow_45 : decode cX9_recordNow 45 = .ok (.iastore, 1) := by decide +kernel
theorem dX9_recordNow_46 : decode cX9_recordNow 46 = .ok (.aload_n 0, 1) := by decide +kernel
theorem dX9_recordNow_47 : decode cX9_recordNow 47 = .ok (.getfield 7, 3) := by decide +kernel
theorem dX9_recordNow_50 : decode cX9_recordNow 50 = .ok (.iload 8, 2) := by decide +kernel
theorem dX9_recordNow_52 : decode cX9_recordNow 52 = .ok (.iconst 3, 1) := by decide +kernel
theorem dX9_recordNow_53 : decode cX9_recordNow 53 = .ok (.iadd, 1) := by decide +kernel
theorem dX9_recordNow_54 : decode cX9_recordNow 54 = .ok (.iload 5, 2) := by decide +kernel
theorem dX9_recordNow_56 : decode cX9_recordNow 56 = .ok (.iastore, 1) := by decide +kernel
theorem dX9_recordNow_57 : decode cX9_recordNow 57 = .ok (.aload_n 0, 1) := by decide +kernel
theorem dX9_recordNow_58 : decode cX9_recordNow 58 = .ok (.getfield 7, 3) := by decide +kernel
theorem dX9_recordNow_61 : decode cX9_recordNow 61 = .ok (.iload 8, 2) := by decide +kernel
theorem dX9_recordNow_63 : decode cX9_recordNow 63 = .ok (.iconst 4, 1) := by decide +kernel
theorem dX9_recordNow_64 : decode cX9_recordNow 64 = .ok (.iadd, 1) := by decide +kernel
theorem dX9_recordNow_65 : decode cX9_recordNow 65 = .ok (.iload 6, 2) := by decide +kernel
theorem dX9_recordNow_67 : decode cX9_recordNow 67 = .ok (.ifCond .eq 7, 3) := by decide +kernel
theorem dX9_recordNow_70 : decode cX9_recordNow 70 = .ok (.iconst 0, 1) := by decide +kernel
theorem dX9_recordNow_71 : decode cX9_recordNow 71 = .ok (.goto 4, 3) := by decide +kernel
theorem dX9_recordNow_74 : decode cX9_recordNow 74 = .ok (.iconst 3, 1) := by decide +kernel
theorem dX9_recordNow_75 : decode cX9_recordNow 75 = .ok (.iastore, 1) := by decide +kernel
theorem dX9_recordNow_76 : decode cX9_recordNow 76 = .ok (.aload_n 0, 1) := by decide +kernel
theorem dX9_recordNow_77 : decode cX9_recordNow 77 = .ok (.getfield 7, 3) := by decide +kernel
theorem dX9_recordNow_80 : decode cX9_recordNow 80 = .ok (.iload 8, 2) := by decide +kernel
theorem dX9_recordNow_82 : decode cX9_recordNow 82 = .ok (.iconst 5, 1) := by decide +kernel
theorem dX9_recordNow_83 : decode cX9_recordNow 83 = .ok (.iadd, 1) := by decide +kernel
theorem dX9_recordNow_84 : decode cX9_recordNow 84 = .ok (.iconst 0, 1) := by decide +kernel
theorem dX9_recordNow_85 : decode cX9_recordNow 85 = .ok (.iastore, 1) := by decide +kernel
theorem dX9_recordNow_86 : decode cX9_recordNow 86 = .ok (.aload_n 0, 1) := by decide +kernel
theorem dX9_recordNow_87 : decode cX9_recordNow 87 = .ok (.getfield 7, 3) := by decide +kernel
theorem dX9_recordNow_90 : decode cX9_recordNow 90 = .ok (.iload 8, 2) := by decide +kernel
theorem dX9_recordNow_92 : decode cX9_recordNow 92 = .ok (.bipush 6, 2) := by decide +kernel
theorem dX9_recordNow_94 : decode cX9_recordNow 94 = .ok (.iadd, 1) := by decide +kernel
theorem dX9_recordNow_95 : decode cX9_recordNow 95 = .ok (.iload 6, 2) := by decide +kernel
theorem dX9_recordNow_97 : decode cX9_recordNow 97 = .ok (.ifCond .eq 7, 3) := by decide +kernel
theorem dX9_recordNow_100 : decode cX9_recordNow 100 = .ok (.iconst 1, 1) := by decide +kernel
theorem dX9_recordNow_101 : decode cX9_recordNow 101 = .ok (.goto 4, 3) := by decide +kernel
theorem dX9_recordNow_104 : decode cX9_recordNow 104 = .ok (.iconst 0, 1) := by decide +kernel
theorem dX9_recordNow_105 : decode cX9_recordNow 105 = .ok (.iastore, 1) := by decide +kernel
theorem dX9_recordNow_106 : decode cX9_recordNow 106 = .ok (.aload_n 0, 1) := by decide +kernel
theorem dX9_recordNow_107 : decode cX9_recordNow 107 = .ok (.getfield 7, 3) := by decide +kernel
theorem dX9_recordNow_110 : decode cX9_recordNow 110 = .ok (.bipush 10, 2) := by decide +kernel
theorem dX9_recordNow_112 : decode cX9_recordNow 112 = .ok (.iconst 4, 1) := by decide +kernel
theorem dX9_recordNow_113 : decode cX9_recordNow 113 = .ok (.iload_n 1, 1) := by decide +kernel
theorem dX9_recordNow_114 : decode cX9_recordNow 114 = .ok (.imul, 1) := by decide +kernel
theorem dX9_recordNow_115 : decode cX9_recordNow 115 = .ok (.iadd, 1) := by decide +kernel
theorem dX9_recordNow_116 : decode cX9_recordNow 116 = .ok (.iconst 2, 1) := by decide +kernel
theorem dX9_recordNow_117 : decode cX9_recordNow 117 = .ok (.iadd, 1) := by decide +kernel
theorem dX9_recordNow_118 : decode cX9_recordNow 118 = .ok (.dup2, 1) := by decide +kernel
theorem dX9_recordNow_119 : decode cX9_recordNow 119 = .ok (.iaload, 1) := by decide +kernel
theorem dX9_recordNow_120 : decode cX9_recordNow 120 = .ok (.iconst 1, 1) := by decide +kernel
theorem dX9_recordNow_121 : decode cX9_recordNow 121 = .ok (.iadd, 1) := by decide +kernel
theorem dX9_recordNow_122 : decode cX9_recordNow 122 = .ok (.iastore, 1) := by decide +kernel
theorem dX9_recordNow_123 : decode cX9_recordNow 123 = .ok (.iload 6, 2) := by decide +kernel
theorem dX9_recordNow_125 : decode cX9_recordNow 125 = .ok (.ifCond .ne 10, 3) := by decide +kernel
theorem dX9_recordNow_128 : decode cX9_recordNow 128 = .ok (.aload_n 0, 1) := by decide +kernel
theorem dX9_recordNow_129 : decode cX9_recordNow 129 = .ok (.iload_n 1, 1) := by decide +kernel
theorem dX9_recordNow_130 : decode cX9_recordNow 130 = .ok (.iload 8, 2) := by decide +kernel
theorem dX9_recordNow_132 : decode cX9_recordNow 132 = .ok (.invokevirtual 122, 3) := by decide +kernel
theorem dX9_recordNow_135 : decode cX9_recordNow 135 = .ok (.iload 7, 2) := by decide +kernel
theorem dX9_recordNow_137 : decode cX9_recordNow 137 = .ok (.ireturn, 1) := by decide +kernel
theorem dX9_claims_0 : decode cX9_claims 0 = .ok (.aload_n 0, 1) := by decide +kernel
theorem dX9_claims_1 : decode cX9_claims 1 = .ok (.iload_n 1, 1) := by decide +kernel
theorem dX9_claims_2 : decode cX9_claims 2 = .ok (.iload_n 2, 1) := by decide +kernel
theorem dX9_claims_3 : decode cX9_claims 3 = .ok (.iload_n 3, 1) := by decide +kernel
theorem dX9_claims_4 : decode cX9_claims 4 = .ok (.iload 4, 2) := by decide +kernel
theorem dX9_claims_6 : decode cX9_claims 6 = .ok (.iload 5, 2) := by decide +kernel
theorem dX9_claims_8 : decode cX9_claims 8 = .ok (.invokevirtual 125, 3) := by decide +kernel
theorem dX9_claims_11 : decode cX9_claims 11 = .ok (.istore 6, 2) := by decide +kernel
theorem dX9_claims_13 : decode cX9_claims 13 = .ok (.iload 6, 2) := by decide +kernel
theorem dX9_claims_15 : decode cX9_claims 15 = .ok (.ifCond .ge 10, 3) := by decide +kernel
theorem dX9_claims_18 : decode cX9_claims 18 = .ok (.aload_n 0, 1) := by decide +kernel
theorem dX9_claims_19 : decode cX9_claims 19 = .ok (.iload 6, 2) := by decide +kernel
theorem dX9_claims_21 : decode cX9_claims 21 = .ok (.invokevirtual 97, 3) := by decide +kernel
theorem dX9_claims_24 : decode cX9_claims 24 = .ok (.ireturn, 1) := by decide +kernel
theorem dX9_claims_25 : decode cX9_claims 25 = .ok (.aload_n 0, 1) := by decide +kernel
theorem dX9_claims_26 : decode cX9_claims 26 = .ok (.invokevirtual 100, 3) := by decide +kernel
theorem dX9_claims_29 : decode cX9_claims 29 = .ok (.aload_n 0, 1) := by decide +kernel
theorem dX9_claims_30 : decode cX9_claims 30 = .ok (.iload_n 1, 1) := by decide +kernel
theorem dX9_claims_31 : decode cX9_claims 31 = .ok (.iload_n 2, 1) := by decide +kernel
theorem dX9_claims_32 : decode cX9_claims 32 = .ok (.iload_n 3, 1) := by decide +kernel
theorem dX9_claims_33 : decode cX9_claims 33 = .ok (.iload 4, 2) := by decide +kernel
theorem dX9_claims_35 : decode cX9_claims 35 = .ok (.iload 5, 2) := by decide +kernel
theorem dX9_claims_37 : decode cX9_claims 37 = .ok (.iconst 1, 1) := by decide +kernel
theorem dX9_claims_38 : decode cX9_claims 38 = .ok (.invokevirtual 129, 3) := by decide +kernel
theorem dX9_claims_41 : decode cX9_claims 41 = .ok (.ireturn, 1) := by decide +kernel
theorem dX9_shares_0 : decode cX9_shares 0 = .ok (.aload_n 0, 1) := by decide +kernel
theorem dX9_shares_1 : decode cX9_shares 1 = .ok (.iload_n 1, 1) := by decide +kernel
theorem dX9_shares_2 : decode cX9_shares 2 = .ok (.iload_n 2, 1) := by decide +kernel
theorem dX9_shares_3 : decode cX9_shares 3 = .ok (.iload_n 3, 1) := by decide +kernel
theorem dX9_shares_4 : decode cX9_shares 4 = .ok (.iload 4, 2) := by decide +kernel
theorem dX9_shares_6 : decode cX9_shares 6 = .ok (.iload 5, 2) := by decide +kernel
theorem dX9_shares_8 : decode cX9_shares 8 = .ok (.invokevirtual 125, 3) := by decide +kernel
theorem dX9_shares_11 : decode cX9_shares 11 = .ok (.istore 6, 2) := by decide +kernel
theorem dX9_shares_13 : decode cX9_shares 13 = .ok (.iload 6, 2) := by decide +kernel
theorem dX9_shares_15 : decode cX9_shares 15 = .ok (.ifCond .ge 10, 3) := by decide +kernel
theorem dX9_shares_18 : decode cX9_shares 18 = .ok (.aload_n 0, 1) := by decide +kernel
theorem dX9_shares_19 : decode cX9_shares 19 = .ok (.iload 6, 2) := by decide +kernel
theorem dX9_shares_21 : decode cX9_shares 21 = .ok (.invokevirtual 97, 3) := by decide +kernel
theorem dX9_shares_24 : decode cX9_shares 24 = .ok (.ireturn, 1) := by decide +kernel
theorem dX9_shares_25 : decode cX9_shares 25 = .ok (.aload_n 0, 1) := by decide +kernel
theorem dX9_shares_26 : decode cX9_shares 26 = .ok (.invokevirtual 100, 3) := by decide +kernel
theorem dX9_shares_29 : decode cX9_shares 29 = .ok (.aload_n 0, 1) := by decide +kernel
theorem dX9_shares_30 : decode cX9_shares 30 = .ok (.iload_n 1, 1) := by decide +kernel
theorem dX9_shares_31 : decode cX9_shares 31 = .ok (.iload_n 2, 1) := by decide +kernel
theorem dX9_shares_32 : decode cX9_shares 32 = .ok (.iload_n 3, 1) := by decide +kernel
theorem dX9_shares_33 : decode cX9_shares 33 = .ok (.iload 4, 2) := by decide +kernel
theorem dX9_shares_35 : decode cX9_shares 35 = .ok (.iload 5, 2) := by decide +kernel
theorem dX9_shares_37 : decode cX9_shares 37 = .ok (.iconst 0, 1) := by decide +kernel
theorem dX9_shares_38 : decode cX9_shares 38 = .ok (.invokevirtual 129, 3) := by decide +kernel
theorem dX9_shares_41 : decode cX9_shares 41 = .ok (.ireturn, 1) := by decide +kernel
theorem dX9_isRecord_0 : decode cX9_isRecord 0 = .ok (.aload_n 0, 1) := by decide +kernel
theorem dX9_isRecord_1 : decode cX9_isRecord 1 = .ok (.iload_n 1, 1) := by decide +kernel
theorem dX9_isRecord_2 : decode cX9_isRecord 2 = .ok (.invokevirtual 110, 3) := by decide +kernel
theorem dX9_isRecord_5 : decode cX9_isRecord 5 = .ok (.ifCond .eq 24, 3) := by decide +kernel
theorem dX9_isRecord_8 : decode cX9_isRecord 8 = .ok (.iload_n 2, 1) := by decide +kernel
theorem dX9_isRecord_9 : decode cX9_isRecord 9 = .ok (.i2l, 1) := by decide +kernel
theorem dX9_isRecord_10 : decode cX9_isRecord 10 = .ok (.lconst 0, 1) := by decide +kernel
theorem dX9_isRecord_11 : decode cX9_isRecord 11 = .ok (.aload_n 0, 1) := by decide +kernel
theorem dX9_isRecord_12 : decode cX9_isRecord 12 = .ok (.iload_n 1, 1) := by decide +kernel
theorem dX9_isRecord_13 : decode cX9_isRecord 13 = .ok (.invokevirtual 73, 3) := by decide +kernel
theorem dX9_isRecord_16 : decode cX9_isRecord 16 = .ok (.iconst 1, 1) := by decide +kernel
theorem dX9_isRecord_17 : decode cX9_isRecord 17 = .ok (.isub, 1) := by decide +kernel
theorem dX9_isRecord_18 : decode cX9_isRecord 18 = .ok (.i2l, 1) := by decide +kernel
theorem dX9_isRecord_19 : decode cX9_isRecord 19 = .ok (.invokestatic 47, 3) := by decide +kernel
theorem dX9_isRecord_22 : decode cX9_isRecord 22 = .ok (.ifCond .eq 7, 3) := by decide +kernel
theorem dX9_isRecord_25 : decode cX9_isRecord 25 = .ok (.iconst 1, 1) := by decide +kernel
theorem dX9_isRecord_26 : decode cX9_isRecord 26 = .ok (.goto 4, 3) := by decide +kernel
theorem dX9_isRecord_29 : decode cX9_isRecord 29 = .ok (.iconst 0, 1) := by decide +kernel
theorem dX9_isRecord_30 : decode cX9_isRecord 30 = .ok (.ireturn, 1) := by decide +kernel
theorem dX9_canLeave_0 : decode cX9_canLeave 0 = .ok (.aload_n 0, 1) := by decide +kernel
theorem dX9_canLeave_1 : decode cX9_canLeave 1 = .ok (.iload_n 1, 1) := by decide +kernel
theorem dX9_canLeave_2 : decode cX9_canLeave 2 = .ok (.iload_n 2, 1) := by decide +kernel
theorem dX9_canLeave_3 : decode cX9_canLeave 3 = .ok (.invokevirtual 133, 3) := by decide +kernel
theorem dX9_canLeave_6 : decode cX9_canLeave 6 = .ok (.ifCond .ne 8, 3) := by decide +kernel
theorem dX9_canLeave_9 : decode cX9_canLeave 9 = .ok (.bipush (-2), 2) := by decide +kernel
theorem dX9_canLeave_11 : decode cX9_canLeave 11 = .ok (.goto 17, 3) := by decide +kernel
theorem dX9_canLeave_14 : decode cX9_canLeave 14 = .ok (.aload_n 0, 1) := by decide +kernel
theorem dX9_canLeave_15 : decode cX9_canLeave 15 = .ok (.iload_n 1, 1) := by decide +kernel
theorem dX9_canLeave_16 : decode cX9_canLeave 16 = .ok (.invokevirtual 59, 3) := by decide +kernel
theorem dX9_canLeave_19 : decode cX9_canLeave 19 = .ok (.ifCond .eq 7, 3) := by decide +kernel
theorem dX9_canLeave_22 : decode cX9_canLeave 22 = .ok (.iconst 0, 1) := by decide +kernel
theorem dX9_canLeave_23 : decode cX9_canLeave 23 = .ok (.goto 5, 3) := by decide +kernel
theorem dX9_canLeave_26 : decode cX9_canLeave 26 = .ok (.bipush (-3), 2) := by decide +kernel
theorem dX9_canLeave_28 : decode cX9_canLeave 28 = .ok (.ireturn, 1) := by decide +kernel
theorem dX9_leaveNow_0 : decode cX9_leaveNow 0 = .ok (.iload_n 1, 1) := by decide +kernel
theorem dX9_leaveNow_1 : decode cX9_leaveNow 1 = .ok (.iload_n 2, 1) := by decide +kernel
theorem dX9_leaveNow_2 : decode cX9_leaveNow 2 = .ok (.invokestatic 55, 3) := by decide +kernel
theorem dX9_leaveNow_5 : decode cX9_leaveNow 5 = .ok (.istore_n 3, 1) := by decide +kernel
theorem dX9_leaveNow_6 : decode cX9_leaveNow 6 = .ok (.aload_n 0, 1) := by decide +kernel
theorem dX9_leaveNow_7 : decode cX9_leaveNow 7 = .ok (.getfield 7, 3) := by decide +kernel
theorem dX9_leaveNow_10 : decode cX9_leaveNow 10 = .ok (.iload_n 3, 1) := by decide +kernel
theorem dX9_leaveNow_11 : decode cX9_leaveNow 11 = .ok (.iconst 4, 1) := by decide +kernel
theorem dX9_leaveNow_12 : decode cX9_leaveNow 12 = .ok (.iadd, 1) := by decide +kernel
theorem dX9_leaveNow_13 : decode cX9_leaveNow 13 = .ok (.iaload, 1) := by decide +kernel
theorem dX9_leaveNow_14 : decode cX9_leaveNow 14 = .ok (.iconst 3, 1) := by decide +kernel
theorem dX9_leaveNow_15 : decode cX9_leaveNow 15 = .ok (.if_icmp .ne 88, 3) := by decide +kernel
theorem dX9_leaveNow_18 : decode cX9_leaveNow 18 = .ok (.aload_n 0, 1) := by decide +kernel
theorem dX9_leaveNow_19 : decode cX9_leaveNow 19 = .ok (.getfield 7, 3) := by decide +kernel
theorem dX9_leaveNow_22 : decode cX9_leaveNow 22 = .ok (.iconst 2, 1) := by decide +kernel
theorem dX9_leaveNow_23 : decode cX9_leaveNow 23 = .ok (.dup2, 1) := by decide +kernel
theorem dX9_leaveNow_24 : decode cX9_leaveNow 24 = .ok (.iaload, 1) := by decide +kernel
theorem dX9_leaveNow_25 : decode cX9_leaveNow 25 = .ok (.iconst 1, 1) := by decide +kernel
theorem dX9_leaveNow_26 : decode cX9_leaveNow 26 = .ok (.iadd, 1) := by decide +kernel
theorem dX9_leaveNow_27 : decode cX9_leaveNow 27 = .ok (.iastore, 1) := by decide +kernel
theorem dX9_leaveNow_28 : decode cX9_leaveNow 28 = .ok (.iconst 0, 1) := by decide +kernel
theorem dX9_leaveNow_29 : decode cX9_leaveNow 29 = .ok (.istore 4, 2) := by decide +kernel
theorem dX9_leaveNow_31 : decode cX9_leaveNow 31 = .ok (.iload 4, 2) := by decide +kernel
theorem dX9_leaveNow_33 : decode cX9_leaveNow 33 = .ok (.aload_n 0, 1) := by decide +kernel
theorem dX9_leaveNow_34 : decode cX9_leaveNow 34 = .ok (.getfield 7, 3) := by decide +kernel
theorem dX9_leaveNow_37 : decode cX9_leaveNow 37 = .ok (.iconst 0, 1) := by decide +kernel
theorem dX9_leaveNow_38 : decode cX9_leaveNow 38 = .ok (.iaload, 1) := by decide +kernel
theorem dX9_leaveNow_39 : decode cX9_leaveNow 39 = .ok (.if_icmp .ge 64, 3) := by decide +kernel
theorem dX9_leaveNow_42 : decode cX9_leaveNow 42 = .ok (.iconst 0, 1) := by decide +kernel
theorem dX9_leaveNow_43 : decode cX9_leaveNow 43 = .ok (.istore 5, 2) := by decide +kernel
theorem dX9_leaveNow_45 : decode cX9_leaveNow 45 = .ok (.iload 5, 2) := by decide +kernel
theorem dX9_leaveNow_47 : decode cX9_leaveNow 47 = .ok (.aload_n 0, 1) := by decide +kernel
theorem dX9_leaveNow_48 : decode cX9_leaveNow 48 = .ok (.iload 4, 2) := by decide +kernel
theorem dX9_leaveNow_50 : decode cX9_leaveNow 50 = .ok (.invokevirtual 70, 3) := by decide +kernel
theorem dX9_leaveNow_53 : decode cX9_leaveNow 53 = .ok (.if_icmp .ge 44, 3) := by decide +kernel
theorem dX9_leaveNow_56 : decode cX9_leaveNow 56 = .ok (.aload_n 0, 1) := by decide +kernel
theorem dX9_leaveNow_57 : decode cX9_leaveNow 57 = .ok (.iload 4, 2) := by decide +kernel
theorem dX9_leaveNow_59 : decode cX9_leaveNow 59 = .ok (.invokevirtual 59, 3) := by decide +kernel
theorem dX9_leaveNow_62 : decode cX9_leaveNow 62 = .ok (.ifCond .eq 35, 3) := by decide +kernel
theorem dX9_leaveNow_65 : decode cX9_leaveNow 65 = .ok (.aload_n 0, 1) := by decide +kernel
theorem dX9_leaveNow_66 : decode cX9_leaveNow 66 = .ok (.iload 4, 2) := by decide +kernel
theorem dX9_leaveNow_68 : decode cX9_leaveNow 68 = .ok (.iload 5, 2) := by decide +kernel
theorem dX9_leaveNow_70 : decode cX9_leaveNow 70 = .ok (.invokestatic 67, 3) := by decide +kernel
theorem dX9_leaveNow_73 : decode cX9_leaveNow 73 = .ok (.iload_n 3, 1) := by decide +kernel
theorem dX9_leaveNow_74 : decode cX9_leaveNow 74 = .ok (.invokevirtual 76, 3) := by decide +kernel
theorem dX9_leaveNow_77 : decode cX9_leaveNow 77 = .ok (.ifCond .eq 14, 3) := by decide +kernel
theorem dX9_leaveNow_80 : decode cX9_leaveNow 80 = .ok (.aload_n 0, 1) := by decide +kernel
theorem dX9_leaveNow_81 : decode cX9_leaveNow 81 = .ok (.iload 4, 2) := by decide +kernel
theorem dX9_leaveNow_83 : decode cX9_leaveNow 83 = .ok (.iload 5, 2) := by decide +kernel
theorem dX9_leaveNow_85 : decode cX9_leaveNow 85 = .ok (.invokestatic 67, 3) := by decide +kernel
theorem dX9_leaveNow_88 : decode cX9_leaveNow 88 = .ok (.invokevirtual 86, 3) := by decide +kernel
theorem dX9_leaveNow_91 : decode cX9_leaveNow 91 = .ok (.iinc 5 1, 3) := by decide +kernel
theorem dX9_leaveNow_94 : decode cX9_leaveNow 94 = .ok (.goto (-49), 3) := by decide +kernel
theorem dX9_leaveNow_97 : decode cX9_leaveNow 97 = .ok (.iinc 4 1, 3) := by decide +kernel
theorem dX9_leaveNow_100 : decode cX9_leaveNow 100 = .ok (.goto (-69), 3) := by decide +kernel
theorem dX9_leaveNow_103 : decode cX9_leaveNow 103 = .ok (.aload_n 0, 1) := by decide +kernel
theorem dX9_leaveNow_104 : decode cX9_leaveNow 104 = .ok (.getfield 7, 3) := by decide +kernel
theorem dX9_leaveNow_107 : decode cX9_leaveNow 107 = .ok (.bipush 10, 2) := by decide +kernel
theorem dX9_leaveNow_109 : decode cX9_leaveNow 109 = .ok (.iconst 4, 1) := by decide +kernel
theorem dX9_leaveNow_110 : decode cX9_leaveNow 110 = .ok (.iload_n 1, 1) := by decide +kernel
theorem dX9_leaveNow_111 : decode cX9_leaveNow 111 = .ok (.imul, 1) := by decide +kernel
theorem dX9_leaveNow_112 : decode cX9_leaveNow 112 = .ok (.iadd, 1) := by decide +kernel
theorem dX9_leaveNow_113 : decode cX9_leaveNow 113 = .ok (.iconst 2, 1) := by decide +kernel
theorem dX9_leaveNow_114 : decode cX9_leaveNow 114 = .ok (.iadd, 1) := by decide +kernel
theorem dX9_leaveNow_115 : decode cX9_leaveNow 115 = .ok (.dup2, 1) := by decide +kernel
theorem dX9_leaveNow_116 : decode cX9_leaveNow 116 = .ok (.iaload, 1) := by decide +kernel
theorem dX9_leaveNow_117 : decode cX9_leaveNow 117 = .ok (.iconst 1, 1) := by decide +kernel
theorem dX9_leaveNow_118 : decode cX9_leaveNow 118 = .ok (.isub, 1) := by decide +kernel
theorem dX9_leaveNow_119 : decode cX9_leaveNow 119 = .ok (.iastore, 1) := by decide +kernel
theorem dX9_leaveNow_120 : decode cX9_leaveNow 120 = .ok (.iload_n 3, 1) := by decide +kernel
theorem dX9_leaveNow_121 : decode cX9_leaveNow 121 = .ok (.istore 4, 2) := by decide +kernel
theorem dX9_leaveNow_123 : decode cX9_leaveNow 123 = .ok (.iload 4, 2) := by decide +kernel
theorem dX9_leaveNow_125 : decode cX9_leaveNow 125 = .ok (.iload_n 1, 1) := by decide +kernel
theorem dX9_leaveNow_126 : decode cX9_leaveNow 126 = .ok (.aload_n 0, 1) := by decide +kernel
theorem dX9_leaveNow_127 : decode cX9_leaveNow 127 = .ok (.iload_n 1, 1) := by decide +kernel
theorem dX9_leaveNow_128 : decode cX9_leaveNow 128 = .ok (.invokevirtual 73, 3) := by decide +kernel
theorem dX9_leaveNow_131 : decode cX9_leaveNow 131 = .ok (.invokestatic 55, 3) := by decide +kernel
theorem dX9_leaveNow_134 : decode cX9_leaveNow 134 = .ok (.if_icmp .ge 26, 3) := by decide +kernel
theorem dX9_leaveNow_137 : decode cX9_leaveNow 137 = .ok (.aload_n 0, 1) := by decide +kernel
theorem dX9_leaveNow_138 : decode cX9_leaveNow 138 = .ok (.getfield 7, 3) := by decide +kernel
theorem dX9_leaveNow_141 : decode cX9_leaveNow 141 = .ok (.iload 4, 2) := by decide +kernel
theorem dX9_leaveNow_143 : decode cX9_leaveNow 143 = .ok (.aload_n 0, 1) := by decide +kernel
theorem dX9_leaveNow_144 : decode cX9_leaveNow 144 = .ok (.getfield 7, 3) := by decide +kernel
theorem dX9_leaveNow_147 : decode cX9_leaveNow 147 = .ok (.iload 4, 2) := by decide +kernel
theorem dX9_leaveNow_149 : decode cX9_leaveNow 149 = .ok (.bipush 7, 2) := by decide +kernel
theorem dX9_leaveNow_151 : decode cX9_leaveNow 151 = .ok (.iadd, 1) := by decide +kernel
theorem dX9_leaveNow_152 : decode cX9_leaveNow 152 = .ok (.iaload, 1) := by decide +kernel
theorem dX9_leaveNow_153 : decode cX9_leaveNow 153 = .ok (.iastore, 1) := by decide +kernel
theorem dX9_leaveNow_154 : decode cX9_leaveNow 154 = .ok (.iinc 4 1, 3) := by decide +kernel
theorem dX9_leaveNow_157 : decode cX9_leaveNow 157 = .ok (.goto (-34), 3) := by decide +kernel
theorem dX9_leaveNow_160 : decode cX9_leaveNow 160 = .ok (.aload_n 0, 1) := by decide +kernel
theorem dX9_leaveNow_161 : decode cX9_leaveNow 161 = .ok (.iload_n 1, 1) := by decide +kernel
theorem dX9_leaveNow_162 : decode cX9_leaveNow 162 = .ok (.invokevirtual 73, 3) := by decide +kernel
theorem dX9_leaveNow_165 : decode cX9_leaveNow 165 = .ok (.ireturn, 1) := by decide +kernel
theorem dX9_leaves_0 : decode cX9_leaves 0 = .ok (.aload_n 0, 1) := by decide +kernel
theorem dX9_leaves_1 : decode cX9_leaves 1 = .ok (.iload_n 1, 1) := by decide +kernel
theorem dX9_leaves_2 : decode cX9_leaves 2 = .ok (.iload_n 2, 1) := by decide +kernel
theorem dX9_leaves_3 : decode cX9_leaves 3 = .ok (.invokevirtual 136, 3) := by decide +kernel
theorem dX9_leaves_6 : decode cX9_leaves 6 = .ok (.istore_n 3, 1) := by decide +kernel
theorem dX9_leaves_7 : decode cX9_leaves 7 = .ok (.iload_n 3, 1) := by decide +kernel
theorem dX9_leaves_8 : decode cX9_leaves 8 = .ok (.ifCond .ge 9, 3) := by decide +kernel
theorem dX9_leaves_11 : decode cX9_leaves 11 = .ok (.aload_n 0, 1) := by decide +kernel
theorem dX9_leaves_12 : decode cX9_leaves 12 = .ok (.iload_n 3, 1) := by decide +kernel
theorem dX9_leaves_13 : decode cX9_leaves 13 = .ok (.invokevirtual 97, 3) := by decide +kernel
theorem dX9_leaves_16 : decode cX9_leaves 16 = .ok (.ireturn, 1) := by decide +kernel
theorem dX9_leaves_17 : decode cX9_leaves 17 = .ok (.aload_n 0, 1) := by decide +kernel
theorem dX9_leaves_18 : decode cX9_leaves 18 = .ok (.invokevirtual 100, 3) := by decide +kernel
theorem dX9_leaves_21 : decode cX9_leaves 21 = .ok (.aload_n 0, 1) := by decide +kernel
theorem dX9_leaves_22 : decode cX9_leaves 22 = .ok (.iload_n 1, 1) := by decide +kernel
theorem dX9_leaves_23 : decode cX9_leaves 23 = .ok (.iload_n 2, 1) := by decide +kernel
theorem dX9_leaves_24 : decode cX9_leaves 24 = .ok (.invokevirtual 139, 3) := by decide +kernel
theorem dX9_leaves_27 : decode cX9_leaves 27 = .ok (.ireturn, 1) := by decide +kernel
theorem dX9_recordThen_0 : decode cX9_recordThen 0 = .ok (.iload_n 3, 1) := by decide +kernel
theorem dX9_recordThen_1 : decode cX9_recordThen 1 = .ok (.bipush 7, 2) := by decide +kernel
theorem dX9_recordThen_3 : decode cX9_recordThen 3 = .ok (.if_icmp .ne 20, 3) := by decide +kernel
theorem dX9_recordThen_6 : decode cX9_recordThen 6 = .ok (.aload_n 0, 1) := by decide +kernel
theorem dX9_recordThen_7 : decode cX9_recordThen 7 = .ok (.iload_n 1, 1) := by decide +kernel
theorem dX9_recordThen_8 : decode cX9_recordThen 8 = .ok (.iload_n 2, 1) := by decide +kernel
theorem dX9_recordThen_9 : decode cX9_recordThen 9 = .ok (.invokevirtual 142, 3) := by decide +kernel
theorem dX9_recordThen_12 : decode cX9_recordThen 12 = .ok (.ifCond .eq 7, 3) := by decide +kernel
theorem dX9_recordThen_15 : decode cX9_recordThen 15 = .ok (.iconst 1, 1) := by decide +kernel
theorem dX9_recordThen_16 : decode cX9_recordThen 16 = .ok (.goto 19, 3) := by decide +kernel
theorem dX9_recordThen_19 : decode cX9_recordThen 19 = .ok (.iconst 0, 1) := by decide +kernel
theorem dX9_recordThen_20 : decode cX9_recordThen 20 = .ok (.goto 15, 3) := by decide +kernel
theorem dX9_recordThen_23 : decode cX9_recordThen 23 = .ok (.aload_n 0, 1) := by decide +kernel
theorem dX9_recordThen_24 : decode cX9_recordThen 24 = .ok (.getfield 7, 3) := by decide +kernel
theorem dX9_recordThen_27 : decode cX9_recordThen 27 = .ok (.iload_n 1, 1) := by decide +kernel
theorem dX9_recordThen_28 : decode cX9_recordThen 28 = .ok (.iload_n 2, 1) := by decide +kernel
theorem dX9_recordThen_29 : decode cX9_recordThen 29 = .ok (.invokestatic 55, 3) := by decide +kernel
theorem dX9_recordThen_32 : decode cX9_recordThen 32 = .ok (.iload_n 3, 1) := by decide +kernel
theorem dX9_recordThen_33 : decode cX9_recordThen 33 = .ok (.iadd, 1) := by decide +kernel
theorem dX9_recordThen_34 : decode cX9_recordThen 34 = .ok (.iaload, 1) := by decide +kernel
theorem dX9_recordThen_35 : decode cX9_recordThen 35 = .ok (.ireturn, 1) := by decide +kernel
theorem dX9_record_0 : decode cX9_record 0 = .ok (.aload_n 0, 1) := by decide +kernel
theorem dX9_record_1 : decode cX9_record 1 = .ok (.iload_n 1, 1) := by decide +kernel
theorem dX9_record_2 : decode cX9_record 2 = .ok (.iload_n 2, 1) := by decide +kernel
theorem dX9_record_3 : decode cX9_record 3 = .ok (.invokevirtual 133, 3) := by decide +kernel
theorem dX9_record_6 : decode cX9_record 6 = .ok (.ifCond .eq 25, 3) := by decide +kernel
theorem dX9_record_9 : decode cX9_record 9 = .ok (.iload_n 3, 1) := by decide +kernel
theorem dX9_record_10 : decode cX9_record 10 = .ok (.i2l, 1) := by decide +kernel
theorem dX9_record_11 : decode cX9_record 11 = .ok (.lconst 0, 1) := by decide +kernel
theorem dX9_record_12 : decode cX9_record 12 = .ok (.ldc2_w 145, 3) := by decide +kernel
theorem dX9_record_15 : decode cX9_record 15 = .ok (.invokestatic 47, 3) := by decide +kernel
theorem dX9_record_18 : decode cX9_record 18 = .ok (.ifCond .eq 13, 3) := by decide +kernel
theorem dX9_record_21 : decode cX9_record 21 = .ok (.aload_n 0, 1) := by decide +kernel
theorem dX9_record_22 : decode cX9_record 22 = .ok (.iload_n 1, 1) := by decide +kernel
theorem dX9_record_23 : decode cX9_record 23 = .ok (.iload_n 2, 1) := by decide +kernel
theorem dX9_record_24 : decode cX9_record 24 = .ok (.iload_n 3, 1) := by decide +kernel
theorem dX9_record_25 : decode cX9_record 25 = .ok (.invokevirtual 147, 3) := by decide +kernel
theorem dX9_record_28 : decode cX9_record 28 = .ok (.goto 9, 3) := by decide +kernel
theorem dX9_record_31 : decode cX9_record 31 = .ok (.aload_n 0, 1) := by decide +kernel
theorem dX9_record_32 : decode cX9_record 32 = .ok (.bipush (-2), 2) := by decide +kernel
theorem dX9_record_34 : decode cX9_record 34 = .ok (.invokevirtual 97, 3) := by decide +kernel
theorem dX9_record_37 : decode cX9_record 37 = .ok (.ireturn, 1) := by decide +kernel
theorem dX9_owned_0 : decode cX9_owned 0 = .ok (.iconst 0, 1) := by decide +kernel
theorem dX9_owned_1 : decode cX9_owned 1 = .ok (.istore_n 2, 1) := by decide +kernel
theorem dX9_owned_2 : decode cX9_owned 2 = .ok (.iconst 0, 1) := by decide +kernel
theorem dX9_owned_3 : decode cX9_owned 3 = .ok (.istore_n 3, 1) := by decide +kernel
theorem dX9_owned_4 : decode cX9_owned 4 = .ok (.iload_n 3, 1) := by decide +kernel
theorem dX9_owned_5 : decode cX9_owned 5 = .ok (.aload_n 0, 1) := by decide +kernel
theorem dX9_owned_6 : decode cX9_owned 6 = .ok (.iload_n 1, 1) := by decide +kernel
theorem dX9_owned_7 : decode cX9_owned 7 = .ok (.invokevirtual 73, 3) := by decide +kernel
theorem dX9_owned_10 : decode cX9_owned 10 = .ok (.if_icmp .ge 33, 3) := by decide +kernel
theorem dX9_owned_13 : decode cX9_owned 13 = .ok (.iload_n 2, 1) := by decide +kernel
theorem dX9_owned_14 : decode cX9_owned 14 = .ok (.aload_n 0, 1) := by decide +kernel
theorem dX9_owned_15 : decode cX9_owned 15 = .ok (.getfield 7, 3) := by decide +kernel
theorem dX9_owned_18 : decode cX9_owned 18 = .ok (.iload_n 1, 1) := by decide +kernel
theorem dX9_owned_19 : decode cX9_owned 19 = .ok (.iload_n 3, 1) := by decide +kernel
theorem dX9_owned_20 : decode cX9_owned 20 = .ok (.invokestatic 55, 3) := by decide +kernel
theorem dX9_owned_23 : decode cX9_owned 23 = .ok (.iconst 4, 1) := by decide +kernel
theorem dX9_owned_24 : decode cX9_owned 24 = .ok (.iadd, 1) := by decide +kernel
theorem dX9_owned_25 : decode cX9_owned 25 = .ok (.iaload, 1) := by decide +kernel
theorem dX9_owned_26 : decode cX9_owned 26 = .ok (.iconst 3, 1) := by decide +kernel
theorem dX9_owned_27 : decode cX9_owned 27 = .ok (.if_icmp .ne 7, 3) := by decide +kernel
theorem dX9_owned_30 : decode cX9_owned 30 = .ok (.iconst 1, 1) := by decide +kernel
theorem dX9_owned_31 : decode cX9_owned 31 = .ok (.goto 4, 3) := by decide +kernel
theorem dX9_owned_34 : decode cX9_owned 34 = .ok (.iconst 0, 1) := by decide +kernel
theorem dX9_owned_35 : decode cX9_owned 35 = .ok (.iadd, 1) := by decide +kernel
theorem dX9_owned_36 : decode cX9_owned 36 = .ok (.istore_n 2, 1) := by decide +kernel
theorem dX9_owned_37 : decode cX9_owned 37 = .ok (.iinc 3 1, 3) := by decide +kernel
theorem dX9_owned_40 : decode cX9_owned 40 = .ok (.goto (-36), 3) := by decide +kernel
theorem dX9_owned_43 : decode cX9_owned 43 = .ok (.iload_n 2, 1) := by decide +kernel
theorem dX9_owned_44 : decode cX9_owned 44 = .ok (.ireturn, 1) := by decide +kernel
theorem dX9_stoodFor_0 : decode cX9_stoodFor 0 = .ok (.iconst 0, 1) := by decide +kernel
theorem dX9_stoodFor_1 : decode cX9_stoodFor 1 = .ok (.istore_n 2, 1) := by decide +kernel
theorem dX9_stoodFor_2 : decode cX9_stoodFor 2 = .ok (.iconst 0, 1) := by decide +kernel
theorem dX9_stoodFor_3 : decode cX9_stoodFor 3 = .ok (.istore_n 3, 1) := by decide +kernel
theorem dX9_stoodFor_4 : decode cX9_stoodFor 4 = .ok (.iload_n 3, 1) := by decide +kernel
theorem dX9_stoodFor_5 : decode cX9_stoodFor 5 = .ok (.aload_n 0, 1) := by decide +kernel
theorem dX9_stoodFor_6 : decode cX9_stoodFor 6 = .ok (.getfield 7, 3) := by decide +kernel
theorem dX9_stoodFor_9 : decode cX9_stoodFor 9 = .ok (.iconst 0, 1) := by decide +kernel
theorem dX9_stoodFor_10 : decode cX9_stoodFor 10 = .ok (.iaload, 1) := by decide +kernel
theorem dX9_stoodFor_11 : decode cX9_stoodFor 11 = .ok (.if_icmp .ge 28, 3) := by decide +kernel
theorem dX9_stoodFor_14 : decode cX9_stoodFor 14 = .ok (.iload_n 2, 1) := by decide +kernel
theorem dX9_stoodFor_15 : decode cX9_stoodFor 15 = .ok (.aload_n 0, 1) := by decide +kernel
theorem dX9_stoodFor_16 : decode cX9_stoodFor 16 = .ok (.iload_n 3, 1) := by decide +kernel
theorem dX9_stoodFor_17 : decode cX9_stoodFor 17 = .ok (.invokevirtual 63, 3) := by decide +kernel
theorem dX9_stoodFor_20 : decode cX9_stoodFor 20 = .ok (.iload_n 1, 1) := by decide +kernel
theorem dX9_stoodFor_21 : decode cX9_stoodFor 21 = .ok (.if_icmp .ne 9, 3) := by decide +kernel
theorem dX9_stoodFor_24 : decode cX9_stoodFor 24 = .ok (.iconst 1, 1) := by decide +kernel
theorem dX9_stoodFor_25 : decode cX9_stoodFor 25 = .ok (.iload_n 3, 1) := by decide +kernel
theorem dX9_stoodFor_26 : decode cX9_stoodFor 26 = .ok (.ishl, 1) := by decide +kernel
theorem dX9_stoodFor_27 : decode cX9_stoodFor 27 = .ok (.goto 4, 3) := by decide +kernel
theorem dX9_stoodFor_30 : decode cX9_stoodFor 30 = .ok (.iconst 0, 1) := by decide +kernel
theorem dX9_stoodFor_31 : decode cX9_stoodFor 31 = .ok (.ior, 1) := by decide +kernel
theorem dX9_stoodFor_32 : decode cX9_stoodFor 32 = .ok (.istore_n 2, 1) := by decide +kernel
theorem dX9_stoodFor_33 : decode cX9_stoodFor 33 = .ok (.iinc 3 1, 3) := by decide +kernel
theorem dX9_stoodFor_36 : decode cX9_stoodFor 36 = .ok (.goto (-32), 3) := by decide +kernel
theorem dX9_stoodFor_39 : decode cX9_stoodFor 39 = .ok (.iload_n 2, 1) := by decide +kernel
theorem dX9_stoodFor_40 : decode cX9_stoodFor 40 = .ok (.ireturn, 1) := by decide +kernel
theorem dX9_ofNow_0 : decode cX9_ofNow 0 = .ok (.iload_n 2, 1) := by decide +kernel
theorem dX9_ofNow_1 : decode cX9_ofNow 1 = .ok (.tableswitch 71 0 4 #[35, 41, 53, 59, 65], 35) := by decide +kernel
theorem dX9_ofNow_36 : decode cX9_ofNow 36 = .ok (.aload_n 0, 1) := by decide +kernel
theorem dX9_ofNow_37 : decode cX9_ofNow 37 = .ok (.iload_n 1, 1) := by decide +kernel
theorem dX9_ofNow_38 : decode cX9_ofNow 38 = .ok (.invokevirtual 73, 3) := by decide +kernel
theorem dX9_ofNow_41 : decode cX9_ofNow 41 = .ok (.ireturn, 1) := by decide +kernel
theorem dX9_ofNow_42 : decode cX9_ofNow 42 = .ok (.aload_n 0, 1) := by decide +kernel
theorem dX9_ofNow_43 : decode cX9_ofNow 43 = .ok (.getfield 7, 3) := by decide +kernel
theorem dX9_ofNow_46 : decode cX9_ofNow 46 = .ok (.bipush 10, 2) := by decide +kernel
theorem dX9_ofNow_48 : decode cX9_ofNow 48 = .ok (.iconst 4, 1) := by decide +kernel
theorem dX9_ofNow_49 : decode cX9_ofNow 49 = .ok (.iload_n 1, 1) := by decide +kernel
theorem dX9_ofNow_50 : decode cX9_ofNow 50 = .ok (.imul, 1) := by decide +kernel
theorem dX9_ofNow_51 : decode cX9_ofNow 51 = .ok (.iadd, 1) := by decide +kernel
theorem dX9_ofNow_52 : decode cX9_ofNow 52 = .ok (.iaload, 1) := by decide +kernel
theorem dX9_ofNow_53 : decode cX9_ofNow 53 = .ok (.ireturn, 1) := by decide +kernel
theorem dX9_ofNow_54 : decode cX9_ofNow 54 = .ok (.aload_n 0, 1) := by decide +kernel
theorem dX9_ofNow_55 : decode cX9_ofNow 55 = .ok (.iload_n 1, 1) := by decide +kernel
theorem dX9_ofNow_56 : decode cX9_ofNow 56 = .ok (.invokevirtual 63, 3) := by decide +kernel
theorem dX9_ofNow_59 : decode cX9_ofNow 59 = .ok (.ireturn, 1) := by decide +kernel
theorem dX9_ofNow_60 : decode cX9_ofNow 60 = .ok (.aload_n 0, 1) := by decide +kernel
theorem dX9_ofNow_61 : decode cX9_ofNow 61 = .ok (.iload_n 1, 1) := by decide +kernel
theorem dX9_ofNow_62 : decode cX9_ofNow 62 = .ok (.invokevirtual 70, 3) := by decide +kernel
theorem dX9_ofNow_65 : decode cX9_ofNow 65 = .ok (.ireturn, 1) := by decide +kernel
theorem dX9_ofNow_66 : decode cX9_ofNow 66 = .ok (.aload_n 0, 1) := by decide +kernel
theorem dX9_ofNow_67 : decode cX9_ofNow 67 = .ok (.iload_n 1, 1) := by decide +kernel
theorem dX9_ofNow_68 : decode cX9_ofNow 68 = .ok (.invokevirtual 151, 3) := by decide +kernel
theorem dX9_ofNow_71 : decode cX9_ofNow 71 = .ok (.ireturn, 1) := by decide +kernel
theorem dX9_ofNow_72 : decode cX9_ofNow 72 = .ok (.aload_n 0, 1) := by decide +kernel
theorem dX9_ofNow_73 : decode cX9_ofNow 73 = .ok (.iload_n 1, 1) := by decide +kernel
theorem dX9_ofNow_74 : decode cX9_ofNow 74 = .ok (.invokevirtual 154, 3) := by decide +kernel
theorem dX9_ofNow_77 : decode cX9_ofNow 77 = .ok (.ireturn, 1) := by decide +kernel
theorem dX9_of_0 : decode cX9_of 0 = .ok (.aload_n 0, 1) := by decide +kernel
theorem dX9_of_1 : decode cX9_of 1 = .ok (.iload_n 1, 1) := by decide +kernel
theorem dX9_of_2 : decode cX9_of 2 = .ok (.invokevirtual 110, 3) := by decide +kernel
theorem dX9_of_5 : decode cX9_of 5 = .ok (.ifCond .eq 24, 3) := by decide +kernel
theorem dX9_of_8 : decode cX9_of 8 = .ok (.iload_n 2, 1) := by decide +kernel
theorem dX9_of_9 : decode cX9_of 9 = .ok (.i2l, 1) := by decide +kernel
theorem dX9_of_10 : decode cX9_of 10 = .ok (.lconst 0, 1) := by decide +kernel
theorem dX9_of_11 : decode cX9_of 11 = .ok (.ldc2_w 157, 3) := by decide +kernel
theorem dX9_of_14 : decode cX9_of 14 = .ok (.invokestatic 47, 3) := by decide +kernel
theorem dX9_of_17 : decode cX9_of 17 = .ok (.ifCond .eq 12, 3) := by decide +kernel
theorem dX9_of_20 : decode cX9_of 20 = .ok (.aload_n 0, 1) := by decide +kernel
theorem dX9_of_21 : decode cX9_of 21 = .ok (.iload_n 1, 1) := by decide +kernel
theorem dX9_of_22 : decode cX9_of 22 = .ok (.iload_n 2, 1) := by decide +kernel
theorem dX9_of_23 : decode cX9_of 23 = .ok (.invokevirtual 159, 3) := by decide +kernel
theorem dX9_of_26 : decode cX9_of 26 = .ok (.goto 9, 3) := by decide +kernel
theorem dX9_of_29 : decode cX9_of 29 = .ok (.aload_n 0, 1) := by decide +kernel
theorem dX9_of_30 : decode cX9_of 30 = .ok (.bipush (-2), 2) := by decide +kernel
theorem dX9_of_32 : decode cX9_of 32 = .ok (.invokevirtual 97, 3) := by decide +kernel
theorem dX9_of_35 : decode cX9_of 35 = .ok (.ireturn, 1) := by decide +kernel
theorem dX9_ages_0 : decode cX9_ages 0 = .ok (.aload_n 0, 1) := by decide +kernel
theorem dX9_ages_1 : decode cX9_ages 1 = .ok (.getfield 7, 3) := by decide +kernel
theorem dX9_ages_4 : decode cX9_ages 4 = .ok (.iconst 1, 1) := by decide +kernel
theorem dX9_ages_5 : decode cX9_ages 5 = .ok (.dup2, 1) := by decide +kernel
theorem dX9_ages_6 : decode cX9_ages 6 = .ok (.iaload, 1) := by decide +kernel
theorem dX9_ages_7 : decode cX9_ages 7 = .ok (.iconst 1, 1) := by decide +kernel
theorem dX9_ages_8 : decode cX9_ages 8 = .ok (.iadd, 1) := by decide +kernel
theorem dX9_ages_9 : decode cX9_ages 9 = .ok (.iastore, 1) := by decide +kernel
theorem dX9_ages_10 : decode cX9_ages 10 = .ok (.iconst 0, 1) := by decide +kernel
theorem dX9_ages_11 : decode cX9_ages 11 = .ok (.istore_n 1, 1) := by decide +kernel
theorem dX9_ages_12 : decode cX9_ages 12 = .ok (.iload_n 1, 1) := by decide +kernel
theorem dX9_ages_13 : decode cX9_ages 13 = .ok (.aload_n 0, 1) := by decide +kernel
theorem dX9_ages_14 : decode cX9_ages 14 = .ok (.getfield 7, 3) := by decide +kernel
theorem dX9_ages_17 : decode cX9_ages 17 = .ok (.iconst 0, 1) := by decide +kernel
theorem dX9_ages_18 : decode cX9_ages 18 = .ok (.iaload, 1) := by decide +kernel
theorem dX9_ages_19 : decode cX9_ages 19 = .ok (.if_icmp .ge 54, 3) := by decide +kernel
theorem dX9_ages_22 : decode cX9_ages 22 = .ok (.aload_n 0, 1) := by decide +kernel
theorem dX9_ages_23 : decode cX9_ages 23 = .ok (.iload_n 1, 1) := by decide +kernel
theorem dX9_ages_24 : decode cX9_ages 24 = .ok (.invokevirtual 70, 3) := by decide +kernel
theorem dX9_ages_27 : decode cX9_ages 27 = .ok (.iconst 1, 1) := by decide +kernel
theorem dX9_ages_28 : decode cX9_ages 28 = .ok (.isub, 1) := by decide +kernel
theorem dX9_ages_29 : decode cX9_ages 29 = .ok (.istore_n 2, 1) := by decide +kernel
theorem dX9_ages_30 : decode cX9_ages 30 = .ok (.iload_n 2, 1) := by decide +kernel
theorem dX9_ages_31 : decode cX9_ages 31 = .ok (.ifCond .lt 36, 3) := by decide +kernel
theorem dX9_ages_34 : decode cX9_ages 34 = .ok (.aload_n 0, 1) := by decide +kernel
theorem dX9_ages_35 : decode cX9_ages 35 = .ok (.getfield 7, 3) := by decide +kernel
theorem dX9_ages_38 : decode cX9_ages 38 = .ok (.iload_n 1, 1) := by decide +kernel
theorem dX9_ages_39 : decode cX9_ages 39 = .ok (.iload_n 2, 1) := by decide +kernel
theorem dX9_ages_40 : decode cX9_ages 40 = .ok (.invokestatic 67, 3) := by decide +kernel
theorem dX9_ages_43 : decode cX9_ages 43 = .ok (.iconst 4, 1) := by decide +kernel
theorem dX9_ages_44 : decode cX9_ages 44 = .ok (.iadd, 1) := by decide +kernel
theorem dX9_ages_45 : decode cX9_ages 45 = .ok (.iaload, 1) := by decide +kernel
theorem dX9_ages_46 : decode cX9_ages 46 = .ok (.aload_n 0, 1) := by decide +kernel
theorem dX9_ages_47 : decode cX9_ages 47 = .ok (.getfield 7, 3) := by decide +kernel
theorem dX9_ages_50 : decode cX9_ages 50 = .ok (.iconst 1, 1) := by decide +kernel
theorem dX9_ages_51 : decode cX9_ages 51 = .ok (.iaload, 1) := by decide +kernel
theorem dX9_ages_52 : decode cX9_ages 52 = .ok (.if_icmp .gt 9, 3) := by decide +kernel
theorem dX9_ages_55 : decode cX9_ages 55 = .ok (.aload_n 0, 1) := by decide +kernel
theorem dX9_ages_56 : decode cX9_ages 56 = .ok (.iload_n 1, 1) := by decide +kernel
theorem dX9_ages_57 : decode cX9_ages 57 = .ok (.iload_n 2, 1) := by decide +kernel
theorem dX9_ages_58 : decode cX9_ages 58 = .ok (.invokevirtual 82, 3) := by decide +kernel
theorem dX9_ages_61 : decode cX9_ages 61 = .ok (.iinc 2 (-1), 3) := by decide +kernel
theorem dX9_ages_64 : decode cX9_ages 64 = .ok (.goto (-34), 3) := by decide +kernel
theorem dX9_ages_67 : decode cX9_ages 67 = .ok (.iinc 1 1, 3) := by decide +kernel
theorem dX9_ages_70 : decode cX9_ages 70 = .ok (.goto (-58), 3) := by decide +kernel
theorem dX9_ages_73 : decode cX9_ages 73 = .ok (.return_, 1) := by decide +kernel
theorem dX9_isOpposed_0 : decode cX9_isOpposed 0 = .ok (.iconst 0, 1) := by decide +kernel
theorem dX9_isOpposed_1 : decode cX9_isOpposed 1 = .ok (.istore_n 3, 1) := by decide +kernel
theorem dX9_isOpposed_2 : decode cX9_isOpposed 2 = .ok (.iconst 0, 1) := by decide +kernel
theorem dX9_isOpposed_3 : decode cX9_isOpposed 3 = .ok (.istore 4, 2) := by decide +kernel
theorem dX9_isOpposed_5 : decode cX9_isOpposed 5 = .ok (.iload 4, 2) := by decide +kernel
theorem dX9_isOpposed_7 : decode cX9_isOpposed 7 = .ok (.aload_n 0, 1) := by decide +kernel
theorem dX9_isOpposed_8 : decode cX9_isOpposed 8 = .ok (.getfield 7, 3) := by decide +kernel
theorem dX9_isOpposed_11 : decode cX9_isOpposed 11 = .ok (.iconst 0, 1) := by decide +kernel
theorem dX9_isOpposed_12 : decode cX9_isOpposed 12 = .ok (.iaload, 1) := by decide +kernel
theorem dX9_isOpposed_13 : decode cX9_isOpposed 13 = .ok (.if_icmp .ge 86, 3) := by decide +kernel
theorem dX9_isOpposed_16 : decode cX9_isOpposed 16 = .ok (.iconst 0, 1) := by decide +kernel
theorem dX9_isOpposed_17 : decode cX9_isOpposed 17 = .ok (.istore 5, 2) := by decide +kernel
theorem dX9_isOpposed_19 : decode cX9_isOpposed 19 = .ok (.iload 5, 2) := by decide +kernel
theorem dX9_isOpposed_21 : decode cX9_isOpposed 21 = .ok (.aload_n 0, 1) := by decide +kernel
theorem dX9_isOpposed_22 : decode cX9_isOpposed 22 = .ok (.iload 4, 2) := by decide +kernel
theorem dX9_isOpposed_24 : decode cX9_isOpposed 24 = .ok (.invokevirtual 73, 3) := by decide +kernel
theorem dX9_isOpposed_27 : decode cX9_isOpposed 27 = .ok (.if_icmp .ge 66, 3) := by decide +kernel
theorem dX9_isOpposed_30 : decode cX9_isOpposed 30 = .ok (.iload 4, 2) := by decide +kernel
theorem dX9_isOpposed_32 : decode cX9_isOpposed 32 = .ok (.iload_n 1, 1) := by decide +kernel
theorem dX9_isOpposed_33 : decode cX9_isOpposed 33 = .ok (.if_icmp .eq 60, 3) := by decide +kernel
theorem dX9_isOpposed_36 : decode cX9_isOpposed 36 = .ok (.iload_n 3, 1) := by decide +kernel
theorem dX9_isOpposed_37 : decode cX9_isOpposed 37 = .ok (.ifCond .ne 44, 3) := by decide +kernel
theorem dX9_isOpposed_40 : decode cX9_isOpposed 40 = .ok (.aload_n 0, 1) := by decide +kernel
theorem dX9_isOpposed_41 : decode cX9_isOpposed 41 = .ok (.iload 4, 2) := by decide +kernel
theorem dX9_isOpposed_43 : decode cX9_isOpposed 43 = .ok (.iload 5, 2) := by decide +kernel
theorem dX9_isOpposed_45 : decode cX9_isOpposed 45 = .ok (.invokevirtual 142, 3) := by decide +kernel
theorem dX9_isOpposed_48 : decode cX9_isOpposed 48 = .ok (.ifCond .eq 37, 3) := by decide +kernel
theorem dX9_isOpposed_51 : decode cX9_isOpposed 51 = .ok (.aload_n 0, 1) := by decide +kernel
theorem dX9_isOpposed_52 : decode cX9_isOpposed 52 = .ok (.iload 4, 2) := by decide +kernel
theorem dX9_isOpposed_54 : decode cX9_isOpposed 54 = .ok (.iload 5, 2) := by decide +kernel
theorem dX9_isOpposed_56 : decode cX9_isOpposed 56 = .ok (.invokestatic 55, 3) := by decide +kernel
theorem dX9_isOpposed_59 : decode cX9_isOpposed 59 = .ok (.iload_n 2, 1) := by decide +kernel
theorem dX9_isOpposed_60 : decode cX9_isOpposed 60 = .ok (.invokevirtual 51, 3) := by decide +kernel
theorem dX9_isOpposed_63 : decode cX9_isOpposed 63 = .ok (.ifCond .eq 22, 3) := by decide +kernel
theorem dX9_isOpposed_66 : decode cX9_isOpposed 66 = .ok (.aload_n 0, 1) := by decide +kernel
theorem dX9_isOpposed_67 : decode cX9_isOpposed 67 = .ok (.iload 4, 2) := by decide +kernel
theorem dX9_isOpposed_69 : decode cX9_isOpposed 69 = .ok (.iload 5, 2) := by decide +kernel
theorem dX9_isOpposed_71 : decode cX9_isOpposed 71 = .ok (.invokestatic 55, 3) := by decide +kernel
theorem dX9_isOpposed_74 : decode cX9_isOpposed 74 = .ok (.iload_n 2, 1) := by decide +kernel
theorem dX9_isOpposed_75 : decode cX9_isOpposed 75 = .ok (.invokevirtual 76, 3) := by decide +kernel
theorem dX9_isOpposed_78 : decode cX9_isOpposed 78 = .ok (.ifCond .ne 7, 3) := by decide +kernel
theorem dX9_isOpposed_81 : decode cX9_isOpposed 81 = .ok (.iconst 1, 1) := by decide +kernel
theorem dX9_isOpposed_82 : decode cX9_isOpposed 82 = .ok (.goto 4, 3) := by decide +kernel
theorem dX9_isOpposed_85 : decode cX9_isOpposed 85 = .ok (.iconst 0, 1) := by decide +kernel
theorem dX9_isOpposed_86 : decode cX9_isOpposed 86 = .ok (.istore_n 3, 1) := by decide +kernel
theorem dX9_isOpposed_87 : decode cX9_isOpposed 87 = .ok (.iinc 5 1, 3) := by decide +kernel
theorem dX9_isOpposed_90 : decode cX9_isOpposed 90 = .ok (.goto (-71), 3) := by decide +kernel
theorem dX9_isOpposed_93 : decode cX9_isOpposed 93 = .ok (.iinc 4 1, 3) := by decide +kernel
theorem dX9_isOpposed_96 : decode cX9_isOpposed 96 = .ok (.goto (-91), 3) := by decide +kernel
theorem dX9_isOpposed_99 : decode cX9_isOpposed 99 = .ok (.iload_n 3, 1) := by decide +kernel
theorem dX9_isOpposed_100 : decode cX9_isOpposed 100 = .ok (.ireturn, 1) := by decide +kernel
theorem dX9_isOutbid_0 : decode cX9_isOutbid 0 = .ok (.iconst 0, 1) := by decide +kernel
theorem dX9_isOutbid_1 : decode cX9_isOutbid 1 = .ok (.istore_n 3, 1) := by decide +kernel
theorem dX9_isOutbid_2 : decode cX9_isOutbid 2 = .ok (.iconst 0, 1) := by decide +kernel
theorem dX9_isOutbid_3 : decode cX9_isOutbid 3 = .ok (.istore 4, 2) := by decide +kernel
theorem dX9_isOutbid_5 : decode cX9_isOutbid 5 = .ok (.iload 4, 2) := by decide +kernel
theorem dX9_isOutbid_7 : decode cX9_isOutbid 7 = .ok (.aload_n 0, 1) := by decide +kernel
theorem dX9_isOutbid_8 : decode cX9_isOutbid 8 = .ok (.getfield 7, 3) := by decide +kernel
theorem dX9_isOutbid_11 : decode cX9_isOutbid 11 = .ok (.iconst 0, 1) := by decide +kernel
theorem dX9_isOutbid_12 : decode cX9_isOutbid 12 = .ok (.iaload, 1) := by decide +kernel
theorem dX9_isOutbid_13 : decode cX9_isOutbid 13 = .ok (.if_icmp .ge 106, 3) := by decide +kernel
theorem dX9_isOutbid_16 : decode cX9_isOutbid 16 = .ok (.iconst 0, 1) := by decide +kernel
theorem dX9_isOutbid_17 : decode cX9_isOutbid 17 = .ok (.istore 5, 2) := by decide +kernel
theorem dX9_isOutbid_19 : decode cX9_isOutbid 19 = .ok (.iload 5, 2) := by decide +kernel
theorem dX9_isOutbid_21 : decode cX9_isOutbid 21 = .ok (.aload_n 0, 1) := by decide +kernel
theorem dX9_isOutbid_22 : decode cX9_isOutbid 22 = .ok (.iload 4, 2) := by decide +kernel
theorem dX9_isOutbid_24 : decode cX9_isOutbid 24 = .ok (.invokevirtual 73, 3) := by decide +kernel
theorem dX9_isOutbid_27 : decode cX9_isOutbid 27 = .ok (.if_icmp .ge 86, 3) := by decide +kernel
theorem dX9_isOutbid_30 : decode cX9_isOutbid 30 = .ok (.iload 4, 2) := by decide +kernel
theorem dX9_isOutbid_32 : decode cX9_isOutbid 32 = .ok (.iload_n 1, 1) := by decide +kernel
theorem dX9_isOutbid_33 : decode cX9_isOutbid 33 = .ok (.if_icmp .eq 80, 3) := by decide +kernel
theorem dX9_isOutbid_36 : decode cX9_isOutbid 36 = .ok (.aload_n 0, 1) := by decide +kernel
theorem dX9_isOutbid_37 : decode cX9_isOutbid 37 = .ok (.iload 4, 2) := by decide +kernel
theorem dX9_isOutbid_39 : decode cX9_isOutbid 39 = .ok (.invokevirtual 59, 3) := by decide +kernel
theorem dX9_isOutbid_42 : decode cX9_isOutbid 42 = .ok (.ifCond .eq 71, 3) := by decide +kernel
theorem dX9_isOutbid_45 : decode cX9_isOutbid 45 = .ok (.iload 4, 2) := by decide +kernel
theorem dX9_isOutbid_47 : decode cX9_isOutbid 47 = .ok (.iload 5, 2) := by decide +kernel
theorem dX9_isOutbid_49 : decode cX9_isOutbid 49 = .ok (.invokestatic 55, 3) := by decide +kernel
theorem dX9_isOutbid_52 : decode cX9_isOutbid 52 = .ok (.istore 6, 2) := by decide +kernel
theorem dX9_isOutbid_54 : decode cX9_isOutbid 54 = .ok (.iload_n 3, 1) := by decide +kernel
theorem dX9_isOutbid_55 : decode cX9_isOutbid 55 = .ok (.ifCond .ne 46, 3) := by decide +kernel
theorem dX9_isOutbid_58 : decode cX9_isOutbid 58 = .ok (.aload_n 0, 1) := by decide +kernel
theorem dX9_isOutbid_59 : decode cX9_isOutbid 59 = .ok (.getfield 7, 3) := by decide +kernel
theorem dX9_isOutbid_62 : decode cX9_isOutbid 62 = .ok (.iload 6, 2) := by decide +kernel
theorem dX9_isOutbid_64 : decode cX9_isOutbid 64 = .ok (.iconst 4, 1) := by decide +kernel
theorem dX9_isOutbid_65 : decode cX9_isOutbid 65 = .ok (.iadd, 1) := by decide +kernel
theorem dX9_isOutbid_66 : decode cX9_isOutbid 66 = .ok (.iaload, 1) := by decide +kernel
theorem dX9_isOutbid_67 : decode cX9_isOutbid 67 = .ok (.iconst 3, 1) := by decide +kernel
theorem dX9_isOutbid_68 : decode cX9_isOutbid 68 = .ok (.if_icmp .ge 37, 3) := by decide +kernel
theorem dX9_isOutbid_71 : decode cX9_isOutbid 71 = .ok (.aload_n 0, 1) := by decide +kernel
theorem dX9_isOutbid_72 : decode cX9_isOutbid 72 = .ok (.iload 6, 2) := by decide +kernel
theorem dX9_isOutbid_74 : decode cX9_isOutbid 74 = .ok (.iload_n 2, 1) := by decide +kernel
theorem dX9_isOutbid_75 : decode cX9_isOutbid 75 = .ok (.invokevirtual 51, 3) := by decide +kernel
theorem dX9_isOutbid_78 : decode cX9_isOutbid 78 = .ok (.ifCond .eq 27, 3) := by decide +kernel
theorem dX9_isOutbid_81 : decode cX9_isOutbid 81 = .ok (.aload_n 0, 1) := by decide +kernel
theorem dX9_isOutbid_82 : decode cX9_isOutbid 82 = .ok (.getfield 7, 3) := by decide +kernel
theorem dX9_isOutbid_85 : decode cX9_isOutbid 85 = .ok (.iload 6, 2) := by decide +kernel
theorem dX9_isOutbid_87 : decode cX9_isOutbid 87 = .ok (.iconst 2, 1) := by decide +kernel
theorem dX9_isOutbid_88 : decode cX9_isOutbid 88 = .ok (.iadd, 1) := by decide +kernel
theorem dX9_isOutbid_89 : decode cX9_isOutbid 89 = .ok (.iaload, 1) := by decide +kernel
theorem dX9_isOutbid_90 : decode cX9_isOutbid 90 = .ok (.aload_n 0, 1) := by decide +kernel
theorem dX9_isOutbid_91 : decode cX9_isOutbid 91 = .ok (.getfield 7, 3) := by decide +kernel
theorem dX9_isOutbid_94 : decode cX9_isOutbid 94 = .ok (.iload_n 2, 1) := by decide +kernel
theorem dX9_isOutbid_95 : decode cX9_isOutbid 95 = .ok (.iconst 2, 1) := by decide +kernel
theorem dX9_isOutbid_96 : decode cX9_isOutbid 96 = .ok (.iadd, 1) := by decide +kernel
theorem dX9_isOutbid_97 : decode cX9_isOutbid 97 = .ok (.iaload, 1) := by decide +kernel
theorem dX9_isOutbid_98 : decode cX9_isOutbid 98 = .ok (.if_icmp .le 7, 3) := by decide +kernel
theorem dX9_isOutbid_101 : decode cX9_isOutbid 101 = .ok (.iconst 1, 1) := by decide +kernel
theorem dX9_isOutbid_102 : decode cX9_isOutbid 102 = .ok (.goto 4, 3) := by decide +kernel
theorem dX9_isOutbid_105 : decode cX9_isOutbid 105 = .ok (.iconst 0, 1) := by decide +kernel
theorem dX9_isOutbid_106 : decode cX9_isOutbid 106 = .ok (.istore_n 3, 1) := by decide +kernel
theorem dX9_isOutbid_107 : decode cX9_isOutbid 107 = .ok (.iinc 5 1, 3) := by decide +kernel
theorem dX9_isOutbid_110 : decode cX9_isOutbid 110 = .ok (.goto (-91), 3) := by decide +kernel
theorem dX9_isOutbid_113 : decode cX9_isOutbid 113 = .ok (.iinc 4 1, 3) := by decide +kernel
theorem dX9_isOutbid_116 : decode cX9_isOutbid 116 = .ok (.goto (-111), 3) := by decide +kernel
theorem dX9_isOutbid_119 : decode cX9_isOutbid 119 = .ok (.iload_n 3, 1) := by decide +kernel
theorem dX9_isOutbid_120 : decode cX9_isOutbid 120 = .ok (.ireturn, 1) := by decide +kernel
theorem dX9_probes_0 : decode cX9_probes 0 = .ok (.aload_n 0, 1) := by decide +kernel
theorem dX9_probes_1 : decode cX9_probes 1 = .ok (.getfield 7, 3) := by decide +kernel
theorem dX9_probes_4 : decode cX9_probes 4 = .ok (.iconst 3, 1) := by decide +kernel
theorem dX9_probes_5 : decode cX9_probes 5 = .ok (.dup2, 1) := by decide +kernel
theorem dX9_probes_6 : decode cX9_probes 6 = .ok (.iaload, 1) := by decide +kernel
theorem dX9_probes_7 : decode cX9_probes 7 = .ok (.iconst 1, 1) := by decide +kernel
theorem dX9_probes_8 : decode cX9_probes 8 = .ok (.iadd, 1) := by decide +kernel
theorem dX9_probes_9 : decode cX9_probes 9 = .ok (.iastore, 1) := by decide +kernel
theorem dX9_probes_10 : decode cX9_probes 10 = .ok (.aload_n 0, 1) := by decide +kernel
theorem dX9_probes_11 : decode cX9_probes 11 = .ok (.iload_n 1, 1) := by decide +kernel
theorem dX9_probes_12 : decode cX9_probes 12 = .ok (.iload_n 2, 1) := by decide +kernel
theorem dX9_probes_13 : decode cX9_probes 13 = .ok (.invokevirtual 162, 3) := by decide +kernel
theorem dX9_probes_16 : decode cX9_probes 16 = .ok (.ifCond .eq 55, 3) := by decide +kernel
theorem dX9_probes_19 : decode cX9_probes 19 = .ok (.aload_n 0, 1) := by decide +kernel
theorem dX9_probes_20 : decode cX9_probes 20 = .ok (.getfield 7, 3) := by decide +kernel
theorem dX9_probes_23 : decode cX9_probes 23 = .ok (.iload_n 2, 1) := by decide +kernel
theorem dX9_probes_24 : decode cX9_probes 24 = .ok (.iconst 0, 1) := by decide +kernel
theorem dX9_probes_25 : decode cX9_probes 25 = .ok (.iadd, 1) := by decide +kernel
theorem dX9_probes_26 : decode cX9_probes 26 = .ok (.aload_n 0, 1) := by decide +kernel
theorem dX9_probes_27 : decode cX9_probes 27 = .ok (.getfield 7, 3) := by decide +kernel
theorem dX9_probes_30 : decode cX9_probes 30 = .ok (.iload_n 2, 1) := by decide +kernel
theorem dX9_probes_31 : decode cX9_probes 31 = .ok (.iconst 0, 1) := by decide +kernel
theorem dX9_probes_32 : decode cX9_probes 32 = .ok (.iadd, 1) := by decide +kernel
theorem dX9_probes_33 : decode cX9_probes 33 = .ok (.iaload, 1) := by decide +kernel
theorem dX9_probes_34 : decode cX9_probes 34 = .ok (.iconst 1, 1) := by decide +kernel
theorem dX9_probes_35 : decode cX9_probes 35 = .ok (.iadd, 1) := by decide +kernel
theorem dX9_probes_36 : decode cX9_probes 36 = .ok (.bipush 16, 2) := by decide +kernel
theorem dX9_probes_38 : decode cX9_probes 38 = .ok (.irem, 1) := by decide +kernel
theorem dX9_probes_39 : decode cX9_probes 39 = .ok (.iastore, 1) := by decide +kernel
theorem dX9_probes_40 : decode cX9_probes 40 = .ok (.aload_n 0, 1) := by decide +kernel
theorem dX9_probes_41 : decode cX9_probes 41 = .ok (.getfield 7, 3) := by decide +kernel
theorem dX9_probes_44 : decode cX9_probes 44 = .ok (.iload_n 2, 1) := by decide +kernel
theorem dX9_probes_45 : decode cX9_probes 45 = .ok (.iconst 4, 1) := by decide +kernel
theorem dX9_probes_46 : decode cX9_probes 46 = .ok (.iadd, 1) := by decide +kernel
theorem dX9_probes_47 : decode cX9_probes 47 = .ok (.iconst 0, 1) := by decide +kernel
theorem dX9_probes_48 : decode cX9_probes 48 = .ok (.iastore, 1) := by decide +kernel
theorem dX9_probes_49 : decode cX9_probes 49 = .ok (.aload_n 0, 1) := by decide +kernel
theorem dX9_probes_50 : decode cX9_probes 50 = .ok (.getfield 7, 3) := by decide +kernel
theorem dX9_probes_53 : decode cX9_probes 53 = .ok (.iload_n 2, 1) := by decide +kernel
theorem dX9_probes_54 : decode cX9_probes 54 = .ok (.iconst 5, 1) := by decide +kernel
theorem dX9_probes_55 : decode cX9_probes 55 = .ok (.iadd, 1) := by decide +kernel
theorem dX9_probes_56 : decode cX9_probes 56 = .ok (.iconst 0, 1) := by decide +kernel
theorem dX9_probes_57 : decode cX9_probes 57 = .ok (.iastore, 1) := by decide +kernel
theorem dX9_probes_58 : decode cX9_probes 58 = .ok (.aload_n 0, 1) := by decide +kernel
theorem dX9_probes_59 : decode cX9_probes 59 = .ok (.getfield 7, 3) := by decide +kernel
theorem dX9_probes_62 : decode cX9_probes 62 = .ok (.iconst 4, 1) := by decide +kernel
theorem dX9_probes_63 : decode cX9_probes 63 = .ok (.dup2, 1) := by decide +kernel
theorem dX9_probes_64 : decode cX9_probes 64 = .ok (.iaload, 1) := by decide +kernel
theorem dX9_probes_65 : decode cX9_probes 65 = .ok (.iconst 1, 1) := by decide +kernel
theorem dX9_probes_66 : decode cX9_probes 66 = .ok (.iadd, 1) := by decide +kernel
theorem dX9_probes_67 : decode cX9_probes 67 = .ok (.iastore, 1) := by decide +kernel
theorem dX9_probes_68 : decode cX9_probes 68 = .ok (.goto 63, 3) := by decide +kernel
theorem dX9_probes_71 : decode cX9_probes 71 = .ok (.aload_n 0, 1) := by decide +kernel
theorem dX9_probes_72 : decode cX9_probes 72 = .ok (.iload_n 1, 1) := by decide +kernel
theorem dX9_probes_73 : decode cX9_probes 73 = .ok (.iload_n 2, 1) := by decide +kernel
theorem dX9_probes_74 : decode cX9_probes 74 = .ok (.invokevirtual 165, 3) := by decide +kernel
theorem dX9_probes_77 : decode cX9_probes 77 = .ok (.ifCond .eq 24, 3) := by decide +kernel
theorem dX9_probes_80 : decode cX9_probes 80 = .ok (.aload_n 0, 1) := by decide +kernel
theorem dX9_probes_81 : decode cX9_probes 81 = .ok (.getfield 7, 3) := by decide +kernel
theorem dX9_probes_84 : decode cX9_probes 84 = .ok (.iload_n 2, 1) := by decide +kernel
theorem dX9_probes_85 : decode cX9_probes 85 = .ok (.iconst 4, 1) := by decide +kernel
theorem dX9_probes_86 : decode cX9_probes 86 = .ok (.iadd, 1) := by decide +kernel
theorem dX9_probes_87 : decode cX9_probes 87 = .ok (.iconst 0, 1) := by decide +kernel
theorem dX9_probes_88 : decode cX9_probes 88 = .ok (.iastore, 1) := by decide +kernel
theorem dX9_probes_89 : decode cX9_probes 89 = .ok (.aload_n 0, 1) := by decide +kernel
theorem dX9_probes_90 : decode cX9_probes 90 = .ok (.getfield 7, 3) := by decide +kernel
theorem dX9_probes_93 : decode cX9_probes 93 = .ok (.iload_n 2, 1) := by decide +kernel
theorem dX9_probes_94 : decode cX9_probes 94 = .ok (.iconst 5, 1) := by decide +kernel
theorem dX9_probes_95 : decode cX9_probes 95 = .ok (.iadd, 1) := by decide +kernel
theorem dX9_probes_96 : decode cX9_probes 96 = .ok (.iconst 1, 1) := by decide +kernel
theorem dX9_probes_97 : decode cX9_probes 97 = .ok (.iastore, 1) := by decide +kernel
theorem dX9_probes_98 : decode cX9_probes 98 = .ok (.goto 33, 3) := by decide +kernel
theorem dX9_probes_101 : decode cX9_probes 101 = .ok (.aload_n 0, 1) := by decide +kernel
theorem dX9_probes_102 : decode cX9_probes 102 = .ok (.getfield 7, 3) := by decide +kernel
theorem dX9_probes_105 : decode cX9_probes 105 = .ok (.iload_n 2, 1) := by decide +kernel
theorem dX9_probes_106 : decode cX9_probes 106 = .ok (.iconst 4, 1) := by decide +kernel
theorem dX9_probes_107 : decode cX9_probes 107 = .ok (.iadd, 1) := by decide +kernel
theorem dX9_probes_108 : decode cX9_probes 108 = .ok (.dup2, 1) := by decide +kernel
theorem dX9_probes_109 : decode cX9_probes 109 = .ok (.iaload, 1) := by decide +kernel
theorem dX9_probes_110 : decode cX9_probes 110 = .ok (.iconst 1, 1) := by decide +kernel
theorem dX9_probes_111 : decode cX9_probes 111 = .ok (.iadd, 1) := by decide +kernel
theorem dX9_probes_112 : decode cX9_probes 112 = .ok (.iastore, 1) := by decide +kernel
theorem dX9_probes_113 : decode cX9_probes 113 = .ok (.aload_n 0, 1) := by decide +kernel
theorem dX9_probes_114 : decode cX9_probes 114 = .ok (.getfield 7, 3) := by decide +kernel
theorem dX9_probes_117 : decode cX9_probes 117 = .ok (.iload_n 2, 1) := by decide +kernel
theorem dX9_probes_118 : decode cX9_probes 118 = .ok (.iconst 4, 1) := by decide +kernel
theorem dX9_probes_119 : decode cX9_probes 119 = .ok (.iadd, 1) := by decide +kernel
theorem dX9_probes_120 : decode cX9_probes 120 = .ok (.iaload, 1) := by decide +kernel
theorem dX9_probes_121 : decode cX9_probes 121 = .ok (.iconst 3, 1) := by decide +kernel
theorem dX9_probes_122 : decode cX9_probes 122 = .ok (.if_icmp .ne 9, 3) := by decide +kernel
theorem dX9_probes_125 : decode cX9_probes 125 = .ok (.aload_n 0, 1) := by decide +kernel
theorem dX9_probes_126 : decode cX9_probes 126 = .ok (.iload_n 1, 1) := by decide +kernel
theorem dX9_probes_127 : decode cX9_probes 127 = .ok (.iload_n 2, 1) := by decide +kernel
theorem dX9_probes_128 : decode cX9_probes 128 = .ok (.invokevirtual 122, 3) := by decide +kernel
theorem dX9_probes_131 : decode cX9_probes 131 = .ok (.return_, 1) := by decide +kernel
theorem dX9_ticksOne_0 : decode cX9_ticksOne 0 = .ok (.aload_n 0, 1) := by decide +kernel
theorem dX9_ticksOne_1 : decode cX9_ticksOne 1 = .ok (.invokevirtual 168, 3) := by decide +kernel
theorem dX9_ticksOne_4 : decode cX9_ticksOne 4 = .ok (.iconst 0, 1) := by decide +kernel
theorem dX9_ticksOne_5 : decode cX9_ticksOne 5 = .ok (.istore_n 1, 1) := by decide +kernel
theorem dX9_ticksOne_6 : decode cX9_ticksOne 6 = .ok (.iload_n 1, 1) := by decide +kernel
theorem dX9_ticksOne_7 : decode cX9_ticksOne 7 = .ok (.aload_n 0, 1) := by decide +kernel
theorem dX9_ticksOne_8 : decode cX9_ticksOne 8 = .ok (.getfield 7, 3) := by decide +kernel
theorem dX9_ticksOne_11 : decode cX9_ticksOne 11 = .ok (.iconst 0, 1) := by decide +kernel
theorem dX9_ticksOne_12 : decode cX9_ticksOne 12 = .ok (.iaload, 1) := by decide +kernel
theorem dX9_ticksOne_13 : decode cX9_ticksOne 13 = .ok (.if_icmp .ge 84, 3) := by decide +kernel
theorem dX9_ticksOne_16 : decode cX9_ticksOne 16 = .ok (.iconst 0, 1) := by decide +kernel
theorem dX9_ticksOne_17 : decode cX9_ticksOne 17 = .ok (.istore_n 2, 1) := by decide +kernel
theorem dX9_ticksOne_18 : decode cX9_ticksOne 18 = .ok (.iload_n 2, 1) := by decide +kernel
theorem dX9_ticksOne_19 : decode cX9_ticksOne 19 = .ok (.aload_n 0, 1) := by decide +kernel
theorem dX9_ticksOne_20 : decode cX9_ticksOne 20 = .ok (.iload_n 1, 1) := by decide +kernel
theorem dX9_ticksOne_21 : decode cX9_ticksOne 21 = .ok (.invokevirtual 73, 3) := by decide +kernel
theorem dX9_ticksOne_24 : decode cX9_ticksOne 24 = .ok (.if_icmp .ge 67, 3) := by decide +kernel
theorem dX9_ticksOne_27 : decode cX9_ticksOne 27 = .ok (.aload_n 0, 1) := by decide +kernel
theorem dX9_ticksOne_28 : decode cX9_ticksOne 28 = .ok (.iload_n 1, 1) := by decide +kernel
theorem dX9_ticksOne_29 : decode cX9_ticksOne 29 = .ok (.invokevirtual 59, 3) := by decide +kernel
theorem dX9_ticksOne_32 : decode cX9_ticksOne 32 = .ok (.ifCond .eq 59, 3) := by decide +kernel
theorem dX9_ticksOne_35 : decode cX9_ticksOne 35 = .ok (.iload_n 1, 1) := by decide +kernel
theorem dX9_ticksOne_36 : decode cX9_ticksOne 36 = .ok (.iload_n 2, 1) := by decide +kernel
theorem dX9_ticksOne_37 : decode cX9_ticksOne 37 = .ok (.invokestatic 55, 3) := by decide +kernel
theorem dX9_ticksOne_40 : decode cX9_ticksOne 40 = .ok (.istore_n 3, 1) := by decide +kernel
theorem dX9_ticksOne_41 : decode cX9_ticksOne 41 = .ok (.aload_n 0, 1) := by decide +kernel
theorem dX9_ticksOne_42 : decode cX9_ticksOne 42 = .ok (.getfield 7, 3) := by decide +kernel
theorem dX9_ticksOne_45 : decode cX9_ticksOne 45 = .ok (.iload_n 3, 1) := by decide +kernel
theorem dX9_ticksOne_46 : decode cX9_ticksOne 46 = .ok (.iconst 4, 1) := by decide +kernel
theorem dX9_ticksOne_47 : decode cX9_ticksOne 47 = .ok (.iadd, 1) := by decide +kernel
theorem dX9_ticksOne_48 : decode cX9_ticksOne 48 = .ok (.iaload, 1) := by decide +kernel
theorem dX9_ticksOne_49 : decode cX9_ticksOne 49 = .ok (.iconst 3, 1) := by decide +kernel
theorem dX9_ticksOne_50 : decode cX9_ticksOne 50 = .ok (.if_icmp .ge 35, 3) := by decide +kernel
theorem dX9_ticksOne_53 : decode cX9_ticksOne 53 = .ok (.aload_n 0, 1) := by decide +kernel
theorem dX9_ticksOne_54 : decode cX9_ticksOne 54 = .ok (.getfield 7, 3) := by decide +kernel
theorem dX9_ticksOne_57 : decode cX9_ticksOne 57 = .ok (.iload_n 3, 1) := by decide +kernel
theorem dX9_ticksOne_58 : decode cX9_ticksOne 58 = .ok (.iconst 5, 1) := by decide +kernel
theorem dX9_ticksOne_59 : decode cX9_ticksOne 59 = .ok (.iadd, 1) := by decide +kernel
theorem dX9_ticksOne_60 : decode cX9_ticksOne 60 = .ok (.iaload, 1) := by decide +kernel
theorem dX9_ticksOne_61 : decode cX9_ticksOne 61 = .ok (.ifCond .le 18, 3) := by decide +kernel
theorem dX9_ticksOne_64 : decode cX9_ticksOne 64 = .ok (.aload_n 0, 1) := by decide +kernel
theorem dX9_ticksOne_65 : decode cX9_ticksOne 65 = .ok (.getfield 7, 3) := by decide +kernel
theorem dX9_ticksOne_68 : decode cX9_ticksOne 68 = .ok (.iload_n 3, 1) := by decide +kernel
theorem dX9_ticksOne_69 : decode cX9_ticksOne 69 = .ok (.iconst 5, 1) := by decide +kernel
theorem dX9_ticksOne_70 : decode cX9_ticksOne 70 = .ok (.iadd, 1) := by decide +kernel
theorem dX9_ticksOne_71 : decode cX9_ticksOne 71 = .ok (.dup2, 1) := by decide +kernel
theorem dX9_ticksOne_72 : decode cX9_ticksOne 72 = .ok (.iaload, 1) := by decide +kernel
theorem dX9_ticksOne_73 : decode cX9_ticksOne 73 = .ok (.iconst 1, 1) := by decide +kernel
theorem dX9_ticksOne_74 : decode cX9_ticksOne 74 = .ok (.isub, 1) := by decide +kernel
theorem dX9_ticksOne_75 : decode cX9_ticksOne 75 = .ok (.iastore, 1) := by decide +kernel
theorem dX9_ticksOne_76 : decode cX9_ticksOne 76 = .ok (.goto 9, 3) := by decide +kernel
theorem dX9_ticksOne_79 : decode cX9_ticksOne 79 = .ok (.aload_n 0, 1) := by decide +kernel
theorem dX9_ticksOne_80 : decode cX9_ticksOne 80 = .ok (.iload_n 1, 1) := by decide +kernel
theorem dX9_ticksOne_81 : decode cX9_ticksOne 81 = .ok (.iload_n 3, 1) := by decide +kernel
theorem dX9_ticksOne_82 : decode cX9_ticksOne 82 = .ok (.invokevirtual 171, 3) := by decide +kernel
theorem dX9_ticksOne_85 : decode cX9_ticksOne 85 = .ok (.iinc 2 1, 3) := by decide +kernel
theorem dX9_ticksOne_88 : decode cX9_ticksOne 88 = .ok (.goto (-70), 3) := by decide +kernel
theorem dX9_ticksOne_91 : decode cX9_ticksOne 91 = .ok (.iinc 1 1, 3) := by decide +kernel
theorem dX9_ticksOne_94 : decode cX9_ticksOne 94 = .ok (.goto (-88), 3) := by decide +kernel
theorem dX9_ticksOne_97 : decode cX9_ticksOne 97 = .ok (.aload_n 0, 1) := by decide +kernel
theorem dX9_ticksOne_98 : decode cX9_ticksOne 98 = .ok (.getfield 43, 3) := by decide +kernel
theorem dX9_ticksOne_101 : decode cX9_ticksOne 101 = .ok (.ldc 174, 2) := by decide +kernel
theorem dX9_ticksOne_103 : decode cX9_ticksOne 103 = .ok (.fmul, 1) := by decide +kernel
theorem dX9_ticksOne_104 : decode cX9_ticksOne 104 = .ok (.fstore_n 1, 1) := by decide +kernel
theorem dX9_ticksOne_105 : decode cX9_ticksOne 105 = .ok (.aload_n 0, 1) := by decide +kernel
theorem dX9_ticksOne_106 : decode cX9_ticksOne 106 = .ok (.getfield 7, 3) := by decide +kernel
theorem dX9_ticksOne_109 : decode cX9_ticksOne 109 = .ok (.iconst 2, 1) := by decide +kernel
theorem dX9_ticksOne_110 : decode cX9_ticksOne 110 = .ok (.iaload, 1) := by decide +kernel
theorem dX9_ticksOne_111 : decode cX9_ticksOne 111 = .ok (.aload_n 0, 1) := by decide +kernel
theorem dX9_ticksOne_112 : decode cX9_ticksOne 112 = .ok (.getfield 7, 3) := by decide +kernel
theorem dX9_ticksOne_115 : decode cX9_ticksOne 115 = .ok (.bipush 6, 2) := by decide +kernel
theorem dX9_ticksOne_117 : decode cX9_ticksOne 117 = .ok (.iaload, 1) := by decide +kernel
theorem dX9_ticksOne_118 : decode cX9_ticksOne 118 = .ok (.isub, 1) := by decide +kernel
theorem dX9_ticksOne_119 : decode cX9_ticksOne 119 = .ok (.i2f, 1) := by decide +kernel
theorem dX9_ticksOne_120 : decode cX9_ticksOne 120 = .ok (.ldc 175, 2) := by decide +kernel
theorem dX9_ticksOne_122 : decode cX9_ticksOne 122 = .ok (.fmul, 1) := by decide +kernel
theorem dX9_ticksOne_123 : decode cX9_ticksOne 123 = .ok (.fstore_n 2, 1) := by decide +kernel
theorem dX9_ticksOne_124 : decode cX9_ticksOne 124 = .ok (.aload_n 0, 1) := by decide +kernel
theorem dX9_ticksOne_125 : decode cX9_ticksOne 125 = .ok (.fload_n 1, 1) := by decide +kernel
theorem dX9_ticksOne_126 : decode cX9_ticksOne 126 = .ok (.fload_n 2, 1) := by decide +kernel
theorem dX9_ticksOne_127 : decode cX9_ticksOne 127 = .ok (.fadd, 1) := by decide +kernel
theorem dX9_ticksOne_128 : decode cX9_ticksOne 128 = .ok (.putfield 43, 3) := by decide +kernel
theorem dX9_ticksOne_131 : decode cX9_ticksOne 131 = .ok (.aload_n 0, 1) := by decide +kernel
theorem dX9_ticksOne_132 : decode cX9_ticksOne 132 = .ok (.getfield 7, 3) := by decide +kernel
theorem dX9_ticksOne_135 : decode cX9_ticksOne 135 = .ok (.bipush 6, 2) := by decide +kernel
theorem dX9_ticksOne_137 : decode cX9_ticksOne 137 = .ok (.aload_n 0, 1) := by decide +kernel
theorem dX9_ticksOne_138 : decode cX9_ticksOne 138 = .ok (.getfield 7, 3) := by decide +kernel
theorem dX9_ticksOne_141 : decode cX9_ticksOne 141 = .ok (.iconst 2, 1) := by decide +kernel
theorem dX9_ticksOne_142 : decode cX9_ticksOne 142 = .ok (.iaload, 1) := by decide +kernel
theorem dX9_ticksOne_143 : decode cX9_ticksOne 143 = .ok (.iastore, 1) := by decide +kernel
theorem dX9_ticksOne_144 : decode cX9_ticksOne 144 = .ok (.return_, 1) := by decide +kernel
theorem dX9_tickNow_0 : decode cX9_tickNow 0 = .ok (.aload_n 0, 1) := by decide +kernel
theorem dX9_tickNow_1 : decode cX9_tickNow 1 = .ok (.getfield 7, 3) := by decide +kernel
theorem dX9_tickNow_4 : decode cX9_tickNow 4 = .ok (.iconst 2, 1) := by decide +kernel
theorem dX9_tickNow_5 : decode cX9_tickNow 5 = .ok (.iaload, 1) := by decide +kernel
theorem dX9_tickNow_6 : decode cX9_tickNow 6 = .ok (.istore_n 2, 1) := by decide +kernel
theorem dX9_tickNow_7 : decode cX9_tickNow 7 = .ok (.iconst 0, 1) := by decide +kernel
theorem dX9_tickNow_8 : decode cX9_tickNow 8 = .ok (.istore_n 3, 1) := by decide +kernel
theorem dX9_tickNow_9 : decode cX9_tickNow 9 = .ok (.iload_n 3, 1) := by decide +kernel
theorem dX9_tickNow_10 : decode cX9_tickNow 10 = .ok (.iload_n 1, 1) := by decide +kernel
theorem dX9_tickNow_11 : decode cX9_tickNow 11 = .ok (.if_icmp .ge 13, 3) := by decide +kernel
theorem dX9_tickNow_14 : decode cX9_tickNow 14 = .ok (.aload_n 0, 1) := by decide +kernel
theorem dX9_tickNow_15 : decode cX9_tickNow 15 = .ok (.invokevirtual 176, 3) := by decide +kernel
theorem dX9_tickNow_18 : decode cX9_tickNow 18 = .ok (.iinc 3 1, 3) := by decide +kernel
theorem dX9_tickNow_21 : decode cX9_tickNow 21 = .ok (.goto (-12), 3) := by decide +kernel
theorem dX9_tickNow_24 : decode cX9_tickNow 24 = .ok (.aload_n 0, 1) := by decide +kernel
theorem dX9_tickNow_25 : decode cX9_tickNow 25 = .ok (.getfield 7, 3) := by decide +kernel
theorem dX9_tickNow_28 : decode cX9_tickNow 28 = .ok (.iconst 2, 1) := by decide +kernel
theorem dX9_tickNow_29 : decode cX9_tickNow 29 = .ok (.iaload, 1) := by decide +kernel
theorem dX9_tickNow_30 : decode cX9_tickNow 30 = .ok (.iload_n 2, 1) := by decide +kernel
theorem dX9_tickNow_31 : decode cX9_tickNow 31 = .ok (.isub, 1) := by decide +kernel
theorem dX9_tickNow_32 : decode cX9_tickNow 32 = .ok (.ireturn, 1) := by decide +kernel
theorem dX9_ticks_0 : decode cX9_ticks 0 = .ok (.iload_n 1, 1) := by decide +kernel
theorem dX9_ticks_1 : decode cX9_ticks 1 = .ok (.i2l, 1) := by decide +kernel
theorem dX9_ticks_2 : decode cX9_ticks 2 = .ok (.lconst 1, 1) := by decide +kernel
theorem dX9_ticks_3 : decode cX9_ticks 3 = .ok (.ldc2_w 120, 3) := by decide +kernel
theorem dX9_ticks_6 : decode cX9_ticks 6 = .ok (.invokestatic 47, 3) := by decide +kernel
theorem dX9_ticks_9 : decode cX9_ticks 9 = .ok (.ifCond .ne 10, 3) := by decide +kernel
theorem dX9_ticks_12 : decode cX9_ticks 12 = .ok (.aload_n 0, 1) := by decide +kernel
theorem dX9_ticks_13 : decode cX9_ticks 13 = .ok (.bipush (-2), 2) := by decide +kernel
theorem dX9_ticks_15 : decode cX9_ticks 15 = .ok (.invokevirtual 97, 3) := by decide +kernel
theorem dX9_ticks_18 : decode cX9_ticks 18 = .ok (.ireturn, 1) := by decide +kernel
theorem dX9_ticks_19 : decode cX9_ticks 19 = .ok (.aload_n 0, 1) := by decide +kernel
theorem dX9_ticks_20 : decode cX9_ticks 20 = .ok (.invokevirtual 100, 3) := by decide +kernel
theorem dX9_ticks_23 : decode cX9_ticks 23 = .ok (.aload_n 0, 1) := by decide +kernel
theorem dX9_ticks_24 : decode cX9_ticks 24 = .ok (.iload_n 1, 1) := by decide +kernel
theorem dX9_ticks_25 : decode cX9_ticks 25 = .ok (.invokevirtual 179, 3) := by decide +kernel
theorem dX9_ticks_28 : decode cX9_ticks 28 = .ok (.ireturn, 1) := by decide +kernel
theorem dX9_rateBits_0 : decode cX9_rateBits 0 = .ok (.aload_n 0, 1) := by decide +kernel
theorem dX9_rateBits_1 : decode cX9_rateBits 1 = .ok (.getfield 43, 3) := by decide +kernel
theorem dX9_rateBits_4 : decode cX9_rateBits 4 = .ok (.invokestatic 182, 3) := by decide +kernel
theorem dX9_rateBits_7 : decode cX9_rateBits 7 = .ok (.ireturn, 1) := by decide +kernel
theorem dX9_rate_0 : decode cX9_rate 0 = .ok (.aload_n 0, 1) := by decide +kernel
theorem dX9_rate_1 : decode cX9_rate 1 = .ok (.invokevirtual 188, 3) := by decide +kernel
theorem dX9_rate_4 : decode cX9_rate 4 = .ok (.ireturn, 1) := by decide +kernel
theorem dX9_canAsk_0 : decode cX9_canAsk 0 = .ok (.aload_n 0, 1) := by decide +kernel
theorem dX9_canAsk_1 : decode cX9_canAsk 1 = .ok (.iload_n 1, 1) := by decide +kernel
theorem dX9_canAsk_2 : decode cX9_canAsk 2 = .ok (.invokevirtual 110, 3) := by decide +kernel
theorem dX9_canAsk_5 : decode cX9_canAsk 5 = .ok (.ifCond .eq 11, 3) := by decide +kernel
theorem dX9_canAsk_8 : decode cX9_canAsk 8 = .ok (.iload_n 2, 1) := by decide +kernel
theorem dX9_canAsk_9 : decode cX9_canAsk 9 = .ok (.iload_n 3, 1) := by decide +kernel
theorem dX9_canAsk_10 : decode cX9_canAsk 10 = .ok (.invokestatic 113, 3) := by decide +kernel
theorem dX9_canAsk_13 : decode cX9_canAsk 13 = .ok (.ifCond .ne 8, 3) := by decide +kernel
theorem dX9_canAsk_16 : decode cX9_canAsk 16 = .ok (.bipush (-2), 2) := by decide +kernel
theorem dX9_canAsk_18 : decode cX9_canAsk 18 = .ok (.goto 17, 3) := by decide +kernel
theorem dX9_canAsk_21 : decode cX9_canAsk 21 = .ok (.aload_n 0, 1) := by decide +kernel
theorem dX9_canAsk_22 : decode cX9_canAsk 22 = .ok (.iload_n 1, 1) := by decide +kernel
theorem dX9_canAsk_23 : decode cX9_canAsk 23 = .ok (.invokevirtual 59, 3) := by decide +kernel
theorem dX9_canAsk_26 : decode cX9_canAsk 26 = .ok (.ifCond .eq 7, 3) := by decide +kernel
theorem dX9_canAsk_29 : decode cX9_canAsk 29 = .ok (.iconst 0, 1) := by decide +kernel
theorem dX9_canAsk_30 : decode cX9_canAsk 30 = .ok (.goto 5, 3) := by decide +kernel
theorem dX9_canAsk_33 : decode cX9_canAsk 33 = .ok (.bipush (-3), 2) := by decide +kernel
theorem dX9_canAsk_35 : decode cX9_canAsk 35 = .ok (.ireturn, 1) := by decide +kernel
theorem dX9_askNow_0 : decode cX9_askNow 0 = .ok (.aload_n 0, 1) := by decide +kernel
theorem dX9_askNow_1 : decode cX9_askNow 1 = .ok (.getfield 7, 3) := by decide +kernel
theorem dX9_askNow_4 : decode cX9_askNow 4 = .ok (.iconst 2, 1) := by decide +kernel
theorem dX9_askNow_5 : decode cX9_askNow 5 = .ok (.iaload, 1) := by decide +kernel
theorem dX9_askNow_6 : decode cX9_askNow 6 = .ok (.istore 4, 2) := by decide +kernel
theorem dX9_askNow_8 : decode cX9_askNow 8 = .ok (.iconst 0, 1) := by decide +kernel
theorem dX9_askNow_9 : decode cX9_askNow 9 = .ok (.istore 5, 2) := by decide +kernel
theorem dX9_askNow_11 : decode cX9_askNow 11 = .ok (.iload 5, 2) := by decide +kernel
theorem dX9_askNow_13 : decode cX9_askNow 13 = .ok (.sipush 256, 3) := by decide +kernel
theorem dX9_askNow_16 : decode cX9_askNow 16 = .ok (.if_icmp .ge 17, 3) := by decide +kernel
theorem dX9_askNow_19 : decode cX9_askNow 19 = .ok (.aload_n 0, 1) := by decide +kernel
theorem dX9_askNow_20 : decode cX9_askNow 20 = .ok (.getfield 26, 3) := by decide +kernel
theorem dX9_askNow_23 : decode cX9_askNow 23 = .ok (.iload 5, 2) := by decide +kernel
theorem dX9_askNow_25 : decode cX9_askNow 25 = .ok (.iconst 0, 1) := by decide +kernel
theorem dX9_askNow_26 : decode cX9_askNow 26 = .ok (.bastore, 1) := by decide +kernel
theorem dX9_askNow_27 : decode cX9_askNow 27 = .ok (.iinc 5 1, 3) := by decide +kernel
theorem dX9_askNow_30 : decode cX9_askNow 30 = .ok (.goto (-19), 3) := by decide +kernel
theorem dX9_askNow_33 : decode cX9_askNow 33 = .ok (.iconst 0, 1) := by decide +kernel
theorem dX9_askNow_34 : decode cX9_askNow 34 = .ok (.istore 5, 2) := by decide +kernel
theorem dX9_askNow_36 : decode cX9_askNow 36 = .ok (.iload 5, 2) := by decide +kernel
theorem dX9_askNow_38 : decode cX9_askNow 38 = .ok (.aload_n 0, 1) := by decide +kernel
theorem dX9_askNow_39 : decode cX9_askNow 39 = .ok (.iload_n 1, 1) := by decide +kernel
theorem dX9_askNow_40 : decode cX9_askNow 40 = .ok (.invokevirtual 70, 3) := by decide +kernel
theorem dX9_askNow_43 : decode cX9_askNow 43 = .ok (.if_icmp .ge 121, 3) := by decide +kernel
theorem dX9_askNow_46 : decode cX9_askNow 46 = .ok (.iload_n 1, 1) := by decide +kernel
theorem dX9_askNow_47 : decode cX9_askNow 47 = .ok (.iload 5, 2) := by decide +kernel
theorem dX9_askNow_49 : decode cX9_askNow 49 = .ok (.invokestatic 67, 3) := by decide +kernel
theorem dX9_askNow_52 : decode cX9_askNow 52 = .ok (.istore 6, 2) := by decide +kernel
theorem dX9_askNow_54 : decode cX9_askNow 54 = .ok (.aload_n 0, 1) := by decide +kernel
theorem dX9_askNow_55 : decode cX9_askNow 55 = .ok (.getfield 7, 3) := by decide +kernel
theorem dX9_askNow_58 : decode cX9_askNow 58 = .ok (.iload 6, 2) := by decide +kernel
theorem dX9_askNow_60 : decode cX9_askNow 60 = .ok (.iconst 0, 1) := by decide +kernel
theorem dX9_askNow_61 : decode cX9_askNow 61 = .ok (.iadd, 1) := by decide +kernel
theorem dX9_askNow_62 : decode cX9_askNow 62 = .ok (.iaload, 1) := by decide +kernel
theorem dX9_askNow_63 : decode cX9_askNow 63 = .ok (.iload_n 2, 1) := by decide +kernel
theorem dX9_askNow_64 : decode cX9_askNow 64 = .ok (.if_icmp .ne 20, 3) := by decide +kernel
theorem dX9_askNow_67 : decode cX9_askNow 67 = .ok (.aload_n 0, 1) := by decide +kernel
theorem dX9_askNow_68 : decode cX9_askNow 68 = .ok (.getfield 7, 3) := by decide +kernel
theorem dX9_askNow_71 : decode cX9_askNow 71 = .ok (.iload 6, 2) := by decide +kernel
theorem dX9_askNow_73 : decode cX9_askNow 73 = .ok (.iconst 1, 1) := by decide +kernel
theorem dX9_askNow_74 : decode cX9_askNow 74 = .ok (.iadd, 1) := by decide +kernel
theorem dX9_askNow_75 : decode cX9_askNow 75 = .ok (.iaload, 1) := by decide +kernel
theorem dX9_askNow_76 : decode cX9_askNow 76 = .ok (.iload_n 3, 1) := by decide +kernel
theorem dX9_askNow_77 : decode cX9_askNow 77 = .ok (.if_icmp .ne 7, 3) := by decide +kernel
theorem dX9_askNow_80 : decode cX9_askNow 80 = .ok (.iconst 1, 1) := by decide +kernel
theorem dX9_askNow_81 : decode cX9_askNow 81 = .ok (.goto 4, 3) := by decide +kernel
theorem dX9_askNow_84 : decode cX9_askNow 84 = .ok (.iconst 0, 1) := by decide +kernel
theorem dX9_askNow_85 : decode cX9_askNow 85 = .ok (.istore 7, 2) := by decide +kernel
theorem dX9_askNow_87 : decode cX9_askNow 87 = .ok (.aload_n 0, 1) := by decide +kernel
theorem dX9_askNow_88 : decode cX9_askNow 88 = .ok (.getfield 26, 3) := by decide +kernel
theorem dX9_askNow_91 : decode cX9_askNow 91 = .ok (.aload_n 0, 1) := by decide +kernel
theorem dX9_askNow_92 : decode cX9_askNow 92 = .ok (.getfield 7, 3) := by decide +kernel
theorem dX9_askNow_95 : decode cX9_askNow 95 = .ok (.iload 6, 2) := by decide +kernel
theorem dX9_askNow_97 : decode cX9_askNow 97 = .ok (.iconst 2, 1) := by decide +kernel
theorem dX9_askNow_98 : decode cX9_askNow 98 = .ok (.iadd, 1) := by decide +kernel
theorem dX9_askNow_99 : decode cX9_askNow 99 = .ok (.iaload, 1) := by decide +kernel
theorem dX9_askNow_100 : decode cX9_askNow 100 = .ok (.aload_n 0, 1) := by decide +kernel
theorem dX9_askNow_101 : decode cX9_askNow 101 = .ok (.getfield 26, 3) := by decide +kernel
theorem dX9_askNow_104 : decode cX9_askNow 104 = .ok (.aload_n 0, 1) := by decide +kernel
theorem dX9_askNow_105 : decode cX9_askNow 105 = .ok (.getfield 7, 3) := by decide +kernel
theorem dX9_askNow_108 : decode cX9_askNow 108 = .ok (.iload 6, 2) := by decide +kernel
theorem dX9_askNow_110 : decode cX9_askNow 110 = .ok (.iconst 2, 1) := by decide +kernel
theorem dX9_askNow_111 : decode cX9_askNow 111 = .ok (.iadd, 1) := by decide +kernel
theorem dX9_askNow_112 : decode cX9_askNow 112 = .ok (.iaload, 1) := by decide +kernel
theorem dX9_askNow_113 : decode cX9_askNow 113 = .ok (.baload, 1) := by decide +kernel
theorem dX9_askNow_114 : decode cX9_askNow 114 = .ok (.ifCond .ne 38, 3) := by decide +kernel
theorem dX9_askNow_117 : decode cX9_askNow 117 = .ok (.iload 7, 2) := by decide +kernel
theorem dX9_askNow_119 : decode cX9_askNow 119 = .ok (.ifCond .eq 37, 3) := by decide +kernel
theorem dX9_askNow_122 : decode cX9_askNow 122 = .ok (.iconst 2, 1) := by decide +kernel
theorem dX9_askNow_123 : decode cX9_askNow 123 = .ok (.aload_n 0, 1) := by decide +kernel
theorem dX9_askNow_124 : decode cX9_askNow 124 = .ok (.getfield 7, 3) := by decide +kernel
theorem dX9_askNow_127 : decode cX9_askNow 127 = .ok (.iload 6, 2) := by decide +kernel
theorem dX9_askNow_129 : decode cX9_askNow 129 = .ok (.iconst 4, 1) := by decide +kernel
theorem dX9_askNow_130 : decode cX9_askNow 130 = .ok (.iadd, 1) := by decide +kernel
theorem dX9_askNow_131 : decode cX9_askNow 131 = .ok (.iaload, 1) := by decide +kernel
theorem dX9_askNow_132 : decode cX9_askNow 132 = .ok (.aload_n 0, 1) := by decide +kernel
theorem dX9_askNow_133 : decode cX9_askNow 133 = .ok (.getfield 7, 3) := by decide +kernel
theorem dX9_askNow_136 : decode cX9_askNow 136 = .ok (.iconst 1, 1) := by decide +kernel
theorem dX9_askNow_137 : decode cX9_askNow 137 = .ok (.iaload, 1) := by decide +kernel
theorem dX9_askNow_138 : decode cX9_askNow 138 = .ok (.isub, 1) := by decide +kernel
theorem dX9_askNow_139 : decode cX9_askNow 139 = .ok (.imul, 1) := by decide +kernel
theorem dX9_askNow_140 : decode cX9_askNow 140 = .ok (.aload_n 0, 1) := by decide +kernel
theorem dX9_askNow_141 : decode cX9_askNow 141 = .ok (.getfield 7, 3) := by decide +kernel
theorem dX9_askNow_144 : decode cX9_askNow 144 = .ok (.iload 6, 2) := by decide +kernel
theorem dX9_askNow_146 : decode cX9_askNow 146 = .ok (.iconst 3, 1) := by decide +kernel
theorem dX9_askNow_147 : decode cX9_askNow 147 = .ok (.iadd, 1) := by decide +kernel
theorem dX9_askNow_148 : decode cX9_askNow 148 = .ok (.iaload, 1) := by decide +kernel
theorem dX9_askNow_149 : decode cX9_askNow 149 = .ok (.if_icmp .lt 7, 3) := by decide +kernel
theorem dX9_askNow_152 : decode cX9_askNow 152 = .ok (.iconst 1, 1) := by decide +kernel
theorem dX9_askNow_153 : decode cX9_askNow 153 = .ok (.goto 4, 3) := by decide +kernel
theorem dX9_askNow_156 : decode cX9_askNow 156 = .ok (.iconst 0, 1) := by decide +kernel
theorem dX9_askNow_157 : decode cX9_askNow 157 = .ok (.bastore, 1) := by decide +kernel
theorem dX9_askNow_158 : decode cX9_askNow 158 = .ok (.iinc 5 1, 3) := by decide +kernel
theorem dX9_askNow_161 : decode cX9_askNow 161 = .ok (.goto (-125), 3) := by decide +kernel
theorem dX9_askNow_164 : decode cX9_askNow 164 = .ok (.iconst 0, 1) := by decide +kernel
theorem dX9_askNow_165 : decode cX9_askNow 165 = .ok (.istore 5, 2) := by decide +kernel
theorem dX9_askNow_167 : decode cX9_askNow 167 = .ok (.iload 5, 2) := by decide +kernel
theorem dX9_askNow_169 : decode cX9_askNow 169 = .ok (.aload_n 0, 1) := by decide +kernel
theorem dX9_askNow_170 : decode cX9_askNow 170 = .ok (.getfield 7, 3) := by decide +kernel
theorem dX9_askNow_173 : decode cX9_askNow 173 = .ok (.iconst 0, 1) := by decide +kernel
theorem dX9_askNow_174 : decode cX9_askNow 174 = .ok (.iaload, 1) := by decide +kernel
theorem dX9_askNow_175 : decode cX9_askNow 175 = .ok (.if_icmp .ge 185, 3) := by decide +kernel
theorem dX9_askNow_178 : decode cX9_askNow 178 = .ok (.aload_n 0, 1) := by decide +kernel
theorem dX9_askNow_179 : decode cX9_askNow 179 = .ok (.iload 5, 2) := by decide +kernel
theorem dX9_askNow_181 : decode cX9_askNow 181 = .ok (.invokevirtual 59, 3) := by decide +kernel
theorem dX9_askNow_184 : decode cX9_askNow 184 = .ok (.ifCond .eq 8, 3) := by decide +kernel
theorem dX9_askNow_187 : decode cX9_askNow 187 = .ok (.iload 5, 2) := by decide +kernel
theorem dX9_askNow_189 : decode cX9_askNow 189 = .ok (.goto 9, 3) := by decide +kernel
theorem dX9_askNow_192 : decode cX9_askNow 192 = .ok (.aload_n 0, 1) := by decide +kernel
theorem dX9_askNow_193 : decode cX9_askNow 193 = .ok (.iload 5, 2) := by decide +kernel
theorem dX9_askNow_195 : decode cX9_askNow 195 = .ok (.invokevirtual 63, 3) := by decide +kernel
theorem dX9_askNow_198 : decode cX9_askNow 198 = .ok (.istore 6, 2) := by decide +kernel
theorem dX9_askNow_200 : decode cX9_askNow 200 = .ok (.iload 5, 2) := by decide +kernel
theorem dX9_askNow_202 : decode cX9_askNow 202 = .ok (.iload_n 1, 1) := by decide +kernel
theorem dX9_askNow_203 : decode cX9_askNow 203 = .ok (.if_icmp .eq 22, 3) := by decide +kernel
theorem dX9_askNow_206 : decode cX9_askNow 206 = .ok (.iload 6, 2) := by decide +kernel
theorem dX9_askNow_208 : decode cX9_askNow 208 = .ok (.iconst (-1), 1) := by decide +kernel
theorem dX9_askNow_209 : decode cX9_askNow 209 = .ok (.if_icmp .eq 16, 3) := by decide +kernel
theorem dX9_askNow_212 : decode cX9_askNow 212 = .ok (.aload_n 0, 1) := by decide +kernel
theorem dX9_askNow_213 : decode cX9_askNow 213 = .ok (.iload 6, 2) := by decide +kernel
theorem dX9_askNow_215 : decode cX9_askNow 215 = .ok (.invokevirtual 59, 3) := by decide +kernel
theorem dX9_askNow_218 : decode cX9_askNow 218 = .ok (.ifCond .eq 7, 3) := by decide +kernel
theorem dX9_askNow_221 : decode cX9_askNow 221 = .ok (.iconst 1, 1) := by decide +kernel
theorem dX9_askNow_222 : decode cX9_askNow 222 = .ok (.goto 4, 3) := by decide +kernel
theorem dX9_askNow_225 : decode cX9_askNow 225 = .ok (.iconst 0, 1) := by decide +kernel
theorem dX9_askNow_226 : decode cX9_askNow 226 = .ok (.istore 7, 2) := by decide +kernel
theorem dX9_askNow_228 : decode cX9_askNow 228 = .ok (.iconst 0, 1) := by decide +kernel
theorem dX9_askNow_229 : decode cX9_askNow 229 = .ok (.istore 8, 2) := by decide +kernel
theorem dX9_askNow_231 : decode cX9_askNow 231 = .ok (.iload 8, 2) := by decide +kernel
theorem dX9_askNow_233 : decode cX9_askNow 233 = .ok (.aload_n 0, 1) := by decide +kernel
theorem dX9_askNow_234 : decode cX9_askNow 234 = .ok (.iload 5, 2) := by decide +kernel
theorem dX9_askNow_236 : decode cX9_askNow 236 = .ok (.invokevirtual 73, 3) := by decide +kernel
theorem dX9_askNow_239 : decode cX9_askNow 239 = .ok (.if_icmp .ge 115, 3) := by decide +kernel
theorem dX9_askNow_242 : decode cX9_askNow 242 = .ok (.iload 7, 2) := by decide +kernel
theorem dX9_askNow_244 : decode cX9_askNow 244 = .ok (.ifCond .eq 110, 3) := by decide +kernel
theorem dX9_askNow_247 : decode cX9_askNow 247 = .ok (.iload 5, 2) := by decide +kernel
theorem dX9_askNow_249 : decode cX9_askNow 249 = .ok (.iload 8, 2) := by decide +kernel
theorem dX9_askNow_251 : decode cX9_askNow 251 = .ok (.invokestatic 55, 3) := by decide +kernel
theorem dX9_askNow_254 : decode cX9_askNow 254 = .ok (.istore 9, 2) := by decide +kernel
theorem dX9_askNow_256 : decode cX9_askNow 256 = .ok (.aload_n 0, 1) := by decide +kernel
theorem dX9_askNow_257 : decode cX9_askNow 257 = .ok (.getfield 7, 3) := by decide +kernel
theorem dX9_askNow_260 : decode cX9_askNow 260 = .ok (.iload 9, 2) := by decide +kernel
theorem dX9_askNow_262 : decode cX9_askNow 262 = .ok (.iconst 4, 1) := by decide +kernel
theorem dX9_askNow_263 : decode cX9_askNow 263 = .ok (.iadd, 1) := by decide +kernel
theorem dX9_askNow_264 : decode cX9_askNow 264 = .ok (.iaload, 1) := by decide +kernel
theorem dX9_askNow_265 : decode cX9_askNow 265 = .ok (.iconst 3, 1) := by decide +kernel
theorem dX9_askNow_266 : decode cX9_askNow 266 = .ok (.if_icmp .ne 82, 3) := by decide +kernel
theorem dX9_askNow_269 : decode cX9_askNow 269 = .ok (.aload_n 0, 1) := by decide +kernel
theorem dX9_askNow_270 : decode cX9_askNow 270 = .ok (.getfield 7, 3) := by decide +kernel
theorem dX9_askNow_273 : decode cX9_askNow 273 = .ok (.iload 9, 2) := by decide +kernel
theorem dX9_askNow_275 : decode cX9_askNow 275 = .ok (.iconst 0, 1) := by decide +kernel
theorem dX9_askNow_276 : decode cX9_askNow 276 = .ok (.iadd, 1) := by decide +kernel
theorem dX9_askNow_277 : decode cX9_askNow 277 = .ok (.iaload, 1) := by decide +kernel
theorem dX9_askNow_278 : decode cX9_askNow 278 = .ok (.iload_n 2, 1) := by decide +kernel
theorem dX9_askNow_279 : decode cX9_askNow 279 = .ok (.if_icmp .ne 69, 3) := by decide +kernel
theorem dX9_askNow_282 : decode cX9_askNow 282 = .ok (.aload_n 0, 1) := by decide +kernel
theorem dX9_askNow_283 : decode cX9_askNow 283 = .ok (.getfield 7, 3) := by decide +kernel
theorem dX9_askNow_286 : decode cX9_askNow 286 = .ok (.iload 9, 2) := by decide +kernel
theorem dX9_askNow_288 : decode cX9_askNow 288 = .ok (.iconst 1, 1) := by decide +kernel
theorem dX9_askNow_289 : decode cX9_askNow 289 = .ok (.iadd, 1) := by decide +kernel
theorem dX9_askNow_290 : decode cX9_askNow 290 = .ok (.iaload, 1) := by decide +kernel
theorem dX9_askNow_291 : decode cX9_askNow 291 = .ok (.iload_n 3, 1) := by decide +kernel
theorem dX9_askNow_292 : decode cX9_askNow 292 = .ok (.if_icmp .ne 56, 3) := by decide +kernel
theorem dX9_askNow_295 : decode cX9_askNow 295 = .ok (.aload_n 0, 1) := by decide +kernel
theorem dX9_askNow_296 : decode cX9_askNow 296 = .ok (.getfield 26, 3) := by decide +kernel
theorem dX9_askNow_299 : decode cX9_askNow 299 = .ok (.aload_n 0, 1) := by decide +kernel
theorem dX9_askNow_300 : decode cX9_askNow 300 = .ok (.getfield 7, 3) := by decide +kernel
theorem dX9_askNow_303 : decode cX9_askNow 303 = .ok (.iload 9, 2) := by decide +kernel
theorem dX9_askNow_305 : decode cX9_askNow 305 = .ok (.iconst 2, 1) := by decide +kernel
theorem dX9_askNow_306 : decode cX9_askNow 306 = .ok (.iadd, 1) := by decide +kernel
theorem dX9_askNow_307 : decode cX9_askNow 307 = .ok (.iaload, 1) := by decide +kernel
theorem dX9_askNow_308 : decode cX9_askNow 308 = .ok (.baload, 1) := by decide +kernel
theorem dX9_askNow_309 : decode cX9_askNow 309 = .ok (.ifCond .eq 16, 3) := by decide +kernel
theorem dX9_askNow_312 : decode cX9_askNow 312 = .ok (.aload_n 0, 1) := by decide +kernel
theorem dX9_askNow_313 : decode cX9_askNow 313 = .ok (.getfield 7, 3) := by decide +kernel
theorem dX9_askNow_316 : decode cX9_askNow 316 = .ok (.iconst 5, 1) := by decide +kernel
theorem dX9_askNow_317 : decode cX9_askNow 317 = .ok (.dup2, 1) := by decide +kernel
theorem dX9_askNow_318 : decode cX9_askNow 318 = .ok (.iaload, 1) := by decide +kernel
theorem dX9_askNow_319 : decode cX9_askNow 319 = .ok (.iconst 1, 1) := by decide +kernel
theorem dX9_askNow_320 : decode cX9_askNow 320 = .ok (.iadd, 1) := by decide +kernel
theorem dX9_askNow_321 : decode cX9_askNow 321 = .ok (.iastore, 1) := by decide +kernel
theorem dX9_askNow_322 : decode cX9_askNow 322 = .ok (.goto 26, 3) := by decide +kernel
theorem dX9_askNow_325 : decode cX9_askNow 325 = .ok (.aload_n 0, 1) := by decide +kernel
theorem dX9_askNow_326 : decode cX9_askNow 326 = .ok (.getfield 26, 3) := by decide +kernel
theorem dX9_askNow_329 : decode cX9_askNow 329 = .ok (.aload_n 0, 1) := by decide +kernel
theorem dX9_askNow_330 : decode cX9_askNow 330 = .ok (.getfield 7, 3) := by decide +kernel
theorem dX9_askNow_333 : decode cX9_askNow 333 = .ok (.iload 9, 2) := by decide +kernel
theorem dX9_askNow_335 : decode cX9_askNow 335 = .ok (.iconst 2, 1) := by decide +kernel
theorem dX9_askNow_336 : decode cX9_askNow 336 = .ok (.iadd, 1) := by decide +kernel
theorem dX9_askNow_337 : decode cX9_askNow 337 = .ok (.iaload, 1) := by decide +kernel
theorem dX9_askNow_338 : decode cX9_askNow 338 = .ok (.iconst 1, 1) := by decide +kernel
theorem dX9_askNow_339 : decode cX9_askNow 339 = .ok (.bastore, 1) := by decide +kernel
theorem dX9_askNow_340 : decode cX9_askNow 340 = .ok (.aload_n 0, 1) := by decide +kernel
theorem dX9_askNow_341 : decode cX9_askNow 341 = .ok (.iload 6, 2) := by decide +kernel
theorem dX9_askNow_343 : decode cX9_askNow 343 = .ok (.iload 9, 2) := by decide +kernel
theorem dX9_askNow_345 : decode cX9_askNow 345 = .ok (.invokevirtual 122, 3) := by decide +kernel
theorem dX9_askNow_348 : decode cX9_askNow 348 = .ok (.iinc 8 1, 3) := by decide +kernel
theorem dX9_askNow_351 : decode cX9_askNow 351 = .ok (.goto (-120), 3) := by decide +kernel
theorem dX9_askNow_354 : decode cX9_askNow 354 = .ok (.iinc 5 1, 3) := by decide +kernel
theorem dX9_askNow_357 : decode cX9_askNow 357 = .ok (.goto (-190), 3) := by decide +kernel
theorem dX9_askNow_360 : decode cX9_askNow 360 = .ok (.aload_n 0, 1) := by decide +kernel
theorem dX9_askNow_361 : decode cX9_askNow 361 = .ok (.getfield 7, 3) := by decide +kernel
theorem dX9_askNow_364 : decode cX9_askNow 364 = .ok (.iconst 2, 1) := by decide +kernel
theorem dX9_askNow_365 : decode cX9_askNow 365 = .ok (.iaload, 1) := by decide +kernel
theorem dX9_askNow_366 : decode cX9_askNow 366 = .ok (.iload 4, 2) := by decide +kernel
theorem dX9_askNow_368 : decode cX9_askNow 368 = .ok (.isub, 1) := by decide +kernel
theorem dX9_askNow_369 : decode cX9_askNow 369 = .ok (.ireturn, 1) := by decide +kernel
theorem dX9_asks_0 : decode cX9_asks 0 = .ok (.aload_n 0, 1) := by decide +kernel
theorem dX9_asks_1 : decode cX9_asks 1 = .ok (.iload_n 1, 1) := by decide +kernel
theorem dX9_asks_2 : decode cX9_asks 2 = .ok (.iload_n 2, 1) := by decide +kernel
theorem dX9_asks_3 : decode cX9_asks 3 = .ok (.iload_n 3, 1) := by decide +kernel
theorem dX9_asks_4 : decode cX9_asks 4 = .ok (.invokevirtual 191, 3) := by decide +kernel
theorem dX9_asks_7 : decode cX9_asks 7 = .ok (.istore 4, 2) := by decide +kernel
theorem dX9_asks_9 : decode cX9_asks 9 = .ok (.iload 4, 2) := by decide +kernel
theorem dX9_asks_11 : decode cX9_asks 11 = .ok (.ifCond .ge 10, 3) := by decide +kernel
theorem dX9_asks_14 : decode cX9_asks 14 = .ok (.aload_n 0, 1) := by decide +kernel
theorem dX9_asks_15 : decode cX9_asks 15 = .ok (.iload 4, 2) := by decide +kernel
theorem dX9_asks_17 : decode cX9_asks 17 = .ok (.invokevirtual 97, 3) := by decide +kernel
theorem dX9_asks_20 : decode cX9_asks 20 = .ok (.ireturn, 1) := by decide +kernel
theorem dX9_asks_21 : decode cX9_asks 21 = .ok (.aload_n 0, 1) := by decide +kernel
theorem dX9_asks_22 : decode cX9_asks 22 = .ok (.invokevirtual 100, 3) := by decide +kernel
theorem dX9_asks_25 : decode cX9_asks 25 = .ok (.aload_n 0, 1) := by decide +kernel
theorem dX9_asks_26 : decode cX9_asks 26 = .ok (.iload_n 1, 1) := by decide +kernel
theorem dX9_asks_27 : decode cX9_asks 27 = .ok (.iload_n 2, 1) := by decide +kernel
theorem dX9_asks_28 : decode cX9_asks 28 = .ok (.iload_n 3, 1) := by decide +kernel
theorem dX9_asks_29 : decode cX9_asks 29 = .ok (.invokevirtual 194, 3) := by decide +kernel
theorem dX9_asks_32 : decode cX9_asks 32 = .ok (.ireturn, 1) := by decide +kernel
theorem dX9_entryNow_0 : decode cX9_entryNow 0 = .ok (.aload_n 0, 1) := by decide +kernel
theorem dX9_entryNow_1 : decode cX9_entryNow 1 = .ok (.getfield 7, 3) := by decide +kernel
theorem dX9_entryNow_4 : decode cX9_entryNow 4 = .ok (.iload_n 1, 1) := by decide +kernel
theorem dX9_entryNow_5 : decode cX9_entryNow 5 = .ok (.iload_n 2, 1) := by decide +kernel
theorem dX9_entryNow_6 : decode cX9_entryNow 6 = .ok (.invokestatic 67, 3) := by decide +kernel
theorem dX9_entryNow_9 : decode cX9_entryNow 9 = .ok (.iload_n 3, 1) := by decide +kernel
theorem dX9_entryNow_10 : decode cX9_entryNow 10 = .ok (.iadd, 1) := by decide +kernel
theorem dX9_entryNow_11 : decode cX9_entryNow 11 = .ok (.iaload, 1) := by decide +kernel
theorem dX9_entryNow_12 : decode cX9_entryNow 12 = .ok (.iload_n 3, 1) := by decide +kernel
theorem dX9_entryNow_13 : decode cX9_entryNow 13 = .ok (.iconst 4, 1) := by decide +kernel
theorem dX9_entryNow_14 : decode cX9_entryNow 14 = .ok (.if_icmp .ne 12, 3) := by decide +kernel
theorem dX9_entryNow_17 : decode cX9_entryNow 17 = .ok (.aload_n 0, 1) := by decide +kernel
theorem dX9_entryNow_18 : decode cX9_entryNow 18 = .ok (.getfield 7, 3) := by decide +kernel
theorem dX9_entryNow_21 : decode cX9_entryNow 21 = .ok (.iconst 1, 1) := by decide +kernel
theorem dX9_entryNow_22 : decode cX9_entryNow 22 = .ok (.iaload, 1) := by decide +kernel
theorem dX9_entryNow_23 : decode cX9_entryNow 23 = .ok (.goto 4, 3) := by decide +kernel
theorem dX9_entryNow_26 : decode cX9_entryNow 26 = .ok (.iconst 0, 1) := by decide +kernel
theorem dX9_entryNow_27 : decode cX9_entryNow 27 = .ok (.isub, 1) := by decide +kernel
theorem dX9_entryNow_28 : decode cX9_entryNow 28 = .ok (.ireturn, 1) := by decide +kernel
theorem dX9_entry_0 : decode cX9_entry 0 = .ok (.aload_n 0, 1) := by decide +kernel
theorem dX9_entry_1 : decode cX9_entry 1 = .ok (.iload_n 1, 1) := by decide +kernel
theorem dX9_entry_2 : decode cX9_entry 2 = .ok (.invokevirtual 110, 3) := by decide +kernel
theorem dX9_entry_5 : decode cX9_entry 5 = .ok (.ifCond .eq 19, 3) := by decide +kernel
theorem dX9_entry_8 : decode cX9_entry 8 = .ok (.iload_n 2, 1) := by decide +kernel
theorem dX9_entry_9 : decode cX9_entry 9 = .ok (.ifCond .lt 15, 3) := by decide +kernel
theorem dX9_entry_12 : decode cX9_entry 12 = .ok (.iload_n 3, 1) := by decide +kernel
theorem dX9_entry_13 : decode cX9_entry 13 = .ok (.i2l, 1) := by decide +kernel
theorem dX9_entry_14 : decode cX9_entry 14 = .ok (.lconst 0, 1) := by decide +kernel
theorem dX9_entry_15 : decode cX9_entry 15 = .ok (.ldc2_w 197, 3) := by decide +kernel
theorem dX9_entry_18 : decode cX9_entry 18 = .ok (.invokestatic 47, 3) := by decide +kernel
theorem dX9_entry_21 : decode cX9_entry 21 = .ok (.ifCond .ne 10, 3) := by decide +kernel
theorem dX9_entry_24 : decode cX9_entry 24 = .ok (.aload_n 0, 1) := by decide +kernel
theorem dX9_entry_25 : decode cX9_entry 25 = .ok (.bipush (-2), 2) := by decide +kernel
theorem dX9_entry_27 : decode cX9_entry 27 = .ok (.invokevirtual 97, 3) := by decide +kernel
theorem dX9_entry_30 : decode cX9_entry 30 = .ok (.ireturn, 1) := by decide +kernel
theorem dX9_entry_31 : decode cX9_entry 31 = .ok (.iload_n 2, 1) := by decide +kernel
theorem dX9_entry_32 : decode cX9_entry 32 = .ok (.aload_n 0, 1) := by decide +kernel
theorem dX9_entry_33 : decode cX9_entry 33 = .ok (.iload_n 1, 1) := by decide +kernel
theorem dX9_entry_34 : decode cX9_entry 34 = .ok (.invokevirtual 70, 3) := by decide +kernel
theorem dX9_entry_37 : decode cX9_entry 37 = .ok (.if_icmp .ge 13, 3) := by decide +kernel
theorem dX9_entry_40 : decode cX9_entry 40 = .ok (.aload_n 0, 1) := by decide +kernel
theorem dX9_entry_41 : decode cX9_entry 41 = .ok (.iload_n 1, 1) := by decide +kernel
theorem dX9_entry_42 : decode cX9_entry 42 = .ok (.iload_n 2, 1) := by decide +kernel
theorem dX9_entry_43 : decode cX9_entry 43 = .ok (.iload_n 3, 1) := by decide +kernel
theorem dX9_entry_44 : decode cX9_entry 44 = .ok (.invokevirtual 199, 3) := by decide +kernel
theorem dX9_entry_47 : decode cX9_entry 47 = .ok (.goto 4, 3) := by decide +kernel
theorem dX9_entry_50 : decode cX9_entry 50 = .ok (.iconst (-1), 1) := by decide +kernel
theorem dX9_entry_51 : decode cX9_entry 51 = .ok (.ireturn, 1) := by decide +kernel
theorem dX9_findsNow_0 : decode cX9_findsNow 0 = .ok (.iconst (-1), 1) := by decide +kernel
theorem dX9_findsNow_1 : decode cX9_findsNow 1 = .ok (.istore 5, 2) := by decide +kernel
theorem dX9_findsNow_3 : decode cX9_findsNow 3 = .ok (.iconst 0, 1) := by decide +kernel
theorem dX9_findsNow_4 : decode cX9_findsNow 4 = .ok (.istore 6, 2) := by decide +kernel
theorem dX9_findsNow_6 : decode cX9_findsNow 6 = .ok (.iconst (-1), 1) := by decide +kernel
theorem dX9_findsNow_7 : decode cX9_findsNow 7 = .ok (.istore 7, 2) := by decide +kernel
theorem dX9_findsNow_9 : decode cX9_findsNow 9 = .ok (.iconst 0, 1) := by decide +kernel
theorem dX9_findsNow_10 : decode cX9_findsNow 10 = .ok (.istore 8, 2) := by decide +kernel
theorem dX9_findsNow_12 : decode cX9_findsNow 12 = .ok (.iload 8, 2) := by decide +kernel
theorem dX9_findsNow_14 : decode cX9_findsNow 14 = .ok (.aload_n 0, 1) := by decide +kernel
theorem dX9_findsNow_15 : decode cX9_findsNow 15 = .ok (.iload_n 1, 1) := by decide +kernel
theorem dX9_findsNow_16 : decode cX9_findsNow 16 = .ok (.invokevirtual 70, 3) := by decide +kernel
theorem dX9_findsNow_19 : decode cX9_findsNow 19 = .ok (.if_icmp .ge 91, 3) := by decide +kernel
theorem dX9_findsNow_22 : decode cX9_findsNow 22 = .ok (.iload_n 1, 1) := by decide +kernel
theorem dX9_findsNow_23 : decode cX9_findsNow 23 = .ok (.iload 8, 2) := by decide +kernel
theorem dX9_findsNow_25 : decode cX9_findsNow 25 = .ok (.invokestatic 67, 3) := by decide +kernel
theorem dX9_findsNow_28 : decode cX9_findsNow 28 = .ok (.istore 9, 2) := by decide +kernel
theorem dX9_findsNow_30 : decode cX9_findsNow 30 = .ok (.aload_n 0, 1) := by decide +kernel
theorem dX9_findsNow_31 : decode cX9_findsNow 31 = .ok (.getfield 7, 3) := by decide +kernel
theorem dX9_findsNow_34 : decode cX9_findsNow 34 = .ok (.iload 9, 2) := by decide +kernel
theorem dX9_findsNow_36 : decode cX9_findsNow 36 = .ok (.iconst 0, 1) := by decide +kernel
theorem dX9_findsNow_37 : decode cX9_findsNow 37 = .ok (.iadd, 1) := by decide +kernel
theorem dX9_findsNow_38 : decode cX9_findsNow 38 = .ok (.iaload, 1) := by decide +kernel
theorem dX9_findsNow_39 : decode cX9_findsNow 39 = .ok (.iload_n 2, 1) := by decide +kernel
theorem dX9_findsNow_40 : decode cX9_findsNow 40 = .ok (.if_icmp .ne 64, 3) := by decide +kernel
theorem dX9_findsNow_43 : decode cX9_findsNow 43 = .ok (.aload_n 0, 1) := by decide +kernel
theorem dX9_findsNow_44 : decode cX9_findsNow 44 = .ok (.getfield 7, 3) := by decide +kernel
theorem dX9_findsNow_47 : decode cX9_findsNow 47 = .ok (.iload 9, 2) := by decide +kernel
theorem dX9_findsNow_49 : decode cX9_findsNow 49 = .ok (.iconst 1, 1) := by decide +kernel
theorem dX9_findsNow_50 : decode cX9_findsNow 50 = .ok (.iadd, 1) := by decide +kernel
theorem dX9_findsNow_51 : decode cX9_findsNow 51 = .ok (.iaload, 1) := by decide +kernel
theorem dX9_findsNow_52 : decode cX9_findsNow 52 = .ok (.iload_n 3, 1) := by decide +kernel
theorem dX9_findsNow_53 : decode cX9_findsNow 53 = .ok (.if_icmp .ne 51, 3) := by decide +kernel
theorem dX9_findsNow_56 : decode cX9_findsNow 56 = .ok (.aload_n 0, 1) := by decide +kernel
theorem dX9_findsNow_57 : decode cX9_findsNow 57 = .ok (.getfield 7, 3) := by decide +kernel
theorem dX9_findsNow_60 : decode cX9_findsNow 60 = .ok (.iload 9, 2) := by decide +kernel
theorem dX9_findsNow_62 : decode cX9_findsNow 62 = .ok (.iconst 2, 1) := by decide +kernel
theorem dX9_findsNow_63 : decode cX9_findsNow 63 = .ok (.iadd, 1) := by decide +kernel
theorem dX9_findsNow_64 : decode cX9_findsNow 64 = .ok (.iaload, 1) := by decide +kernel
theorem dX9_findsNow_65 : decode cX9_findsNow 65 = .ok (.istore 5, 2) := by decide +kernel
theorem dX9_findsNow_67 : decode cX9_findsNow 67 = .ok (.iinc 6 1, 3) := by decide +kernel
theorem dX9_findsNow_70 : decode cX9_findsNow 70 = .ok (.aload_n 0, 1) := by decide +kernel
theorem dX9_findsNow_71 : decode cX9_findsNow 71 = .ok (.getfield 7, 3) := by decide +kernel
theorem dX9_findsNow_74 : decode cX9_findsNow 74 = .ok (.iload 9, 2) := by decide +kernel
theorem dX9_findsNow_76 : decode cX9_findsNow 76 = .ok (.iconst 4, 1) := by decide +kernel
theorem dX9_findsNow_77 : decode cX9_findsNow 77 = .ok (.iadd, 1) := by decide +kernel
theorem dX9_findsNow_78 : decode cX9_findsNow 78 = .ok (.iaload, 1) := by decide +kernel
theorem dX9_findsNow_79 : decode cX9_findsNow 79 = .ok (.aload_n 0, 1) := by decide +kernel
theorem dX9_findsNow_80 : decode cX9_findsNow 80 = .ok (.getfield 7, 3) := by decide +kernel
theorem dX9_findsNow_83 : decode cX9_findsNow 83 = .ok (.iconst 1, 1) := by decide +kernel
theorem dX9_findsNow_84 : decode cX9_findsNow 84 = .ok (.iaload, 1) := by decide +kernel
theorem dX9_findsNow_85 : decode cX9_findsNow 85 = .ok (.isub, 1) := by decide +kernel
theorem dX9_findsNow_86 : decode cX9_findsNow 86 = .ok (.istore 10, 2) := by decide +kernel
theorem dX9_findsNow_88 : decode cX9_findsNow 88 = .ok (.iload 10, 2) := by decide +kernel
theorem dX9_findsNow_90 : decode cX9_findsNow 90 = .ok (.iload 7, 2) := by decide +kernel
theorem dX9_findsNow_92 : decode cX9_findsNow 92 = .ok (.if_icmp .le 8, 3) := by decide +kernel
theorem dX9_findsNow_95 : decode cX9_findsNow 95 = .ok (.iload 10, 2) := by decide +kernel
theorem dX9_findsNow_97 : decode cX9_findsNow 97 = .ok (.goto 5, 3) := by decide +kernel
theorem dX9_findsNow_100 : decode cX9_findsNow 100 = .ok (.iload 7, 2) := by decide +kernel
theorem dX9_findsNow_102 : decode cX9_findsNow 102 = .ok (.istore 7, 2) := by decide +kernel
theorem dX9_findsNow_104 : decode cX9_findsNow 104 = .ok (.iinc 8 1, 3) := by decide +kernel
theorem dX9_findsNow_107 : decode cX9_findsNow 107 = .ok (.goto (-95), 3) := by decide +kernel
theorem dX9_findsNow_110 : decode cX9_findsNow 110 = .ok (.iload 4, 2) := by decide +kernel
theorem dX9_findsNow_112 : decode cX9_findsNow 112 = .ok (.ifCond .ne 8, 3) := by decide +kernel
theorem dX9_findsNow_115 : decode cX9_findsNow 115 = .ok (.iload 5, 2) := by decide +kernel
theorem dX9_findsNow_117 : decode cX9_findsNow 117 = .ok (.goto 16, 3) := by decide +kernel
theorem dX9_findsNow_120 : decode cX9_findsNow 120 = .ok (.iload 4, 2) := by decide +kernel
theorem dX9_findsNow_122 : decode cX9_findsNow 122 = .ok (.iconst 1, 1) := by decide +kernel
theorem dX9_findsNow_123 : decode cX9_findsNow 123 = .ok (.if_icmp .ne 8, 3) := by decide +kernel
theorem dX9_findsNow_126 : decode cX9_findsNow 126 = .ok (.iload 6, 2) := by decide +kernel
theorem dX9_findsNow_128 : decode cX9_findsNow 128 = .ok (.goto 5, 3) := by decide +kernel
theorem dX9_findsNow_131 : decode cX9_findsNow 131 = .ok (.iload 7, 2) := by decide +kernel
theorem dX9_findsNow_133 : decode cX9_findsNow 133 = .ok (.ireturn, 1) := by decide +kernel
theorem dX9_finds_0 : decode cX9_finds 0 = .ok (.aload_n 0, 1) := by decide +kernel
theorem dX9_finds_1 : decode cX9_finds 1 = .ok (.iload_n 1, 1) := by decide +kernel
theorem dX9_finds_2 : decode cX9_finds 2 = .ok (.invokevirtual 110, 3) := by decide +kernel
theorem dX9_finds_5 : decode cX9_finds 5 = .ok (.ifCond .eq 36, 3) := by decide +kernel
theorem dX9_finds_8 : decode cX9_finds 8 = .ok (.iload_n 2, 1) := by decide +kernel
theorem dX9_finds_9 : decode cX9_finds 9 = .ok (.iload_n 3, 1) := by decide +kernel
theorem dX9_finds_10 : decode cX9_finds 10 = .ok (.invokestatic 113, 3) := by decide +kernel
theorem dX9_finds_13 : decode cX9_finds 13 = .ok (.ifCond .eq 28, 3) := by decide +kernel
theorem dX9_finds_16 : decode cX9_finds 16 = .ok (.iload 4, 2) := by decide +kernel
theorem dX9_finds_18 : decode cX9_finds 18 = .ok (.i2l, 1) := by decide +kernel
theorem dX9_finds_19 : decode cX9_finds 19 = .ok (.lconst 0, 1) := by decide +kernel
theorem dX9_finds_20 : decode cX9_finds 20 = .ok (.ldc2_w 118, 3) := by decide +kernel
theorem dX9_finds_23 : decode cX9_finds 23 = .ok (.invokestatic 47, 3) := by decide +kernel
theorem dX9_finds_26 : decode cX9_finds 26 = .ok (.ifCond .eq 15, 3) := by decide +kernel
theorem dX9_finds_29 : decode cX9_finds 29 = .ok (.aload_n 0, 1) := by decide +kernel
theorem dX9_finds_30 : decode cX9_finds 30 = .ok (.iload_n 1, 1) := by decide +kernel
theorem dX9_finds_31 : decode cX9_finds 31 = .ok (.iload_n 2, 1) := by decide +kernel
theorem dX9_finds_32 : decode cX9_finds 32 = .ok (.iload_n 3, 1) := by decide +kernel
theorem dX9_finds_33 : decode cX9_finds 33 = .ok (.iload 4, 2) := by decide +kernel
theorem dX9_finds_35 : decode cX9_finds 35 = .ok (.invokevirtual 202, 3) := by decide +kernel
theorem dX9_finds_38 : decode cX9_finds 38 = .ok (.goto 9, 3) := by decide +kernel
theorem dX9_finds_41 : decode cX9_finds 41 = .ok (.aload_n 0, 1) := by decide +kernel
theorem dX9_finds_42 : decode cX9_finds 42 = .ok (.bipush (-2), 2) := by decide +kernel
theorem dX9_finds_44 : decode cX9_finds 44 = .ok (.invokevirtual 97, 3) := by decide +kernel
theorem dX9_finds_47 : decode cX9_finds 47 = .ok (.ireturn, 1) := by decide +kernel
theorem dX9_ownerNow_0 : decode cX9_ownerNow 0 = .ok (.iconst (-1), 1) := by decide +kernel
theorem dX9_ownerNow_1 : decode cX9_ownerNow 1 = .ok (.istore 4, 2) := by decide +kernel
theorem dX9_ownerNow_3 : decode cX9_ownerNow 3 = .ok (.iconst (-1), 1) := by decide +kernel
theorem dX9_ownerNow_4 : decode cX9_ownerNow 4 = .ok (.istore 5, 2) := by decide +kernel
theorem dX9_ownerNow_6 : decode cX9_ownerNow 6 = .ok (.iconst 0, 1) := by decide +kernel
theorem dX9_ownerNow_7 : decode cX9_ownerNow 7 = .ok (.istore 6, 2) := by decide +kernel
theorem dX9_ownerNow_9 : decode cX9_ownerNow 9 = .ok (.iconst 0, 1) := by decide +kernel
theorem dX9_ownerNow_10 : decode cX9_ownerNow 10 = .ok (.istore 7, 2) := by decide +kernel
theorem dX9_ownerNow_12 : decode cX9_ownerNow 12 = .ok (.iload 7, 2) := by decide +kernel
theorem dX9_ownerNow_14 : decode cX9_ownerNow 14 = .ok (.aload_n 0, 1) := by decide +kernel
theorem dX9_ownerNow_15 : decode cX9_ownerNow 15 = .ok (.getfield 7, 3) := by decide +kernel
theorem dX9_ownerNow_18 : decode cX9_ownerNow 18 = .ok (.iconst 0, 1) := by decide +kernel
theorem dX9_ownerNow_19 : decode cX9_ownerNow 19 = .ok (.iaload, 1) := by decide +kernel
theorem dX9_ownerNow_20 : decode cX9_ownerNow 20 = .ok (.if_icmp .ge 164, 3) := by decide +kernel
theorem dX9_ownerNow_23 : decode cX9_ownerNow 23 = .ok (.iconst 0, 1) := by decide +kernel
theorem dX9_ownerNow_24 : decode cX9_ownerNow 24 = .ok (.istore 8, 2) := by decide +kernel
theorem dX9_ownerNow_26 : decode cX9_ownerNow 26 = .ok (.iconst 0, 1) := by decide +kernel
theorem dX9_ownerNow_27 : decode cX9_ownerNow 27 = .ok (.istore 9, 2) := by decide +kernel
theorem dX9_ownerNow_29 : decode cX9_ownerNow 29 = .ok (.iload 9, 2) := by decide +kernel
theorem dX9_ownerNow_31 : decode cX9_ownerNow 31 = .ok (.aload_n 0, 1) := by decide +kernel
theorem dX9_ownerNow_32 : decode cX9_ownerNow 32 = .ok (.iload 7, 2) := by decide +kernel
theorem dX9_ownerNow_34 : decode cX9_ownerNow 34 = .ok (.invokevirtual 73, 3) := by decide +kernel
theorem dX9_ownerNow_37 : decode cX9_ownerNow 37 = .ok (.if_icmp .ge 126, 3) := by decide +kernel
theorem dX9_ownerNow_40 : decode cX9_ownerNow 40 = .ok (.iload 7, 2) := by decide +kernel
theorem dX9_ownerNow_42 : decode cX9_ownerNow 42 = .ok (.iload 9, 2) := by decide +kernel
theorem dX9_ownerNow_44 : decode cX9_ownerNow 44 = .ok (.invokestatic 55, 3) := by decide +kernel
theorem dX9_ownerNow_47 : decode cX9_ownerNow 47 = .ok (.istore 10, 2) := by decide +kernel
theorem dX9_ownerNow_49 : decode cX9_ownerNow 49 = .ok (.aload_n 0, 1) := by decide +kernel
theorem dX9_ownerNow_50 : decode cX9_ownerNow 50 = .ok (.iload 7, 2) := by decide +kernel
theorem dX9_ownerNow_52 : decode cX9_ownerNow 52 = .ok (.iload 9, 2) := by decide +kernel
theorem dX9_ownerNow_54 : decode cX9_ownerNow 54 = .ok (.invokevirtual 142, 3) := by decide +kernel
theorem dX9_ownerNow_57 : decode cX9_ownerNow 57 = .ok (.ifCond .eq 33, 3) := by decide +kernel
theorem dX9_ownerNow_60 : decode cX9_ownerNow 60 = .ok (.aload_n 0, 1) := by decide +kernel
theorem dX9_ownerNow_61 : decode cX9_ownerNow 61 = .ok (.getfield 7, 3) := by decide +kernel
theorem dX9_ownerNow_64 : decode cX9_ownerNow 64 = .ok (.iload 10, 2) := by decide +kernel
theorem dX9_ownerNow_66 : decode cX9_ownerNow 66 = .ok (.iconst 0, 1) := by decide +kernel
theorem dX9_ownerNow_67 : decode cX9_ownerNow 67 = .ok (.iadd, 1) := by decide +kernel
theorem dX9_ownerNow_68 : decode cX9_ownerNow 68 = .ok (.iaload, 1) := by decide +kernel
theorem dX9_ownerNow_69 : decode cX9_ownerNow 69 = .ok (.iload_n 1, 1) := by decide +kernel
theorem dX9_ownerNow_70 : decode cX9_ownerNow 70 = .ok (.if_icmp .ne 20, 3) := by decide +kernel
theorem dX9_ownerNow_73 : decode cX9_ownerNow 73 = .ok (.aload_n 0, 1) := by decide +kernel
theorem dX9_ownerNow_74 : decode cX9_ownerNow 74 = .ok (.getfield 7, 3) := by decide +kernel
theorem dX9_ownerNow_77 : decode cX9_ownerNow 77 = .ok (.iload 10, 2) := by decide +kernel
theorem dX9_ownerNow_79 : decode cX9_ownerNow 79 = .ok (.iconst 1, 1) := by decide +kernel
theorem dX9_ownerNow_80 : decode cX9_ownerNow 80 = .ok (.iadd, 1) := by decide +kernel
theorem dX9_ownerNow_81 : decode cX9_ownerNow 81 = .ok (.iaload, 1) := by decide +kernel
theorem dX9_ownerNow_82 : decode cX9_ownerNow 82 = .ok (.iload_n 2, 1) := by decide +kernel
theorem dX9_ownerNow_83 : decode cX9_ownerNow 83 = .ok (.if_icmp .ne 7, 3) := by decide +kernel
theorem dX9_ownerNow_86 : decode cX9_ownerNow 86 = .ok (.iconst 1, 1) := by decide +kernel
theorem dX9_ownerNow_87 : decode cX9_ownerNow 87 = .ok (.goto 4, 3) := by decide +kernel
theorem dX9_ownerNow_90 : decode cX9_ownerNow 90 = .ok (.iconst 0, 1) := by decide +kernel
theorem dX9_ownerNow_91 : decode cX9_ownerNow 91 = .ok (.istore 11, 2) := by decide +kernel
theorem dX9_ownerNow_93 : decode cX9_ownerNow 93 = .ok (.iload 11, 2) := by decide +kernel
theorem dX9_ownerNow_95 : decode cX9_ownerNow 95 = .ok (.ifCond .eq 21, 3) := by decide +kernel
theorem dX9_ownerNow_98 : decode cX9_ownerNow 98 = .ok (.iload 4, 2) := by decide +kernel
theorem dX9_ownerNow_100 : decode cX9_ownerNow 100 = .ok (.iconst (-1), 1) := by decide +kernel
theorem dX9_ownerNow_101 : decode cX9_ownerNow 101 = .ok (.if_icmp .ne 15, 3) := by decide +kernel
theorem dX9_ownerNow_104 : decode cX9_ownerNow 104 = .ok (.aload_n 0, 1) := by decide +kernel
theorem dX9_ownerNow_105 : decode cX9_ownerNow 105 = .ok (.getfield 7, 3) := by decide +kernel
theorem dX9_ownerNow_108 : decode cX9_ownerNow 108 = .ok (.iload 10, 2) := by decide +kernel
theorem dX9_ownerNow_110 : decode cX9_ownerNow 110 = .ok (.iconst 2, 1) := by decide +kernel
theorem dX9_ownerNow_111 : decode cX9_ownerNow 111 = .ok (.iadd, 1) := by decide +kernel
theorem dX9_ownerNow_112 : decode cX9_ownerNow 112 = .ok (.iaload, 1) := by decide +kernel
theorem dX9_ownerNow_113 : decode cX9_ownerNow 113 = .ok (.goto 5, 3) := by decide +kernel
theorem dX9_ownerNow_116 : decode cX9_ownerNow 116 = .ok (.iload 5, 2) := by decide +kernel
theorem dX9_ownerNow_118 : decode cX9_ownerNow 118 = .ok (.istore 5, 2) := by decide +kernel
theorem dX9_ownerNow_120 : decode cX9_ownerNow 120 = .ok (.iload 11, 2) := by decide +kernel
theorem dX9_ownerNow_122 : decode cX9_ownerNow 122 = .ok (.ifCond .eq 14, 3) := by decide +kernel
theorem dX9_ownerNow_125 : decode cX9_ownerNow 125 = .ok (.iload 4, 2) := by decide +kernel
theorem dX9_ownerNow_127 : decode cX9_ownerNow 127 = .ok (.iconst (-1), 1) := by decide +kernel
theorem dX9_ownerNow_128 : decode cX9_ownerNow 128 = .ok (.if_icmp .ne 8, 3) := by decide +kernel
theorem dX9_ownerNow_131 : decode cX9_ownerNow 131 = .ok (.iload 7, 2) := by decide +kernel
theorem dX9_ownerNow_133 : decode cX9_ownerNow 133 = .ok (.goto 5, 3) := by decide +kernel
theorem dX9_ownerNow_136 : decode cX9_ownerNow 136 = .ok (.iload 4, 2) := by decide +kernel
theorem dX9_ownerNow_138 : decode cX9_ownerNow 138 = .ok (.istore 4, 2) := by decide +kernel
theorem dX9_ownerNow_140 : decode cX9_ownerNow 140 = .ok (.iload 8, 2) := by decide +kernel
theorem dX9_ownerNow_142 : decode cX9_ownerNow 142 = .ok (.ifCond .ne 8, 3) := by decide +kernel
theorem dX9_ownerNow_145 : decode cX9_ownerNow 145 = .ok (.iload 11, 2) := by decide +kernel
theorem dX9_ownerNow_147 : decode cX9_ownerNow 147 = .ok (.ifCond .eq 7, 3) := by decide +kernel
theorem dX9_ownerNow_150 : decode cX9_ownerNow 150 = .ok (.iconst 1, 1) := by decide +kernel
theorem dX9_ownerNow_151 : decode cX9_ownerNow 151 = .ok (.goto 4, 3) := by decide +kernel
theorem dX9_ownerNow_154 : decode cX9_ownerNow 154 = .ok (.iconst 0, 1) := by decide +kernel
theorem dX9_ownerNow_155 : decode cX9_ownerNow 155 = .ok (.istore 8, 2) := by decide +kernel
theorem dX9_ownerNow_157 : decode cX9_ownerNow 157 = .ok (.iinc 9 1, 3) := by decide +kernel
theorem dX9_ownerNow_160 : decode cX9_ownerNow 160 = .ok (.goto (-131), 3) := by decide +kernel
theorem dX9_ownerNow_163 : decode cX9_ownerNow 163 = .ok (.iload 6, 2) := by decide +kernel
theorem dX9_ownerNow_165 : decode cX9_ownerNow 165 = .ok (.iload 8, 2) := by decide +kernel
theorem dX9_ownerNow_167 : decode cX9_ownerNow 167 = .ok (.ifCond .eq 7, 3) := by decide +kernel
theorem dX9_ownerNow_170 : decode cX9_ownerNow 170 = .ok (.iconst 1, 1) := by decide +kernel
theorem dX9_ownerNow_171 : decode cX9_ownerNow 171 = .ok (.goto 4, 3) := by decide +kernel
theorem dX9_ownerNow_174 : decode cX9_ownerNow 174 = .ok (.iconst 0, 1) := by decide +kernel
theorem dX9_ownerNow_175 : decode cX9_ownerNow 175 = .ok (.iadd, 1) := by decide +kernel
theorem dX9_ownerNow_176 : decode cX9_ownerNow 176 = .ok (.istore 6, 2) := by decide +kernel
theorem dX9_ownerNow_178 : decode cX9_ownerNow 178 = .ok (.iinc 7 1, 3) := by decide +kernel
theorem dX9_ownerNow_181 : decode cX9_ownerNow 181 = .ok (.goto (-169), 3) := by decide +kernel
theorem dX9_ownerNow_184 : decode cX9_ownerNow 184 = .ok (.iload_n 3, 1) := by decide +kernel
theorem dX9_ownerNow_185 : decode cX9_ownerNow 185 = .ok (.ifCond .ne 8, 3) := by decide +kernel
theorem dX9_ownerNow_188 : decode cX9_ownerNow 188 = .ok (.iload 4, 2) := by decide +kernel
theorem dX9_ownerNow_190 : decode cX9_ownerNow 190 = .ok (.goto 15, 3) := by decide +kernel
theorem dX9_ownerNow_193 : decode cX9_ownerNow 193 = .ok (.iload_n 3, 1) := by decide +kernel
theorem dX9_ownerNow_194 : decode cX9_ownerNow 194 = .ok (.iconst 1, 1) := by decide +kernel
theorem dX9_ownerNow_195 : decode cX9_ownerNow 195 = .ok (.if_icmp .ne 8, 3) := by decide +kernel
theorem dX9_ownerNow_198 : decode cX9_ownerNow 198 = .ok (.iload 5, 2) := by decide +kernel
theorem dX9_ownerNow_200 : decode cX9_ownerNow 200 = .ok (.goto 5, 3) := by decide +kernel
theorem dX9_ownerNow_203 : decode cX9_ownerNow 203 = .ok (.iload 6, 2) := by decide +kernel
theorem dX9_ownerNow_205 : decode cX9_ownerNow 205 = .ok (.ireturn, 1) := by decide +kernel
theorem dX9_owner_0 : decode cX9_owner 0 = .ok (.iload_n 1, 1) := by decide +kernel
theorem dX9_owner_1 : decode cX9_owner 1 = .ok (.iload_n 2, 1) := by decide +kernel
theorem dX9_owner_2 : decode cX9_owner 2 = .ok (.invokestatic 113, 3) := by decide +kernel
theorem dX9_owner_5 : decode cX9_owner 5 = .ok (.ifCond .eq 25, 3) := by decide +kernel
theorem dX9_owner_8 : decode cX9_owner 8 = .ok (.iload_n 3, 1) := by decide +kernel
theorem dX9_owner_9 : decode cX9_owner 9 = .ok (.i2l, 1) := by decide +kernel
theorem dX9_owner_10 : decode cX9_owner 10 = .ok (.lconst 0, 1) := by decide +kernel
theorem dX9_owner_11 : decode cX9_owner 11 = .ok (.ldc2_w 118, 3) := by decide +kernel
theorem dX9_owner_14 : decode cX9_owner 14 = .ok (.invokestatic 47, 3) := by decide +kernel
theorem dX9_owner_17 : decode cX9_owner 17 = .ok (.ifCond .eq 13, 3) := by decide +kernel
theorem dX9_owner_20 : decode cX9_owner 20 = .ok (.aload_n 0, 1) := by decide +kernel
theorem dX9_owner_21 : decode cX9_owner 21 = .ok (.iload_n 1, 1) := by decide +kernel
theorem dX9_owner_22 : decode cX9_owner 22 = .ok (.iload_n 2, 1) := by decide +kernel
theorem dX9_owner_23 : decode cX9_owner 23 = .ok (.iload_n 3, 1) := by decide +kernel
theorem dX9_owner_24 : decode cX9_owner 24 = .ok (.invokevirtual 206, 3) := by decide +kernel
theorem dX9_owner_27 : decode cX9_owner 27 = .ok (.goto 9, 3) := by decide +kernel
theorem dX9_owner_30 : decode cX9_owner 30 = .ok (.aload_n 0, 1) := by decide +kernel
theorem dX9_owner_31 : decode cX9_owner 31 = .ok (.bipush (-2), 2) := by decide +kernel
theorem dX9_owner_33 : decode cX9_owner 33 = .ok (.invokevirtual 97, 3) := by decide +kernel
theorem dX9_owner_36 : decode cX9_owner 36 = .ok (.ireturn, 1) := by decide +kernel
theorem dX9_isOwned_0 : decode cX9_isOwned 0 = .ok (.iconst 0, 1) := by decide +kernel
theorem dX9_isOwned_1 : decode cX9_isOwned 1 = .ok (.istore_n 2, 1) := by decide +kernel
theorem dX9_isOwned_2 : decode cX9_isOwned 2 = .ok (.iconst 0, 1) := by decide +kernel
theorem dX9_isOwned_3 : decode cX9_isOwned 3 = .ok (.istore_n 3, 1) := by decide +kernel
theorem dX9_isOwned_4 : decode cX9_isOwned 4 = .ok (.iload_n 3, 1) := by decide +kernel
theorem dX9_isOwned_5 : decode cX9_isOwned 5 = .ok (.aload_n 0, 1) := by decide +kernel
theorem dX9_isOwned_6 : decode cX9_isOwned 6 = .ok (.getfield 7, 3) := by decide +kernel
theorem dX9_isOwned_9 : decode cX9_isOwned 9 = .ok (.iconst 0, 1) := by decide +kernel
theorem dX9_isOwned_10 : decode cX9_isOwned 10 = .ok (.iaload, 1) := by decide +kernel
theorem dX9_isOwned_11 : decode cX9_isOwned 11 = .ok (.if_icmp .ge 69, 3) := by decide +kernel
theorem dX9_isOwned_14 : decode cX9_isOwned 14 = .ok (.iconst 0, 1) := by decide +kernel
theorem dX9_isOwned_15 : decode cX9_isOwned 15 = .ok (.istore 4, 2) := by decide +kernel
theorem dX9_isOwned_17 : decode cX9_isOwned 17 = .ok (.iload 4, 2) := by decide +kernel
theorem dX9_isOwned_19 : decode cX9_isOwned 19 = .ok (.aload_n 0, 1) := by decide +kernel
theorem dX9_isOwned_20 : decode cX9_isOwned 20 = .ok (.iload_n 3, 1) := by decide +kernel
theorem dX9_isOwned_21 : decode cX9_isOwned 21 = .ok (.invokevirtual 73, 3) := by decide +kernel
theorem dX9_isOwned_24 : decode cX9_isOwned 24 = .ok (.if_icmp .ge 50, 3) := by decide +kernel
theorem dX9_isOwned_27 : decode cX9_isOwned 27 = .ok (.iload_n 2, 1) := by decide +kernel
theorem dX9_isOwned_28 : decode cX9_isOwned 28 = .ok (.ifCond .ne 34, 3) := by decide +kernel
theorem dX9_isOwned_31 : decode cX9_isOwned 31 = .ok (.aload_n 0, 1) := by decide +kernel
theorem dX9_isOwned_32 : decode cX9_isOwned 32 = .ok (.getfield 7, 3) := by decide +kernel
theorem dX9_isOwned_35 : decode cX9_isOwned 35 = .ok (.iload_n 3, 1) := by decide +kernel
theorem dX9_isOwned_36 : decode cX9_isOwned 36 = .ok (.iload 4, 2) := by decide +kernel
theorem dX9_isOwned_38 : decode cX9_isOwned 38 = .ok (.invokestatic 55, 3) := by decide +kernel
theorem dX9_isOwned_41 : decode cX9_isOwned 41 = .ok (.iconst 4, 1) := by decide +kernel
theorem dX9_isOwned_42 : decode cX9_isOwned 42 = .ok (.iadd, 1) := by decide +kernel
theorem dX9_isOwned_43 : decode cX9_isOwned 43 = .ok (.iaload, 1) := by decide +kernel
theorem dX9_isOwned_44 : decode cX9_isOwned 44 = .ok (.iconst 3, 1) := by decide +kernel
theorem dX9_isOwned_45 : decode cX9_isOwned 45 = .ok (.if_icmp .ne 21, 3) := by decide +kernel
theorem dX9_isOwned_48 : decode cX9_isOwned 48 = .ok (.aload_n 0, 1) := by decide +kernel
theorem dX9_isOwned_49 : decode cX9_isOwned 49 = .ok (.iload_n 3, 1) := by decide +kernel
theorem dX9_isOwned_50 : decode cX9_isOwned 50 = .ok (.iload 4, 2) := by decide +kernel
theorem dX9_isOwned_52 : decode cX9_isOwned 52 = .ok (.invokestatic 55, 3) := by decide +kernel
theorem dX9_isOwned_55 : decode cX9_isOwned 55 = .ok (.iload_n 1, 1) := by decide +kernel
theorem dX9_isOwned_56 : decode cX9_isOwned 56 = .ok (.invokevirtual 76, 3) := by decide +kernel
theorem dX9_isOwned_59 : decode cX9_isOwned 59 = .ok (.ifCond .eq 7, 3) := by decide +kernel
theorem dX9_isOwned_62 : decode cX9_isOwned 62 = .ok (.iconst 1, 1) := by decide +kernel
theorem dX9_isOwned_63 : decode cX9_isOwned 63 = .ok (.goto 4, 3) := by decide +kernel
theorem dX9_isOwned_66 : decode cX9_isOwned 66 = .ok (.iconst 0, 1) := by decide +kernel
theorem dX9_isOwned_67 : decode cX9_isOwned 67 = .ok (.istore_n 2, 1) := by decide +kernel
theorem dX9_isOwned_68 : decode cX9_isOwned 68 = .ok (.iinc 4 1, 3) := by decide +kernel
theorem dX9_isOwned_71 : decode cX9_isOwned 71 = .ok (.goto (-54), 3) := by decide +kernel
theorem dX9_isOwned_74 : decode cX9_isOwned 74 = .ok (.iinc 3 1, 3) := by decide +kernel
theorem dX9_isOwned_77 : decode cX9_isOwned 77 = .ok (.goto (-73), 3) := by decide +kernel
theorem dX9_isOwned_80 : decode cX9_isOwned 80 = .ok (.iload_n 2, 1) := by decide +kernel
theorem dX9_isOwned_81 : decode cX9_isOwned 81 = .ok (.ireturn, 1) := by decide +kernel
theorem dX9_allNow_0 : decode cX9_allNow 0 = .ok (.iconst 0, 1) := by decide +kernel
theorem dX9_allNow_1 : decode cX9_allNow 1 = .ok (.istore_n 2, 1) := by decide +kernel
theorem dX9_allNow_2 : decode cX9_allNow 2 = .ok (.iconst 0, 1) := by decide +kernel
theorem dX9_allNow_3 : decode cX9_allNow 3 = .ok (.istore_n 3, 1) := by decide +kernel
theorem dX9_allNow_4 : decode cX9_allNow 4 = .ok (.iload_n 3, 1) := by decide +kernel
theorem dX9_allNow_5 : decode cX9_allNow 5 = .ok (.aload_n 0, 1) := by decide +kernel
theorem dX9_allNow_6 : decode cX9_allNow 6 = .ok (.getfield 7, 3) := by decide +kernel
theorem dX9_allNow_9 : decode cX9_allNow 9 = .ok (.iconst 0, 1) := by decide +kernel
theorem dX9_allNow_10 : decode cX9_allNow 10 = .ok (.iaload, 1) := by decide +kernel
theorem dX9_allNow_11 : decode cX9_allNow 11 = .ok (.if_icmp .ge 108, 3) := by decide +kernel
theorem dX9_allNow_14 : decode cX9_allNow 14 = .ok (.iload_n 2, 1) := by decide +kernel
theorem dX9_allNow_15 : decode cX9_allNow 15 = .ok (.iload_n 1, 1) := by decide +kernel
theorem dX9_allNow_16 : decode cX9_allNow 16 = .ok (.ifCond .ne 11, 3) := by decide +kernel
theorem dX9_allNow_19 : decode cX9_allNow 19 = .ok (.aload_n 0, 1) := by decide +kernel
theorem dX9_allNow_20 : decode cX9_allNow 20 = .ok (.iload_n 3, 1) := by decide +kernel
theorem dX9_allNow_21 : decode cX9_allNow 21 = .ok (.invokevirtual 70, 3) := by decide +kernel
theorem dX9_allNow_24 : decode cX9_allNow 24 = .ok (.goto 42, 3) := by decide +kernel
theorem dX9_allNow_27 : decode cX9_allNow 27 = .ok (.iload_n 1, 1) := by decide +kernel
theorem dX9_allNow_28 : decode cX9_allNow 28 = .ok (.iconst 2, 1) := by decide +kernel
theorem dX9_allNow_29 : decode cX9_allNow 29 = .ok (.if_icmp .ne 17, 3) := by decide +kernel
theorem dX9_allNow_32 : decode cX9_allNow 32 = .ok (.aload_n 0, 1) := by decide +kernel
theorem dX9_allNow_33 : decode cX9_allNow 33 = .ok (.iload_n 3, 1) := by decide +kernel
theorem dX9_allNow_34 : decode cX9_allNow 34 = .ok (.invokevirtual 73, 3) := by decide +kernel
theorem dX9_allNow_37 : decode cX9_allNow 37 = .ok (.aload_n 0, 1) := by decide +kernel
theorem dX9_allNow_38 : decode cX9_allNow 38 = .ok (.iload_n 3, 1) := by decide +kernel
theorem dX9_allNow_39 : decode cX9_allNow 39 = .ok (.invokevirtual 151, 3) := by decide +kernel
theorem dX9_allNow_42 : decode cX9_allNow 42 = .ok (.isub, 1) := by decide +kernel
theorem dX9_allNow_43 : decode cX9_allNow 43 = .ok (.goto 23, 3) := by decide +kernel
theorem dX9_allNow_46 : decode cX9_allNow 46 = .ok (.iload_n 1, 1) := by decide +kernel
theorem dX9_allNow_47 : decode cX9_allNow 47 = .ok (.iconst 3, 1) := by decide +kernel
theorem dX9_allNow_48 : decode cX9_allNow 48 = .ok (.if_icmp .ne 17, 3) := by decide +kernel
theorem dX9_allNow_51 : decode cX9_allNow 51 = .ok (.aload_n 0, 1) := by decide +kernel
theorem dX9_allNow_52 : decode cX9_allNow 52 = .ok (.getfield 7, 3) := by decide +kernel
theorem dX9_allNow_55 : decode cX9_allNow 55 = .ok (.bipush 10, 2) := by decide +kernel
theorem dX9_allNow_57 : decode cX9_allNow 57 = .ok (.iconst 4, 1) := by decide +kernel
theorem dX9_allNow_58 : decode cX9_allNow 58 = .ok (.iload_n 3, 1) := by decide +kernel
theorem dX9_allNow_59 : decode cX9_allNow 59 = .ok (.imul, 1) := by decide +kernel
theorem dX9_allNow_60 : decode cX9_allNow 60 = .ok (.iadd, 1) := by decide +kernel
theorem dX9_allNow_61 : decode cX9_allNow 61 = .ok (.iaload, 1) := by decide +kernel
theorem dX9_allNow_62 : decode cX9_allNow 62 = .ok (.goto 4, 3) := by decide +kernel
theorem dX9_allNow_65 : decode cX9_allNow 65 = .ok (.iconst 0, 1) := by decide +kernel
theorem dX9_allNow_66 : decode cX9_allNow 66 = .ok (.iadd, 1) := by decide +kernel
theorem dX9_allNow_67 : decode cX9_allNow 67 = .ok (.istore_n 2, 1) := by decide +kernel
theorem dX9_allNow_68 : decode cX9_allNow 68 = .ok (.iconst 0, 1) := by decide +kernel
theorem dX9_allNow_69 : decode cX9_allNow 69 = .ok (.istore 4, 2) := by decide +kernel
theorem dX9_allNow_71 : decode cX9_allNow 71 = .ok (.iload 4, 2) := by decide +kernel
theorem dX9_allNow_73 : decode cX9_allNow 73 = .ok (.aload_n 0, 1) := by decide +kernel
theorem dX9_allNow_74 : decode cX9_allNow 74 = .ok (.iload_n 3, 1) := by decide +kernel
theorem dX9_allNow_75 : decode cX9_allNow 75 = .ok (.invokevirtual 70, 3) := by decide +kernel
theorem dX9_allNow_78 : decode cX9_allNow 78 = .ok (.if_icmp .ge 35, 3) := by decide +kernel
theorem dX9_allNow_81 : decode cX9_allNow 81 = .ok (.iload_n 1, 1) := by decide +kernel
theorem dX9_allNow_82 : decode cX9_allNow 82 = .ok (.iconst 1, 1) := by decide +kernel
theorem dX9_allNow_83 : decode cX9_allNow 83 = .ok (.if_icmp .ne 30, 3) := by decide +kernel
theorem dX9_allNow_86 : decode cX9_allNow 86 = .ok (.iload_n 2, 1) := by decide +kernel
theorem dX9_allNow_87 : decode cX9_allNow 87 = .ok (.aload_n 0, 1) := by decide +kernel
theorem dX9_allNow_88 : decode cX9_allNow 88 = .ok (.iload_n 3, 1) := by decide +kernel
theorem dX9_allNow_89 : decode cX9_allNow 89 = .ok (.iload 4, 2) := by decide +kernel
theorem dX9_allNow_91 : decode cX9_allNow 91 = .ok (.invokestatic 67, 3) := by decide +kernel
theorem dX9_allNow_94 : decode cX9_allNow 94 = .ok (.invokevirtual 209, 3) := by decide +kernel
theorem dX9_allNow_97 : decode cX9_allNow 97 = .ok (.ifCond .eq 7, 3) := by decide +kernel
theorem dX9_allNow_100 : decode cX9_allNow 100 = .ok (.iconst 0, 1) := by decide +kernel
theorem dX9_allNow_101 : decode cX9_allNow 101 = .ok (.goto 4, 3) := by decide +kernel
theorem dX9_allNow_104 : decode cX9_allNow 104 = .ok (.iconst 1, 1) := by decide +kernel
theorem dX9_allNow_105 : decode cX9_allNow 105 = .ok (.iadd, 1) := by decide +kernel
theorem dX9_allNow_106 : decode cX9_allNow 106 = .ok (.istore_n 2, 1) := by decide +kernel
theorem dX9_allNow_107 : decode cX9_allNow 107 = .ok (.iinc 4 1, 3) := by decide +kernel
theorem dX9_allNow_110 : decode cX9_allNow 110 = .ok (.goto (-39), 3) := by decide +kernel
theorem dX9_allNow_113 : decode cX9_allNow 113 = .ok (.iinc 3 1, 3) := by decide +kernel
theorem dX9_allNow_116 : decode cX9_allNow 116 = .ok (.goto (-112), 3) := by decide +kernel
theorem dX9_allNow_119 : decode cX9_allNow 119 = .ok (.iload_n 2, 1) := by decide +kernel
theorem dX9_allNow_120 : decode cX9_allNow 120 = .ok (.ireturn, 1) := by decide +kernel
theorem dX9_all_0 : decode cX9_all 0 = .ok (.iload_n 1, 1) := by decide +kernel
theorem dX9_all_1 : decode cX9_all 1 = .ok (.i2l, 1) := by decide +kernel
theorem dX9_all_2 : decode cX9_all 2 = .ok (.lconst 0, 1) := by decide +kernel
theorem dX9_all_3 : decode cX9_all 3 = .ok (.ldc2_w 108, 3) := by decide +kernel
theorem dX9_all_6 : decode cX9_all 6 = .ok (.invokestatic 47, 3) := by decide +kernel
theorem dX9_all_9 : decode cX9_all 9 = .ok (.ifCond .eq 11, 3) := by decide +kernel
theorem dX9_all_12 : decode cX9_all 12 = .ok (.aload_n 0, 1) := by decide +kernel
theorem dX9_all_13 : decode cX9_all 13 = .ok (.iload_n 1, 1) := by decide +kernel
theorem dX9_all_14 : decode cX9_all 14 = .ok (.invokevirtual 212, 3) := by decide +kernel
theorem dX9_all_17 : decode cX9_all 17 = .ok (.goto 9, 3) := by decide +kernel
theorem dX9_all_20 : decode cX9_all 20 = .ok (.aload_n 0, 1) := by decide +kernel
theorem dX9_all_21 : decode cX9_all 21 = .ok (.bipush (-2), 2) := by decide +kernel
theorem dX9_all_23 : decode cX9_all 23 = .ok (.invokevirtual 97, 3) := by decide +kernel
theorem dX9_all_26 : decode cX9_all 26 = .ok (.ireturn, 1) := by decide +kernel
theorem dX9_canSleep_0 : decode cX9_canSleep 0 = .ok (.aload_n 0, 1) := by decide +kernel
theorem dX9_canSleep_1 : decode cX9_canSleep 1 = .ok (.iload_n 1, 1) := by decide +kernel
theorem dX9_canSleep_2 : decode cX9_canSleep 2 = .ok (.invokevirtual 110, 3) := by decide +kernel
theorem dX9_canSleep_5 : decode cX9_canSleep 5 = .ok (.ifCond .eq 21, 3) := by decide +kernel
theorem dX9_canSleep_8 : decode cX9_canSleep 8 = .ok (.iload_n 2, 1) := by decide +kernel
theorem dX9_canSleep_9 : decode cX9_canSleep 9 = .ok (.iconst (-1), 1) := by decide +kernel
theorem dX9_canSleep_10 : decode cX9_canSleep 10 = .ok (.if_icmp .eq 11, 3) := by decide +kernel
theorem dX9_canSleep_13 : decode cX9_canSleep 13 = .ok (.aload_n 0, 1) := by decide +kernel
theorem dX9_canSleep_14 : decode cX9_canSleep 14 = .ok (.iload_n 2, 1) := by decide +kernel
theorem dX9_canSleep_15 : decode cX9_canSleep 15 = .ok (.invokevirtual 110, 3) := by decide +kernel
theorem dX9_canSleep_18 : decode cX9_canSleep 18 = .ok (.ifCond .eq 8, 3) := by decide +kernel
theorem dX9_canSleep_21 : decode cX9_canSleep 21 = .ok (.iload_n 2, 1) := by decide +kernel
theorem dX9_canSleep_22 : decode cX9_canSleep 22 = .ok (.iload_n 1, 1) := by decide +kernel
theorem dX9_canSleep_23 : decode cX9_canSleep 23 = .ok (.if_icmp .ne 6, 3) := by decide +kernel
theorem dX9_canSleep_26 : decode cX9_canSleep 26 = .ok (.bipush (-2), 2) := by decide +kernel
theorem dX9_canSleep_28 : decode cX9_canSleep 28 = .ok (.ireturn, 1) := by decide +kernel
theorem dX9_canSleep_29 : decode cX9_canSleep 29 = .ok (.aload_n 0, 1) := by decide +kernel
theorem dX9_canSleep_30 : decode cX9_canSleep 30 = .ok (.iload_n 1, 1) := by decide +kernel
theorem dX9_canSleep_31 : decode cX9_canSleep 31 = .ok (.invokevirtual 59, 3) := by decide +kernel
theorem dX9_canSleep_34 : decode cX9_canSleep 34 = .ok (.ifCond .eq 16, 3) := by decide +kernel
theorem dX9_canSleep_37 : decode cX9_canSleep 37 = .ok (.iload_n 2, 1) := by decide +kernel
theorem dX9_canSleep_38 : decode cX9_canSleep 38 = .ok (.iconst (-1), 1) := by decide +kernel
theorem dX9_canSleep_39 : decode cX9_canSleep 39 = .ok (.if_icmp .eq 16, 3) := by decide +kernel
theorem dX9_canSleep_42 : decode cX9_canSleep 42 = .ok (.aload_n 0, 1) := by decide +kernel
theorem dX9_canSleep_43 : decode cX9_canSleep 43 = .ok (.iload_n 2, 1) := by decide +kernel
theorem dX9_canSleep_44 : decode cX9_canSleep 44 = .ok (.invokevirtual 59, 3) := by decide +kernel
theorem dX9_canSleep_47 : decode cX9_canSleep 47 = .ok (.ifCond .ne 8, 3) := by decide +kernel
theorem dX9_canSleep_50 : decode cX9_canSleep 50 = .ok (.bipush (-3), 2) := by decide +kernel
theorem dX9_canSleep_52 : decode cX9_canSleep 52 = .ok (.goto 4, 3) := by decide +kernel
theorem dX9_canSleep_55 : decode cX9_canSleep 55 = .ok (.iconst 0, 1) := by decide +kernel
theorem dX9_canSleep_56 : decode cX9_canSleep 56 = .ok (.ireturn, 1) := by decide +kernel
theorem dX9_sleepNow_0 : decode cX9_sleepNow 0 = .ok (.aload_n 0, 1) := by decide +kernel
theorem dX9_sleepNow_1 : decode cX9_sleepNow 1 = .ok (.getfield 7, 3) := by decide +kernel
theorem dX9_sleepNow_4 : decode cX9_sleepNow 4 = .ok (.bipush 10, 2) := by decide +kernel
theorem dX9_sleepNow_6 : decode cX9_sleepNow 6 = .ok (.iconst 4, 1) := by decide +kernel
theorem dX9_sleepNow_7 : decode cX9_sleepNow 7 = .ok (.iload_n 1, 1) := by decide +kernel
theorem dX9_sleepNow_8 : decode cX9_sleepNow 8 = .ok (.imul, 1) := by decide +kernel
theorem dX9_sleepNow_9 : decode cX9_sleepNow 9 = .ok (.iadd, 1) := by decide +kernel
theorem dX9_sleepNow_10 : decode cX9_sleepNow 10 = .ok (.iconst 0, 1) := by decide +kernel
theorem dX9_sleepNow_11 : decode cX9_sleepNow 11 = .ok (.iastore, 1) := by decide +kernel
theorem dX9_sleepNow_12 : decode cX9_sleepNow 12 = .ok (.aload_n 0, 1) := by decide +kernel
theorem dX9_sleepNow_13 : decode cX9_sleepNow 13 = .ok (.getfield 7, 3) := by decide +kernel
theorem dX9_sleepNow_16 : decode cX9_sleepNow 16 = .ok (.bipush 10, 2) := by decide +kernel
theorem dX9_sleepNow_18 : decode cX9_sleepNow 18 = .ok (.iconst 4, 1) := by decide +kernel
theorem dX9_sleepNow_19 : decode cX9_sleepNow 19 = .ok (.iload_n 1, 1) := by decide +kernel
theorem dX9_sleepNow_20 : decode cX9_sleepNow 20 = .ok (.imul, 1) := by decide +kernel
theorem dX9_sleepNow_21 : decode cX9_sleepNow 21 = .ok (.iadd, 1) := by decide +kernel
theorem dX9_sleepNow_22 : decode cX9_sleepNow 22 = .ok (.iconst 1, 1) := by decide +kernel
theorem dX9_sleepNow_23 : decode cX9_sleepNow 23 = .ok (.iadd, 1) := by decide +kernel
theorem dX9_sleepNow_24 : decode cX9_sleepNow 24 = .ok (.iload_n 2, 1) := by decide +kernel
theorem dX9_sleepNow_25 : decode cX9_sleepNow 25 = .ok (.iastore, 1) := by decide +kernel
theorem dX9_sleepNow_26 : decode cX9_sleepNow 26 = .ok (.aload_n 0, 1) := by decide +kernel
theorem dX9_sleepNow_27 : decode cX9_sleepNow 27 = .ok (.iload_n 1, 1) := by decide +kernel
theorem dX9_sleepNow_28 : decode cX9_sleepNow 28 = .ok (.invokevirtual 151, 3) := by decide +kernel
theorem dX9_sleepNow_31 : decode cX9_sleepNow 31 = .ok (.ireturn, 1) := by decide +kernel
theorem dX9_sleeps_0 : decode cX9_sleeps 0 = .ok (.aload_n 0, 1) := by decide +kernel
theorem dX9_sleeps_1 : decode cX9_sleeps 1 = .ok (.iload_n 1, 1) := by decide +kernel
theorem dX9_sleeps_2 : decode cX9_sleeps 2 = .ok (.iload_n 2, 1) := by decide +kernel
theorem dX9_sleeps_3 : decode cX9_sleeps 3 = .ok (.invokevirtual 215, 3) := by decide +kernel
theorem dX9_sleeps_6 : decode cX9_sleeps 6 = .ok (.istore_n 3, 1) := by decide +kernel
theorem dX9_sleeps_7 : decode cX9_sleeps 7 = .ok (.iload_n 3, 1) := by decide +kernel
theorem dX9_sleeps_8 : decode cX9_sleeps 8 = .ok (.ifCond .ge 9, 3) := by decide +kernel
theorem dX9_sleeps_11 : decode cX9_sleeps 11 = .ok (.aload_n 0, 1) := by decide +kernel
theorem dX9_sleeps_12 : decode cX9_sleeps 12 = .ok (.iload_n 3, 1) := by decide +kernel
theorem dX9_sleeps_13 : decode cX9_sleeps 13 = .ok (.invokevirtual 97, 3) := by decide +kernel
theorem dX9_sleeps_16 : decode cX9_sleeps 16 = .ok (.ireturn, 1) := by decide +kernel
theorem dX9_sleeps_17 : decode cX9_sleeps 17 = .ok (.aload_n 0, 1) := by decide +kernel
theorem dX9_sleeps_18 : decode cX9_sleeps 18 = .ok (.invokevirtual 100, 3) := by decide +kernel
theorem dX9_sleeps_21 : decode cX9_sleeps 21 = .ok (.aload_n 0, 1) := by decide +kernel
theorem dX9_sleeps_22 : decode cX9_sleeps 22 = .ok (.iload_n 1, 1) := by decide +kernel
theorem dX9_sleeps_23 : decode cX9_sleeps 23 = .ok (.iload_n 2, 1) := by decide +kernel
theorem dX9_sleeps_24 : decode cX9_sleeps 24 = .ok (.invokevirtual 218, 3) := by decide +kernel
theorem dX9_sleeps_27 : decode cX9_sleeps 27 = .ok (.ireturn, 1) := by decide +kernel
theorem dX9_canWake_0 : decode cX9_canWake 0 = .ok (.aload_n 0, 1) := by decide +kernel
theorem dX9_canWake_1 : decode cX9_canWake 1 = .ok (.iload_n 1, 1) := by decide +kernel
theorem dX9_canWake_2 : decode cX9_canWake 2 = .ok (.invokevirtual 110, 3) := by decide +kernel
theorem dX9_canWake_5 : decode cX9_canWake 5 = .ok (.ifCond .ne 8, 3) := by decide +kernel
theorem dX9_canWake_8 : decode cX9_canWake 8 = .ok (.bipush (-2), 2) := by decide +kernel
theorem dX9_canWake_10 : decode cX9_canWake 10 = .ok (.goto 17, 3) := by decide +kernel
theorem dX9_canWake_13 : decode cX9_canWake 13 = .ok (.aload_n 0, 1) := by decide +kernel
theorem dX9_canWake_14 : decode cX9_canWake 14 = .ok (.iload_n 1, 1) := by decide +kernel
theorem dX9_canWake_15 : decode cX9_canWake 15 = .ok (.invokevirtual 59, 3) := by decide +kernel
theorem dX9_canWake_18 : decode cX9_canWake 18 = .ok (.ifCond .eq 8, 3) := by decide +kernel
theorem dX9_canWake_21 : decode cX9_canWake 21 = .ok (.bipush (-3), 2) := by decide +kernel
theorem dX9_canWake_23 : decode cX9_canWake 23 = .ok (.goto 4, 3) := by decide +kernel
theorem dX9_canWake_26 : decode cX9_canWake 26 = .ok (.iconst 0, 1) := by decide +kernel
theorem dX9_canWake_27 : decode cX9_canWake 27 = .ok (.ireturn, 1) := by decide +kernel
theorem dX9_wakeNow_0 : decode cX9_wakeNow 0 = .ok (.aload_n 0, 1) := by decide +kernel
theorem dX9_wakeNow_1 : decode cX9_wakeNow 1 = .ok (.getfield 7, 3) := by decide +kernel
theorem dX9_wakeNow_4 : decode cX9_wakeNow 4 = .ok (.iconst 2, 1) := by decide +kernel
theorem dX9_wakeNow_5 : decode cX9_wakeNow 5 = .ok (.iaload, 1) := by decide +kernel
theorem dX9_wakeNow_6 : decode cX9_wakeNow 6 = .ok (.istore_n 2, 1) := by decide +kernel
theorem dX9_wakeNow_7 : decode cX9_wakeNow 7 = .ok (.aload_n 0, 1) := by decide +kernel
theorem dX9_wakeNow_8 : decode cX9_wakeNow 8 = .ok (.getfield 7, 3) := by decide +kernel
theorem dX9_wakeNow_11 : decode cX9_wakeNow 11 = .ok (.bipush 10, 2) := by decide +kernel
theorem dX9_wakeNow_13 : decode cX9_wakeNow 13 = .ok (.iconst 4, 1) := by decide +kernel
theorem dX9_wakeNow_14 : decode cX9_wakeNow 14 = .ok (.iload_n 1, 1) := by decide +kernel
theorem dX9_wakeNow_15 : decode cX9_wakeNow 15 = .ok (.imul, 1) := by decide +kernel
theorem dX9_wakeNow_16 : decode cX9_wakeNow 16 = .ok (.iadd, 1) := by decide +kernel
theorem dX9_wakeNow_17 : decode cX9_wakeNow 17 = .ok (.iconst 1, 1) := by decide +kernel
theorem dX9_wakeNow_18 : decode cX9_wakeNow 18 = .ok (.iastore, 1) := by decide +kernel
theorem dX9_wakeNow_19 : decode cX9_wakeNow 19 = .ok (.aload_n 0, 1) := by decide +kernel
theorem dX9_wakeNow_20 : decode cX9_wakeNow 20 = .ok (.getfield 7, 3) := by decide +kernel
theorem dX9_wakeNow_23 : decode cX9_wakeNow 23 = .ok (.bipush 10, 2) := by decide +kernel
theorem dX9_wakeNow_25 : decode cX9_wakeNow 25 = .ok (.iconst 4, 1) := by decide +kernel
theorem dX9_wakeNow_26 : decode cX9_wakeNow 26 = .ok (.iload_n 1, 1) := by decide +kernel
theorem dX9_wakeNow_27 : decode cX9_wakeNow 27 = .ok (.imul, 1) := by decide +kernel
theorem dX9_wakeNow_28 : decode cX9_wakeNow 28 = .ok (.iadd, 1) := by decide +kernel
theorem dX9_wakeNow_29 : decode cX9_wakeNow 29 = .ok (.iconst 1, 1) := by decide +kernel
theorem dX9_wakeNow_30 : decode cX9_wakeNow 30 = .ok (.iadd, 1) := by decide +kernel
theorem dX9_wakeNow_31 : decode cX9_wakeNow 31 = .ok (.iconst (-1), 1) := by decide +kernel
theorem dX9_wakeNow_32 : decode cX9_wakeNow 32 = .ok (.iastore, 1) := by decide +kernel
theorem dX9_wakeNow_33 : decode cX9_wakeNow 33 = .ok (.iconst 0, 1) := by decide +kernel
theorem dX9_wakeNow_34 : decode cX9_wakeNow 34 = .ok (.istore_n 3, 1) := by decide +kernel
theorem dX9_wakeNow_35 : decode cX9_wakeNow 35 = .ok (.iload_n 3, 1) := by decide +kernel
theorem dX9_wakeNow_36 : decode cX9_wakeNow 36 = .ok (.aload_n 0, 1) := by decide +kernel
theorem dX9_wakeNow_37 : decode cX9_wakeNow 37 = .ok (.iload_n 1, 1) := by decide +kernel
theorem dX9_wakeNow_38 : decode cX9_wakeNow 38 = .ok (.invokevirtual 73, 3) := by decide +kernel
theorem dX9_wakeNow_41 : decode cX9_wakeNow 41 = .ok (.if_icmp .ge 83, 3) := by decide +kernel
theorem dX9_wakeNow_44 : decode cX9_wakeNow 44 = .ok (.iload_n 1, 1) := by decide +kernel
theorem dX9_wakeNow_45 : decode cX9_wakeNow 45 = .ok (.iload_n 3, 1) := by decide +kernel
theorem dX9_wakeNow_46 : decode cX9_wakeNow 46 = .ok (.invokestatic 55, 3) := by decide +kernel
theorem dX9_wakeNow_49 : decode cX9_wakeNow 49 = .ok (.istore 4, 2) := by decide +kernel
theorem dX9_wakeNow_51 : decode cX9_wakeNow 51 = .ok (.aload_n 0, 1) := by decide +kernel
theorem dX9_wakeNow_52 : decode cX9_wakeNow 52 = .ok (.getfield 7, 3) := by decide +kernel
theorem dX9_wakeNow_55 : decode cX9_wakeNow 55 = .ok (.iload 4, 2) := by decide +kernel
theorem dX9_wakeNow_57 : decode cX9_wakeNow 57 = .ok (.iconst 4, 1) := by decide +kernel
theorem dX9_wakeNow_58 : decode cX9_wakeNow 58 = .ok (.iadd, 1) := by decide +kernel
theorem dX9_wakeNow_59 : decode cX9_wakeNow 59 = .ok (.iaload, 1) := by decide +kernel
theorem dX9_wakeNow_60 : decode cX9_wakeNow 60 = .ok (.iconst 3, 1) := by decide +kernel
theorem dX9_wakeNow_61 : decode cX9_wakeNow 61 = .ok (.if_icmp .ne 57, 3) := by decide +kernel
theorem dX9_wakeNow_64 : decode cX9_wakeNow 64 = .ok (.aload_n 0, 1) := by decide +kernel
theorem dX9_wakeNow_65 : decode cX9_wakeNow 65 = .ok (.getfield 7, 3) := by decide +kernel
theorem dX9_wakeNow_68 : decode cX9_wakeNow 68 = .ok (.iload 4, 2) := by decide +kernel
theorem dX9_wakeNow_70 : decode cX9_wakeNow 70 = .ok (.bipush 6, 2) := by decide +kernel
theorem dX9_wakeNow_72 : decode cX9_wakeNow 72 = .ok (.iadd, 1) := by decide +kernel
theorem dX9_wakeNow_73 : decode cX9_wakeNow 73 = .ok (.iaload, 1) := by decide +kernel
theorem dX9_wakeNow_74 : decode cX9_wakeNow 74 = .ok (.iconst 1, 1) := by decide +kernel
theorem dX9_wakeNow_75 : decode cX9_wakeNow 75 = .ok (.if_icmp .ne 36, 3) := by decide +kernel
theorem dX9_wakeNow_78 : decode cX9_wakeNow 78 = .ok (.aload_n 0, 1) := by decide +kernel
theorem dX9_wakeNow_79 : decode cX9_wakeNow 79 = .ok (.iload_n 1, 1) := by decide +kernel
theorem dX9_wakeNow_80 : decode cX9_wakeNow 80 = .ok (.iload 4, 2) := by decide +kernel
theorem dX9_wakeNow_82 : decode cX9_wakeNow 82 = .ok (.invokevirtual 162, 3) := by decide +kernel
theorem dX9_wakeNow_85 : decode cX9_wakeNow 85 = .ok (.ifCond .eq 26, 3) := by decide +kernel
theorem dX9_wakeNow_88 : decode cX9_wakeNow 88 = .ok (.aload_n 0, 1) := by decide +kernel
theorem dX9_wakeNow_89 : decode cX9_wakeNow 89 = .ok (.getfield 7, 3) := by decide +kernel
theorem dX9_wakeNow_92 : decode cX9_wakeNow 92 = .ok (.iload 4, 2) := by decide +kernel
theorem dX9_wakeNow_94 : decode cX9_wakeNow 94 = .ok (.iconst 4, 1) := by decide +kernel
theorem dX9_wakeNow_95 : decode cX9_wakeNow 95 = .ok (.iadd, 1) := by decide +kernel
theorem dX9_wakeNow_96 : decode cX9_wakeNow 96 = .ok (.iconst 0, 1) := by decide +kernel
theorem dX9_wakeNow_97 : decode cX9_wakeNow 97 = .ok (.iastore, 1) := by decide +kernel
theorem dX9_wakeNow_98 : decode cX9_wakeNow 98 = .ok (.aload_n 0, 1) := by decide +kernel
theorem dX9_wakeNow_99 : decode cX9_wakeNow 99 = .ok (.getfield 7, 3) := by decide +kernel
theorem dX9_wakeNow_102 : decode cX9_wakeNow 102 = .ok (.iload 4, 2) := by decide +kernel
theorem dX9_wakeNow_104 : decode cX9_wakeNow 104 = .ok (.iconst 5, 1) := by decide +kernel
theorem dX9_wakeNow_105 : decode cX9_wakeNow 105 = .ok (.iadd, 1) := by decide +kernel
theorem dX9_wakeNow_106 : decode cX9_wakeNow 106 = .ok (.iconst 0, 1) := by decide +kernel
theorem dX9_wakeNow_107 : decode cX9_wakeNow 107 = .ok (.iastore, 1) := by decide +kernel
theorem dX9_wakeNow_108 : decode cX9_wakeNow 108 = .ok (.goto 10, 3) := by decide +kernel
theorem dX9_wakeNow_111 : decode cX9_wakeNow 111 = .ok (.aload_n 0, 1) := by decide +kernel
theorem dX9_wakeNow_112 : decode cX9_wakeNow 112 = .ok (.iload_n 1, 1) := by decide +kernel
theorem dX9_wakeNow_113 : decode cX9_wakeNow 113 = .ok (.iload 4, 2) := by decide +kernel
theorem dX9_wakeNow_115 : decode cX9_wakeNow 115 = .ok (.invokevirtual 122, 3) := by decide +kernel
theorem dX9_wakeNow_118 : decode cX9_wakeNow 118 = .ok (.iinc 3 1, 3) := by decide +kernel
theorem dX9_wakeNow_121 : decode cX9_wakeNow 121 = .ok (.goto (-86), 3) := by decide +kernel
theorem dX9_wakeNow_124 : decode cX9_wakeNow 124 = .ok (.aload_n 0, 1) := by decide +kernel
theorem dX9_wakeNow_125 : decode cX9_wakeNow 125 = .ok (.getfield 7, 3) := by decide +kernel
theorem dX9_wakeNow_128 : decode cX9_wakeNow 128 = .ok (.iconst 2, 1) := by decide +kernel
theorem dX9_wakeNow_129 : decode cX9_wakeNow 129 = .ok (.iaload, 1) := by decide +kernel
theorem dX9_wakeNow_130 : decode cX9_wakeNow 130 = .ok (.iload_n 2, 1) := by decide +kernel
theorem dX9_wakeNow_131 : decode cX9_wakeNow 131 = .ok (.isub, 1) := by decide +kernel
theorem dX9_wakeNow_132 : decode cX9_wakeNow 132 = .ok (.ireturn, 1) := by decide +kernel
theorem dX9_wakes_0 : decode cX9_wakes 0 = .ok (.aload_n 0, 1) := by decide +kernel
theorem dX9_wakes_1 : decode cX9_wakes 1 = .ok (.iload_n 1, 1) := by decide +kernel
theorem dX9_wakes_2 : decode cX9_wakes 2 = .ok (.invokevirtual 221, 3) := by decide +kernel
theorem dX9_wakes_5 : decode cX9_wakes 5 = .ok (.istore_n 2, 1) := by decide +kernel
theorem dX9_wakes_6 : decode cX9_wakes 6 = .ok (.iload_n 2, 1) := by decide +kernel
theorem dX9_wakes_7 : decode cX9_wakes 7 = .ok (.ifCond .ge 9, 3) := by decide +kernel
theorem dX9_wakes_10 : decode cX9_wakes 10 = .ok (.aload_n 0, 1) := by decide +kernel
theorem dX9_wakes_11 : decode cX9_wakes 11 = .ok (.iload_n 2, 1) := by decide +kernel
theorem dX9_wakes_12 : decode cX9_wakes 12 = .ok (.invokevirtual 97, 3) := by decide +kernel
theorem dX9_wakes_15 : decode cX9_wakes 15 = .ok (.ireturn, 1) := by decide +kernel
theorem dX9_wakes_16 : decode cX9_wakes 16 = .ok (.aload_n 0, 1) := by decide +kernel
theorem dX9_wakes_17 : decode cX9_wakes 17 = .ok (.invokevirtual 100, 3) := by decide +kernel
theorem dX9_wakes_20 : decode cX9_wakes 20 = .ok (.aload_n 0, 1) := by decide +kernel
theorem dX9_wakes_21 : decode cX9_wakes 21 = .ok (.iload_n 1, 1) := by decide +kernel
theorem dX9_wakes_22 : decode cX9_wakes 22 = .ok (.invokevirtual 224, 3) := by decide +kernel
theorem dX9_wakes_25 : decode cX9_wakes 25 = .ok (.ireturn, 1) := by decide +kernel
theorem dX9_type_0 : decode cX9_type 0 = .ok (.iload_n 1, 1) := by decide +kernel
theorem dX9_type_1 : decode cX9_type 1 = .ok (.i2l, 1) := by decide +kernel
theorem dX9_type_2 : decode cX9_type 2 = .ok (.lconst 0, 1) := by decide +kernel
theorem dX9_type_3 : decode cX9_type 3 = .ok (.ldc2_w 227, 3) := by decide +kernel
theorem dX9_type_6 : decode cX9_type 6 = .ok (.invokestatic 47, 3) := by decide +kernel
theorem dX9_type_9 : decode cX9_type 9 = .ok (.ifCond .ne 10, 3) := by decide +kernel
theorem dX9_type_12 : decode cX9_type 12 = .ok (.aload_n 0, 1) := by decide +kernel
theorem dX9_type_13 : decode cX9_type 13 = .ok (.bipush (-2), 2) := by decide +kernel
theorem dX9_type_15 : decode cX9_type 15 = .ok (.invokevirtual 97, 3) := by decide +kernel
theorem dX9_type_18 : decode cX9_type 18 = .ok (.ireturn, 1) := by decide +kernel
theorem dX9_type_19 : decode cX9_type 19 = .ok (.aload_n 0, 1) := by decide +kernel
theorem dX9_type_20 : decode cX9_type 20 = .ok (.getfield 229, 3) := by decide +kernel
theorem dX9_type_23 : decode cX9_type 23 = .ok (.bipush 120, 2) := by decide +kernel
theorem dX9_type_25 : decode cX9_type 25 = .ok (.if_icmp .ne 10, 3) := by decide +kernel
theorem dX9_type_28 : decode cX9_type 28 = .ok (.aload_n 0, 1) := by decide +kernel
theorem dX9_type_29 : decode cX9_type 29 = .ok (.bipush (-4), 2) := by decide +kernel
theorem dX9_type_31 : decode cX9_type 31 = .ok (.invokevirtual 97, 3) := by decide +kernel
theorem dX9_type_34 : decode cX9_type 34 = .ok (.ireturn, 1) := by decide +kernel
theorem dX9_type_35 : decode cX9_type 35 = .ok (.aload_n 0, 1) := by decide +kernel
theorem dX9_type_36 : decode cX9_type 36 = .ok (.getfield 30, 3) := by decide +kernel
theorem dX9_type_39 : decode cX9_type 39 = .ok (.aload_n 0, 1) := by decide +kernel
theorem dX9_type_40 : decode cX9_type 40 = .ok (.getfield 229, 3) := by decide +kernel
theorem dX9_type_43 : decode cX9_type 43 = .ok (.iload_n 1, 1) := by decide +kernel
theorem dX9_type_44 : decode cX9_type 44 = .ok (.iastore, 1) := by decide +kernel
theorem dX9_type_45 : decode cX9_type 45 = .ok (.aload_n 0, 1) := by decide +kernel
theorem dX9_type_46 : decode cX9_type 46 = .ok (.dup, 1) := by decide +kernel
theorem dX9_type_47 : decode cX9_type 47 = .ok (.getfield 229, 3) := by decide +kernel
theorem dX9_type_50 : decode cX9_type 50 = .ok (.iconst 1, 1) := by decide +kernel
theorem dX9_type_51 : decode cX9_type 51 = .ok (.iadd, 1) := by decide +kernel
theorem dX9_type_52 : decode cX9_type 52 = .ok (.putfield 229, 3) := by decide +kernel
theorem dX9_type_55 : decode cX9_type 55 = .ok (.aload_n 0, 1) := by decide +kernel
theorem dX9_type_56 : decode cX9_type 56 = .ok (.getfield 229, 3) := by decide +kernel
theorem dX9_type_59 : decode cX9_type 59 = .ok (.ireturn, 1) := by decide +kernel
theorem dX9_clear_0 : decode cX9_clear 0 = .ok (.aload_n 0, 1) := by decide +kernel
theorem dX9_clear_1 : decode cX9_clear 1 = .ok (.getfield 229, 3) := by decide +kernel
theorem dX9_clear_4 : decode cX9_clear 4 = .ok (.istore_n 1, 1) := by decide +kernel
theorem dX9_clear_5 : decode cX9_clear 5 = .ok (.aload_n 0, 1) := by decide +kernel
theorem dX9_clear_6 : decode cX9_clear 6 = .ok (.iconst 0, 1) := by decide +kernel
theorem dX9_clear_7 : decode cX9_clear 7 = .ok (.putfield 229, 3) := by decide +kernel
theorem dX9_clear_10 : decode cX9_clear 10 = .ok (.iload_n 1, 1) := by decide +kernel
theorem dX9_clear_11 : decode cX9_clear 11 = .ok (.ireturn, 1) := by decide +kernel
theorem dX9_here_0 : decode cX9_here 0 = .ok (.aload_n 0, 1) := by decide +kernel
theorem dX9_here_1 : decode cX9_here 1 = .ok (.getfield 232, 3) := by decide +kernel
theorem dX9_here_4 : decode cX9_here 4 = .ok (.aload_n 0, 1) := by decide +kernel
theorem dX9_here_5 : decode cX9_here 5 = .ok (.getfield 229, 3) := by decide +kernel
theorem dX9_here_8 : decode cX9_here 8 = .ok (.if_icmp .ge 30, 3) := by decide +kernel
theorem dX9_here_11 : decode cX9_here 11 = .ok (.aload_n 0, 1) := by decide +kernel
theorem dX9_here_12 : decode cX9_here 12 = .ok (.getfield 30, 3) := by decide +kernel
theorem dX9_here_15 : decode cX9_here 15 = .ok (.aload_n 0, 1) := by decide +kernel
theorem dX9_here_16 : decode cX9_here 16 = .ok (.getfield 232, 3) := by decide +kernel
theorem dX9_here_19 : decode cX9_here 19 = .ok (.iaload, 1) := by decide +kernel
theorem dX9_here_20 : decode cX9_here 20 = .ok (.bipush 32, 2) := by decide +kernel
theorem dX9_here_22 : decode cX9_here 22 = .ok (.if_icmp .ne 16, 3) := by decide +kernel
theorem dX9_here_25 : decode cX9_here 25 = .ok (.aload_n 0, 1) := by decide +kernel
theorem dX9_here_26 : decode cX9_here 26 = .ok (.dup, 1) := by decide +kernel
theorem dX9_here_27 : decode cX9_here 27 = .ok (.getfield 232, 3) := by decide +kernel
theorem dX9_here_30 : decode cX9_here 30 = .ok (.iconst 1, 1) := by decide +kernel
theorem dX9_here_31 : decode cX9_here 31 = .ok (.iadd, 1) := by decide +kernel
theorem dX9_here_32 : decode cX9_here 32 = .ok (.putfield 232, 3) := by decide +kernel
theorem dX9_here_35 : decode cX9_here 35 = .ok (.goto (-35), 3) := by decide +kernel
theorem dX9_here_38 : decode cX9_here 38 = .ok (.aload_n 0, 1) := by decide +kernel
theorem dX9_here_39 : decode cX9_here 39 = .ok (.getfield 232, 3) := by decide +kernel
theorem dX9_here_42 : decode cX9_here 42 = .ok (.aload_n 0, 1) := by decide +kernel
theorem dX9_here_43 : decode cX9_here 43 = .ok (.getfield 229, 3) := by decide +kernel
theorem dX9_here_46 : decode cX9_here 46 = .ok (.if_icmp .ge 15, 3) := by decide +kernel
theorem dX9_here_49 : decode cX9_here 49 = .ok (.aload_n 0, 1) := by decide +kernel
theorem dX9_here_50 : decode cX9_here 50 = .ok (.getfield 30, 3) := by decide +kernel
theorem dX9_here_53 : decode cX9_here 53 = .ok (.aload_n 0, 1) := by decide +kernel
theorem dX9_here_54 : decode cX9_here 54 = .ok (.getfield 232, 3) := by decide +kernel
theorem dX9_here_57 : decode cX9_here 57 = .ok (.iaload, 1) := by decide +kernel
theorem dX9_here_58 : decode cX9_here 58 = .ok (.goto 4, 3) := by decide +kernel
theorem dX9_here_61 : decode cX9_here 61 = .ok (.iconst (-1), 1) := by decide +kernel
theorem dX9_here_62 : decode cX9_here 62 = .ok (.ireturn, 1) := by decide +kernel
theorem dX9_isFigure_0 : decode cX9_isFigure 0 = .ok (.iload_n 1, 1) := by decide +kernel
theorem dX9_isFigure_1 : decode cX9_isFigure 1 = .ok (.aload_n 0, 1) := by decide +kernel
theorem dX9_isFigure_2 : decode cX9_isFigure 2 = .ok (.getfield 229, 3) := by decide +kernel
theorem dX9_isFigure_5 : decode cX9_isFigure 5 = .ok (.if_icmp .ge 26, 3) := by decide +kernel
theorem dX9_isFigure_8 : decode cX9_isFigure 8 = .ok (.aload_n 0, 1) := by decide +kernel
theorem dX9_isFigure_9 : decode cX9_isFigure 9 = .ok (.getfield 30, 3) := by decide +kernel
theorem dX9_isFigure_12 : decode cX9_isFigure 12 = .ok (.iload_n 1, 1) := by decide +kernel
theorem dX9_isFigure_13 : decode cX9_isFigure 13 = .ok (.iaload, 1) := by decide +kernel
theorem dX9_isFigure_14 : decode cX9_isFigure 14 = .ok (.i2l, 1) := by decide +kernel
theorem dX9_isFigure_15 : decode cX9_isFigure 15 = .ok (.ldc2_w 235, 3) := by decide +kernel
theorem dX9_isFigure_18 : decode cX9_isFigure 18 = .ok (.ldc2_w 237, 3) := by decide +kernel
theorem dX9_isFigure_21 : decode cX9_isFigure 21 = .ok (.invokestatic 47, 3) := by decide +kernel
theorem dX9_isFigure_24 : decode cX9_isFigure 24 = .ok (.ifCond .eq 7, 3) := by decide +kernel
theorem dX9_isFigure_27 : decode cX9_isFigure 27 = .ok (.iconst 1, 1) := by decide +kernel
theorem dX9_isFigure_28 : decode cX9_isFigure 28 = .ok (.goto 4, 3) := by decide +kernel
theorem dX9_isFigure_31 : decode cX9_isFigure 31 = .ok (.iconst 0, 1) := by decide +kernel
theorem dX9_isFigure_32 : decode cX9_isFigure 32 = .ok (.ireturn, 1) := by decide +kernel
theorem dX9_takes_0 : decode cX9_takes 0 = .ok (.aload_n 0, 1) := by decide +kernel
theorem dX9_takes_1 : decode cX9_takes 1 = .ok (.invokevirtual 239, 3) := by decide +kernel
theorem dX9_takes_4 : decode cX9_takes 4 = .ok (.istore_n 2, 1) := by decide +kernel
theorem dX9_takes_5 : decode cX9_takes 5 = .ok (.iconst 0, 1) := by decide +kernel
theorem dX9_takes_6 : decode cX9_takes 6 = .ok (.istore_n 3, 1) := by decide +kernel
theorem dX9_takes_7 : decode cX9_takes 7 = .ok (.aload_n 0, 1) := by decide +kernel
theorem dX9_takes_8 : decode cX9_takes 8 = .ok (.getfield 33, 3) := by decide +kernel
theorem dX9_takes_11 : decode cX9_takes 11 = .ok (.iload_n 1, 1) := by decide +kernel
theorem dX9_takes_12 : decode cX9_takes 12 = .ok (.iconst 0, 1) := by decide +kernel
theorem dX9_takes_13 : decode cX9_takes 13 = .ok (.iastore, 1) := by decide +kernel
theorem dX9_takes_14 : decode cX9_takes 14 = .ok (.aload_n 0, 1) := by decide +kernel
theorem dX9_takes_15 : decode cX9_takes 15 = .ok (.aload_n 0, 1) := by decide +kernel
theorem dX9_takes_16 : decode cX9_takes 16 = .ok (.getfield 232, 3) := by decide +kernel
theorem dX9_takes_19 : decode cX9_takes 19 = .ok (.invokevirtual 242, 3) := by decide +kernel
theorem dX9_takes_22 : decode cX9_takes 22 = .ok (.ifCond .eq 52, 3) := by decide +kernel
theorem dX9_takes_25 : decode cX9_takes 25 = .ok (.iload_n 3, 1) := by decide +kernel
theorem dX9_takes_26 : decode cX9_takes 26 = .ok (.iconst 3, 1) := by decide +kernel
theorem dX9_takes_27 : decode cX9_takes 27 = .ok (.if_icmp .ge 47, 3) := by decide +kernel
theorem dX9_takes_30 : decode cX9_takes 30 = .ok (.aload_n 0, 1) := by decide +kernel
theorem dX9_takes_31 : decode cX9_takes 31 = .ok (.getfield 33, 3) := by decide +kernel
theorem dX9_takes_34 : decode cX9_takes 34 = .ok (.iload_n 1, 1) := by decide +kernel
theorem dX9_takes_35 : decode cX9_takes 35 = .ok (.bipush 10, 2) := by decide +kernel
theorem dX9_takes_37 : decode cX9_takes 37 = .ok (.aload_n 0, 1) := by decide +kernel
theorem dX9_takes_38 : decode cX9_takes 38 = .ok (.getfield 33, 3) := by decide +kernel
theorem dX9_takes_41 : decode cX9_takes 41 = .ok (.iload_n 1, 1) := by decide +kernel
theorem dX9_takes_42 : decode cX9_takes 42 = .ok (.iaload, 1) := by decide +kernel
theorem dX9_takes_43 : decode cX9_takes 43 = .ok (.imul, 1) := by decide +kernel
theorem dX9_takes_44 : decode cX9_takes 44 = .ok (.aload_n 0, 1) := by decide +kernel
theorem dX9_takes_45 : decode cX9_takes 45 = .ok (.getfield 30, 3) := by decide +kernel
theorem dX9_takes_48 : decode cX9_takes 48 = .ok (.aload_n 0, 1) := by decide +kernel
theorem dX9_takes_49 : decode cX9_takes 49 = .ok (.getfield 232, 3) := by decide +kernel
theorem dX9_takes_52 : decode cX9_takes 52 = .ok (.iaload, 1) := by decide +kernel
theorem dX9_takes_53 : decode cX9_takes 53 = .ok (.iadd, 1) := by decide +kernel
theorem dX9_takes_54 : decode cX9_takes 54 = .ok (.bipush 48, 2) := by decide +kernel
theorem dX9_takes_56 : decode cX9_takes 56 = .ok (.isub, 1) := by decide +kernel
theorem dX9_takes_57 : decode cX9_takes 57 = .ok (.iastore, 1) := by decide +kernel
theorem dX9_takes_58 : decode cX9_takes 58 = .ok (.aload_n 0, 1) := by decide +kernel
theorem dX9_takes_59 : decode cX9_takes 59 = .ok (.dup, 1) := by decide +kernel
theorem dX9_takes_60 : decode cX9_takes 60 = .ok (.getfield 232, 3) := by decide +kernel
theorem dX9_takes_63 : decode cX9_takes 63 = .ok (.iconst 1, 1) := by decide +kernel
theorem dX9_takes_64 : decode cX9_takes 64 = .ok (.iadd, 1) := by decide +kernel
theorem dX9_takes_65 : decode cX9_takes 65 = .ok (.putfield 232, 3) := by decide +kernel
theorem dX9_takes_68 : decode cX9_takes 68 = .ok (.iinc 3 1, 3) := by decide +kernel
theorem dX9_takes_71 : decode cX9_takes 71 = .ok (.goto (-57), 3) := by decide +kernel
theorem dX9_takes_74 : decode cX9_takes 74 = .ok (.iload_n 2, 1) := by decide +kernel
theorem dX9_takes_75 : decode cX9_takes 75 = .ok (.iconst (-1), 1) := by decide +kernel
theorem dX9_takes_76 : decode cX9_takes 76 = .ok (.if_icmp .eq 22, 3) := by decide +kernel
theorem dX9_takes_79 : decode cX9_takes 79 = .ok (.iload_n 3, 1) := by decide +kernel
theorem dX9_takes_80 : decode cX9_takes 80 = .ok (.ifCond .le 18, 3) := by decide +kernel
theorem dX9_takes_83 : decode cX9_takes 83 = .ok (.aload_n 0, 1) := by decide +kernel
theorem dX9_takes_84 : decode cX9_takes 84 = .ok (.aload_n 0, 1) := by decide +kernel
theorem dX9_takes_85 : decode cX9_takes 85 = .ok (.getfield 232, 3) := by decide +kernel
theorem dX9_takes_88 : decode cX9_takes 88 = .ok (.invokevirtual 242, 3) := by decide +kernel
theorem dX9_takes_91 : decode cX9_takes 91 = .ok (.ifCond .ne 7, 3) := by decide +kernel
theorem dX9_takes_94 : decode cX9_takes 94 = .ok (.iconst 1, 1) := by decide +kernel
theorem dX9_takes_95 : decode cX9_takes 95 = .ok (.goto 4, 3) := by decide +kernel
theorem dX9_takes_98 : decode cX9_takes 98 = .ok (.iconst 0, 1) := by decide +kernel
theorem dX9_takes_99 : decode cX9_takes 99 = .ok (.ireturn, 1) := by decide +kernel
theorem dX9_numbersOf_0 : decode cX9_numbersOf 0 = .ok (.iload_n 0, 1) := by decide +kernel
theorem dX9_numbersOf_1 : decode cX9_numbersOf 1 = .ok (.tableswitch 129 97 122 #[125, 129, 127, 129, 129, 129, 123, 119, 129, 129, 129, 129, 129, 129, 129, 129, 129, 129, 127, 121, 129, 129, 121, 129, 129, 121], 119) := by decide +kernel
theorem dX9_numbersOf_120 : decode cX9_numbersOf 120 = .ok (.iconst 0, 1) := by decide +kernel
theorem dX9_numbersOf_121 : decode cX9_numbersOf 121 = .ok (.ireturn, 1) := by decide +kernel
theorem dX9_numbersOf_122 : decode cX9_numbersOf 122 = .ok (.iconst 1, 1) := by decide +kernel
theorem dX9_numbersOf_123 : decode cX9_numbersOf 123 = .ok (.ireturn, 1) := by decide +kernel
theorem dX9_numbersOf_124 : decode cX9_numbersOf 124 = .ok (.iconst 2, 1) := by decide +kernel
theorem dX9_numbersOf_125 : decode cX9_numbersOf 125 = .ok (.ireturn, 1) := by decide +kernel
theorem dX9_numbersOf_126 : decode cX9_numbersOf 126 = .ok (.iconst 3, 1) := by decide +kernel
theorem dX9_numbersOf_127 : decode cX9_numbersOf 127 = .ok (.ireturn, 1) := by decide +kernel
theorem dX9_numbersOf_128 : decode cX9_numbersOf 128 = .ok (.iconst 5, 1) := by decide +kernel
theorem dX9_numbersOf_129 : decode cX9_numbersOf 129 = .ok (.ireturn, 1) := by decide +kernel
theorem dX9_numbersOf_130 : decode cX9_numbersOf 130 = .ok (.iconst (-1), 1) := by decide +kernel
theorem dX9_numbersOf_131 : decode cX9_numbersOf 131 = .ok (.ireturn, 1) := by decide +kernel
theorem dX9_can_0 : decode cX9_can 0 = .ok (.aload_n 0, 1) := by decide +kernel
theorem dX9_can_1 : decode cX9_can 1 = .ok (.getfield 33, 3) := by decide +kernel
theorem dX9_can_4 : decode cX9_can 4 = .ok (.iconst 0, 1) := by decide +kernel
theorem dX9_can_5 : decode cX9_can 5 = .ok (.iaload, 1) := by decide +kernel
theorem dX9_can_6 : decode cX9_can 6 = .ok (.istore_n 2, 1) := by decide +kernel
theorem dX9_can_7 : decode cX9_can 7 = .ok (.iload_n 1, 1) := by decide +kernel
theorem dX9_can_8 : decode cX9_can 8 = .ok (.lookupswitch 132 #[(97, 114), (103, 102), (104, 60), (116, 65), (119, 96), (122, 84)], 60) := by decide +kernel
theorem dX9_can_68 : decode cX9_can 68 = .ok (.aload_n 0, 1) := by decide +kernel
theorem dX9_can_69 : decode cX9_can 69 = .ok (.invokevirtual 93, 3) := by decide +kernel
theorem dX9_can_72 : decode cX9_can 72 = .ok (.ireturn, 1) := by decide +kernel
theorem dX9_can_73 : decode cX9_can 73 = .ok (.iload_n 2, 1) := by decide +kernel
theorem dX9_can_74 : decode cX9_can 74 = .ok (.i2l, 1) := by decide +kernel
theorem dX9_can_75 : decode cX9_can 75 = .ok (.lconst 1, 1) := by decide +kernel
theorem dX9_can_76 : decode cX9_can 76 = .ok (.ldc2_w 120, 3) := by decide +kernel
theorem dX9_can_79 : decode cX9_can 79 = .ok (.invokestatic 47, 3) := by decide +kernel
theorem dX9_can_82 : decode cX9_can 82 = .ok (.ifCond .eq 7, 3) := by decide +kernel
theorem dX9_can_85 : decode cX9_can 85 = .ok (.iconst 0, 1) := by decide +kernel
theorem dX9_can_86 : decode cX9_can 86 = .ok (.goto 5, 3) := by decide +kernel
theorem dX9_can_89 : decode cX9_can 89 = .ok (.bipush (-2), 2) := by decide +kernel
theorem dX9_can_91 : decode cX9_can 91 = .ok (.ireturn, 1) := by decide +kernel
theorem dX9_can_92 : decode cX9_can 92 = .ok (.aload_n 0, 1) := by decide +kernel
theorem dX9_can_93 : decode cX9_can 93 = .ok (.iload_n 2, 1) := by decide +kernel
theorem dX9_can_94 : decode cX9_can 94 = .ok (.aload_n 0, 1) := by decide +kernel
theorem dX9_can_95 : decode cX9_can 95 = .ok (.getfield 33, 3) := by decide +kernel
theorem dX9_can_98 : decode cX9_can 98 = .ok (.iconst 1, 1) := by decide +kernel
theorem dX9_can_99 : decode cX9_can 99 = .ok (.iaload, 1) := by decide +kernel
theorem dX9_can_100 : decode cX9_can 100 = .ok (.invokevirtual 215, 3) := by decide +kernel
theorem dX9_can_103 : decode cX9_can 103 = .ok (.ireturn, 1) := by decide +kernel
theorem dX9_can_104 : decode cX9_can 104 = .ok (.aload_n 0, 1) := by decide +kernel
theorem dX9_can_105 : decode cX9_can 105 = .ok (.iload_n 2, 1) := by decide +kernel
theorem dX9_can_106 : decode cX9_can 106 = .ok (.invokevirtual 221, 3) := by decide +kernel
theorem dX9_can_109 : decode cX9_can 109 = .ok (.ireturn, 1) := by decide +kernel
theorem dX9_can_110 : decode cX9_can 110 = .ok (.aload_n 0, 1) := by decide +kernel
theorem dX9_can_111 : decode cX9_can 111 = .ok (.iload_n 2, 1) := by decide +kernel
theorem dX9_can_112 : decode cX9_can 112 = .ok (.aload_n 0, 1) := by decide +kernel
theorem dX9_can_113 : decode cX9_can 113 = .ok (.getfield 33, 3) := by decide +kernel
theorem dX9_can_116 : decode cX9_can 116 = .ok (.iconst 1, 1) := by decide +kernel
theorem dX9_can_117 : decode cX9_can 117 = .ok (.iaload, 1) := by decide +kernel
theorem dX9_can_118 : decode cX9_can 118 = .ok (.invokevirtual 136, 3) := by decide +kernel
theorem dX9_can_121 : decode cX9_can 121 = .ok (.ireturn, 1) := by decide +kernel
theorem dX9_can_122 : decode cX9_can 122 = .ok (.aload_n 0, 1) := by decide +kernel
theorem dX9_can_123 : decode cX9_can 123 = .ok (.iload_n 2, 1) := by decide +kernel
theorem dX9_can_124 : decode cX9_can 124 = .ok (.aload_n 0, 1) := by decide +kernel
theorem dX9_can_125 : decode cX9_can 125 = .ok (.getfield 33, 3) := by decide +kernel
theorem dX9_can_128 : decode cX9_can 128 = .ok (.iconst 1, 1) := by decide +kernel
theorem dX9_can_129 : decode cX9_can 129 = .ok (.iaload, 1) := by decide +kernel
theorem dX9_can_130 : decode cX9_can 130 = .ok (.aload_n 0, 1) := by decide +kernel
theorem dX9_can_131 : decode cX9_can 131 = .ok (.getfield 33, 3) := by decide +kernel
theorem dX9_can_134 : decode cX9_can 134 = .ok (.iconst 2, 1) := by decide +kernel
theorem dX9_can_135 : decode cX9_can 135 = .ok (.iaload, 1) := by decide +kernel
theorem dX9_can_136 : decode cX9_can 136 = .ok (.invokevirtual 191, 3) := by decide +kernel
theorem dX9_can_139 : decode cX9_can 139 = .ok (.ireturn, 1) := by decide +kernel
theorem dX9_can_140 : decode cX9_can 140 = .ok (.aload_n 0, 1) := by decide +kernel
theorem dX9_can_141 : decode cX9_can 141 = .ok (.iload_n 2, 1) := by decide +kernel
theorem dX9_can_142 : decode cX9_can 142 = .ok (.aload_n 0, 1) := by decide +kernel
theorem dX9_can_143 : decode cX9_can 143 = .ok (.getfield 33, 3) := by decide +kernel
theorem dX9_can_146 : decode cX9_can 146 = .ok (.iconst 1, 1) := by decide +kernel
theorem dX9_can_147 : decode cX9_can 147 = .ok (.iaload, 1) := by decide +kernel
theorem dX9_can_148 : decode cX9_can 148 = .ok (.aload_n 0, 1) := by decide +kernel
theorem dX9_can_149 : decode cX9_can 149 = .ok (.getfield 33, 3) := by decide +kernel
theorem dX9_can_152 : decode cX9_can 152 = .ok (.iconst 2, 1) := by decide +kernel
theorem dX9_can_153 : decode cX9_can 153 = .ok (.iaload, 1) := by decide +kernel
theorem dX9_can_154 : decode cX9_can 154 = .ok (.aload_n 0, 1) := by decide +kernel
theorem dX9_can_155 : decode cX9_can 155 = .ok (.getfield 33, 3) := by decide +kernel
theorem dX9_can_158 : decode cX9_can 158 = .ok (.iconst 3, 1) := by decide +kernel
theorem dX9_can_159 : decode cX9_can 159 = .ok (.iaload, 1) := by decide +kernel
theorem dX9_can_160 : decode cX9_can 160 = .ok (.aload_n 0, 1) := by decide +kernel
theorem dX9_can_161 : decode cX9_can 161 = .ok (.getfield 33, 3) := by decide +kernel
theorem dX9_can_164 : decode cX9_can 164 = .ok (.iconst 4, 1) := by decide +kernel
theorem dX9_can_165 : decode cX9_can 165 = .ok (.iaload, 1) := by decide +kernel
theorem dX9_can_166 : decode cX9_can 166 = .ok (.invokevirtual 125, 3) := by decide +kernel
theorem dX9_can_169 : decode cX9_can 169 = .ok (.ireturn, 1) := by decide +kernel
theorem dX9_does_0 : decode cX9_does 0 = .ok (.aload_n 0, 1) := by decide +kernel
theorem dX9_does_1 : decode cX9_does 1 = .ok (.getfield 33, 3) := by decide +kernel
theorem dX9_does_4 : decode cX9_does 4 = .ok (.iconst 0, 1) := by decide +kernel
theorem dX9_does_5 : decode cX9_does 5 = .ok (.iaload, 1) := by decide +kernel
theorem dX9_does_6 : decode cX9_does 6 = .ok (.istore_n 2, 1) := by decide +kernel
theorem dX9_does_7 : decode cX9_does 7 = .ok (.iload_n 1, 1) := by decide +kernel
theorem dX9_does_8 : decode cX9_does 8 = .ok (.lookupswitch 119 #[(97, 101), (103, 89), (104, 60), (116, 65), (119, 83), (122, 71)], 60) := by decide +kernel
theorem dX9_does_68 : decode cX9_does 68 = .ok (.aload_n 0, 1) := by decide +kernel
theorem dX9_does_69 : decode cX9_does 69 = .ok (.invokevirtual 103, 3) := by decide +kernel
theorem dX9_does_72 : decode cX9_does 72 = .ok (.ireturn, 1) := by decide +kernel
theorem dX9_does_73 : decode cX9_does 73 = .ok (.aload_n 0, 1) := by decide +kernel
theorem dX9_does_74 : decode cX9_does 74 = .ok (.iload_n 2, 1) := by decide +kernel
theorem dX9_does_75 : decode cX9_does 75 = .ok (.invokevirtual 179, 3) := by decide +kernel
theorem dX9_does_78 : decode cX9_does 78 = .ok (.ireturn, 1) := by decide +kernel
theorem dX9_does_79 : decode cX9_does 79 = .ok (.aload_n 0, 1) := by decide +kernel
theorem dX9_does_80 : decode cX9_does 80 = .ok (.iload_n 2, 1) := by decide +kernel
theorem dX9_does_81 : decode cX9_does 81 = .ok (.aload_n 0, 1) := by decide +kernel
theorem dX9_does_82 : decode cX9_does 82 = .ok (.getfield 33, 3) := by decide +kernel
theorem dX9_does_85 : decode cX9_does 85 = .ok (.iconst 1, 1) := by decide +kernel
theorem dX9_does_86 : decode cX9_does 86 = .ok (.iaload, 1) := by decide +kernel
theorem dX9_does_87 : decode cX9_does 87 = .ok (.invokevirtual 218, 3) := by decide +kernel
theorem dX9_does_90 : decode cX9_does 90 = .ok (.ireturn, 1) := by decide +kernel
theorem dX9_does_91 : decode cX9_does 91 = .ok (.aload_n 0, 1) := by decide +kernel
theorem dX9_does_92 : decode cX9_does 92 = .ok (.iload_n 2, 1) := by decide +kernel
theorem dX9_does_93 : decode cX9_does 93 = .ok (.invokevirtual 224, 3) := by decide +kernel
theorem dX9_does_96 : decode cX9_does 96 = .ok (.ireturn, 1) := by decide +kernel
theorem dX9_does_97 : decode cX9_does 97 = .ok (.aload_n 0, 1) := by decide +kernel
theorem dX9_does_98 : decode cX9_does 98 = .ok (.iload_n 2, 1) := by decide +kernel
theorem dX9_does_99 : decode cX9_does 99 = .ok (.aload_n 0, 1) := by decide +kernel
theorem dX9_does_100 : decode cX9_does 100 = .ok (.getfield 33, 3) := by decide +kernel
theorem dX9_does_103 : decode cX9_does 103 = .ok (.iconst 1, 1) := by decide +kernel
theorem dX9_does_104 : decode cX9_does 104 = .ok (.iaload, 1) := by decide +kernel
theorem dX9_does_105 : decode cX9_does 105 = .ok (.invokevirtual 139, 3) := by decide +kernel
theorem dX9_does_108 : decode cX9_does 108 = .ok (.ireturn, 1) := by decide +kernel
theorem dX9_does_109 : decode cX9_does 109 = .ok (.aload_n 0, 1) := by decide +kernel
theorem dX9_does_110 : decode cX9_does 110 = .ok (.iload_n 2, 1) := by decide +kernel
theorem dX9_does_111 : decode cX9_does 111 = .ok (.aload_n 0, 1) := by decide +kernel
theorem dX9_does_112 : decode cX9_does 112 = .ok (.getfield 33, 3) := by decide +kernel
theorem dX9_does_115 : decode cX9_does 115 = .ok (.iconst 1, 1) := by decide +kernel
theorem dX9_does_116 : decode cX9_does 116 = .ok (.iaload, 1) := by decide +kernel
theorem dX9_does_117 : decode cX9_does 117 = .ok (.aload_n 0, 1) := by decide +kernel
theorem dX9_does_118 : decode cX9_does 118 = .ok (.getfield 33, 3) := by decide +kernel
theorem dX9_does_121 : decode cX9_does 121 = .ok (.iconst 2, 1) := by decide +kernel
theorem dX9_does_122 : decode cX9_does 122 = .ok (.iaload, 1) := by decide +kernel
theorem dX9_does_123 : decode cX9_does 123 = .ok (.invokevirtual 194, 3) := by decide +kernel
theorem dX9_does_126 : decode cX9_does 126 = .ok (.ireturn, 1) := by decide +kernel
theorem dX9_does_127 : decode cX9_does 127 = .ok (.aload_n 0, 1) := by decide +kernel
theorem dX9_does_128 : decode cX9_does 128 = .ok (.iload_n 2, 1) := by decide +kernel
theorem dX9_does_129 : decode cX9_does 129 = .ok (.aload_n 0, 1) := by decide +kernel
theorem dX9_does_130 : decode cX9_does 130 = .ok (.getfield 33, 3) := by decide +kernel
theorem dX9_does_133 : decode cX9_does 133 = .ok (.iconst 1, 1) := by decide +kernel
theorem dX9_does_134 : decode cX9_does 134 = .ok (.iaload, 1) := by decide +kernel
theorem dX9_does_135 : decode cX9_does 135 = .ok (.aload_n 0, 1) := by decide +kernel
theorem dX9_does_136 : decode cX9_does 136 = .ok (.getfield 33, 3) := by decide +kernel
theorem dX9_does_139 : decode cX9_does 139 = .ok (.iconst 2, 1) := by decide +kernel
theorem dX9_does_140 : decode cX9_does 140 = .ok (.iaload, 1) := by decide +kernel
theorem dX9_does_141 : decode cX9_does 141 = .ok (.aload_n 0, 1) := by decide +kernel
theorem dX9_does_142 : decode cX9_does 142 = .ok (.getfield 33, 3) := by decide +kernel
theorem dX9_does_145 : decode cX9_does 145 = .ok (.iconst 3, 1) := by decide +kernel
theorem dX9_does_146 : decode cX9_does 146 = .ok (.iaload, 1) := by decide +kernel
theorem dX9_does_147 : decode cX9_does 147 = .ok (.aload_n 0, 1) := by decide +kernel
theorem dX9_does_148 : decode cX9_does 148 = .ok (.getfield 33, 3) := by decide +kernel
theorem dX9_does_151 : decode cX9_does 151 = .ok (.iconst 4, 1) := by decide +kernel
theorem dX9_does_152 : decode cX9_does 152 = .ok (.iaload, 1) := by decide +kernel
theorem dX9_does_153 : decode cX9_does 153 = .ok (.iload_n 1, 1) := by decide +kernel
theorem dX9_does_154 : decode cX9_does 154 = .ok (.bipush 99, 2) := by decide +kernel
theorem dX9_does_156 : decode cX9_does 156 = .ok (.if_icmp .ne 7, 3) := by decide +kernel
theorem dX9_does_159 : decode cX9_does 159 = .ok (.iconst 1, 1) := by decide +kernel
theorem dX9_does_160 : decode cX9_does 160 = .ok (.goto 4, 3) := by decide +kernel
theorem dX9_does_163 : decode cX9_does 163 = .ok (.iconst 0, 1) := by decide +kernel
theorem dX9_does_164 : decode cX9_does 164 = .ok (.invokevirtual 129, 3) := by decide +kernel
theorem dX9_does_167 : decode cX9_does 167 = .ok (.ireturn, 1) := by decide +kernel
theorem dX9_readsOrder_0 : decode cX9_readsOrder 0 = .ok (.aload_n 0, 1) := by decide +kernel
theorem dX9_readsOrder_1 : decode cX9_readsOrder 1 = .ok (.invokevirtual 239, 3) := by decide +kernel
theorem dX9_readsOrder_4 : decode cX9_readsOrder 4 = .ok (.istore_n 2, 1) := by decide +kernel
theorem dX9_readsOrder_5 : decode cX9_readsOrder 5 = .ok (.iload_n 2, 1) := by decide +kernel
theorem dX9_readsOrder_6 : decode cX9_readsOrder 6 = .ok (.invokestatic 245, 3) := by decide +kernel
theorem dX9_readsOrder_9 : decode cX9_readsOrder 9 = .ok (.istore_n 3, 1) := by decide +kernel
theorem dX9_readsOrder_10 : decode cX9_readsOrder 10 = .ok (.iload_n 3, 1) := by decide +kernel
theorem dX9_readsOrder_11 : decode cX9_readsOrder 11 = .ok (.iconst (-1), 1) := by decide +kernel
theorem dX9_readsOrder_12 : decode cX9_readsOrder 12 = .ok (.if_icmp .ne 5, 3) := by decide +kernel
theorem dX9_readsOrder_15 : decode cX9_readsOrder 15 = .ok (.iconst 0, 1) := by decide +kernel
theorem dX9_readsOrder_16 : decode cX9_readsOrder 16 = .ok (.ireturn, 1) := by decide +kernel
theorem dX9_readsOrder_17 : decode cX9_readsOrder 17 = .ok (.aload_n 0, 1) := by decide +kernel
theorem dX9_readsOrder_18 : decode cX9_readsOrder 18 = .ok (.dup, 1) := by decide +kernel
theorem dX9_readsOrder_19 : decode cX9_readsOrder 19 = .ok (.getfield 232, 3) := by decide +kernel
theorem dX9_readsOrder_22 : decode cX9_readsOrder 22 = .ok (.iconst 1, 1) := by decide +kernel
theorem dX9_readsOrder_23 : decode cX9_readsOrder 23 = .ok (.iadd, 1) := by decide +kernel
theorem dX9_readsOrder_24 : decode cX9_readsOrder 24 = .ok (.putfield 232, 3) := by decide +kernel
theorem dX9_readsOrder_27 : decode cX9_readsOrder 27 = .ok (.iconst 0, 1) := by decide +kernel
theorem dX9_readsOrder_28 : decode cX9_readsOrder 28 = .ok (.istore 4, 2) := by decide +kernel
theorem dX9_readsOrder_30 : decode cX9_readsOrder 30 = .ok (.iload 4, 2) := by decide +kernel
theorem dX9_readsOrder_32 : decode cX9_readsOrder 32 = .ok (.iload_n 3, 1) := by decide +kernel
theorem dX9_readsOrder_33 : decode cX9_readsOrder 33 = .ok (.if_icmp .ge 20, 3) := by decide +kernel
theorem dX9_readsOrder_36 : decode cX9_readsOrder 36 = .ok (.aload_n 0, 1) := by decide +kernel
theorem dX9_readsOrder_37 : decode cX9_readsOrder 37 = .ok (.iload 4, 2) := by decide +kernel
theorem dX9_readsOrder_39 : decode cX9_readsOrder 39 = .ok (.invokevirtual 248, 3) := by decide +kernel
theorem dX9_readsOrder_42 : decode cX9_readsOrder 42 = .ok (.ifCond .ne 5, 3) := by decide +kernel
theorem dX9_readsOrder_45 : decode cX9_readsOrder 45 = .ok (.iconst 0, 1) := by decide +kernel
theorem dX9_readsOrder_46 : decode cX9_readsOrder 46 = .ok (.ireturn, 1) := by decide +kernel
theorem dX9_readsOrder_47 : decode cX9_readsOrder 47 = .ok (.iinc 4 1, 3) := by decide +kernel
theorem dX9_readsOrder_50 : decode cX9_readsOrder 50 = .ok (.goto (-20), 3) := by decide +kernel
theorem dX9_readsOrder_53 : decode cX9_readsOrder 53 = .ok (.iload_n 2, 1) := by decide +kernel
theorem dX9_readsOrder_54 : decode cX9_readsOrder 54 = .ok (.bipush 122, 2) := by decide +kernel
theorem dX9_readsOrder_56 : decode cX9_readsOrder 56 = .ok (.if_icmp .ne 36, 3) := by decide +kernel
theorem dX9_readsOrder_59 : decode cX9_readsOrder 59 = .ok (.aload_n 0, 1) := by decide +kernel
theorem dX9_readsOrder_60 : decode cX9_readsOrder 60 = .ok (.getfield 33, 3) := by decide +kernel
theorem dX9_readsOrder_63 : decode cX9_readsOrder 63 = .ok (.iconst 1, 1) := by decide +kernel
theorem dX9_readsOrder_64 : decode cX9_readsOrder 64 = .ok (.iconst (-1), 1) := by decide +kernel
theorem dX9_readsOrder_65 : decode cX9_readsOrder 65 = .ok (.iastore, 1) := by decide +kernel
theorem dX9_readsOrder_66 : decode cX9_readsOrder 66 = .ok (.aload_n 0, 1) := by decide +kernel
theorem dX9_readsOrder_67 : decode cX9_readsOrder 67 = .ok (.invokevirtual 239, 3) := by decide +kernel
theorem dX9_readsOrder_70 : decode cX9_readsOrder 70 = .ok (.pop, 1) := by decide +kernel
theorem dX9_readsOrder_71 : decode cX9_readsOrder 71 = .ok (.aload_n 0, 1) := by decide +kernel
theorem dX9_readsOrder_72 : decode cX9_readsOrder 72 = .ok (.aload_n 0, 1) := by decide +kernel
theorem dX9_readsOrder_73 : decode cX9_readsOrder 73 = .ok (.getfield 232, 3) := by decide +kernel
theorem dX9_readsOrder_76 : decode cX9_readsOrder 76 = .ok (.invokevirtual 242, 3) := by decide +kernel
theorem dX9_readsOrder_79 : decode cX9_readsOrder 79 = .ok (.ifCond .eq 13, 3) := by decide +kernel
theorem dX9_readsOrder_82 : decode cX9_readsOrder 82 = .ok (.aload_n 0, 1) := by decide +kernel
theorem dX9_readsOrder_83 : decode cX9_readsOrder 83 = .ok (.iconst 1, 1) := by decide +kernel
theorem dX9_readsOrder_84 : decode cX9_readsOrder 84 = .ok (.invokevirtual 248, 3) := by decide +kernel
theorem dX9_readsOrder_87 : decode cX9_readsOrder 87 = .ok (.ifCond .ne 5, 3) := by decide +kernel
theorem dX9_readsOrder_90 : decode cX9_readsOrder 90 = .ok (.iconst 0, 1) := by decide +kernel
theorem dX9_readsOrder_91 : decode cX9_readsOrder 91 = .ok (.ireturn, 1) := by decide +kernel
theorem dX9_readsOrder_92 : decode cX9_readsOrder 92 = .ok (.aload_n 0, 1) := by decide +kernel
theorem dX9_readsOrder_93 : decode cX9_readsOrder 93 = .ok (.invokevirtual 239, 3) := by decide +kernel
theorem dX9_readsOrder_96 : decode cX9_readsOrder 96 = .ok (.bipush 59, 2) := by decide +kernel
theorem dX9_readsOrder_98 : decode cX9_readsOrder 98 = .ok (.if_icmp .eq 5, 3) := by decide +kernel
theorem dX9_readsOrder_101 : decode cX9_readsOrder 101 = .ok (.iconst 0, 1) := by decide +kernel
theorem dX9_readsOrder_102 : decode cX9_readsOrder 102 = .ok (.ireturn, 1) := by decide +kernel
theorem dX9_readsOrder_103 : decode cX9_readsOrder 103 = .ok (.aload_n 0, 1) := by decide +kernel
theorem dX9_readsOrder_104 : decode cX9_readsOrder 104 = .ok (.dup, 1) := by decide +kernel
theorem dX9_readsOrder_105 : decode cX9_readsOrder 105 = .ok (.getfield 232, 3) := by decide +kernel
theorem dX9_readsOrder_108 : decode cX9_readsOrder 108 = .ok (.iconst 1, 1) := by decide +kernel
theorem dX9_readsOrder_109 : decode cX9_readsOrder 109 = .ok (.iadd, 1) := by decide +kernel
theorem dX9_readsOrder_110 : decode cX9_readsOrder 110 = .ok (.putfield 232, 3) := by decide +kernel
theorem dX9_readsOrder_113 : decode cX9_readsOrder 113 = .ok (.iload_n 1, 1) := by decide +kernel
theorem dX9_readsOrder_114 : decode cX9_readsOrder 114 = .ok (.ifCond .eq 30, 3) := by decide +kernel
theorem dX9_readsOrder_117 : decode cX9_readsOrder 117 = .ok (.aload_n 0, 1) := by decide +kernel
theorem dX9_readsOrder_118 : decode cX9_readsOrder 118 = .ok (.aload_n 0, 1) := by decide +kernel
theorem dX9_readsOrder_119 : decode cX9_readsOrder 119 = .ok (.iload_n 2, 1) := by decide +kernel
theorem dX9_readsOrder_120 : decode cX9_readsOrder 120 = .ok (.invokevirtual 251, 3) := by decide +kernel
theorem dX9_readsOrder_123 : decode cX9_readsOrder 123 = .ok (.putfield 254, 3) := by decide +kernel
theorem dX9_readsOrder_126 : decode cX9_readsOrder 126 = .ok (.aload_n 0, 1) := by decide +kernel
theorem dX9_readsOrder_127 : decode cX9_readsOrder 127 = .ok (.getfield 254, 3) := by decide +kernel
theorem dX9_readsOrder_130 : decode cX9_readsOrder 130 = .ok (.ifCond .ne 11, 3) := by decide +kernel
theorem dX9_readsOrder_133 : decode cX9_readsOrder 133 = .ok (.aload_n 0, 1) := by decide +kernel
theorem dX9_readsOrder_134 : decode cX9_readsOrder 134 = .ok (.iload_n 2, 1) := by decide +kernel
theorem dX9_readsOrder_135 : decode cX9_readsOrder 135 = .ok (.invokevirtual 257, 3) := by decide +kernel
theorem dX9_readsOrder_138 : decode cX9_readsOrder 138 = .ok (.goto 4, 3) := by decide +kernel
theorem dX9_readsOrder_141 : decode cX9_readsOrder 141 = .ok (.iconst 0, 1) := by decide +kernel
theorem dX9_readsOrder_142 : decode cX9_readsOrder 142 = .ok (.istore 4, 2) := by decide +kernel
theorem dX9_readsOrder_144 : decode cX9_readsOrder 144 = .ok (.iconst 1, 1) := by decide +kernel
theorem dX9_readsOrder_145 : decode cX9_readsOrder 145 = .ok (.ireturn, 1) := by decide +kernel
theorem dX9_reads_0 : decode cX9_reads 0 = .ok (.aload_n 0, 1) := by decide +kernel
theorem dX9_reads_1 : decode cX9_reads 1 = .ok (.iconst 0, 1) := by decide +kernel
theorem dX9_reads_2 : decode cX9_reads 2 = .ok (.putfield 232, 3) := by decide +kernel
theorem dX9_reads_5 : decode cX9_reads 5 = .ok (.aload_n 0, 1) := by decide +kernel
theorem dX9_reads_6 : decode cX9_reads 6 = .ok (.iconst 0, 1) := by decide +kernel
theorem dX9_reads_7 : decode cX9_reads 7 = .ok (.invokevirtual 260, 3) := by decide +kernel
theorem dX9_reads_10 : decode cX9_reads 10 = .ok (.istore_n 1, 1) := by decide +kernel
theorem dX9_reads_11 : decode cX9_reads 11 = .ok (.iload_n 1, 1) := by decide +kernel
theorem dX9_reads_12 : decode cX9_reads 12 = .ok (.ifCond .eq 20, 3) := by decide +kernel
theorem dX9_reads_15 : decode cX9_reads 15 = .ok (.aload_n 0, 1) := by decide +kernel
theorem dX9_reads_16 : decode cX9_reads 16 = .ok (.invokevirtual 239, 3) := by decide +kernel
theorem dX9_reads_19 : decode cX9_reads 19 = .ok (.iconst (-1), 1) := by decide +kernel
theorem dX9_reads_20 : decode cX9_reads 20 = .ok (.if_icmp .eq 12, 3) := by decide +kernel
theorem dX9_reads_23 : decode cX9_reads 23 = .ok (.aload_n 0, 1) := by decide +kernel
theorem dX9_reads_24 : decode cX9_reads 24 = .ok (.iconst 0, 1) := by decide +kernel
theorem dX9_reads_25 : decode cX9_reads 25 = .ok (.invokevirtual 260, 3) := by decide +kernel
theorem dX9_reads_28 : decode cX9_reads 28 = .ok (.istore_n 1, 1) := by decide +kernel
theorem dX9_reads_29 : decode cX9_reads 29 = .ok (.goto (-18), 3) := by decide +kernel
theorem dX9_reads_32 : decode cX9_reads 32 = .ok (.iload_n 1, 1) := by decide +kernel
theorem dX9_reads_33 : decode cX9_reads 33 = .ok (.ifCond .ne 11, 3) := by decide +kernel
theorem dX9_reads_36 : decode cX9_reads 36 = .ok (.bipush (-10), 2) := by decide +kernel
theorem dX9_reads_38 : decode cX9_reads 38 = .ok (.aload_n 0, 1) := by decide +kernel
theorem dX9_reads_39 : decode cX9_reads 39 = .ok (.getfield 232, 3) := by decide +kernel
theorem dX9_reads_42 : decode cX9_reads 42 = .ok (.isub, 1) := by decide +kernel
theorem dX9_reads_43 : decode cX9_reads 43 = .ok (.ireturn, 1) := by decide +kernel
theorem dX9_reads_44 : decode cX9_reads 44 = .ok (.aload_n 0, 1) := by decide +kernel
theorem dX9_reads_45 : decode cX9_reads 45 = .ok (.invokevirtual 264, 3) := by decide +kernel
theorem dX9_reads_48 : decode cX9_reads 48 = .ok (.iconst 0, 1) := by decide +kernel
theorem dX9_reads_49 : decode cX9_reads 49 = .ok (.istore_n 2, 1) := by decide +kernel
theorem dX9_reads_50 : decode cX9_reads 50 = .ok (.aload_n 0, 1) := by decide +kernel
theorem dX9_reads_51 : decode cX9_reads 51 = .ok (.iconst 0, 1) := by decide +kernel
theorem dX9_reads_52 : decode cX9_reads 52 = .ok (.putfield 232, 3) := by decide +kernel
theorem dX9_reads_55 : decode cX9_reads 55 = .ok (.aload_n 0, 1) := by decide +kernel
theorem dX9_reads_56 : decode cX9_reads 56 = .ok (.iconst 0, 1) := by decide +kernel
theorem dX9_reads_57 : decode cX9_reads 57 = .ok (.putfield 254, 3) := by decide +kernel
theorem dX9_reads_60 : decode cX9_reads 60 = .ok (.aload_n 0, 1) := by decide +kernel
theorem dX9_reads_61 : decode cX9_reads 61 = .ok (.invokevirtual 239, 3) := by decide +kernel
theorem dX9_reads_64 : decode cX9_reads 64 = .ok (.iconst (-1), 1) := by decide +kernel
theorem dX9_reads_65 : decode cX9_reads 65 = .ok (.if_icmp .eq 45, 3) := by decide +kernel
theorem dX9_reads_68 : decode cX9_reads 68 = .ok (.aload_n 0, 1) := by decide +kernel
theorem dX9_reads_69 : decode cX9_reads 69 = .ok (.iconst 1, 1) := by decide +kernel
theorem dX9_reads_70 : decode cX9_reads 70 = .ok (.invokevirtual 260, 3) := by decide +kernel
theorem dX9_reads_73 : decode cX9_reads 73 = .ok (.istore_n 1, 1) := by decide +kernel
theorem dX9_reads_74 : decode cX9_reads 74 = .ok (.aload_n 0, 1) := by decide +kernel
theorem dX9_reads_75 : decode cX9_reads 75 = .ok (.getfield 254, 3) := by decide +kernel
theorem dX9_reads_78 : decode cX9_reads 78 = .ok (.ifCond .ge 26, 3) := by decide +kernel
theorem dX9_reads_81 : decode cX9_reads 81 = .ok (.aload_n 0, 1) := by decide +kernel
theorem dX9_reads_82 : decode cX9_reads 82 = .ok (.invokevirtual 267, 3) := by decide +kernel
theorem dX9_reads_85 : decode cX9_reads 85 = .ok (.aload_n 0, 1) := by decide +kernel
theorem dX9_reads_86 : decode cX9_reads 86 = .ok (.aload_n 0, 1) := by decide +kernel
theorem dX9_reads_87 : decode cX9_reads 87 = .ok (.getfield 254, 3) := by decide +kernel
theorem dX9_reads_90 : decode cX9_reads 90 = .ok (.putfield 270, 3) := by decide +kernel
theorem dX9_reads_93 : decode cX9_reads 93 = .ok (.aload_n 0, 1) := by decide +kernel
theorem dX9_reads_94 : decode cX9_reads 94 = .ok (.iload_n 2, 1) := by decide +kernel
theorem dX9_reads_95 : decode cX9_reads 95 = .ok (.putfield 36, 3) := by decide +kernel
theorem dX9_reads_98 : decode cX9_reads 98 = .ok (.sipush (-1000), 3) := by decide +kernel
theorem dX9_reads_101 : decode cX9_reads 101 = .ok (.iload_n 2, 1) := by decide +kernel
theorem dX9_reads_102 : decode cX9_reads 102 = .ok (.isub, 1) := by decide +kernel
theorem dX9_reads_103 : decode cX9_reads 103 = .ok (.ireturn, 1) := by decide +kernel
theorem dX9_reads_104 : decode cX9_reads 104 = .ok (.iinc 2 1, 3) := by decide +kernel
theorem dX9_reads_107 : decode cX9_reads 107 = .ok (.goto (-47), 3) := by decide +kernel
theorem dX9_reads_110 : decode cX9_reads 110 = .ok (.aload_n 0, 1) := by decide +kernel
theorem dX9_reads_111 : decode cX9_reads 111 = .ok (.invokevirtual 273, 3) := by decide +kernel
theorem dX9_reads_114 : decode cX9_reads 114 = .ok (.iload_n 2, 1) := by decide +kernel
theorem dX9_reads_115 : decode cX9_reads 115 = .ok (.ireturn, 1) := by decide +kernel
theorem dX9_setsAside_0 : decode cX9_setsAside 0 = .ok (.iconst 0, 1) := by decide +kernel
theorem dX9_setsAside_1 : decode cX9_setsAside 1 = .ok (.istore_n 1, 1) := by decide +kernel
theorem dX9_setsAside_2 : decode cX9_setsAside 2 = .ok (.iload_n 1, 1) := by decide +kernel
theorem dX9_setsAside_3 : decode cX9_setsAside 3 = .ok (.sipush 424, 3) := by decide +kernel
theorem dX9_setsAside_6 : decode cX9_setsAside 6 = .ok (.if_icmp .ge 21, 3) := by decide +kernel
theorem dX9_setsAside_9 : decode cX9_setsAside 9 = .ok (.aload_n 0, 1) := by decide +kernel
theorem dX9_setsAside_10 : decode cX9_setsAside 10 = .ok (.getfield 20, 3) := by decide +kernel
theorem dX9_setsAside_13 : decode cX9_setsAside 13 = .ok (.iload_n 1, 1) := by decide +kernel
theorem dX9_setsAside_14 : decode cX9_setsAside 14 = .ok (.aload_n 0, 1) := by decide +kernel
theorem dX9_setsAside_15 : decode cX9_setsAside 15 = .ok (.getfield 7, 3) := by decide +kernel
theorem dX9_setsAside_18 : decode cX9_setsAside 18 = .ok (.iload_n 1, 1) := by decide +kernel
theorem dX9_setsAside_19 : decode cX9_setsAside 19 = .ok (.iaload, 1) := by decide +kernel
theorem dX9_setsAside_20 : decode cX9_setsAside 20 = .ok (.iastore, 1) := by decide +kernel
theorem dX9_setsAside_21 : decode cX9_setsAside 21 = .ok (.iinc 1 1, 3) := by decide +kernel
theorem dX9_setsAside_24 : decode cX9_setsAside 24 = .ok (.goto (-22), 3) := by decide +kernel
theorem dX9_setsAside_27 : decode cX9_setsAside 27 = .ok (.aload_n 0, 1) := by decide +kernel
theorem dX9_setsAside_28 : decode cX9_setsAside 28 = .ok (.aload_n 0, 1) := by decide +kernel
theorem dX9_setsAside_29 : decode cX9_setsAside 29 = .ok (.getfield 43, 3) := by decide +kernel
theorem dX9_setsAside_32 : decode cX9_setsAside 32 = .ok (.putfield 276, 3) := by decide +kernel
theorem dX9_setsAside_35 : decode cX9_setsAside 35 = .ok (.return_, 1) := by decide +kernel
theorem dX9_takesAside_0 : decode cX9_takesAside 0 = .ok (.iconst 0, 1) := by decide +kernel
theorem dX9_takesAside_1 : decode cX9_takesAside 1 = .ok (.istore_n 1, 1) := by decide +kernel
theorem dX9_takesAside_2 : decode cX9_takesAside 2 = .ok (.iload_n 1, 1) := by decide +kernel
theorem dX9_takesAside_3 : decode cX9_takesAside 3 = .ok (.sipush 424, 3) := by decide +kernel
theorem dX9_takesAside_6 : decode cX9_takesAside 6 = .ok (.if_icmp .ge 21, 3) := by decide +kernel
theorem dX9_takesAside_9 : decode cX9_takesAside 9 = .ok (.aload_n 0, 1) := by decide +kernel
theorem dX9_takesAside_10 : decode cX9_takesAside 10 = .ok (.getfield 7, 3) := by decide +kernel
theorem dX9_takesAside_13 : decode cX9_takesAside 13 = .ok (.iload_n 1, 1) := by decide +kernel
theorem dX9_takesAside_14 : decode cX9_takesAside 14 = .ok (.aload_n 0, 1) := by decide +kernel
theorem dX9_takesAside_15 : decode cX9_takesAside 15 = .ok (.getfield 20, 3) := by decide +kernel
theorem dX9_takesAside_18 : decode cX9_takesAside 18 = .ok (.iload_n 1, 1) := by decide +kernel
theorem dX9_takesAside_19 : decode cX9_takesAside 19 = .ok (.iaload, 1) := by decide +kernel
theorem dX9_takesAside_20 : decode cX9_takesAside 20 = .ok (.iastore, 1) := by decide +kernel
theorem dX9_takesAside_21 : decode cX9_takesAside 21 = .ok (.iinc 1 1, 3) := by decide +kernel
theorem dX9_takesAside_24 : decode cX9_takesAside 24 = .ok (.goto (-22), 3) := by decide +kernel
theorem dX9_takesAside_27 : decode cX9_takesAside 27 = .ok (.aload_n 0, 1) := by decide +kernel
theorem dX9_takesAside_28 : decode cX9_takesAside 28 = .ok (.aload_n 0, 1) := by decide +kernel
theorem dX9_takesAside_29 : decode cX9_takesAside 29 = .ok (.getfield 276, 3) := by decide +kernel
theorem dX9_takesAside_32 : decode cX9_takesAside 32 = .ok (.putfield 43, 3) := by decide +kernel
theorem dX9_takesAside_35 : decode cX9_takesAside 35 = .ok (.return_, 1) := by decide +kernel
theorem dX9_keepsAside_0 : decode cX9_keepsAside 0 = .ok (.iconst 0, 1) := by decide +kernel
theorem dX9_keepsAside_1 : decode cX9_keepsAside 1 = .ok (.istore_n 1, 1) := by decide +kernel
theorem dX9_keepsAside_2 : decode cX9_keepsAside 2 = .ok (.iload_n 1, 1) := by decide +kernel
theorem dX9_keepsAside_3 : decode cX9_keepsAside 3 = .ok (.sipush 424, 3) := by decide +kernel
theorem dX9_keepsAside_6 : decode cX9_keepsAside 6 = .ok (.if_icmp .ge 35, 3) := by decide +kernel
theorem dX9_keepsAside_9 : decode cX9_keepsAside 9 = .ok (.aload_n 0, 1) := by decide +kernel
theorem dX9_keepsAside_10 : decode cX9_keepsAside 10 = .ok (.getfield 7, 3) := by decide +kernel
theorem dX9_keepsAside_13 : decode cX9_keepsAside 13 = .ok (.iload_n 1, 1) := by decide +kernel
theorem dX9_keepsAside_14 : decode cX9_keepsAside 14 = .ok (.iaload, 1) := by decide +kernel
theorem dX9_keepsAside_15 : decode cX9_keepsAside 15 = .ok (.istore_n 2, 1) := by decide +kernel
theorem dX9_keepsAside_16 : decode cX9_keepsAside 16 = .ok (.aload_n 0, 1) := by decide +kernel
theorem dX9_keepsAside_17 : decode cX9_keepsAside 17 = .ok (.getfield 7, 3) := by decide +kernel
theorem dX9_keepsAside_20 : decode cX9_keepsAside 20 = .ok (.iload_n 1, 1) := by decide +kernel
theorem dX9_keepsAside_21 : decode cX9_keepsAside 21 = .ok (.aload_n 0, 1) := by decide +kernel
theorem dX9_keepsAside_22 : decode cX9_keepsAside 22 = .ok (.getfield 20, 3) := by decide +kernel
theorem dX9_keepsAside_25 : decode cX9_keepsAside 25 = .ok (.iload_n 1, 1) := by decide +kernel
theorem dX9_keepsAside_26 : decode cX9_keepsAside 26 = .ok (.iaload, 1) := by decide +kernel
theorem dX9_keepsAside_27 : decode cX9_keepsAside 27 = .ok (.iastore, 1) := by decide +kernel
theorem dX9_keepsAside_28 : decode cX9_keepsAside 28 = .ok (.aload_n 0, 1) := by decide +kernel
theorem dX9_keepsAside_29 : decode cX9_keepsAside 29 = .ok (.getfield 20, 3) := by decide +kernel
theorem dX9_keepsAside_32 : decode cX9_keepsAside 32 = .ok (.iload_n 1, 1) := by decide +kernel
theorem dX9_keepsAside_33 : decode cX9_keepsAside 33 = .ok (.iload_n 2, 1) := by decide +kernel
theorem dX9_keepsAside_34 : decode cX9_keepsAside 34 = .ok (.iastore, 1) := by decide +kernel
theorem dX9_keepsAside_35 : decode cX9_keepsAside 35 = .ok (.iinc 1 1, 3) := by decide +kernel
theorem dX9_keepsAside_38 : decode cX9_keepsAside 38 = .ok (.goto (-36), 3) := by decide +kernel
theorem dX9_keepsAside_41 : decode cX9_keepsAside 41 = .ok (.aload_n 0, 1) := by decide +kernel
theorem dX9_keepsAside_42 : decode cX9_keepsAside 42 = .ok (.getfield 43, 3) := by decide +kernel
theorem dX9_keepsAside_45 : decode cX9_keepsAside 45 = .ok (.fstore_n 1, 1) := by decide +kernel
theorem dX9_keepsAside_46 : decode cX9_keepsAside 46 = .ok (.aload_n 0, 1) := by decide +kernel
theorem dX9_keepsAside_47 : decode cX9_keepsAside 47 = .ok (.aload_n 0, 1) := by decide +kernel
theorem dX9_keepsAside_48 : decode cX9_keepsAside 48 = .ok (.getfield 276, 3) := by decide +kernel
theorem dX9_keepsAside_51 : decode cX9_keepsAside 51 = .ok (.putfield 43, 3) := by decide +kernel
theorem dX9_keepsAside_54 : decode cX9_keepsAside 54 = .ok (.aload_n 0, 1) := by decide +kernel
theorem dX9_keepsAside_55 : decode cX9_keepsAside 55 = .ok (.fload_n 1, 1) := by decide +kernel
theorem dX9_keepsAside_56 : decode cX9_keepsAside 56 = .ok (.putfield 276, 3) := by decide +kernel
theorem dX9_keepsAside_59 : decode cX9_keepsAside 59 = .ok (.aload_n 0, 1) := by decide +kernel
theorem dX9_keepsAside_60 : decode cX9_keepsAside 60 = .ok (.invokevirtual 100, 3) := by decide +kernel
theorem dX9_keepsAside_63 : decode cX9_keepsAside 63 = .ok (.aload_n 0, 1) := by decide +kernel
theorem dX9_keepsAside_64 : decode cX9_keepsAside 64 = .ok (.invokevirtual 267, 3) := by decide +kernel
theorem dX9_keepsAside_67 : decode cX9_keepsAside 67 = .ok (.return_, 1) := by decide +kernel
theorem dX9_why_0 : decode cX9_why 0 = .ok (.iload_n 1, 1) := by decide +kernel
theorem dX9_why_1 : decode cX9_why 1 = .ok (.i2l, 1) := by decide +kernel
theorem dX9_why_2 : decode cX9_why 2 = .ok (.lconst 0, 1) := by decide +kernel
theorem dX9_why_3 : decode cX9_why 3 = .ok (.lconst 1, 1) := by decide +kernel
theorem dX9_why_4 : decode cX9_why 4 = .ok (.invokestatic 47, 3) := by decide +kernel
theorem dX9_why_7 : decode cX9_why 7 = .ok (.ifCond .ne 13, 3) := by decide +kernel
theorem dX9_why_10 : decode cX9_why 10 = .ok (.aload_n 0, 1) := by decide +kernel
theorem dX9_why_11 : decode cX9_why 11 = .ok (.bipush (-2), 2) := by decide +kernel
theorem dX9_why_13 : decode cX9_why 13 = .ok (.invokevirtual 97, 3) := by decide +kernel
theorem dX9_why_16 : decode cX9_why 16 = .ok (.istore_n 2, 1) := by decide +kernel
theorem dX9_why_17 : decode cX9_why 17 = .ok (.bipush (-10), 2) := by decide +kernel
theorem dX9_why_19 : decode cX9_why 19 = .ok (.ireturn, 1) := by decide +kernel
theorem dX9_why_20 : decode cX9_why 20 = .ok (.iload_n 1, 1) := by decide +kernel
theorem dX9_why_21 : decode cX9_why 21 = .ok (.ifCond .ne 10, 3) := by decide +kernel
theorem dX9_why_24 : decode cX9_why 24 = .ok (.aload_n 0, 1) := by decide +kernel
theorem dX9_why_25 : decode cX9_why 25 = .ok (.getfield 270, 3) := by decide +kernel
theorem dX9_why_28 : decode cX9_why 28 = .ok (.goto 7, 3) := by decide +kernel
theorem dX9_why_31 : decode cX9_why 31 = .ok (.aload_n 0, 1) := by decide +kernel
theorem dX9_why_32 : decode cX9_why 32 = .ok (.getfield 36, 3) := by decide +kernel
theorem dX9_why_35 : decode cX9_why 35 = .ok (.ireturn, 1) := by decide +kernel
theorem dX9_back_0 : decode cX9_back 0 = .ok (.aload_n 0, 1) := by decide +kernel
theorem dX9_back_1 : decode cX9_back 1 = .ok (.getfield 40, 3) := by decide +kernel
theorem dX9_back_4 : decode cX9_back 4 = .ok (.ifCond .ne 10, 3) := by decide +kernel
theorem dX9_back_7 : decode cX9_back 7 = .ok (.aload_n 0, 1) := by decide +kernel
theorem dX9_back_8 : decode cX9_back 8 = .ok (.bipush (-3), 2) := by decide +kernel
theorem dX9_back_10 : decode cX9_back 10 = .ok (.invokevirtual 97, 3) := by decide +kernel
theorem dX9_back_13 : decode cX9_back 13 = .ok (.ireturn, 1) := by decide +kernel
theorem dX9_back_14 : decode cX9_back 14 = .ok (.aload_n 0, 1) := by decide +kernel
theorem dX9_back_15 : decode cX9_back 15 = .ok (.dup, 1) := by decide +kernel
theorem dX9_back_16 : decode cX9_back 16 = .ok (.getfield 40, 3) := by decide +kernel
theorem dX9_back_19 : decode cX9_back 19 = .ok (.iconst 1, 1) := by decide +kernel
theorem dX9_back_20 : decode cX9_back 20 = .ok (.isub, 1) := by decide +kernel
theorem dX9_back_21 : decode cX9_back 21 = .ok (.putfield 40, 3) := by decide +kernel
theorem dX9_back_24 : decode cX9_back 24 = .ok (.iconst 0, 1) := by decide +kernel
theorem dX9_back_25 : decode cX9_back 25 = .ok (.istore_n 1, 1) := by decide +kernel
theorem dX9_back_26 : decode cX9_back 26 = .ok (.iload_n 1, 1) := by decide +kernel
theorem dX9_back_27 : decode cX9_back 27 = .ok (.sipush 424, 3) := by decide +kernel
theorem dX9_back_30 : decode cX9_back 30 = .ok (.if_icmp .ge 30, 3) := by decide +kernel
theorem dX9_back_33 : decode cX9_back 33 = .ok (.aload_n 0, 1) := by decide +kernel
theorem dX9_back_34 : decode cX9_back 34 = .ok (.getfield 7, 3) := by decide +kernel
theorem dX9_back_37 : decode cX9_back 37 = .ok (.iload_n 1, 1) := by decide +kernel
theorem dX9_back_38 : decode cX9_back 38 = .ok (.aload_n 0, 1) := by decide +kernel
theorem dX9_back_39 : decode cX9_back 39 = .ok (.getfield 13, 3) := by decide +kernel
theorem dX9_back_42 : decode cX9_back 42 = .ok (.sipush 424, 3) := by decide +kernel
theorem dX9_back_45 : decode cX9_back 45 = .ok (.aload_n 0, 1) := by decide +kernel
theorem dX9_back_46 : decode cX9_back 46 = .ok (.getfield 40, 3) := by decide +kernel
theorem dX9_back_49 : decode cX9_back 49 = .ok (.imul, 1) := by decide +kernel
theorem dX9_back_50 : decode cX9_back 50 = .ok (.iload_n 1, 1) := by decide +kernel
theorem dX9_back_51 : decode cX9_back 51 = .ok (.iadd, 1) := by decide +kernel
theorem dX9_back_52 : decode cX9_back 52 = .ok (.iaload, 1) := by decide +kernel
theorem dX9_back_53 : decode cX9_back 53 = .ok (.iastore, 1) := by decide +kernel
theorem dX9_back_54 : decode cX9_back 54 = .ok (.iinc 1 1, 3) := by decide +kernel
theorem dX9_back_57 : decode cX9_back 57 = .ok (.goto (-31), 3) := by decide +kernel
theorem dX9_back_60 : decode cX9_back 60 = .ok (.aload_n 0, 1) := by decide +kernel
theorem dX9_back_61 : decode cX9_back 61 = .ok (.aload_n 0, 1) := by decide +kernel
theorem dX9_back_62 : decode cX9_back 62 = .ok (.getfield 16, 3) := by decide +kernel
theorem dX9_back_65 : decode cX9_back 65 = .ok (.aload_n 0, 1) := by decide +kernel
theorem dX9_back_66 : decode cX9_back 66 = .ok (.getfield 40, 3) := by decide +kernel
theorem dX9_back_69 : decode cX9_back 69 = .ok (.faload, 1) := by decide +kernel
theorem dX9_back_70 : decode cX9_back 70 = .ok (.putfield 43, 3) := by decide +kernel
theorem dX9_back_73 : decode cX9_back 73 = .ok (.aload_n 0, 1) := by decide +kernel
theorem dX9_back_74 : decode cX9_back 74 = .ok (.getfield 40, 3) := by decide +kernel
theorem dX9_back_77 : decode cX9_back 77 = .ok (.ireturn, 1) := by decide +kernel
theorem dX9_toldOf_0 : decode cX9_toldOf 0 = .ok (.iload_n 1, 1) := by decide +kernel
theorem dX9_toldOf_1 : decode cX9_toldOf 1 = .ok (.lookupswitch 52 #[(3, 35), (4, 40), (10, 47)], 35) := by decide +kernel
theorem dX9_toldOf_36 : decode cX9_toldOf 36 = .ok (.aload_n 0, 1) := by decide +kernel
theorem dX9_toldOf_37 : decode cX9_toldOf 37 = .ok (.getfield 229, 3) := by decide +kernel
theorem dX9_toldOf_40 : decode cX9_toldOf 40 = .ok (.ireturn, 1) := by decide +kernel
theorem dX9_toldOf_41 : decode cX9_toldOf 41 = .ok (.aload_n 0, 1) := by decide +kernel
theorem dX9_toldOf_42 : decode cX9_toldOf 42 = .ok (.getfield 7, 3) := by decide +kernel
theorem dX9_toldOf_45 : decode cX9_toldOf 45 = .ok (.iconst 0, 1) := by decide +kernel
theorem dX9_toldOf_46 : decode cX9_toldOf 46 = .ok (.iaload, 1) := by decide +kernel
theorem dX9_toldOf_47 : decode cX9_toldOf 47 = .ok (.ireturn, 1) := by decide +kernel
theorem dX9_toldOf_48 : decode cX9_toldOf 48 = .ok (.aload_n 0, 1) := by decide +kernel
theorem dX9_toldOf_49 : decode cX9_toldOf 49 = .ok (.getfield 40, 3) := by decide +kernel
theorem dX9_toldOf_52 : decode cX9_toldOf 52 = .ok (.ireturn, 1) := by decide +kernel
theorem dX9_toldOf_53 : decode cX9_toldOf 53 = .ok (.iload_n 1, 1) := by decide +kernel
theorem dX9_toldOf_54 : decode cX9_toldOf 54 = .ok (.iconst 3, 1) := by decide +kernel
theorem dX9_toldOf_55 : decode cX9_toldOf 55 = .ok (.if_icmp .ge 12, 3) := by decide +kernel
theorem dX9_toldOf_58 : decode cX9_toldOf 58 = .ok (.aload_n 0, 1) := by decide +kernel
theorem dX9_toldOf_59 : decode cX9_toldOf 59 = .ok (.getfield 23, 3) := by decide +kernel
theorem dX9_toldOf_62 : decode cX9_toldOf 62 = .ok (.iload_n 1, 1) := by decide +kernel
theorem dX9_toldOf_63 : decode cX9_toldOf 63 = .ok (.iaload, 1) := by decide +kernel
theorem dX9_toldOf_64 : decode cX9_toldOf 64 = .ok (.goto 13, 3) := by decide +kernel
theorem dX9_toldOf_67 : decode cX9_toldOf 67 = .ok (.aload_n 0, 1) := by decide +kernel
theorem dX9_toldOf_68 : decode cX9_toldOf 68 = .ok (.getfield 7, 3) := by decide +kernel
theorem dX9_toldOf_71 : decode cX9_toldOf 71 = .ok (.iconst 1, 1) := by decide +kernel
theorem dX9_toldOf_72 : decode cX9_toldOf 72 = .ok (.iload_n 1, 1) := by decide +kernel
theorem dX9_toldOf_73 : decode cX9_toldOf 73 = .ok (.iadd, 1) := by decide +kernel
theorem dX9_toldOf_74 : decode cX9_toldOf 74 = .ok (.iconst 5, 1) := by decide +kernel
theorem dX9_toldOf_75 : decode cX9_toldOf 75 = .ok (.isub, 1) := by decide +kernel
theorem dX9_toldOf_76 : decode cX9_toldOf 76 = .ok (.iaload, 1) := by decide +kernel
theorem dX9_toldOf_77 : decode cX9_toldOf 77 = .ok (.ireturn, 1) := by decide +kernel
theorem dX9_told_0 : decode cX9_told 0 = .ok (.iload_n 1, 1) := by decide +kernel
theorem dX9_told_1 : decode cX9_told 1 = .ok (.i2l, 1) := by decide +kernel
theorem dX9_told_2 : decode cX9_told 2 = .ok (.lconst 0, 1) := by decide +kernel
theorem dX9_told_3 : decode cX9_told 3 = .ok (.ldc2_w 279, 3) := by decide +kernel
theorem dX9_told_6 : decode cX9_told 6 = .ok (.invokestatic 47, 3) := by decide +kernel
theorem dX9_told_9 : decode cX9_told 9 = .ok (.ifCond .eq 11, 3) := by decide +kernel
theorem dX9_told_12 : decode cX9_told 12 = .ok (.aload_n 0, 1) := by decide +kernel
theorem dX9_told_13 : decode cX9_told 13 = .ok (.iload_n 1, 1) := by decide +kernel
theorem dX9_told_14 : decode cX9_told 14 = .ok (.invokevirtual 281, 3) := by decide +kernel
theorem dX9_told_17 : decode cX9_told 17 = .ok (.goto 9, 3) := by decide +kernel
theorem dX9_told_20 : decode cX9_told 20 = .ok (.aload_n 0, 1) := by decide +kernel
theorem dX9_told_21 : decode cX9_told 21 = .ok (.bipush (-2), 2) := by decide +kernel
theorem dX9_told_23 : decode cX9_told 23 = .ok (.invokevirtual 97, 3) := by decide +kernel
theorem dX9_told_26 : decode cX9_told 26 = .ok (.ireturn, 1) := by decide +kernel
theorem dX9_digest_0 : decode cX9_digest 0 = .ok (.ldc2_w 284, 3) := by decide +kernel
theorem dX9_digest_3 : decode cX9_digest 3 = .ok (.lstore_n 1, 1) := by decide +kernel
theorem dX9_digest_4 : decode cX9_digest 4 = .ok (.iconst 0, 1) := by decide +kernel
theorem dX9_digest_5 : decode cX9_digest 5 = .ok (.istore_n 3, 1) := by decide +kernel
theorem dX9_digest_6 : decode cX9_digest 6 = .ok (.iload_n 3, 1) := by decide +kernel
theorem dX9_digest_7 : decode cX9_digest 7 = .ok (.bipush 11, 2) := by decide +kernel
theorem dX9_digest_9 : decode cX9_digest 9 = .ok (.if_icmp .ge 22, 3) := by decide +kernel
theorem dX9_digest_12 : decode cX9_digest 12 = .ok (.ldc2_w 286, 3) := by decide +kernel
theorem dX9_digest_15 : decode cX9_digest 15 = .ok (.lload_n 1, 1) := by decide +kernel
theorem dX9_digest_16 : decode cX9_digest 16 = .ok (.lmul, 1) := by decide +kernel
theorem dX9_digest_17 : decode cX9_digest 17 = .ok (.aload_n 0, 1) := by decide +kernel
theorem dX9_digest_18 : decode cX9_digest 18 = .ok (.iload_n 3, 1) := by decide +kernel
theorem dX9_digest_19 : decode cX9_digest 19 = .ok (.invokevirtual 281, 3) := by decide +kernel
theorem dX9_digest_22 : decode cX9_digest 22 = .ok (.i2l, 1) := by decide +kernel
theorem dX9_digest_23 : decode cX9_digest 23 = .ok (.ladd, 1) := by decide +kernel
theorem dX9_digest_24 : decode cX9_digest 24 = .ok (.lstore_n 1, 1) := by decide +kernel
theorem dX9_digest_25 : decode cX9_digest 25 = .ok (.iinc 3 1, 3) := by decide +kernel
theorem dX9_digest_28 : decode cX9_digest 28 = .ok (.goto (-22), 3) := by decide +kernel
theorem dX9_digest_31 : decode cX9_digest 31 = .ok (.ldc2_w 286, 3) := by decide +kernel
theorem dX9_digest_34 : decode cX9_digest 34 = .ok (.ldc2_w 286, 3) := by decide +kernel
theorem dX9_digest_37 : decode cX9_digest 37 = .ok (.lload_n 1, 1) := by decide +kernel
theorem dX9_digest_38 : decode cX9_digest 38 = .ok (.lmul, 1) := by decide +kernel
theorem dX9_digest_39 : decode cX9_digest 39 = .ok (.aload_n 0, 1) := by decide +kernel
theorem dX9_digest_40 : decode cX9_digest 40 = .ok (.getfield 270, 3) := by decide +kernel
theorem dX9_digest_43 : decode cX9_digest 43 = .ok (.i2l, 1) := by decide +kernel
theorem dX9_digest_44 : decode cX9_digest 44 = .ok (.ladd, 1) := by decide +kernel
theorem dX9_digest_45 : decode cX9_digest 45 = .ok (.lmul, 1) := by decide +kernel
theorem dX9_digest_46 : decode cX9_digest 46 = .ok (.aload_n 0, 1) := by decide +kernel
theorem dX9_digest_47 : decode cX9_digest 47 = .ok (.getfield 36, 3) := by decide +kernel
theorem dX9_digest_50 : decode cX9_digest 50 = .ok (.i2l, 1) := by decide +kernel
theorem dX9_digest_51 : decode cX9_digest 51 = .ok (.ladd, 1) := by decide +kernel
theorem dX9_digest_52 : decode cX9_digest 52 = .ok (.lstore_n 1, 1) := by decide +kernel
theorem dX9_digest_53 : decode cX9_digest 53 = .ok (.iconst 0, 1) := by decide +kernel
theorem dX9_digest_54 : decode cX9_digest 54 = .ok (.istore_n 3, 1) := by decide +kernel
theorem dX9_digest_55 : decode cX9_digest 55 = .ok (.iload_n 3, 1) := by decide +kernel
theorem dX9_digest_56 : decode cX9_digest 56 = .ok (.aload_n 0, 1) := by decide +kernel
theorem dX9_digest_57 : decode cX9_digest 57 = .ok (.getfield 7, 3) := by decide +kernel
theorem dX9_digest_60 : decode cX9_digest 60 = .ok (.iconst 0, 1) := by decide +kernel
theorem dX9_digest_61 : decode cX9_digest 61 = .ok (.iaload, 1) := by decide +kernel
theorem dX9_digest_62 : decode cX9_digest 62 = .ok (.if_icmp .ge 127, 3) := by decide +kernel
theorem dX9_digest_65 : decode cX9_digest 65 = .ok (.iconst 0, 1) := by decide +kernel
theorem dX9_digest_66 : decode cX9_digest 66 = .ok (.istore 4, 2) := by decide +kernel
theorem dX9_digest_68 : decode cX9_digest 68 = .ok (.iload 4, 2) := by decide +kernel
theorem dX9_digest_70 : decode cX9_digest 70 = .ok (.bipush 6, 2) := by decide +kernel
theorem dX9_digest_72 : decode cX9_digest 72 = .ok (.if_icmp .ge 24, 3) := by decide +kernel
theorem dX9_digest_75 : decode cX9_digest 75 = .ok (.ldc2_w 286, 3) := by decide +kernel
theorem dX9_digest_78 : decode cX9_digest 78 = .ok (.lload_n 1, 1) := by decide +kernel
theorem dX9_digest_79 : decode cX9_digest 79 = .ok (.lmul, 1) := by decide +kernel
theorem dX9_digest_80 : decode cX9_digest 80 = .ok (.aload_n 0, 1) := by decide +kernel
theorem dX9_digest_81 : decode cX9_digest 81 = .ok (.iload_n 3, 1) := by decide +kernel
theorem dX9_digest_82 : decode cX9_digest 82 = .ok (.iload 4, 2) := by decide +kernel
theorem dX9_digest_84 : decode cX9_digest 84 = .ok (.invokevirtual 159, 3) := by decide +kernel
theorem dX9_digest_87 : decode cX9_digest 87 = .ok (.i2l, 1) := by decide +kernel
theorem dX9_digest_88 : decode cX9_digest 88 = .ok (.ladd, 1) := by decide +kernel
theorem dX9_digest_89 : decode cX9_digest 89 = .ok (.lstore_n 1, 1) := by decide +kernel
theorem dX9_digest_90 : decode cX9_digest 90 = .ok (.iinc 4 1, 3) := by decide +kernel
theorem dX9_digest_93 : decode cX9_digest 93 = .ok (.goto (-25), 3) := by decide +kernel
theorem dX9_digest_96 : decode cX9_digest 96 = .ok (.iconst 0, 1) := by decide +kernel
theorem dX9_digest_97 : decode cX9_digest 97 = .ok (.istore 4, 2) := by decide +kernel
theorem dX9_digest_99 : decode cX9_digest 99 = .ok (.iload 4, 2) := by decide +kernel
theorem dX9_digest_101 : decode cX9_digest 101 = .ok (.bipush 8, 2) := by decide +kernel
theorem dX9_digest_103 : decode cX9_digest 103 = .ok (.aload_n 0, 1) := by decide +kernel
theorem dX9_digest_104 : decode cX9_digest 104 = .ok (.iload_n 3, 1) := by decide +kernel
theorem dX9_digest_105 : decode cX9_digest 105 = .ok (.invokevirtual 73, 3) := by decide +kernel
theorem dX9_digest_108 : decode cX9_digest 108 = .ok (.imul, 1) := by decide +kernel
theorem dX9_digest_109 : decode cX9_digest 109 = .ok (.if_icmp .ge 32, 3) := by decide +kernel
theorem dX9_digest_112 : decode cX9_digest 112 = .ok (.ldc2_w 286, 3) := by decide +kernel
theorem dX9_digest_115 : decode cX9_digest 115 = .ok (.lload_n 1, 1) := by decide +kernel
theorem dX9_digest_116 : decode cX9_digest 116 = .ok (.lmul, 1) := by decide +kernel
theorem dX9_digest_117 : decode cX9_digest 117 = .ok (.aload_n 0, 1) := by decide +kernel
theorem dX9_digest_118 : decode cX9_digest 118 = .ok (.iload_n 3, 1) := by decide +kernel
theorem dX9_digest_119 : decode cX9_digest 119 = .ok (.iload 4, 2) := by decide +kernel
theorem dX9_digest_121 : decode cX9_digest 121 = .ok (.bipush 8, 2) := by decide +kernel
theorem dX9_digest_123 : decode cX9_digest 123 = .ok (.idiv, 1) := by decide +kernel
theorem dX9_digest_124 : decode cX9_digest 124 = .ok (.iload 4, 2) := by decide +kernel
theorem dX9_digest_126 : decode cX9_digest 126 = .ok (.bipush 8, 2) := by decide +kernel
theorem dX9_digest_128 : decode cX9_digest 128 = .ok (.irem, 1) := by decide +kernel
theorem dX9_digest_129 : decode cX9_digest 129 = .ok (.invokevirtual 147, 3) := by decide +kernel
theorem dX9_digest_132 : decode cX9_digest 132 = .ok (.i2l, 1) := by decide +kernel
theorem dX9_digest_133 : decode cX9_digest 133 = .ok (.ladd, 1) := by decide +kernel
theorem dX9_digest_134 : decode cX9_digest 134 = .ok (.lstore_n 1, 1) := by decide +kernel
theorem dX9_digest_135 : decode cX9_digest 135 = .ok (.iinc 4 1, 3) := by decide +kernel
theorem dX9_digest_138 : decode cX9_digest 138 = .ok (.goto (-39), 3) := by decide +kernel
theorem dX9_digest_141 : decode cX9_digest 141 = .ok (.iconst 0, 1) := by decide +kernel
theorem dX9_digest_142 : decode cX9_digest 142 = .ok (.istore 4, 2) := by decide +kernel
theorem dX9_digest_144 : decode cX9_digest 144 = .ok (.iload 4, 2) := by decide +kernel
theorem dX9_digest_146 : decode cX9_digest 146 = .ok (.iconst 5, 1) := by decide +kernel
theorem dX9_digest_147 : decode cX9_digest 147 = .ok (.aload_n 0, 1) := by decide +kernel
theorem dX9_digest_148 : decode cX9_digest 148 = .ok (.iload_n 3, 1) := by decide +kernel
theorem dX9_digest_149 : decode cX9_digest 149 = .ok (.invokevirtual 70, 3) := by decide +kernel
theorem dX9_digest_152 : decode cX9_digest 152 = .ok (.imul, 1) := by decide +kernel
theorem dX9_digest_153 : decode cX9_digest 153 = .ok (.if_icmp .ge 30, 3) := by decide +kernel
theorem dX9_digest_156 : decode cX9_digest 156 = .ok (.ldc2_w 286, 3) := by decide +kernel
theorem dX9_digest_159 : decode cX9_digest 159 = .ok (.lload_n 1, 1) := by decide +kernel
theorem dX9_digest_160 : decode cX9_digest 160 = .ok (.lmul, 1) := by decide +kernel
theorem dX9_digest_161 : decode cX9_digest 161 = .ok (.aload_n 0, 1) := by decide +kernel
theorem dX9_digest_162 : decode cX9_digest 162 = .ok (.iload_n 3, 1) := by decide +kernel
theorem dX9_digest_163 : decode cX9_digest 163 = .ok (.iload 4, 2) := by decide +kernel
theorem dX9_digest_165 : decode cX9_digest 165 = .ok (.iconst 5, 1) := by decide +kernel
theorem dX9_digest_166 : decode cX9_digest 166 = .ok (.idiv, 1) := by decide +kernel
theorem dX9_digest_167 : decode cX9_digest 167 = .ok (.iload 4, 2) := by decide +kernel
theorem dX9_digest_169 : decode cX9_digest 169 = .ok (.iconst 5, 1) := by decide +kernel
theorem dX9_digest_170 : decode cX9_digest 170 = .ok (.irem, 1) := by decide +kernel
theorem dX9_digest_171 : decode cX9_digest 171 = .ok (.invokevirtual 199, 3) := by decide +kernel
theorem dX9_digest_174 : decode cX9_digest 174 = .ok (.i2l, 1) := by decide +kernel
theorem dX9_digest_175 : decode cX9_digest 175 = .ok (.ladd, 1) := by decide +kernel
theorem dX9_digest_176 : decode cX9_digest 176 = .ok (.lstore_n 1, 1) := by decide +kernel
theorem dX9_digest_177 : decode cX9_digest 177 = .ok (.iinc 4 1, 3) := by decide +kernel
theorem dX9_digest_180 : decode cX9_digest 180 = .ok (.goto (-36), 3) := by decide +kernel
theorem dX9_digest_183 : decode cX9_digest 183 = .ok (.iinc 3 1, 3) := by decide +kernel
theorem dX9_digest_186 : decode cX9_digest 186 = .ok (.goto (-131), 3) := by decide +kernel
theorem dX9_digest_189 : decode cX9_digest 189 = .ok (.ldc2_w 286, 3) := by decide +kernel
theorem dX9_digest_192 : decode cX9_digest 192 = .ok (.lload_n 1, 1) := by decide +kernel
theorem dX9_digest_193 : decode cX9_digest 193 = .ok (.lmul, 1) := by decide +kernel
theorem dX9_digest_194 : decode cX9_digest 194 = .ok (.aload_n 0, 1) := by decide +kernel
theorem dX9_digest_195 : decode cX9_digest 195 = .ok (.invokevirtual 188, 3) := by decide +kernel
theorem dX9_digest_198 : decode cX9_digest 198 = .ok (.i2l, 1) := by decide +kernel
theorem dX9_digest_199 : decode cX9_digest 199 = .ok (.ladd, 1) := by decide +kernel
theorem dX9_digest_200 : decode cX9_digest 200 = .ok (.lstore_n 1, 1) := by decide +kernel
theorem dX9_digest_201 : decode cX9_digest 201 = .ok (.iconst 0, 1) := by decide +kernel
theorem dX9_digest_202 : decode cX9_digest 202 = .ok (.istore_n 3, 1) := by decide +kernel
theorem dX9_digest_203 : decode cX9_digest 203 = .ok (.iload_n 3, 1) := by decide +kernel
theorem dX9_digest_204 : decode cX9_digest 204 = .ok (.iconst 4, 1) := by decide +kernel
theorem dX9_digest_205 : decode cX9_digest 205 = .ok (.if_icmp .ge 22, 3) := by decide +kernel
theorem dX9_digest_208 : decode cX9_digest 208 = .ok (.ldc2_w 286, 3) := by decide +kernel
theorem dX9_digest_211 : decode cX9_digest 211 = .ok (.lload_n 1, 1) := by decide +kernel
theorem dX9_digest_212 : decode cX9_digest 212 = .ok (.lmul, 1) := by decide +kernel
theorem dX9_digest_213 : decode cX9_digest 213 = .ok (.aload_n 0, 1) := by decide +kernel
theorem dX9_digest_214 : decode cX9_digest 214 = .ok (.iload_n 3, 1) := by decide +kernel
theorem dX9_digest_215 : decode cX9_digest 215 = .ok (.invokevirtual 212, 3) := by decide +kernel
theorem dX9_digest_218 : decode cX9_digest 218 = .ok (.i2l, 1) := by decide +kernel
theorem dX9_digest_219 : decode cX9_digest 219 = .ok (.ladd, 1) := by decide +kernel
theorem dX9_digest_220 : decode cX9_digest 220 = .ok (.lstore_n 1, 1) := by decide +kernel
theorem dX9_digest_221 : decode cX9_digest 221 = .ok (.iinc 3 1, 3) := by decide +kernel
theorem dX9_digest_224 : decode cX9_digest 224 = .ok (.goto (-21), 3) := by decide +kernel
theorem dX9_digest_227 : decode cX9_digest 227 = .ok (.lload_n 1, 1) := by decide +kernel
theorem dX9_digest_228 : decode cX9_digest 228 = .ok (.lreturn, 1) := by decide +kernel
theorem dJxf58ca_isNaN_12338_0 : decode cJxf58ca_isNaN_12338 0 = .ok (.fload_n 0, 1) := by decide +kernel
theorem dJxf58ca_isNaN_12338_1 : decode cJxf58ca_isNaN_12338 1 = .ok (.fload_n 0, 1) := by decide +kernel
theorem dJxf58ca_isNaN_12338_2 : decode cJxf58ca_isNaN_12338 2 = .ok (.fcmp .l, 1) := by decide +kernel
theorem dJxf58ca_isNaN_12338_3 : decode cJxf58ca_isNaN_12338 3 = .ok (.ifCond .eq 7, 3) := by decide +kernel
theorem dJxf58ca_isNaN_12338_6 : decode cJxf58ca_isNaN_12338 6 = .ok (.iconst 1, 1) := by decide +kernel
theorem dJxf58ca_isNaN_12338_7 : decode cJxf58ca_isNaN_12338 7 = .ok (.goto 4, 3) := by decide +kernel
theorem dJxf58ca_isNaN_12338_10 : decode cJxf58ca_isNaN_12338 10 = .ok (.iconst 0, 1) := by decide +kernel
theorem dJxf58ca_isNaN_12338_11 : decode cJxf58ca_isNaN_12338 11 = .ok (.ireturn, 1) := by decide +kernel
theorem dJxf58ca_floatToIntBits_5c35a_0 : decode cJxf58ca_floatToIntBits_5c35a 0 = .ok (.fload_n 0, 1) := by decide +kernel
theorem dJxf58ca_floatToIntBits_5c35a_1 : decode cJxf58ca_floatToIntBits_5c35a 1 = .ok (.invokestatic 59, 3) := by decide +kernel
theorem dJxf58ca_floatToIntBits_5c35a_4 : decode cJxf58ca_floatToIntBits_5c35a 4 = .ok (.ifCond .ne 8, 3) := by decide +kernel
theorem dJxf58ca_floatToIntBits_5c35a_7 : decode cJxf58ca_floatToIntBits_5c35a 7 = .ok (.fload_n 0, 1) := by decide +kernel
theorem dJxf58ca_floatToIntBits_5c35a_8 : decode cJxf58ca_floatToIntBits_5c35a 8 = .ok (.invokestatic 74, 3) := by decide +kernel
theorem dJxf58ca_floatToIntBits_5c35a_11 : decode cJxf58ca_floatToIntBits_5c35a 11 = .ok (.ireturn, 1) := by decide +kernel
theorem dJxf58ca_floatToIntBits_5c35a_12 : decode cJxf58ca_floatToIntBits_5c35a 12 = .ok (.ldc 77, 2) := by decide +kernel
theorem dJxf58ca_floatToIntBits_5c35a_14 : decode cJxf58ca_floatToIntBits_5c35a 14 = .ok (.ireturn, 1) := by decide +kernel
theorem dJ9_max_7cf53_0 : decode cJ9_max_7cf53 0 = .ok (.iload_n 0, 1) := by decide +kernel
theorem dJ9_max_7cf53_1 : decode cJ9_max_7cf53 1 = .ok (.iload_n 1, 1) := by decide +kernel
theorem dJ9_max_7cf53_2 : decode cJ9_max_7cf53 2 = .ok (.if_icmp .lt 7, 3) := by decide +kernel
theorem dJ9_max_7cf53_5 : decode cJ9_max_7cf53 5 = .ok (.iload_n 0, 1) := by decide +kernel
theorem dJ9_max_7cf53_6 : decode cJ9_max_7cf53 6 = .ok (.goto 4, 3) := by decide +kernel
theorem dJ9_max_7cf53_9 : decode cJ9_max_7cf53 9 = .ok (.iload_n 1, 1) := by decide +kernel
theorem dJ9_max_7cf53_10 : decode cJ9_max_7cf53 10 = .ok (.ireturn, 1) := by decide +kernel
theorem dL_law_0 : decode cL_law 0 = .ok (.new 7, 3) := by decide +kernel
theorem dL_law_3 : decode cL_law 3 = .ok (.dup, 1) := by decide +kernel
theorem dL_law_4 : decode cL_law 4 = .ok (.invokespecial 9, 3) := by decide +kernel
theorem dL_law_7 : decode cL_law 7 = .ok (.astore_n 1, 1) := by decide +kernel
theorem dL_law_8 : decode cL_law 8 = .ok (.new 10, 3) := by decide +kernel
theorem dL_law_11 : decode cL_law 11 = .ok (.dup, 1) := by decide +kernel
theorem dL_law_12 : decode cL_law 12 = .ok (.invokespecial 12, 3) := by decide +kernel
theorem dL_law_15 : decode cL_law 15 = .ok (.astore_n 2, 1) := by decide +kernel
theorem dL_law_16 : decode cL_law 16 = .ok (.iconst 0, 1) := by decide +kernel
theorem dL_law_17 : decode cL_law 17 = .ok (.istore_n 3, 1) := by decide +kernel
theorem dL_law_18 : decode cL_law 18 = .ok (.iload_n 3, 1) := by decide +kernel
theorem dL_law_19 : decode cL_law 19 = .ok (.aload_n 0, 1) := by decide +kernel
theorem dL_law_20 : decode cL_law 20 = .ok (.arraylength, 1) := by decide +kernel
theorem dL_law_21 : decode cL_law 21 = .ok (.bipush 6, 2) := by decide +kernel
theorem dL_law_23 : decode cL_law 23 = .ok (.isub, 1) := by decide +kernel
theorem dL_law_24 : decode cL_law 24 = .ok (.if_icmp .gt 785, 3) := by decide +kernel
theorem dL_law_27 : decode cL_law 27 = .ok (.aload_n 0, 1) := by decide +kernel
theorem dL_law_28 : decode cL_law 28 = .ok (.iload_n 3, 1) := by decide +kernel
theorem dL_law_29 : decode cL_law 29 = .ok (.iaload, 1) := by decide +kernel
theorem dL_law_30 : decode cL_law 30 = .ok (.bipush 31, 2) := by decide +kernel
theorem dL_law_32 : decode cL_law 32 = .ok (.iand, 1) := by decide +kernel
theorem dL_law_33 : decode cL_law 33 = .ok (.tableswitch 770 0 21 #[103, 116, 179, 242, 275, 318, 351, 374, 387, 430, 473, 526, 569, 592, 625, 648, 671, 684, 697, 720, 733, 756], 103) := by decide +kernel
theorem dL_law_136 : decode cL_law 136 = .ok (.aload_n 1, 1) := by decide +kernel
theorem dL_law_137 : decode cL_law 137 = .ok (.invokevirtual 13, 3) := by decide +kernel
theorem dL_law_140 : decode cL_law 140 = .ok (.aload_n 2, 1) := by decide +kernel
theorem dL_law_141 : decode cL_law 141 = .ok (.invokevirtual 17, 3) := by decide +kernel
theorem dL_law_144 : decode cL_law 144 = .ok (.if_icmp .eq 659, 3) := by decide +kernel
theorem dL_law_147 : decode cL_law 147 = .ok (.iconst 0, 1) := by decide +kernel
theorem dL_law_148 : decode cL_law 148 = .ok (.ireturn, 1) := by decide +kernel
theorem dL_law_149 : decode cL_law 149 = .ok (.aload_n 1, 1) := by decide +kernel
theorem dL_law_150 : decode cL_law 150 = .ok (.aload_n 0, 1) := by decide +kernel
theorem dL_law_151 : decode cL_law 151 = .ok (.iload_n 3, 1) := by decide +kernel
theorem dL_law_152 : decode cL_law 152 = .ok (.iconst 1, 1) := by decide +kernel
theorem dL_law_153 : decode cL_law 153 = .ok (.iadd, 1) := by decide +kernel
theorem dL_law_154 : decode cL_law 154 = .ok (.iaload, 1) := by decide +kernel
theorem dL_law_155 : decode cL_law 155 = .ok (.aload_n 0, 1) := by decide +kernel
theorem dL_law_156 : decode cL_law 156 = .ok (.iload_n 3, 1) := by decide +kernel
theorem dL_law_157 : decode cL_law 157 = .ok (.iconst 2, 1) := by decide +kernel
theorem dL_law_158 : decode cL_law 158 = .ok (.iadd, 1) := by decide +kernel
theorem dL_law_159 : decode cL_law 159 = .ok (.iaload, 1) := by decide +kernel
theorem dL_law_160 : decode cL_law 160 = .ok (.aload_n 0, 1) := by decide +kernel
theorem dL_law_161 : decode cL_law 161 = .ok (.iload_n 3, 1) := by decide +kernel
theorem dL_law_162 : decode cL_law 162 = .ok (.iconst 3, 1) := by decide +kernel
theorem dL_law_163 : decode cL_law 163 = .ok (.iadd, 1) := by decide +kernel
theorem dL_law_164 : decode cL_law 164 = .ok (.iaload, 1) := by decide +kernel
theorem dL_law_165 : decode cL_law 165 = .ok (.aload_n 0, 1) := by decide +kernel
theorem dL_law_166 : decode cL_law 166 = .ok (.iload_n 3, 1) := by decide +kernel
theorem dL_law_167 : decode cL_law 167 = .ok (.iconst 4, 1) := by decide +kernel
theorem dL_law_168 : decode cL_law 168 = .ok (.iadd, 1) := by decide +kernel
theorem dL_law_169 : decode cL_law 169 = .ok (.iaload, 1) := by decide +kernel
theorem dL_law_170 : decode cL_law 170 = .ok (.aload_n 0, 1) := by decide +kernel
theorem dL_law_171 : decode cL_law 171 = .ok (.iload_n 3, 1) := by decide +kernel
theorem dL_law_172 : decode cL_law 172 = .ok (.iconst 5, 1) := by decide +kernel
theorem dL_law_173 : decode cL_law 173 = .ok (.iadd, 1) := by decide +kernel
theorem dL_law_174 : decode cL_law 174 = .ok (.iaload, 1) := by decide +kernel
theorem dL_law_175 : decode cL_law 175 = .ok (.invokevirtual 18, 3) := by decide +kernel
theorem dL_law_178 : decode cL_law 178 = .ok (.aload_n 2, 1) := by decide +kernel
theorem dL_law_179 : decode cL_law 179 = .ok (.aload_n 0, 1) := by decide +kernel
theorem dL_law_180 : decode cL_law 180 = .ok (.iload_n 3, 1) := by decide +kernel
theorem dL_law_181 : decode cL_law 181 = .ok (.iconst 1, 1) := by decide +kernel
theorem dL_law_182 : decode cL_law 182 = .ok (.iadd, 1) := by decide +kernel
theorem dL_law_183 : decode cL_law 183 = .ok (.iaload, 1) := by decide +kernel
theorem dL_law_184 : decode cL_law 184 = .ok (.aload_n 0, 1) := by decide +kernel
theorem dL_law_185 : decode cL_law 185 = .ok (.iload_n 3, 1) := by decide +kernel
theorem dL_law_186 : decode cL_law 186 = .ok (.iconst 2, 1) := by decide +kernel
theorem dL_law_187 : decode cL_law 187 = .ok (.iadd, 1) := by decide +kernel
theorem dL_law_188 : decode cL_law 188 = .ok (.iaload, 1) := by decide +kernel
theorem dL_law_189 : decode cL_law 189 = .ok (.aload_n 0, 1) := by decide +kernel
theorem dL_law_190 : decode cL_law 190 = .ok (.iload_n 3, 1) := by decide +kernel
theorem dL_law_191 : decode cL_law 191 = .ok (.iconst 3, 1) := by decide +kernel
theorem dL_law_192 : decode cL_law 192 = .ok (.iadd, 1) := by decide +kernel
theorem dL_law_193 : decode cL_law 193 = .ok (.iaload, 1) := by decide +kernel
theorem dL_law_194 : decode cL_law 194 = .ok (.aload_n 0, 1) := by decide +kernel
theorem dL_law_195 : decode cL_law 195 = .ok (.iload_n 3, 1) := by decide +kernel
theorem dL_law_196 : decode cL_law 196 = .ok (.iconst 4, 1) := by decide +kernel
theorem dL_law_197 : decode cL_law 197 = .ok (.iadd, 1) := by decide +kernel
theorem dL_law_198 : decode cL_law 198 = .ok (.iaload, 1) := by decide +kernel
theorem dL_law_199 : decode cL_law 199 = .ok (.aload_n 0, 1) := by decide +kernel
theorem dL_law_200 : decode cL_law 200 = .ok (.iload_n 3, 1) := by decide +kernel
theorem dL_law_201 : decode cL_law 201 = .ok (.iconst 5, 1) := by decide +kernel
theorem dL_law_202 : decode cL_law 202 = .ok (.iadd, 1) := by decide +kernel
theorem dL_law_203 : decode cL_law 203 = .ok (.iaload, 1) := by decide +kernel
theorem dL_law_204 : decode cL_law 204 = .ok (.invokevirtual 22, 3) := by decide +kernel
theorem dL_law_207 : decode cL_law 207 = .ok (.if_icmp .eq 596, 3) := by decide +kernel
theorem dL_law_210 : decode cL_law 210 = .ok (.iconst 0, 1) := by decide +kernel
theorem dL_law_211 : decode cL_law 211 = .ok (.ireturn, 1) := by decide +kernel
theorem dL_law_212 : decode cL_law 212 = .ok (.aload_n 1, 1) := by decide +kernel
theorem dL_law_213 : decode cL_law 213 = .ok (.aload_n 0, 1) := by decide +kernel
theorem dL_law_214 : decode cL_law 214 = .ok (.iload_n 3, 1) := by decide +kernel
theorem dL_law_215 : decode cL_law 215 = .ok (.iconst 1, 1) := by decide +kernel
theorem dL_law_216 : decode cL_law 216 = .ok (.iadd, 1) := by decide +kernel
theorem dL_law_217 : decode cL_law 217 = .ok (.iaload, 1) := by decide +kernel
theorem dL_law_218 : decode cL_law 218 = .ok (.aload_n 0, 1) := by decide +kernel
theorem dL_law_219 : decode cL_law 219 = .ok (.iload_n 3, 1) := by decide +kernel
theorem dL_law_220 : decode cL_law 220 = .ok (.iconst 2, 1) := by decide +kernel
theorem dL_law_221 : decode cL_law 221 = .ok (.iadd, 1) := by decide +kernel
theorem dL_law_222 : decode cL_law 222 = .ok (.iaload, 1) := by decide +kernel
theorem dL_law_223 : decode cL_law 223 = .ok (.aload_n 0, 1) := by decide +kernel
theorem dL_law_224 : decode cL_law 224 = .ok (.iload_n 3, 1) := by decide +kernel
theorem dL_law_225 : decode cL_law 225 = .ok (.iconst 3, 1) := by decide +kernel
theorem dL_law_226 : decode cL_law 226 = .ok (.iadd, 1) := by decide +kernel
theorem dL_law_227 : decode cL_law 227 = .ok (.iaload, 1) := by decide +kernel
theorem dL_law_228 : decode cL_law 228 = .ok (.aload_n 0, 1) := by decide +kernel
theorem dL_law_229 : decode cL_law 229 = .ok (.iload_n 3, 1) := by decide +kernel
theorem dL_law_230 : decode cL_law 230 = .ok (.iconst 4, 1) := by decide +kernel
theorem dL_law_231 : decode cL_law 231 = .ok (.iadd, 1) := by decide +kernel
theorem dL_law_232 : decode cL_law 232 = .ok (.iaload, 1) := by decide +kernel
theorem dL_law_233 : decode cL_law 233 = .ok (.aload_n 0, 1) := by decide +kernel
theorem dL_law_234 : decode cL_law 234 = .ok (.iload_n 3, 1) := by decide +kernel
theorem dL_law_235 : decode cL_law 235 = .ok (.iconst 5, 1) := by decide +kernel
theorem dL_law_236 : decode cL_law 236 = .ok (.iadd, 1) := by decide +kernel
theorem dL_law_237 : decode cL_law 237 = .ok (.iaload, 1) := by decide +kernel
theorem dL_law_238 : decode cL_law 238 = .ok (.invokevirtual 23, 3) := by decide +kernel
theorem dL_law_241 : decode cL_law 241 = .ok (.aload_n 2, 1) := by decide +kernel
theorem dL_law_242 : decode cL_law 242 = .ok (.aload_n 0, 1) := by decide +kernel
theorem dL_law_243 : decode cL_law 243 = .ok (.iload_n 3, 1) := by decide +kernel
theorem dL_law_244 : decode cL_law 244 = .ok (.iconst 1, 1) := by decide +kernel
theorem dL_law_245 : decode cL_law 245 = .ok (.iadd, 1) := by decide +kernel
theorem dL_law_246 : decode cL_law 246 = .ok (.iaload, 1) := by decide +kernel
theorem dL_law_247 : decode cL_law 247 = .ok (.aload_n 0, 1) := by decide +kernel
theorem dL_law_248 : decode cL_law 248 = .ok (.iload_n 3, 1) := by decide +kernel
theorem dL_law_249 : decode cL_law 249 = .ok (.iconst 2, 1) := by decide +kernel
theorem dL_law_250 : decode cL_law 250 = .ok (.iadd, 1) := by decide +kernel
theorem dL_law_251 : decode cL_law 251 = .ok (.iaload, 1) := by decide +kernel
theorem dL_law_252 : decode cL_law 252 = .ok (.aload_n 0, 1) := by decide +kernel
theorem dL_law_253 : decode cL_law 253 = .ok (.iload_n 3, 1) := by decide +kernel
theorem dL_law_254 : decode cL_law 254 = .ok (.iconst 3, 1) := by decide +kernel
theorem dL_law_255 : decode cL_law 255 = .ok (.iadd, 1) := by decide +kernel
theorem dL_law_256 : decode cL_law 256 = .ok (.iaload, 1) := by decide +kernel
theorem dL_law_257 : decode cL_law 257 = .ok (.aload_n 0, 1) := by decide +kernel
theorem dL_law_258 : decode cL_law 258 = .ok (.iload_n 3, 1) := by decide +kernel
theorem dL_law_259 : decode cL_law 259 = .ok (.iconst 4, 1) := by decide +kernel
theorem dL_law_260 : decode cL_law 260 = .ok (.iadd, 1) := by decide +kernel
theorem dL_law_261 : decode cL_law 261 = .ok (.iaload, 1) := by decide +kernel
theorem dL_law_262 : decode cL_law 262 = .ok (.aload_n 0, 1) := by decide +kernel
theorem dL_law_263 : decode cL_law 263 = .ok (.iload_n 3, 1) := by decide +kernel
theorem dL_law_264 : decode cL_law 264 = .ok (.iconst 5, 1) := by decide +kernel
theorem dL_law_265 : decode cL_law 265 = .ok (.iadd, 1) := by decide +kernel
theorem dL_law_266 : decode cL_law 266 = .ok (.iaload, 1) := by decide +kernel
theorem dL_law_267 : decode cL_law 267 = .ok (.invokevirtual 26, 3) := by decide +kernel
theorem dL_law_270 : decode cL_law 270 = .ok (.if_icmp .eq 533, 3) := by decide +kernel
theorem dL_law_273 : decode cL_law 273 = .ok (.iconst 0, 1) := by decide +kernel
theorem dL_law_274 : decode cL_law 274 = .ok (.ireturn, 1) := by decide +kernel
theorem dL_law_275 : decode cL_law 275 = .ok (.aload_n 1, 1) := by decide +kernel
theorem dL_law_276 : decode cL_law 276 = .ok (.aload_n 0, 1) := by decide +kernel
theorem dL_law_277 : decode cL_law 277 = .ok (.iload_n 3, 1) := by decide +kernel
theorem dL_law_278 : decode cL_law 278 = .ok (.iconst 1, 1) := by decide +kernel
theorem dL_law_279 : decode cL_law 279 = .ok (.iadd, 1) := by decide +kernel
theorem dL_law_280 : decode cL_law 280 = .ok (.iaload, 1) := by decide +kernel
theorem dL_law_281 : decode cL_law 281 = .ok (.aload_n 0, 1) := by decide +kernel
theorem dL_law_282 : decode cL_law 282 = .ok (.iload_n 3, 1) := by decide +kernel
theorem dL_law_283 : decode cL_law 283 = .ok (.iconst 2, 1) := by decide +kernel
theorem dL_law_284 : decode cL_law 284 = .ok (.iadd, 1) := by decide +kernel
theorem dL_law_285 : decode cL_law 285 = .ok (.iaload, 1) := by decide +kernel
theorem dL_law_286 : decode cL_law 286 = .ok (.invokevirtual 27, 3) := by decide +kernel
theorem dL_law_289 : decode cL_law 289 = .ok (.aload_n 2, 1) := by decide +kernel
theorem dL_law_290 : decode cL_law 290 = .ok (.aload_n 0, 1) := by decide +kernel
theorem dL_law_291 : decode cL_law 291 = .ok (.iload_n 3, 1) := by decide +kernel
theorem dL_law_292 : decode cL_law 292 = .ok (.iconst 1, 1) := by decide +kernel
theorem dL_law_293 : decode cL_law 293 = .ok (.iadd, 1) := by decide +kernel
theorem dL_law_294 : decode cL_law 294 = .ok (.iaload, 1) := by decide +kernel
theorem dL_law_295 : decode cL_law 295 = .ok (.aload_n 0, 1) := by decide +kernel
theorem dL_law_296 : decode cL_law 296 = .ok (.iload_n 3, 1) := by decide +kernel
theorem dL_law_297 : decode cL_law 297 = .ok (.iconst 2, 1) := by decide +kernel
theorem dL_law_298 : decode cL_law 298 = .ok (.iadd, 1) := by decide +kernel
theorem dL_law_299 : decode cL_law 299 = .ok (.iaload, 1) := by decide +kernel
theorem dL_law_300 : decode cL_law 300 = .ok (.invokevirtual 31, 3) := by decide +kernel
theorem dL_law_303 : decode cL_law 303 = .ok (.if_icmp .eq 500, 3) := by decide +kernel
theorem dL_law_306 : decode cL_law 306 = .ok (.iconst 0, 1) := by decide +kernel
theorem dL_law_307 : decode cL_law 307 = .ok (.ireturn, 1) := by decide +kernel
theorem dL_law_308 : decode cL_law 308 = .ok (.aload_n 1, 1) := by decide +kernel
theorem dL_law_309 : decode cL_law 309 = .ok (.aload_n 0, 1) := by decide +kernel
theorem dL_law_310 : decode cL_law 310 = .ok (.iload_n 3, 1) := by decide +kernel
theorem dL_law_311 : decode cL_law 311 = .ok (.iconst 1, 1) := by decide +kernel
theorem dL_law_312 : decode cL_law 312 = .ok (.iadd, 1) := by decide +kernel
theorem dL_law_313 : decode cL_law 313 = .ok (.iaload, 1) := by decide +kernel
theorem dL_law_314 : decode cL_law 314 = .ok (.aload_n 0, 1) := by decide +kernel
theorem dL_law_315 : decode cL_law 315 = .ok (.iload_n 3, 1) := by decide +kernel
theorem dL_law_316 : decode cL_law 316 = .ok (.iconst 2, 1) := by decide +kernel
theorem dL_law_317 : decode cL_law 317 = .ok (.iadd, 1) := by decide +kernel
theorem dL_law_318 : decode cL_law 318 = .ok (.iaload, 1) := by decide +kernel
theorem dL_law_319 : decode cL_law 319 = .ok (.aload_n 0, 1) := by decide +kernel
theorem dL_law_320 : decode cL_law 320 = .ok (.iload_n 3, 1) := by decide +kernel
theorem dL_law_321 : decode cL_law 321 = .ok (.iconst 3, 1) := by decide +kernel
theorem dL_law_322 : decode cL_law 322 = .ok (.iadd, 1) := by decide +kernel
theorem dL_law_323 : decode cL_law 323 = .ok (.iaload, 1) := by decide +kernel
theorem dL_law_324 : decode cL_law 324 = .ok (.invokevirtual 32, 3) := by decide +kernel
theorem dL_law_327 : decode cL_law 327 = .ok (.aload_n 2, 1) := by decide +kernel
theorem dL_law_328 : decode cL_law 328 = .ok (.aload_n 0, 1) := by decide +kernel
theorem dL_law_329 : decode cL_law 329 = .ok (.iload_n 3, 1) := by decide +kernel
theorem dL_law_330 : decode cL_law 330 = .ok (.iconst 1, 1) := by decide +kernel
theorem dL_law_331 : decode cL_law 331 = .ok (.iadd, 1) := by decide +kernel
theorem dL_law_332 : decode cL_law 332 = .ok (.iaload, 1) := by decide +kernel
theorem dL_law_333 : decode cL_law 333 = .ok (.aload_n 0, 1) := by decide +kernel
theorem dL_law_334 : decode cL_law 334 = .ok (.iload_n 3, 1) := by decide +kernel
theorem dL_law_335 : decode cL_law 335 = .ok (.iconst 2, 1) := by decide +kernel
theorem dL_law_336 : decode cL_law 336 = .ok (.iadd, 1) := by decide +kernel
theorem dL_law_337 : decode cL_law 337 = .ok (.iaload, 1) := by decide +kernel
theorem dL_law_338 : decode cL_law 338 = .ok (.aload_n 0, 1) := by decide +kernel
theorem dL_law_339 : decode cL_law 339 = .ok (.iload_n 3, 1) := by decide +kernel
theorem dL_law_340 : decode cL_law 340 = .ok (.iconst 3, 1) := by decide +kernel
theorem dL_law_341 : decode cL_law 341 = .ok (.iadd, 1) := by decide +kernel
theorem dL_law_342 : decode cL_law 342 = .ok (.iaload, 1) := by decide +kernel
theorem dL_law_343 : decode cL_law 343 = .ok (.invokevirtual 36, 3) := by decide +kernel
theorem dL_law_346 : decode cL_law 346 = .ok (.if_icmp .eq 457, 3) := by decide +kernel
theorem dL_law_349 : decode cL_law 349 = .ok (.iconst 0, 1) := by decide +kernel
theorem dL_law_350 : decode cL_law 350 = .ok (.ireturn, 1) := by decide +kernel
theorem dL_law_351 : decode cL_law 351 = .ok (.aload_n 1, 1) := by decide +kernel
theorem dL_law_352 : decode cL_law 352 = .ok (.aload_n 0, 1) := by decide +kernel
theorem dL_law_353 : decode cL_law 353 = .ok (.iload_n 3, 1) := by decide +kernel
theorem dL_law_354 : decode cL_law 354 = .ok (.iconst 1, 1) := by decide +kernel
theorem dL_law_355 : decode cL_law 355 = .ok (.iadd, 1) := by decide +kernel
theorem dL_law_356 : decode cL_law 356 = .ok (.iaload, 1) := by decide +kernel
theorem dL_law_357 : decode cL_law 357 = .ok (.aload_n 0, 1) := by decide +kernel
theorem dL_law_358 : decode cL_law 358 = .ok (.iload_n 3, 1) := by decide +kernel
theorem dL_law_359 : decode cL_law 359 = .ok (.iconst 2, 1) := by decide +kernel
theorem dL_law_360 : decode cL_law 360 = .ok (.iadd, 1) := by decide +kernel
theorem dL_law_361 : decode cL_law 361 = .ok (.iaload, 1) := by decide +kernel
theorem dL_law_362 : decode cL_law 362 = .ok (.invokevirtual 37, 3) := by decide +kernel
theorem dL_law_365 : decode cL_law 365 = .ok (.aload_n 2, 1) := by decide +kernel
theorem dL_law_366 : decode cL_law 366 = .ok (.aload_n 0, 1) := by decide +kernel
theorem dL_law_367 : decode cL_law 367 = .ok (.iload_n 3, 1) := by decide +kernel
theorem dL_law_368 : decode cL_law 368 = .ok (.iconst 1, 1) := by decide +kernel
theorem dL_law_369 : decode cL_law 369 = .ok (.iadd, 1) := by decide +kernel
theorem dL_law_370 : decode cL_law 370 = .ok (.iaload, 1) := by decide +kernel
theorem dL_law_371 : decode cL_law 371 = .ok (.aload_n 0, 1) := by decide +kernel
theorem dL_law_372 : decode cL_law 372 = .ok (.iload_n 3, 1) := by decide +kernel
theorem dL_law_373 : decode cL_law 373 = .ok (.iconst 2, 1) := by decide +kernel
theorem dL_law_374 : decode cL_law 374 = .ok (.iadd, 1) := by decide +kernel
theorem dL_law_375 : decode cL_law 375 = .ok (.iaload, 1) := by decide +kernel
theorem dL_law_376 : decode cL_law 376 = .ok (.invokevirtual 40, 3) := by decide +kernel
theorem dL_law_379 : decode cL_law 379 = .ok (.if_icmp .eq 424, 3) := by decide +kernel
theorem dL_law_382 : decode cL_law 382 = .ok (.iconst 0, 1) := by decide +kernel
theorem dL_law_383 : decode cL_law 383 = .ok (.ireturn, 1) := by decide +kernel
theorem dL_law_384 : decode cL_law 384 = .ok (.aload_n 1, 1) := by decide +kernel
theorem dL_law_385 : decode cL_law 385 = .ok (.aload_n 0, 1) := by decide +kernel
theorem dL_law_386 : decode cL_law 386 = .ok (.iload_n 3, 1) := by decide +kernel
theorem dL_law_387 : decode cL_law 387 = .ok (.iconst 1, 1) := by decide +kernel
theorem dL_law_388 : decode cL_law 388 = .ok (.iadd, 1) := by decide +kernel
theorem dL_law_389 : decode cL_law 389 = .ok (.iaload, 1) := by decide +kernel
theorem dL_law_390 : decode cL_law 390 = .ok (.invokevirtual 41, 3) := by decide +kernel
theorem dL_law_393 : decode cL_law 393 = .ok (.aload_n 2, 1) := by decide +kernel
theorem dL_law_394 : decode cL_law 394 = .ok (.aload_n 0, 1) := by decide +kernel
theorem dL_law_395 : decode cL_law 395 = .ok (.iload_n 3, 1) := by decide +kernel
theorem dL_law_396 : decode cL_law 396 = .ok (.iconst 1, 1) := by decide +kernel
theorem dL_law_397 : decode cL_law 397 = .ok (.iadd, 1) := by decide +kernel
theorem dL_law_398 : decode cL_law 398 = .ok (.iaload, 1) := by decide +kernel
theorem dL_law_399 : decode cL_law 399 = .ok (.invokevirtual 45, 3) := by decide +kernel
theorem dL_law_402 : decode cL_law 402 = .ok (.if_icmp .eq 401, 3) := by decide +kernel
theorem dL_law_405 : decode cL_law 405 = .ok (.iconst 0, 1) := by decide +kernel
theorem dL_law_406 : decode cL_law 406 = .ok (.ireturn, 1) := by decide +kernel
theorem dL_law_407 : decode cL_law 407 = .ok (.aload_n 1, 1) := by decide +kernel
theorem dL_law_408 : decode cL_law 408 = .ok (.invokevirtual 46, 3) := by decide +kernel
theorem dL_law_411 : decode cL_law 411 = .ok (.aload_n 2, 1) := by decide +kernel
theorem dL_law_412 : decode cL_law 412 = .ok (.invokevirtual 49, 3) := by decide +kernel
theorem dL_law_415 : decode cL_law 415 = .ok (.if_icmp .eq 388, 3) := by decide +kernel
theorem dL_law_418 : decode cL_law 418 = .ok (.iconst 0, 1) := by decide +kernel
theorem dL_law_419 : decode cL_law 419 = .ok (.ireturn, 1) := by decide +kernel
theorem dL_law_420 : decode cL_law 420 = .ok (.aload_n 1, 1) := by decide +kernel
theorem dL_law_421 : decode cL_law 421 = .ok (.aload_n 0, 1) := by decide +kernel
theorem dL_law_422 : decode cL_law 422 = .ok (.iload_n 3, 1) := by decide +kernel
theorem dL_law_423 : decode cL_law 423 = .ok (.iconst 1, 1) := by decide +kernel
theorem dL_law_424 : decode cL_law 424 = .ok (.iadd, 1) := by decide +kernel
theorem dL_law_425 : decode cL_law 425 = .ok (.iaload, 1) := by decide +kernel
theorem dL_law_426 : decode cL_law 426 = .ok (.aload_n 0, 1) := by decide +kernel
theorem dL_law_427 : decode cL_law 427 = .ok (.iload_n 3, 1) := by decide +kernel
theorem dL_law_428 : decode cL_law 428 = .ok (.iconst 2, 1) := by decide +kernel
theorem dL_law_429 : decode cL_law 429 = .ok (.iadd, 1) := by decide +kernel
theorem dL_law_430 : decode cL_law 430 = .ok (.iaload, 1) := by decide +kernel
theorem dL_law_431 : decode cL_law 431 = .ok (.aload_n 0, 1) := by decide +kernel
theorem dL_law_432 : decode cL_law 432 = .ok (.iload_n 3, 1) := by decide +kernel
theorem dL_law_433 : decode cL_law 433 = .ok (.iconst 3, 1) := by decide +kernel
theorem dL_law_434 : decode cL_law 434 = .ok (.iadd, 1) := by decide +kernel
theorem dL_law_435 : decode cL_law 435 = .ok (.iaload, 1) := by decide +kernel
theorem dL_law_436 : decode cL_law 436 = .ok (.invokevirtual 50, 3) := by decide +kernel
theorem dL_law_439 : decode cL_law 439 = .ok (.aload_n 2, 1) := by decide +kernel
theorem dL_law_440 : decode cL_law 440 = .ok (.aload_n 0, 1) := by decide +kernel
theorem dL_law_441 : decode cL_law 441 = .ok (.iload_n 3, 1) := by decide +kernel
theorem dL_law_442 : decode cL_law 442 = .ok (.iconst 1, 1) := by decide +kernel
theorem dL_law_443 : decode cL_law 443 = .ok (.iadd, 1) := by decide +kernel
theorem dL_law_444 : decode cL_law 444 = .ok (.iaload, 1) := by decide +kernel
theorem dL_law_445 : decode cL_law 445 = .ok (.aload_n 0, 1) := by decide +kernel
theorem dL_law_446 : decode cL_law 446 = .ok (.iload_n 3, 1) := by decide +kernel
theorem dL_law_447 : decode cL_law 447 = .ok (.iconst 2, 1) := by decide +kernel
theorem dL_law_448 : decode cL_law 448 = .ok (.iadd, 1) := by decide +kernel
theorem dL_law_449 : decode cL_law 449 = .ok (.iaload, 1) := by decide +kernel
theorem dL_law_450 : decode cL_law 450 = .ok (.aload_n 0, 1) := by decide +kernel
theorem dL_law_451 : decode cL_law 451 = .ok (.iload_n 3, 1) := by decide +kernel
theorem dL_law_452 : decode cL_law 452 = .ok (.iconst 3, 1) := by decide +kernel
theorem dL_law_453 : decode cL_law 453 = .ok (.iadd, 1) := by decide +kernel
theorem dL_law_454 : decode cL_law 454 = .ok (.iaload, 1) := by decide +kernel
theorem dL_law_455 : decode cL_law 455 = .ok (.invokevirtual 53, 3) := by decide +kernel
theorem dL_law_458 : decode cL_law 458 = .ok (.if_icmp .eq 345, 3) := by decide +kernel
theorem dL_law_461 : decode cL_law 461 = .ok (.iconst 0, 1) := by decide +kernel
theorem dL_law_462 : decode cL_law 462 = .ok (.ireturn, 1) := by decide +kernel
theorem dL_law_463 : decode cL_law 463 = .ok (.aload_n 1, 1) := by decide +kernel
theorem dL_law_464 : decode cL_law 464 = .ok (.aload_n 0, 1) := by decide +kernel
theorem dL_law_465 : decode cL_law 465 = .ok (.iload_n 3, 1) := by decide +kernel
theorem dL_law_466 : decode cL_law 466 = .ok (.iconst 1, 1) := by decide +kernel
theorem dL_law_467 : decode cL_law 467 = .ok (.iadd, 1) := by decide +kernel
theorem dL_law_468 : decode cL_law 468 = .ok (.iaload, 1) := by decide +kernel
theorem dL_law_469 : decode cL_law 469 = .ok (.aload_n 0, 1) := by decide +kernel
theorem dL_law_470 : decode cL_law 470 = .ok (.iload_n 3, 1) := by decide +kernel
theorem dL_law_471 : decode cL_law 471 = .ok (.iconst 2, 1) := by decide +kernel
theorem dL_law_472 : decode cL_law 472 = .ok (.iadd, 1) := by decide +kernel
theorem dL_law_473 : decode cL_law 473 = .ok (.iaload, 1) := by decide +kernel
theorem dL_law_474 : decode cL_law 474 = .ok (.aload_n 0, 1) := by decide +kernel
theorem dL_law_475 : decode cL_law 475 = .ok (.iload_n 3, 1) := by decide +kernel
theorem dL_law_476 : decode cL_law 476 = .ok (.iconst 3, 1) := by decide +kernel
theorem dL_law_477 : decode cL_law 477 = .ok (.iadd, 1) := by decide +kernel
theorem dL_law_478 : decode cL_law 478 = .ok (.iaload, 1) := by decide +kernel
theorem dL_law_479 : decode cL_law 479 = .ok (.invokevirtual 54, 3) := by decide +kernel
theorem dL_law_482 : decode cL_law 482 = .ok (.aload_n 2, 1) := by decide +kernel
theorem dL_law_483 : decode cL_law 483 = .ok (.aload_n 0, 1) := by decide +kernel
theorem dL_law_484 : decode cL_law 484 = .ok (.iload_n 3, 1) := by decide +kernel
theorem dL_law_485 : decode cL_law 485 = .ok (.iconst 1, 1) := by decide +kernel
theorem dL_law_486 : decode cL_law 486 = .ok (.iadd, 1) := by decide +kernel
theorem dL_law_487 : decode cL_law 487 = .ok (.iaload, 1) := by decide +kernel
theorem dL_law_488 : decode cL_law 488 = .ok (.aload_n 0, 1) := by decide +kernel
theorem dL_law_489 : decode cL_law 489 = .ok (.iload_n 3, 1) := by decide +kernel
theorem dL_law_490 : decode cL_law 490 = .ok (.iconst 2, 1) := by decide +kernel
theorem dL_law_491 : decode cL_law 491 = .ok (.iadd, 1) := by decide +kernel
theorem dL_law_492 : decode cL_law 492 = .ok (.iaload, 1) := by decide +kernel
theorem dL_law_493 : decode cL_law 493 = .ok (.aload_n 0, 1) := by decide +kernel
theorem dL_law_494 : decode cL_law 494 = .ok (.iload_n 3, 1) := by decide +kernel
theorem dL_law_495 : decode cL_law 495 = .ok (.iconst 3, 1) := by decide +kernel
theorem dL_law_496 : decode cL_law 496 = .ok (.iadd, 1) := by decide +kernel
theorem dL_law_497 : decode cL_law 497 = .ok (.iaload, 1) := by decide +kernel
theorem dL_law_498 : decode cL_law 498 = .ok (.invokevirtual 57, 3) := by decide +kernel
theorem dL_law_501 : decode cL_law 501 = .ok (.if_icmp .eq 302, 3) := by decide +kernel
theorem dL_law_504 : decode cL_law 504 = .ok (.iconst 0, 1) := by decide +kernel
theorem dL_law_505 : decode cL_law 505 = .ok (.ireturn, 1) := by decide +kernel
theorem dL_law_506 : decode cL_law 506 = .ok (.aload_n 1, 1) := by decide +kernel
theorem dL_law_507 : decode cL_law 507 = .ok (.aload_n 0, 1) := by decide +kernel
theorem dL_law_508 : decode cL_law 508 = .ok (.iload_n 3, 1) := by decide +kernel
theorem dL_law_509 : decode cL_law 509 = .ok (.iconst 1, 1) := by decide +kernel
theorem dL_law_510 : decode cL_law 510 = .ok (.iadd, 1) := by decide +kernel
theorem dL_law_511 : decode cL_law 511 = .ok (.iaload, 1) := by decide +kernel
theorem dL_law_512 : decode cL_law 512 = .ok (.aload_n 0, 1) := by decide +kernel
theorem dL_law_513 : decode cL_law 513 = .ok (.iload_n 3, 1) := by decide +kernel
theorem dL_law_514 : decode cL_law 514 = .ok (.iconst 2, 1) := by decide +kernel
theorem dL_law_515 : decode cL_law 515 = .ok (.iadd, 1) := by decide +kernel
theorem dL_law_516 : decode cL_law 516 = .ok (.iaload, 1) := by decide +kernel
theorem dL_law_517 : decode cL_law 517 = .ok (.aload_n 0, 1) := by decide +kernel
theorem dL_law_518 : decode cL_law 518 = .ok (.iload_n 3, 1) := by decide +kernel
theorem dL_law_519 : decode cL_law 519 = .ok (.iconst 3, 1) := by decide +kernel
theorem dL_law_520 : decode cL_law 520 = .ok (.iadd, 1) := by decide +kernel
theorem dL_law_521 : decode cL_law 521 = .ok (.iaload, 1) := by decide +kernel
theorem dL_law_522 : decode cL_law 522 = .ok (.aload_n 0, 1) := by decide +kernel
theorem dL_law_523 : decode cL_law 523 = .ok (.iload_n 3, 1) := by decide +kernel
theorem dL_law_524 : decode cL_law 524 = .ok (.iconst 4, 1) := by decide +kernel
theorem dL_law_525 : decode cL_law 525 = .ok (.iadd, 1) := by decide +kernel
theorem dL_law_526 : decode cL_law 526 = .ok (.iaload, 1) := by decide +kernel
theorem dL_law_527 : decode cL_law 527 = .ok (.invokevirtual 58, 3) := by decide +kernel
theorem dL_law_530 : decode cL_law 530 = .ok (.aload_n 2, 1) := by decide +kernel
theorem dL_law_531 : decode cL_law 531 = .ok (.aload_n 0, 1) := by decide +kernel
theorem dL_law_532 : decode cL_law 532 = .ok (.iload_n 3, 1) := by decide +kernel
theorem dL_law_533 : decode cL_law 533 = .ok (.iconst 1, 1) := by decide +kernel
theorem dL_law_534 : decode cL_law 534 = .ok (.iadd, 1) := by decide +kernel
theorem dL_law_535 : decode cL_law 535 = .ok (.iaload, 1) := by decide +kernel
theorem dL_law_536 : decode cL_law 536 = .ok (.aload_n 0, 1) := by decide +kernel
theorem dL_law_537 : decode cL_law 537 = .ok (.iload_n 3, 1) := by decide +kernel
theorem dL_law_538 : decode cL_law 538 = .ok (.iconst 2, 1) := by decide +kernel
theorem dL_law_539 : decode cL_law 539 = .ok (.iadd, 1) := by decide +kernel
theorem dL_law_540 : decode cL_law 540 = .ok (.iaload, 1) := by decide +kernel
theorem dL_law_541 : decode cL_law 541 = .ok (.aload_n 0, 1) := by decide +kernel
theorem dL_law_542 : decode cL_law 542 = .ok (.iload_n 3, 1) := by decide +kernel
theorem dL_law_543 : decode cL_law 543 = .ok (.iconst 3, 1) := by decide +kernel
theorem dL_law_544 : decode cL_law 544 = .ok (.iadd, 1) := by decide +kernel
theorem dL_law_545 : decode cL_law 545 = .ok (.iaload, 1) := by decide +kernel
theorem dL_law_546 : decode cL_law 546 = .ok (.aload_n 0, 1) := by decide +kernel
theorem dL_law_547 : decode cL_law 547 = .ok (.iload_n 3, 1) := by decide +kernel
theorem dL_law_548 : decode cL_law 548 = .ok (.iconst 4, 1) := by decide +kernel
theorem dL_law_549 : decode cL_law 549 = .ok (.iadd, 1) := by decide +kernel
theorem dL_law_550 : decode cL_law 550 = .ok (.iaload, 1) := by decide +kernel
theorem dL_law_551 : decode cL_law 551 = .ok (.invokevirtual 62, 3) := by decide +kernel
theorem dL_law_554 : decode cL_law 554 = .ok (.if_icmp .eq 249, 3) := by decide +kernel
theorem dL_law_557 : decode cL_law 557 = .ok (.iconst 0, 1) := by decide +kernel
theorem dL_law_558 : decode cL_law 558 = .ok (.ireturn, 1) := by decide +kernel
theorem dL_law_559 : decode cL_law 559 = .ok (.aload_n 1, 1) := by decide +kernel
theorem dL_law_560 : decode cL_law 560 = .ok (.aload_n 0, 1) := by decide +kernel
theorem dL_law_561 : decode cL_law 561 = .ok (.iload_n 3, 1) := by decide +kernel
theorem dL_law_562 : decode cL_law 562 = .ok (.iconst 1, 1) := by decide +kernel
theorem dL_law_563 : decode cL_law 563 = .ok (.iadd, 1) := by decide +kernel
theorem dL_law_564 : decode cL_law 564 = .ok (.iaload, 1) := by decide +kernel
theorem dL_law_565 : decode cL_law 565 = .ok (.aload_n 0, 1) := by decide +kernel
theorem dL_law_566 : decode cL_law 566 = .ok (.iload_n 3, 1) := by decide +kernel
theorem dL_law_567 : decode cL_law 567 = .ok (.iconst 2, 1) := by decide +kernel
theorem dL_law_568 : decode cL_law 568 = .ok (.iadd, 1) := by decide +kernel
theorem dL_law_569 : decode cL_law 569 = .ok (.iaload, 1) := by decide +kernel
theorem dL_law_570 : decode cL_law 570 = .ok (.aload_n 0, 1) := by decide +kernel
theorem dL_law_571 : decode cL_law 571 = .ok (.iload_n 3, 1) := by decide +kernel
theorem dL_law_572 : decode cL_law 572 = .ok (.iconst 3, 1) := by decide +kernel
theorem dL_law_573 : decode cL_law 573 = .ok (.iadd, 1) := by decide +kernel
theorem dL_law_574 : decode cL_law 574 = .ok (.iaload, 1) := by decide +kernel
theorem dL_law_575 : decode cL_law 575 = .ok (.invokevirtual 63, 3) := by decide +kernel
theorem dL_law_578 : decode cL_law 578 = .ok (.aload_n 2, 1) := by decide +kernel
theorem dL_law_579 : decode cL_law 579 = .ok (.aload_n 0, 1) := by decide +kernel
theorem dL_law_580 : decode cL_law 580 = .ok (.iload_n 3, 1) := by decide +kernel
theorem dL_law_581 : decode cL_law 581 = .ok (.iconst 1, 1) := by decide +kernel
theorem dL_law_582 : decode cL_law 582 = .ok (.iadd, 1) := by decide +kernel
theorem dL_law_583 : decode cL_law 583 = .ok (.iaload, 1) := by decide +kernel
theorem dL_law_584 : decode cL_law 584 = .ok (.aload_n 0, 1) := by decide +kernel
theorem dL_law_585 : decode cL_law 585 = .ok (.iload_n 3, 1) := by decide +kernel
theorem dL_law_586 : decode cL_law 586 = .ok (.iconst 2, 1) := by decide +kernel
theorem dL_law_587 : decode cL_law 587 = .ok (.iadd, 1) := by decide +kernel
theorem dL_law_588 : decode cL_law 588 = .ok (.iaload, 1) := by decide +kernel
theorem dL_law_589 : decode cL_law 589 = .ok (.aload_n 0, 1) := by decide +kernel
theorem dL_law_590 : decode cL_law 590 = .ok (.iload_n 3, 1) := by decide +kernel
theorem dL_law_591 : decode cL_law 591 = .ok (.iconst 3, 1) := by decide +kernel
theorem dL_law_592 : decode cL_law 592 = .ok (.iadd, 1) := by decide +kernel
theorem dL_law_593 : decode cL_law 593 = .ok (.iaload, 1) := by decide +kernel
theorem dL_law_594 : decode cL_law 594 = .ok (.invokevirtual 66, 3) := by decide +kernel
theorem dL_law_597 : decode cL_law 597 = .ok (.if_icmp .eq 206, 3) := by decide +kernel
theorem dL_law_600 : decode cL_law 600 = .ok (.iconst 0, 1) := by decide +kernel
theorem dL_law_601 : decode cL_law 601 = .ok (.ireturn, 1) := by decide +kernel
theorem dL_law_602 : decode cL_law 602 = .ok (.aload_n 1, 1) := by decide +kernel
theorem dL_law_603 : decode cL_law 603 = .ok (.aload_n 0, 1) := by decide +kernel
theorem dL_law_604 : decode cL_law 604 = .ok (.iload_n 3, 1) := by decide +kernel
theorem dL_law_605 : decode cL_law 605 = .ok (.iconst 1, 1) := by decide +kernel
theorem dL_law_606 : decode cL_law 606 = .ok (.iadd, 1) := by decide +kernel
theorem dL_law_607 : decode cL_law 607 = .ok (.iaload, 1) := by decide +kernel
theorem dL_law_608 : decode cL_law 608 = .ok (.invokevirtual 67, 3) := by decide +kernel
theorem dL_law_611 : decode cL_law 611 = .ok (.aload_n 2, 1) := by decide +kernel
theorem dL_law_612 : decode cL_law 612 = .ok (.aload_n 0, 1) := by decide +kernel
theorem dL_law_613 : decode cL_law 613 = .ok (.iload_n 3, 1) := by decide +kernel
theorem dL_law_614 : decode cL_law 614 = .ok (.iconst 1, 1) := by decide +kernel
theorem dL_law_615 : decode cL_law 615 = .ok (.iadd, 1) := by decide +kernel
theorem dL_law_616 : decode cL_law 616 = .ok (.iaload, 1) := by decide +kernel
theorem dL_law_617 : decode cL_law 617 = .ok (.invokevirtual 70, 3) := by decide +kernel
theorem dL_law_620 : decode cL_law 620 = .ok (.if_icmp .eq 183, 3) := by decide +kernel
theorem dL_law_623 : decode cL_law 623 = .ok (.iconst 0, 1) := by decide +kernel
theorem dL_law_624 : decode cL_law 624 = .ok (.ireturn, 1) := by decide +kernel
theorem dL_law_625 : decode cL_law 625 = .ok (.aload_n 1, 1) := by decide +kernel
theorem dL_law_626 : decode cL_law 626 = .ok (.aload_n 0, 1) := by decide +kernel
theorem dL_law_627 : decode cL_law 627 = .ok (.iload_n 3, 1) := by decide +kernel
theorem dL_law_628 : decode cL_law 628 = .ok (.iconst 1, 1) := by decide +kernel
theorem dL_law_629 : decode cL_law 629 = .ok (.iadd, 1) := by decide +kernel
theorem dL_law_630 : decode cL_law 630 = .ok (.iaload, 1) := by decide +kernel
theorem dL_law_631 : decode cL_law 631 = .ok (.aload_n 0, 1) := by decide +kernel
theorem dL_law_632 : decode cL_law 632 = .ok (.iload_n 3, 1) := by decide +kernel
theorem dL_law_633 : decode cL_law 633 = .ok (.iconst 2, 1) := by decide +kernel
theorem dL_law_634 : decode cL_law 634 = .ok (.iadd, 1) := by decide +kernel
theorem dL_law_635 : decode cL_law 635 = .ok (.iaload, 1) := by decide +kernel
theorem dL_law_636 : decode cL_law 636 = .ok (.invokevirtual 71, 3) := by decide +kernel
theorem dL_law_639 : decode cL_law 639 = .ok (.aload_n 2, 1) := by decide +kernel
theorem dL_law_640 : decode cL_law 640 = .ok (.aload_n 0, 1) := by decide +kernel
theorem dL_law_641 : decode cL_law 641 = .ok (.iload_n 3, 1) := by decide +kernel
theorem dL_law_642 : decode cL_law 642 = .ok (.iconst 1, 1) := by decide +kernel
theorem dL_law_643 : decode cL_law 643 = .ok (.iadd, 1) := by decide +kernel
theorem dL_law_644 : decode cL_law 644 = .ok (.iaload, 1) := by decide +kernel
theorem dL_law_645 : decode cL_law 645 = .ok (.aload_n 0, 1) := by decide +kernel
theorem dL_law_646 : decode cL_law 646 = .ok (.iload_n 3, 1) := by decide +kernel
theorem dL_law_647 : decode cL_law 647 = .ok (.iconst 2, 1) := by decide +kernel
theorem dL_law_648 : decode cL_law 648 = .ok (.iadd, 1) := by decide +kernel
theorem dL_law_649 : decode cL_law 649 = .ok (.iaload, 1) := by decide +kernel
theorem dL_law_650 : decode cL_law 650 = .ok (.invokevirtual 74, 3) := by decide +kernel
theorem dL_law_653 : decode cL_law 653 = .ok (.if_icmp .eq 150, 3) := by decide +kernel
theorem dL_law_656 : decode cL_law 656 = .ok (.iconst 0, 1) := by decide +kernel
theorem dL_law_657 : decode cL_law 657 = .ok (.ireturn, 1) := by decide +kernel
theorem dL_law_658 : decode cL_law 658 = .ok (.aload_n 1, 1) := by decide +kernel
theorem dL_law_659 : decode cL_law 659 = .ok (.aload_n 0, 1) := by decide +kernel
theorem dL_law_660 : decode cL_law 660 = .ok (.iload_n 3, 1) := by decide +kernel
theorem dL_law_661 : decode cL_law 661 = .ok (.iconst 1, 1) := by decide +kernel
theorem dL_law_662 : decode cL_law 662 = .ok (.iadd, 1) := by decide +kernel
theorem dL_law_663 : decode cL_law 663 = .ok (.iaload, 1) := by decide +kernel
theorem dL_law_664 : decode cL_law 664 = .ok (.invokevirtual 75, 3) := by decide +kernel
theorem dL_law_667 : decode cL_law 667 = .ok (.aload_n 2, 1) := by decide +kernel
theorem dL_law_668 : decode cL_law 668 = .ok (.aload_n 0, 1) := by decide +kernel
theorem dL_law_669 : decode cL_law 669 = .ok (.iload_n 3, 1) := by decide +kernel
theorem dL_law_670 : decode cL_law 670 = .ok (.iconst 1, 1) := by decide +kernel
theorem dL_law_671 : decode cL_law 671 = .ok (.iadd, 1) := by decide +kernel
theorem dL_law_672 : decode cL_law 672 = .ok (.iaload, 1) := by decide +kernel
theorem dL_law_673 : decode cL_law 673 = .ok (.invokevirtual 78, 3) := by decide +kernel
theorem dL_law_676 : decode cL_law 676 = .ok (.if_icmp .eq 127, 3) := by decide +kernel
theorem dL_law_679 : decode cL_law 679 = .ok (.iconst 0, 1) := by decide +kernel
theorem dL_law_680 : decode cL_law 680 = .ok (.ireturn, 1) := by decide +kernel
theorem dL_law_681 : decode cL_law 681 = .ok (.aload_n 1, 1) := by decide +kernel
theorem dL_law_682 : decode cL_law 682 = .ok (.aload_n 0, 1) := by decide +kernel
theorem dL_law_683 : decode cL_law 683 = .ok (.iload_n 3, 1) := by decide +kernel
theorem dL_law_684 : decode cL_law 684 = .ok (.iconst 1, 1) := by decide +kernel
theorem dL_law_685 : decode cL_law 685 = .ok (.iadd, 1) := by decide +kernel
theorem dL_law_686 : decode cL_law 686 = .ok (.iaload, 1) := by decide +kernel
theorem dL_law_687 : decode cL_law 687 = .ok (.invokevirtual 79, 3) := by decide +kernel
theorem dL_law_690 : decode cL_law 690 = .ok (.aload_n 2, 1) := by decide +kernel
theorem dL_law_691 : decode cL_law 691 = .ok (.aload_n 0, 1) := by decide +kernel
theorem dL_law_692 : decode cL_law 692 = .ok (.iload_n 3, 1) := by decide +kernel
theorem dL_law_693 : decode cL_law 693 = .ok (.iconst 1, 1) := by decide +kernel
theorem dL_law_694 : decode cL_law 694 = .ok (.iadd, 1) := by decide +kernel
theorem dL_law_695 : decode cL_law 695 = .ok (.iaload, 1) := by decide +kernel
theorem dL_law_696 : decode cL_law 696 = .ok (.invokevirtual 82, 3) := by decide +kernel
theorem dL_law_699 : decode cL_law 699 = .ok (.if_icmp .eq 104, 3) := by decide +kernel
theorem dL_law_702 : decode cL_law 702 = .ok (.iconst 0, 1) := by decide +kernel
theorem dL_law_703 : decode cL_law 703 = .ok (.ireturn, 1) := by decide +kernel
theorem dL_law_704 : decode cL_law 704 = .ok (.aload_n 1, 1) := by decide +kernel
theorem dL_law_705 : decode cL_law 705 = .ok (.invokevirtual 83, 3) := by decide +kernel
theorem dL_law_708 : decode cL_law 708 = .ok (.aload_n 2, 1) := by decide +kernel
theorem dL_law_709 : decode cL_law 709 = .ok (.invokevirtual 86, 3) := by decide +kernel
theorem dL_law_712 : decode cL_law 712 = .ok (.if_icmp .eq 91, 3) := by decide +kernel
theorem dL_law_715 : decode cL_law 715 = .ok (.iconst 0, 1) := by decide +kernel
theorem dL_law_716 : decode cL_law 716 = .ok (.ireturn, 1) := by decide +kernel
theorem dL_law_717 : decode cL_law 717 = .ok (.aload_n 1, 1) := by decide +kernel
theorem dL_law_718 : decode cL_law 718 = .ok (.invokevirtual 87, 3) := by decide +kernel
theorem dL_law_721 : decode cL_law 721 = .ok (.aload_n 2, 1) := by decide +kernel
theorem dL_law_722 : decode cL_law 722 = .ok (.invokevirtual 90, 3) := by decide +kernel
theorem dL_law_725 : decode cL_law 725 = .ok (.if_icmp .eq 78, 3) := by decide +kernel
theorem dL_law_728 : decode cL_law 728 = .ok (.iconst 0, 1) := by decide +kernel
theorem dL_law_729 : decode cL_law 729 = .ok (.ireturn, 1) := by decide +kernel
theorem dL_law_730 : decode cL_law 730 = .ok (.aload_n 1, 1) := by decide +kernel
theorem dL_law_731 : decode cL_law 731 = .ok (.aload_n 0, 1) := by decide +kernel
theorem dL_law_732 : decode cL_law 732 = .ok (.iload_n 3, 1) := by decide +kernel
theorem dL_law_733 : decode cL_law 733 = .ok (.iconst 1, 1) := by decide +kernel
theorem dL_law_734 : decode cL_law 734 = .ok (.iadd, 1) := by decide +kernel
theorem dL_law_735 : decode cL_law 735 = .ok (.iaload, 1) := by decide +kernel
theorem dL_law_736 : decode cL_law 736 = .ok (.invokevirtual 91, 3) := by decide +kernel
theorem dL_law_739 : decode cL_law 739 = .ok (.aload_n 2, 1) := by decide +kernel
theorem dL_law_740 : decode cL_law 740 = .ok (.aload_n 0, 1) := by decide +kernel
theorem dL_law_741 : decode cL_law 741 = .ok (.iload_n 3, 1) := by decide +kernel
theorem dL_law_742 : decode cL_law 742 = .ok (.iconst 1, 1) := by decide +kernel
theorem dL_law_743 : decode cL_law 743 = .ok (.iadd, 1) := by decide +kernel
theorem dL_law_744 : decode cL_law 744 = .ok (.iaload, 1) := by decide +kernel
theorem dL_law_745 : decode cL_law 745 = .ok (.invokevirtual 94, 3) := by decide +kernel
theorem dL_law_748 : decode cL_law 748 = .ok (.if_icmp .eq 55, 3) := by decide +kernel
theorem dL_law_751 : decode cL_law 751 = .ok (.iconst 0, 1) := by decide +kernel
theorem dL_law_752 : decode cL_law 752 = .ok (.ireturn, 1) := by decide +kernel
theorem dL_law_753 : decode cL_law 753 = .ok (.aload_n 1, 1) := by decide +kernel
theorem dL_law_754 : decode cL_law 754 = .ok (.invokevirtual 95, 3) := by decide +kernel
theorem dL_law_757 : decode cL_law 757 = .ok (.aload_n 2, 1) := by decide +kernel
theorem dL_law_758 : decode cL_law 758 = .ok (.invokevirtual 98, 3) := by decide +kernel
theorem dL_law_761 : decode cL_law 761 = .ok (.if_icmp .eq 42, 3) := by decide +kernel
theorem dL_law_764 : decode cL_law 764 = .ok (.iconst 0, 1) := by decide +kernel
theorem dL_law_765 : decode cL_law 765 = .ok (.ireturn, 1) := by decide +kernel
theorem dL_law_766 : decode cL_law 766 = .ok (.aload_n 1, 1) := by decide +kernel
theorem dL_law_767 : decode cL_law 767 = .ok (.aload_n 0, 1) := by decide +kernel
theorem dL_law_768 : decode cL_law 768 = .ok (.iload_n 3, 1) := by decide +kernel
theorem dL_law_769 : decode cL_law 769 = .ok (.iconst 1, 1) := by decide +kernel
theorem dL_law_770 : decode cL_law 770 = .ok (.iadd, 1) := by decide +kernel
theorem dL_law_771 : decode cL_law 771 = .ok (.iaload, 1) := by decide +kernel
theorem dL_law_772 : decode cL_law 772 = .ok (.invokevirtual 99, 3) := by decide +kernel
theorem dL_law_775 : decode cL_law 775 = .ok (.aload_n 2, 1) := by decide +kernel
theorem dL_law_776 : decode cL_law 776 = .ok (.aload_n 0, 1) := by decide +kernel
theorem dL_law_777 : decode cL_law 777 = .ok (.iload_n 3, 1) := by decide +kernel
theorem dL_law_778 : decode cL_law 778 = .ok (.iconst 1, 1) := by decide +kernel
theorem dL_law_779 : decode cL_law 779 = .ok (.iadd, 1) := by decide +kernel
theorem dL_law_780 : decode cL_law 780 = .ok (.iaload, 1) := by decide +kernel
theorem dL_law_781 : decode cL_law 781 = .ok (.invokevirtual 102, 3) := by decide +kernel
theorem dL_law_784 : decode cL_law 784 = .ok (.if_icmp .eq 19, 3) := by decide +kernel
theorem dL_law_787 : decode cL_law 787 = .ok (.iconst 0, 1) := by decide +kernel
theorem dL_law_788 : decode cL_law 788 = .ok (.ireturn, 1) := by decide +kernel
theorem dL_law_789 : decode cL_law 789 = .ok (.aload_n 1, 1) := by decide +kernel
theorem dL_law_790 : decode cL_law 790 = .ok (.invokevirtual 103, 3) := by decide +kernel
theorem dL_law_793 : decode cL_law 793 = .ok (.aload_n 2, 1) := by decide +kernel
theorem dL_law_794 : decode cL_law 794 = .ok (.invokevirtual 107, 3) := by decide +kernel
theorem dL_law_797 : decode cL_law 797 = .ok (.lcmp, 1) := by decide +kernel
theorem dL_law_798 : decode cL_law 798 = .ok (.ifCond .eq 5, 3) := by decide +kernel
theorem dL_law_801 : decode cL_law 801 = .ok (.iconst 0, 1) := by decide +kernel
theorem dL_law_802 : decode cL_law 802 = .ok (.ireturn, 1) := by decide +kernel
theorem dL_law_803 : decode cL_law 803 = .ok (.iinc 3 6, 3) := by decide +kernel
theorem dL_law_806 : decode cL_law 806 = .ok (.goto (-788), 3) := by decide +kernel
theorem dL_law_809 : decode cL_law 809 = .ok (.iconst 1, 1) := by decide +kernel
theorem dL_law_810 : decode cL_law 810 = .ok (.ireturn, 1) := by decide +kernel
