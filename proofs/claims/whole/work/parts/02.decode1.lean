theorem dX0_init_0 : decode cX0_init 0 = .ok (.aload_n 0, 1) := by decide +kernel
theorem dX0_init_1 : decode cX0_init 1 = .ok (.invokespecial 3, 3) := by decide +kernel
theorem dX0_init_4 : decode cX0_init 4 = .ok (.aload_n 0, 1) := by decide +kernel
theorem dX0_init_5 : decode cX0_init 5 = .ok (.bipush 6, 2) := by decide +kernel
theorem dX0_init_7 : decode cX0_init 7 = .ok (.anewarray 9, 3) := by decide +kernel
theorem dX0_init_10 : decode cX0_init 10 = .ok (.putfield 11, 3) := by decide +kernel
theorem dX0_init_13 : decode cX0_init 13 = .ok (.iconst 0, 1) := by decide +kernel
theorem dX0_init_14 : decode cX0_init 14 = .ok (.istore_n 1, 1) := by decide +kernel
theorem dX0_init_15 : decode cX0_init 15 = .ok (.iload_n 1, 1) := by decide +kernel
theorem dX0_init_16 : decode cX0_init 16 = .ok (.bipush 6, 2) := by decide +kernel
theorem dX0_init_18 : decode cX0_init 18 = .ok (.if_icmp .ge 22, 3) := by decide +kernel
theorem dX0_init_21 : decode cX0_init 21 = .ok (.aload_n 0, 1) := by decide +kernel
theorem dX0_init_22 : decode cX0_init 22 = .ok (.getfield 11, 3) := by decide +kernel
theorem dX0_init_25 : decode cX0_init 25 = .ok (.iload_n 1, 1) := by decide +kernel
theorem dX0_init_26 : decode cX0_init 26 = .ok (.new 9, 3) := by decide +kernel
theorem dX0_init_29 : decode cX0_init 29 = .ok (.dup, 1) := by decide +kernel
theorem dX0_init_30 : decode cX0_init 30 = .ok (.invokespecial 17, 3) := by decide +kernel
theorem dX0_init_33 : decode cX0_init 33 = .ok (.aastore, 1) := by decide +kernel
theorem dX0_init_34 : decode cX0_init 34 = .ok (.iinc 1 1, 3) := by decide +kernel
theorem dX0_init_37 : decode cX0_init 37 = .ok (.goto (-22), 3) := by decide +kernel
theorem dX0_init_40 : decode cX0_init 40 = .ok (.return_, 1) := by decide +kernel
theorem dX0_become_0 : decode cX0_become 0 = .ok (.aload_n 0, 1) := by decide +kernel
theorem dX0_become_1 : decode cX0_become 1 = .ok (.aload_n 1, 1) := by decide +kernel
theorem dX0_become_2 : decode cX0_become 2 = .ok (.getfield 18, 3) := by decide +kernel
theorem dX0_become_5 : decode cX0_become 5 = .ok (.putfield 18, 3) := by decide +kernel
theorem dX0_become_8 : decode cX0_become 8 = .ok (.iconst 0, 1) := by decide +kernel
theorem dX0_become_9 : decode cX0_become 9 = .ok (.istore_n 2, 1) := by decide +kernel
theorem dX0_become_10 : decode cX0_become 10 = .ok (.iload_n 2, 1) := by decide +kernel
theorem dX0_become_11 : decode cX0_become 11 = .ok (.aload_n 0, 1) := by decide +kernel
theorem dX0_become_12 : decode cX0_become 12 = .ok (.getfield 18, 3) := by decide +kernel
theorem dX0_become_15 : decode cX0_become 15 = .ok (.if_icmp .ge 24, 3) := by decide +kernel
theorem dX0_become_18 : decode cX0_become 18 = .ok (.aload_n 0, 1) := by decide +kernel
theorem dX0_become_19 : decode cX0_become 19 = .ok (.getfield 11, 3) := by decide +kernel
theorem dX0_become_22 : decode cX0_become 22 = .ok (.iload_n 2, 1) := by decide +kernel
theorem dX0_become_23 : decode cX0_become 23 = .ok (.aaload, 1) := by decide +kernel
theorem dX0_become_24 : decode cX0_become 24 = .ok (.aload_n 1, 1) := by decide +kernel
theorem dX0_become_25 : decode cX0_become 25 = .ok (.getfield 11, 3) := by decide +kernel
theorem dX0_become_28 : decode cX0_become 28 = .ok (.iload_n 2, 1) := by decide +kernel
theorem dX0_become_29 : decode cX0_become 29 = .ok (.aaload, 1) := by decide +kernel
theorem dX0_become_30 : decode cX0_become 30 = .ok (.invokevirtual 22, 3) := by decide +kernel
theorem dX0_become_33 : decode cX0_become 33 = .ok (.iinc 2 1, 3) := by decide +kernel
theorem dX0_become_36 : decode cX0_become 36 = .ok (.goto (-26), 3) := by decide +kernel
theorem dX0_become_39 : decode cX0_become 39 = .ok (.return_, 1) := by decide +kernel
theorem dX0_indexOf_0 : decode cX0_indexOf 0 = .ok (.iconst 0, 1) := by decide +kernel
theorem dX0_indexOf_1 : decode cX0_indexOf 1 = .ok (.istore 4, 2) := by decide +kernel
theorem dX0_indexOf_3 : decode cX0_indexOf 3 = .ok (.iload 4, 2) := by decide +kernel
theorem dX0_indexOf_5 : decode cX0_indexOf 5 = .ok (.aload_n 0, 1) := by decide +kernel
theorem dX0_indexOf_6 : decode cX0_indexOf 6 = .ok (.getfield 18, 3) := by decide +kernel
theorem dX0_indexOf_9 : decode cX0_indexOf 9 = .ok (.if_icmp .ge 48, 3) := by decide +kernel
theorem dX0_indexOf_12 : decode cX0_indexOf 12 = .ok (.aload_n 0, 1) := by decide +kernel
theorem dX0_indexOf_13 : decode cX0_indexOf 13 = .ok (.getfield 11, 3) := by decide +kernel
theorem dX0_indexOf_16 : decode cX0_indexOf 16 = .ok (.iload 4, 2) := by decide +kernel
theorem dX0_indexOf_18 : decode cX0_indexOf 18 = .ok (.aaload, 1) := by decide +kernel
theorem dX0_indexOf_19 : decode cX0_indexOf 19 = .ok (.astore 5, 2) := by decide +kernel
theorem dX0_indexOf_21 : decode cX0_indexOf 21 = .ok (.aload 5, 2) := by decide +kernel
theorem dX0_indexOf_23 : decode cX0_indexOf 23 = .ok (.getfield 26, 3) := by decide +kernel
theorem dX0_indexOf_26 : decode cX0_indexOf 26 = .ok (.iload_n 1, 1) := by decide +kernel
theorem dX0_indexOf_27 : decode cX0_indexOf 27 = .ok (.if_icmp .ne 24, 3) := by decide +kernel
theorem dX0_indexOf_30 : decode cX0_indexOf 30 = .ok (.aload 5, 2) := by decide +kernel
theorem dX0_indexOf_32 : decode cX0_indexOf 32 = .ok (.getfield 29, 3) := by decide +kernel
theorem dX0_indexOf_35 : decode cX0_indexOf 35 = .ok (.iload_n 2, 1) := by decide +kernel
theorem dX0_indexOf_36 : decode cX0_indexOf 36 = .ok (.if_icmp .ne 15, 3) := by decide +kernel
theorem dX0_indexOf_39 : decode cX0_indexOf 39 = .ok (.aload 5, 2) := by decide +kernel
theorem dX0_indexOf_41 : decode cX0_indexOf 41 = .ok (.getfield 32, 3) := by decide +kernel
theorem dX0_indexOf_44 : decode cX0_indexOf 44 = .ok (.iload_n 3, 1) := by decide +kernel
theorem dX0_indexOf_45 : decode cX0_indexOf 45 = .ok (.if_icmp .ne 6, 3) := by decide +kernel
theorem dX0_indexOf_48 : decode cX0_indexOf 48 = .ok (.iload 4, 2) := by decide +kernel
theorem dX0_indexOf_50 : decode cX0_indexOf 50 = .ok (.ireturn, 1) := by decide +kernel
theorem dX0_indexOf_51 : decode cX0_indexOf 51 = .ok (.iinc 4 1, 3) := by decide +kernel
theorem dX0_indexOf_54 : decode cX0_indexOf 54 = .ok (.goto (-51), 3) := by decide +kernel
theorem dX0_indexOf_57 : decode cX0_indexOf 57 = .ok (.iconst (-1), 1) := by decide +kernel
theorem dX0_indexOf_58 : decode cX0_indexOf 58 = .ok (.ireturn, 1) := by decide +kernel
theorem dX0_removeAt_0 : decode cX0_removeAt 0 = .ok (.iload_n 1, 1) := by decide +kernel
theorem dX0_removeAt_1 : decode cX0_removeAt 1 = .ok (.ifCond .lt 11, 3) := by decide +kernel
theorem dX0_removeAt_4 : decode cX0_removeAt 4 = .ok (.iload_n 1, 1) := by decide +kernel
theorem dX0_removeAt_5 : decode cX0_removeAt 5 = .ok (.aload_n 0, 1) := by decide +kernel
theorem dX0_removeAt_6 : decode cX0_removeAt 6 = .ok (.getfield 18, 3) := by decide +kernel
theorem dX0_removeAt_9 : decode cX0_removeAt 9 = .ok (.if_icmp .lt 4, 3) := by decide +kernel
theorem dX0_removeAt_12 : decode cX0_removeAt 12 = .ok (.return_, 1) := by decide +kernel
theorem dX0_removeAt_13 : decode cX0_removeAt 13 = .ok (.aload_n 0, 1) := by decide +kernel
theorem dX0_removeAt_14 : decode cX0_removeAt 14 = .ok (.getfield 11, 3) := by decide +kernel
theorem dX0_removeAt_17 : decode cX0_removeAt 17 = .ok (.iload_n 1, 1) := by decide +kernel
theorem dX0_removeAt_18 : decode cX0_removeAt 18 = .ok (.aaload, 1) := by decide +kernel
theorem dX0_removeAt_19 : decode cX0_removeAt 19 = .ok (.astore_n 2, 1) := by decide +kernel
theorem dX0_removeAt_20 : decode cX0_removeAt 20 = .ok (.iload_n 1, 1) := by decide +kernel
theorem dX0_removeAt_21 : decode cX0_removeAt 21 = .ok (.istore_n 3, 1) := by decide +kernel
theorem dX0_removeAt_22 : decode cX0_removeAt 22 = .ok (.iload_n 3, 1) := by decide +kernel
theorem dX0_removeAt_23 : decode cX0_removeAt 23 = .ok (.aload_n 0, 1) := by decide +kernel
theorem dX0_removeAt_24 : decode cX0_removeAt 24 = .ok (.getfield 18, 3) := by decide +kernel
theorem dX0_removeAt_27 : decode cX0_removeAt 27 = .ok (.iconst 1, 1) := by decide +kernel
theorem dX0_removeAt_28 : decode cX0_removeAt 28 = .ok (.isub, 1) := by decide +kernel
theorem dX0_removeAt_29 : decode cX0_removeAt 29 = .ok (.if_icmp .ge 23, 3) := by decide +kernel
theorem dX0_removeAt_32 : decode cX0_removeAt 32 = .ok (.aload_n 0, 1) := by decide +kernel
theorem dX0_removeAt_33 : decode cX0_removeAt 33 = .ok (.getfield 11, 3) := by decide +kernel
theorem dX0_removeAt_36 : decode cX0_removeAt 36 = .ok (.iload_n 3, 1) := by decide +kernel
theorem dX0_removeAt_37 : decode cX0_removeAt 37 = .ok (.aload_n 0, 1) := by decide +kernel
theorem dX0_removeAt_38 : decode cX0_removeAt 38 = .ok (.getfield 11, 3) := by decide +kernel
theorem dX0_removeAt_41 : decode cX0_removeAt 41 = .ok (.iload_n 3, 1) := by decide +kernel
theorem dX0_removeAt_42 : decode cX0_removeAt 42 = .ok (.iconst 1, 1) := by decide +kernel
theorem dX0_removeAt_43 : decode cX0_removeAt 43 = .ok (.iadd, 1) := by decide +kernel
theorem dX0_removeAt_44 : decode cX0_removeAt 44 = .ok (.aaload, 1) := by decide +kernel
theorem dX0_removeAt_45 : decode cX0_removeAt 45 = .ok (.aastore, 1) := by decide +kernel
theorem dX0_removeAt_46 : decode cX0_removeAt 46 = .ok (.iinc 3 1, 3) := by decide +kernel
theorem dX0_removeAt_49 : decode cX0_removeAt 49 = .ok (.goto (-27), 3) := by decide +kernel
theorem dX0_removeAt_52 : decode cX0_removeAt 52 = .ok (.aload_n 0, 1) := by decide +kernel
theorem dX0_removeAt_53 : decode cX0_removeAt 53 = .ok (.dup, 1) := by decide +kernel
theorem dX0_removeAt_54 : decode cX0_removeAt 54 = .ok (.getfield 18, 3) := by decide +kernel
theorem dX0_removeAt_57 : decode cX0_removeAt 57 = .ok (.iconst 1, 1) := by decide +kernel
theorem dX0_removeAt_58 : decode cX0_removeAt 58 = .ok (.isub, 1) := by decide +kernel
theorem dX0_removeAt_59 : decode cX0_removeAt 59 = .ok (.putfield 18, 3) := by decide +kernel
theorem dX0_removeAt_62 : decode cX0_removeAt 62 = .ok (.aload_n 0, 1) := by decide +kernel
theorem dX0_removeAt_63 : decode cX0_removeAt 63 = .ok (.getfield 11, 3) := by decide +kernel
theorem dX0_removeAt_66 : decode cX0_removeAt 66 = .ok (.aload_n 0, 1) := by decide +kernel
theorem dX0_removeAt_67 : decode cX0_removeAt 67 = .ok (.getfield 18, 3) := by decide +kernel
theorem dX0_removeAt_70 : decode cX0_removeAt 70 = .ok (.aload_n 2, 1) := by decide +kernel
theorem dX0_removeAt_71 : decode cX0_removeAt 71 = .ok (.aastore, 1) := by decide +kernel
theorem dX0_removeAt_72 : decode cX0_removeAt 72 = .ok (.return_, 1) := by decide +kernel
theorem dX0_removeEnded_0 : decode cX0_removeEnded 0 = .ok (.aload_n 0, 1) := by decide +kernel
theorem dX0_removeEnded_1 : decode cX0_removeEnded 1 = .ok (.getfield 18, 3) := by decide +kernel
theorem dX0_removeEnded_4 : decode cX0_removeEnded 4 = .ok (.iconst 1, 1) := by decide +kernel
theorem dX0_removeEnded_5 : decode cX0_removeEnded 5 = .ok (.isub, 1) := by decide +kernel
theorem dX0_removeEnded_6 : decode cX0_removeEnded 6 = .ok (.istore_n 2, 1) := by decide +kernel
theorem dX0_removeEnded_7 : decode cX0_removeEnded 7 = .ok (.iload_n 2, 1) := by decide +kernel
theorem dX0_removeEnded_8 : decode cX0_removeEnded 8 = .ok (.ifCond .lt 27, 3) := by decide +kernel
theorem dX0_removeEnded_11 : decode cX0_removeEnded 11 = .ok (.aload_n 0, 1) := by decide +kernel
theorem dX0_removeEnded_12 : decode cX0_removeEnded 12 = .ok (.getfield 11, 3) := by decide +kernel
theorem dX0_removeEnded_15 : decode cX0_removeEnded 15 = .ok (.iload_n 2, 1) := by decide +kernel
theorem dX0_removeEnded_16 : decode cX0_removeEnded 16 = .ok (.aaload, 1) := by decide +kernel
theorem dX0_removeEnded_17 : decode cX0_removeEnded 17 = .ok (.getfield 35, 3) := by decide +kernel
theorem dX0_removeEnded_20 : decode cX0_removeEnded 20 = .ok (.iload_n 1, 1) := by decide +kernel
theorem dX0_removeEnded_21 : decode cX0_removeEnded 21 = .ok (.if_icmp .gt 8, 3) := by decide +kernel
theorem dX0_removeEnded_24 : decode cX0_removeEnded 24 = .ok (.aload_n 0, 1) := by decide +kernel
theorem dX0_removeEnded_25 : decode cX0_removeEnded 25 = .ok (.iload_n 2, 1) := by decide +kernel
theorem dX0_removeEnded_26 : decode cX0_removeEnded 26 = .ok (.invokevirtual 38, 3) := by decide +kernel
theorem dX0_removeEnded_29 : decode cX0_removeEnded 29 = .ok (.iinc 2 (-1), 3) := by decide +kernel
theorem dX0_removeEnded_32 : decode cX0_removeEnded 32 = .ok (.goto (-25), 3) := by decide +kernel
theorem dX0_removeEnded_35 : decode cX0_removeEnded 35 = .ok (.return_, 1) := by decide +kernel
theorem dX0_learn_0 : decode cX0_learn 0 = .ok (.aload_n 0, 1) := by decide +kernel
theorem dX0_learn_1 : decode cX0_learn 1 = .ok (.aload_n 0, 1) := by decide +kernel
theorem dX0_learn_2 : decode cX0_learn 2 = .ok (.aload_n 1, 1) := by decide +kernel
theorem dX0_learn_3 : decode cX0_learn 3 = .ok (.getfield 42, 3) := by decide +kernel
theorem dX0_learn_6 : decode cX0_learn 6 = .ok (.aload_n 1, 1) := by decide +kernel
theorem dX0_learn_7 : decode cX0_learn 7 = .ok (.getfield 45, 3) := by decide +kernel
theorem dX0_learn_10 : decode cX0_learn 10 = .ok (.aload_n 1, 1) := by decide +kernel
theorem dX0_learn_11 : decode cX0_learn 11 = .ok (.getfield 46, 3) := by decide +kernel
theorem dX0_learn_14 : decode cX0_learn 14 = .ok (.invokevirtual 47, 3) := by decide +kernel
theorem dX0_learn_17 : decode cX0_learn 17 = .ok (.invokevirtual 38, 3) := by decide +kernel
theorem dX0_learn_20 : decode cX0_learn 20 = .ok (.aload_n 0, 1) := by decide +kernel
theorem dX0_learn_21 : decode cX0_learn 21 = .ok (.getfield 18, 3) := by decide +kernel
theorem dX0_learn_24 : decode cX0_learn 24 = .ok (.bipush 6, 2) := by decide +kernel
theorem dX0_learn_26 : decode cX0_learn 26 = .ok (.if_icmp .lt 8, 3) := by decide +kernel
theorem dX0_learn_29 : decode cX0_learn 29 = .ok (.aload_n 0, 1) := by decide +kernel
theorem dX0_learn_30 : decode cX0_learn 30 = .ok (.iconst 0, 1) := by decide +kernel
theorem dX0_learn_31 : decode cX0_learn 31 = .ok (.invokevirtual 38, 3) := by decide +kernel
theorem dX0_learn_34 : decode cX0_learn 34 = .ok (.aload_n 0, 1) := by decide +kernel
theorem dX0_learn_35 : decode cX0_learn 35 = .ok (.getfield 11, 3) := by decide +kernel
theorem dX0_learn_38 : decode cX0_learn 38 = .ok (.aload_n 0, 1) := by decide +kernel
theorem dX0_learn_39 : decode cX0_learn 39 = .ok (.getfield 18, 3) := by decide +kernel
theorem dX0_learn_42 : decode cX0_learn 42 = .ok (.aaload, 1) := by decide +kernel
theorem dX0_learn_43 : decode cX0_learn 43 = .ok (.astore_n 3, 1) := by decide +kernel
theorem dX0_learn_44 : decode cX0_learn 44 = .ok (.aload_n 0, 1) := by decide +kernel
theorem dX0_learn_45 : decode cX0_learn 45 = .ok (.dup, 1) := by decide +kernel
theorem dX0_learn_46 : decode cX0_learn 46 = .ok (.getfield 18, 3) := by decide +kernel
theorem dX0_learn_49 : decode cX0_learn 49 = .ok (.iconst 1, 1) := by decide +kernel
theorem dX0_learn_50 : decode cX0_learn 50 = .ok (.iadd, 1) := by decide +kernel
theorem dX0_learn_51 : decode cX0_learn 51 = .ok (.putfield 18, 3) := by decide +kernel
theorem dX0_learn_54 : decode cX0_learn 54 = .ok (.aload_n 3, 1) := by decide +kernel
theorem dX0_learn_55 : decode cX0_learn 55 = .ok (.aload_n 1, 1) := by decide +kernel
theorem dX0_learn_56 : decode cX0_learn 56 = .ok (.getfield 42, 3) := by decide +kernel
theorem dX0_learn_59 : decode cX0_learn 59 = .ok (.putfield 26, 3) := by decide +kernel
theorem dX0_learn_62 : decode cX0_learn 62 = .ok (.aload_n 3, 1) := by decide +kernel
theorem dX0_learn_63 : decode cX0_learn 63 = .ok (.aload_n 1, 1) := by decide +kernel
theorem dX0_learn_64 : decode cX0_learn 64 = .ok (.getfield 45, 3) := by decide +kernel
theorem dX0_learn_67 : decode cX0_learn 67 = .ok (.putfield 29, 3) := by decide +kernel
theorem dX0_learn_70 : decode cX0_learn 70 = .ok (.aload_n 3, 1) := by decide +kernel
theorem dX0_learn_71 : decode cX0_learn 71 = .ok (.aload_n 1, 1) := by decide +kernel
theorem dX0_learn_72 : decode cX0_learn 72 = .ok (.getfield 46, 3) := by decide +kernel
theorem dX0_learn_75 : decode cX0_learn 75 = .ok (.putfield 32, 3) := by decide +kernel
theorem dX0_learn_78 : decode cX0_learn 78 = .ok (.aload_n 3, 1) := by decide +kernel
theorem dX0_learn_79 : decode cX0_learn 79 = .ok (.aload_n 1, 1) := by decide +kernel
theorem dX0_learn_80 : decode cX0_learn 80 = .ok (.getfield 51, 3) := by decide +kernel
theorem dX0_learn_83 : decode cX0_learn 83 = .ok (.putfield 54, 3) := by decide +kernel
theorem dX0_learn_86 : decode cX0_learn 86 = .ok (.aload_n 3, 1) := by decide +kernel
theorem dX0_learn_87 : decode cX0_learn 87 = .ok (.iload_n 2, 1) := by decide +kernel
theorem dX0_learn_88 : decode cX0_learn 88 = .ok (.aload_n 1, 1) := by decide +kernel
theorem dX0_learn_89 : decode cX0_learn 89 = .ok (.getfield 51, 3) := by decide +kernel
theorem dX0_learn_92 : decode cX0_learn 92 = .ok (.iadd, 1) := by decide +kernel
theorem dX0_learn_93 : decode cX0_learn 93 = .ok (.putfield 35, 3) := by decide +kernel
theorem dX0_learn_96 : decode cX0_learn 96 = .ok (.aload_n 1, 1) := by decide +kernel
theorem dX0_learn_97 : decode cX0_learn 97 = .ok (.getfield 55, 3) := by decide +kernel
theorem dX0_learn_100 : decode cX0_learn 100 = .ok (.ifCond .eq 11, 3) := by decide +kernel
theorem dX0_learn_103 : decode cX0_learn 103 = .ok (.aload_n 0, 1) := by decide +kernel
theorem dX0_learn_104 : decode cX0_learn 104 = .ok (.aload_n 1, 1) := by decide +kernel
theorem dX0_learn_105 : decode cX0_learn 105 = .ok (.iload_n 2, 1) := by decide +kernel
theorem dX0_learn_106 : decode cX0_learn 106 = .ok (.iconst 1, 1) := by decide +kernel
theorem dX0_learn_107 : decode cX0_learn 107 = .ok (.iadd, 1) := by decide +kernel
theorem dX0_learn_108 : decode cX0_learn 108 = .ok (.invokevirtual 59, 3) := by decide +kernel
theorem dX0_learn_111 : decode cX0_learn 111 = .ok (.return_, 1) := by decide +kernel
theorem dX0_endRivals_0 : decode cX0_endRivals 0 = .ok (.iconst 0, 1) := by decide +kernel
theorem dX0_endRivals_1 : decode cX0_endRivals 1 = .ok (.istore_n 3, 1) := by decide +kernel
theorem dX0_endRivals_2 : decode cX0_endRivals 2 = .ok (.iload_n 3, 1) := by decide +kernel
theorem dX0_endRivals_3 : decode cX0_endRivals 3 = .ok (.aload_n 0, 1) := by decide +kernel
theorem dX0_endRivals_4 : decode cX0_endRivals 4 = .ok (.getfield 18, 3) := by decide +kernel
theorem dX0_endRivals_7 : decode cX0_endRivals 7 = .ok (.if_icmp .ge 68, 3) := by decide +kernel
theorem dX0_endRivals_10 : decode cX0_endRivals 10 = .ok (.aload_n 0, 1) := by decide +kernel
theorem dX0_endRivals_11 : decode cX0_endRivals 11 = .ok (.getfield 11, 3) := by decide +kernel
theorem dX0_endRivals_14 : decode cX0_endRivals 14 = .ok (.iload_n 3, 1) := by decide +kernel
theorem dX0_endRivals_15 : decode cX0_endRivals 15 = .ok (.aaload, 1) := by decide +kernel
theorem dX0_endRivals_16 : decode cX0_endRivals 16 = .ok (.astore 4, 2) := by decide +kernel
theorem dX0_endRivals_18 : decode cX0_endRivals 18 = .ok (.aload 4, 2) := by decide +kernel
theorem dX0_endRivals_20 : decode cX0_endRivals 20 = .ok (.getfield 26, 3) := by decide +kernel
theorem dX0_endRivals_23 : decode cX0_endRivals 23 = .ok (.aload_n 1, 1) := by decide +kernel
theorem dX0_endRivals_24 : decode cX0_endRivals 24 = .ok (.getfield 42, 3) := by decide +kernel
theorem dX0_endRivals_27 : decode cX0_endRivals 27 = .ok (.if_icmp .ne 42, 3) := by decide +kernel
theorem dX0_endRivals_30 : decode cX0_endRivals 30 = .ok (.aload 4, 2) := by decide +kernel
theorem dX0_endRivals_32 : decode cX0_endRivals 32 = .ok (.getfield 29, 3) := by decide +kernel
theorem dX0_endRivals_35 : decode cX0_endRivals 35 = .ok (.aload_n 1, 1) := by decide +kernel
theorem dX0_endRivals_36 : decode cX0_endRivals 36 = .ok (.getfield 45, 3) := by decide +kernel
theorem dX0_endRivals_39 : decode cX0_endRivals 39 = .ok (.if_icmp .ne 30, 3) := by decide +kernel
theorem dX0_endRivals_42 : decode cX0_endRivals 42 = .ok (.aload 4, 2) := by decide +kernel
theorem dX0_endRivals_44 : decode cX0_endRivals 44 = .ok (.getfield 32, 3) := by decide +kernel
theorem dX0_endRivals_47 : decode cX0_endRivals 47 = .ok (.aload_n 1, 1) := by decide +kernel
theorem dX0_endRivals_48 : decode cX0_endRivals 48 = .ok (.getfield 46, 3) := by decide +kernel
theorem dX0_endRivals_51 : decode cX0_endRivals 51 = .ok (.if_icmp .eq 18, 3) := by decide +kernel
theorem dX0_endRivals_54 : decode cX0_endRivals 54 = .ok (.aload 4, 2) := by decide +kernel
theorem dX0_endRivals_56 : decode cX0_endRivals 56 = .ok (.getfield 35, 3) := by decide +kernel
theorem dX0_endRivals_59 : decode cX0_endRivals 59 = .ok (.iload_n 2, 1) := by decide +kernel
theorem dX0_endRivals_60 : decode cX0_endRivals 60 = .ok (.if_icmp .le 9, 3) := by decide +kernel
theorem dX0_endRivals_63 : decode cX0_endRivals 63 = .ok (.aload 4, 2) := by decide +kernel
theorem dX0_endRivals_65 : decode cX0_endRivals 65 = .ok (.iload_n 2, 1) := by decide +kernel
theorem dX0_endRivals_66 : decode cX0_endRivals 66 = .ok (.putfield 35, 3) := by decide +kernel
theorem dX0_endRivals_69 : decode cX0_endRivals 69 = .ok (.iinc 3 1, 3) := by decide +kernel
theorem dX0_endRivals_72 : decode cX0_endRivals 72 = .ok (.goto (-70), 3) := by decide +kernel
theorem dX0_endRivals_75 : decode cX0_endRivals 75 = .ok (.return_, 1) := by decide +kernel
theorem dX0_endOf_0 : decode cX0_endOf 0 = .ok (.aload_n 0, 1) := by decide +kernel
theorem dX0_endOf_1 : decode cX0_endOf 1 = .ok (.aload_n 1, 1) := by decide +kernel
theorem dX0_endOf_2 : decode cX0_endOf 2 = .ok (.getfield 42, 3) := by decide +kernel
theorem dX0_endOf_5 : decode cX0_endOf 5 = .ok (.aload_n 1, 1) := by decide +kernel
theorem dX0_endOf_6 : decode cX0_endOf 6 = .ok (.getfield 45, 3) := by decide +kernel
theorem dX0_endOf_9 : decode cX0_endOf 9 = .ok (.aload_n 1, 1) := by decide +kernel
theorem dX0_endOf_10 : decode cX0_endOf 10 = .ok (.getfield 46, 3) := by decide +kernel
theorem dX0_endOf_13 : decode cX0_endOf 13 = .ok (.invokevirtual 47, 3) := by decide +kernel
theorem dX0_endOf_16 : decode cX0_endOf 16 = .ok (.istore_n 3, 1) := by decide +kernel
theorem dX0_endOf_17 : decode cX0_endOf 17 = .ok (.iload_n 3, 1) := by decide +kernel
theorem dX0_endOf_18 : decode cX0_endOf 18 = .ok (.iconst (-1), 1) := by decide +kernel
theorem dX0_endOf_19 : decode cX0_endOf 19 = .ok (.if_icmp .eq 26, 3) := by decide +kernel
theorem dX0_endOf_22 : decode cX0_endOf 22 = .ok (.aload_n 0, 1) := by decide +kernel
theorem dX0_endOf_23 : decode cX0_endOf 23 = .ok (.getfield 11, 3) := by decide +kernel
theorem dX0_endOf_26 : decode cX0_endOf 26 = .ok (.iload_n 3, 1) := by decide +kernel
theorem dX0_endOf_27 : decode cX0_endOf 27 = .ok (.aaload, 1) := by decide +kernel
theorem dX0_endOf_28 : decode cX0_endOf 28 = .ok (.getfield 35, 3) := by decide +kernel
theorem dX0_endOf_31 : decode cX0_endOf 31 = .ok (.iload_n 2, 1) := by decide +kernel
theorem dX0_endOf_32 : decode cX0_endOf 32 = .ok (.if_icmp .le 13, 3) := by decide +kernel
theorem dX0_endOf_35 : decode cX0_endOf 35 = .ok (.aload_n 0, 1) := by decide +kernel
theorem dX0_endOf_36 : decode cX0_endOf 36 = .ok (.getfield 11, 3) := by decide +kernel
theorem dX0_endOf_39 : decode cX0_endOf 39 = .ok (.iload_n 3, 1) := by decide +kernel
theorem dX0_endOf_40 : decode cX0_endOf 40 = .ok (.aaload, 1) := by decide +kernel
theorem dX0_endOf_41 : decode cX0_endOf 41 = .ok (.iload_n 2, 1) := by decide +kernel
theorem dX0_endOf_42 : decode cX0_endOf 42 = .ok (.putfield 35, 3) := by decide +kernel
theorem dX0_endOf_45 : decode cX0_endOf 45 = .ok (.return_, 1) := by decide +kernel
theorem dX0_noteKnown_0 : decode cX0_noteKnown 0 = .ok (.iconst 0, 1) := by decide +kernel
theorem dX0_noteKnown_1 : decode cX0_noteKnown 1 = .ok (.istore 5, 2) := by decide +kernel
theorem dX0_noteKnown_3 : decode cX0_noteKnown 3 = .ok (.iload 5, 2) := by decide +kernel
theorem dX0_noteKnown_5 : decode cX0_noteKnown 5 = .ok (.aload_n 0, 1) := by decide +kernel
theorem dX0_noteKnown_6 : decode cX0_noteKnown 6 = .ok (.getfield 18, 3) := by decide +kernel
theorem dX0_noteKnown_9 : decode cX0_noteKnown 9 = .ok (.if_icmp .ge 55, 3) := by decide +kernel
theorem dX0_noteKnown_12 : decode cX0_noteKnown 12 = .ok (.aload_n 0, 1) := by decide +kernel
theorem dX0_noteKnown_13 : decode cX0_noteKnown 13 = .ok (.getfield 11, 3) := by decide +kernel
theorem dX0_noteKnown_16 : decode cX0_noteKnown 16 = .ok (.iload 5, 2) := by decide +kernel
theorem dX0_noteKnown_18 : decode cX0_noteKnown 18 = .ok (.aaload, 1) := by decide +kernel
theorem dX0_noteKnown_19 : decode cX0_noteKnown 19 = .ok (.astore 6, 2) := by decide +kernel
theorem dX0_noteKnown_21 : decode cX0_noteKnown 21 = .ok (.aload 6, 2) := by decide +kernel
theorem dX0_noteKnown_23 : decode cX0_noteKnown 23 = .ok (.iload_n 1, 1) := by decide +kernel
theorem dX0_noteKnown_24 : decode cX0_noteKnown 24 = .ok (.iload_n 2, 1) := by decide +kernel
theorem dX0_noteKnown_25 : decode cX0_noteKnown 25 = .ok (.invokevirtual 63, 3) := by decide +kernel
theorem dX0_noteKnown_28 : decode cX0_noteKnown 28 = .ok (.ifCond .eq 30, 3) := by decide +kernel
theorem dX0_noteKnown_31 : decode cX0_noteKnown 31 = .ok (.iconst 2, 1) := by decide +kernel
theorem dX0_noteKnown_32 : decode cX0_noteKnown 32 = .ok (.aload 6, 2) := by decide +kernel
theorem dX0_noteKnown_34 : decode cX0_noteKnown 34 = .ok (.getfield 35, 3) := by decide +kernel
theorem dX0_noteKnown_37 : decode cX0_noteKnown 37 = .ok (.iload_n 3, 1) := by decide +kernel
theorem dX0_noteKnown_38 : decode cX0_noteKnown 38 = .ok (.isub, 1) := by decide +kernel
theorem dX0_noteKnown_39 : decode cX0_noteKnown 39 = .ok (.imul, 1) := by decide +kernel
theorem dX0_noteKnown_40 : decode cX0_noteKnown 40 = .ok (.aload 6, 2) := by decide +kernel
theorem dX0_noteKnown_42 : decode cX0_noteKnown 42 = .ok (.getfield 54, 3) := by decide +kernel
theorem dX0_noteKnown_45 : decode cX0_noteKnown 45 = .ok (.if_icmp .lt 13, 3) := by decide +kernel
theorem dX0_noteKnown_48 : decode cX0_noteKnown 48 = .ok (.aload 4, 2) := by decide +kernel
theorem dX0_noteKnown_50 : decode cX0_noteKnown 50 = .ok (.aload 6, 2) := by decide +kernel
theorem dX0_noteKnown_52 : decode cX0_noteKnown 52 = .ok (.getfield 32, 3) := by decide +kernel
theorem dX0_noteKnown_55 : decode cX0_noteKnown 55 = .ok (.invokevirtual 67, 3) := by decide +kernel
theorem dX0_noteKnown_58 : decode cX0_noteKnown 58 = .ok (.iinc 5 1, 3) := by decide +kernel
theorem dX0_noteKnown_61 : decode cX0_noteKnown 61 = .ok (.goto (-58), 3) := by decide +kernel
theorem dX0_noteKnown_64 : decode cX0_noteKnown 64 = .ok (.return_, 1) := by decide +kernel
theorem dX0_newestData_0 : decode cX0_newestData 0 = .ok (.aload_n 0, 1) := by decide +kernel
theorem dX0_newestData_1 : decode cX0_newestData 1 = .ok (.getfield 18, 3) := by decide +kernel
theorem dX0_newestData_4 : decode cX0_newestData 4 = .ok (.iconst 1, 1) := by decide +kernel
theorem dX0_newestData_5 : decode cX0_newestData 5 = .ok (.isub, 1) := by decide +kernel
theorem dX0_newestData_6 : decode cX0_newestData 6 = .ok (.istore_n 3, 1) := by decide +kernel
theorem dX0_newestData_7 : decode cX0_newestData 7 = .ok (.iload_n 3, 1) := by decide +kernel
theorem dX0_newestData_8 : decode cX0_newestData 8 = .ok (.ifCond .lt 33, 3) := by decide +kernel
theorem dX0_newestData_11 : decode cX0_newestData 11 = .ok (.aload_n 0, 1) := by decide +kernel
theorem dX0_newestData_12 : decode cX0_newestData 12 = .ok (.getfield 11, 3) := by decide +kernel
theorem dX0_newestData_15 : decode cX0_newestData 15 = .ok (.iload_n 3, 1) := by decide +kernel
theorem dX0_newestData_16 : decode cX0_newestData 16 = .ok (.aaload, 1) := by decide +kernel
theorem dX0_newestData_17 : decode cX0_newestData 17 = .ok (.iload_n 1, 1) := by decide +kernel
theorem dX0_newestData_18 : decode cX0_newestData 18 = .ok (.iload_n 2, 1) := by decide +kernel
theorem dX0_newestData_19 : decode cX0_newestData 19 = .ok (.invokevirtual 63, 3) := by decide +kernel
theorem dX0_newestData_22 : decode cX0_newestData 22 = .ok (.ifCond .eq 13, 3) := by decide +kernel
theorem dX0_newestData_25 : decode cX0_newestData 25 = .ok (.aload_n 0, 1) := by decide +kernel
theorem dX0_newestData_26 : decode cX0_newestData 26 = .ok (.getfield 11, 3) := by decide +kernel
theorem dX0_newestData_29 : decode cX0_newestData 29 = .ok (.iload_n 3, 1) := by decide +kernel
theorem dX0_newestData_30 : decode cX0_newestData 30 = .ok (.aaload, 1) := by decide +kernel
theorem dX0_newestData_31 : decode cX0_newestData 31 = .ok (.getfield 32, 3) := by decide +kernel
theorem dX0_newestData_34 : decode cX0_newestData 34 = .ok (.ireturn, 1) := by decide +kernel
theorem dX0_newestData_35 : decode cX0_newestData 35 = .ok (.iinc 3 (-1), 3) := by decide +kernel
theorem dX0_newestData_38 : decode cX0_newestData 38 = .ok (.goto (-31), 3) := by decide +kernel
theorem dX0_newestData_41 : decode cX0_newestData 41 = .ok (.iconst (-1), 1) := by decide +kernel
theorem dX0_newestData_42 : decode cX0_newestData 42 = .ok (.ireturn, 1) := by decide +kernel
theorem dX0_countOf_0 : decode cX0_countOf 0 = .ok (.iconst 0, 1) := by decide +kernel
theorem dX0_countOf_1 : decode cX0_countOf 1 = .ok (.istore_n 3, 1) := by decide +kernel
theorem dX0_countOf_2 : decode cX0_countOf 2 = .ok (.iconst 0, 1) := by decide +kernel
theorem dX0_countOf_3 : decode cX0_countOf 3 = .ok (.istore 4, 2) := by decide +kernel
theorem dX0_countOf_5 : decode cX0_countOf 5 = .ok (.iload 4, 2) := by decide +kernel
theorem dX0_countOf_7 : decode cX0_countOf 7 = .ok (.aload_n 0, 1) := by decide +kernel
theorem dX0_countOf_8 : decode cX0_countOf 8 = .ok (.getfield 18, 3) := by decide +kernel
theorem dX0_countOf_11 : decode cX0_countOf 11 = .ok (.if_icmp .ge 27, 3) := by decide +kernel
theorem dX0_countOf_14 : decode cX0_countOf 14 = .ok (.iload_n 3, 1) := by decide +kernel
theorem dX0_countOf_15 : decode cX0_countOf 15 = .ok (.aload_n 0, 1) := by decide +kernel
theorem dX0_countOf_16 : decode cX0_countOf 16 = .ok (.getfield 11, 3) := by decide +kernel
theorem dX0_countOf_19 : decode cX0_countOf 19 = .ok (.iload 4, 2) := by decide +kernel
theorem dX0_countOf_21 : decode cX0_countOf 21 = .ok (.aaload, 1) := by decide +kernel
theorem dX0_countOf_22 : decode cX0_countOf 22 = .ok (.iload_n 1, 1) := by decide +kernel
theorem dX0_countOf_23 : decode cX0_countOf 23 = .ok (.iload_n 2, 1) := by decide +kernel
theorem dX0_countOf_24 : decode cX0_countOf 24 = .ok (.invokevirtual 63, 3) := by decide +kernel
theorem dX0_countOf_27 : decode cX0_countOf 27 = .ok (.invokestatic 72, 3) := by decide +kernel
theorem dX0_countOf_30 : decode cX0_countOf 30 = .ok (.iadd, 1) := by decide +kernel
theorem dX0_countOf_31 : decode cX0_countOf 31 = .ok (.istore_n 3, 1) := by decide +kernel
theorem dX0_countOf_32 : decode cX0_countOf 32 = .ok (.iinc 4 1, 3) := by decide +kernel
theorem dX0_countOf_35 : decode cX0_countOf 35 = .ok (.goto (-30), 3) := by decide +kernel
theorem dX0_countOf_38 : decode cX0_countOf 38 = .ok (.iload_n 3, 1) := by decide +kernel
theorem dX0_countOf_39 : decode cX0_countOf 39 = .ok (.ireturn, 1) := by decide +kernel
theorem dX0_longestLeft_0 : decode cX0_longestLeft 0 = .ok (.iconst (-1), 1) := by decide +kernel
theorem dX0_longestLeft_1 : decode cX0_longestLeft 1 = .ok (.istore 4, 2) := by decide +kernel
theorem dX0_longestLeft_3 : decode cX0_longestLeft 3 = .ok (.iconst 0, 1) := by decide +kernel
theorem dX0_longestLeft_4 : decode cX0_longestLeft 4 = .ok (.istore 5, 2) := by decide +kernel
theorem dX0_longestLeft_6 : decode cX0_longestLeft 6 = .ok (.iload 5, 2) := by decide +kernel
theorem dX0_longestLeft_8 : decode cX0_longestLeft 8 = .ok (.aload_n 0, 1) := by decide +kernel
theorem dX0_longestLeft_9 : decode cX0_longestLeft 9 = .ok (.getfield 18, 3) := by decide +kernel
theorem dX0_longestLeft_12 : decode cX0_longestLeft 12 = .ok (.if_icmp .ge 43, 3) := by decide +kernel
theorem dX0_longestLeft_15 : decode cX0_longestLeft 15 = .ok (.aload_n 0, 1) := by decide +kernel
theorem dX0_longestLeft_16 : decode cX0_longestLeft 16 = .ok (.getfield 11, 3) := by decide +kernel
theorem dX0_longestLeft_19 : decode cX0_longestLeft 19 = .ok (.iload 5, 2) := by decide +kernel
theorem dX0_longestLeft_21 : decode cX0_longestLeft 21 = .ok (.aaload, 1) := by decide +kernel
theorem dX0_longestLeft_22 : decode cX0_longestLeft 22 = .ok (.iload_n 1, 1) := by decide +kernel
theorem dX0_longestLeft_23 : decode cX0_longestLeft 23 = .ok (.iload_n 2, 1) := by decide +kernel
theorem dX0_longestLeft_24 : decode cX0_longestLeft 24 = .ok (.invokevirtual 63, 3) := by decide +kernel
theorem dX0_longestLeft_27 : decode cX0_longestLeft 27 = .ok (.ifCond .eq 22, 3) := by decide +kernel
theorem dX0_longestLeft_30 : decode cX0_longestLeft 30 = .ok (.iload 4, 2) := by decide +kernel
theorem dX0_longestLeft_32 : decode cX0_longestLeft 32 = .ok (.aload_n 0, 1) := by decide +kernel
theorem dX0_longestLeft_33 : decode cX0_longestLeft 33 = .ok (.getfield 11, 3) := by decide +kernel
theorem dX0_longestLeft_36 : decode cX0_longestLeft 36 = .ok (.iload 5, 2) := by decide +kernel
theorem dX0_longestLeft_38 : decode cX0_longestLeft 38 = .ok (.aaload, 1) := by decide +kernel
theorem dX0_longestLeft_39 : decode cX0_longestLeft 39 = .ok (.getfield 35, 3) := by decide +kernel
theorem dX0_longestLeft_42 : decode cX0_longestLeft 42 = .ok (.iload_n 3, 1) := by decide +kernel
theorem dX0_longestLeft_43 : decode cX0_longestLeft 43 = .ok (.isub, 1) := by decide +kernel
theorem dX0_longestLeft_44 : decode cX0_longestLeft 44 = .ok (.invokestatic 76, 3) := by decide +kernel
theorem dX0_longestLeft_47 : decode cX0_longestLeft 47 = .ok (.istore 4, 2) := by decide +kernel
theorem dX0_longestLeft_49 : decode cX0_longestLeft 49 = .ok (.iinc 5 1, 3) := by decide +kernel
theorem dX0_longestLeft_52 : decode cX0_longestLeft 52 = .ok (.goto (-46), 3) := by decide +kernel
theorem dX0_longestLeft_55 : decode cX0_longestLeft 55 = .ok (.iload 4, 2) := by decide +kernel
theorem dX0_longestLeft_57 : decode cX0_longestLeft 57 = .ok (.ireturn, 1) := by decide +kernel
theorem dX1_init_0 : decode cX1_init 0 = .ok (.aload_n 0, 1) := by decide +kernel
theorem dX1_init_1 : decode cX1_init 1 = .ok (.invokespecial 3, 3) := by decide +kernel
theorem dX1_init_4 : decode cX1_init 4 = .ok (.aload_n 0, 1) := by decide +kernel
theorem dX1_init_5 : decode cX1_init 5 = .ok (.iconst 4, 1) := by decide +kernel
theorem dX1_init_6 : decode cX1_init 6 = .ok (.newarray .long, 2) := by decide +kernel
theorem dX1_init_8 : decode cX1_init 8 = .ok (.putfield 9, 3) := by decide +kernel
theorem dX1_init_11 : decode cX1_init 11 = .ok (.return_, 1) := by decide +kernel
theorem dX1_empty_0 : decode cX1_empty 0 = .ok (.iconst 0, 1) := by decide +kernel
theorem dX1_empty_1 : decode cX1_empty 1 = .ok (.istore_n 1, 1) := by decide +kernel
theorem dX1_empty_2 : decode cX1_empty 2 = .ok (.iload_n 1, 1) := by decide +kernel
theorem dX1_empty_3 : decode cX1_empty 3 = .ok (.aload_n 0, 1) := by decide +kernel
theorem dX1_empty_4 : decode cX1_empty 4 = .ok (.getfield 9, 3) := by decide +kernel
theorem dX1_empty_7 : decode cX1_empty 7 = .ok (.arraylength, 1) := by decide +kernel
theorem dX1_empty_8 : decode cX1_empty 8 = .ok (.if_icmp .ge 16, 3) := by decide +kernel
theorem dX1_empty_11 : decode cX1_empty 11 = .ok (.aload_n 0, 1) := by decide +kernel
theorem dX1_empty_12 : decode cX1_empty 12 = .ok (.getfield 9, 3) := by decide +kernel
theorem dX1_empty_15 : decode cX1_empty 15 = .ok (.iload_n 1, 1) := by decide +kernel
theorem dX1_empty_16 : decode cX1_empty 16 = .ok (.lconst 0, 1) := by decide +kernel
theorem dX1_empty_17 : decode cX1_empty 17 = .ok (.lastore, 1) := by decide +kernel
theorem dX1_empty_18 : decode cX1_empty 18 = .ok (.iinc 1 1, 3) := by decide +kernel
theorem dX1_empty_21 : decode cX1_empty 21 = .ok (.goto (-19), 3) := by decide +kernel
theorem dX1_empty_24 : decode cX1_empty 24 = .ok (.return_, 1) := by decide +kernel
theorem dX1_add_0 : decode cX1_add 0 = .ok (.iload_n 1, 1) := by decide +kernel
theorem dX1_add_1 : decode cX1_add 1 = .ok (.iconst 0, 1) := by decide +kernel
theorem dX1_add_2 : decode cX1_add 2 = .ok (.sipush 255, 3) := by decide +kernel
theorem dX1_add_5 : decode cX1_add 5 = .ok (.invokestatic 15, 3) := by decide +kernel
theorem dX1_add_8 : decode cX1_add 8 = .ok (.ifCond .eq 21, 3) := by decide +kernel
theorem dX1_add_11 : decode cX1_add 11 = .ok (.aload_n 0, 1) := by decide +kernel
theorem dX1_add_12 : decode cX1_add 12 = .ok (.getfield 9, 3) := by decide +kernel
theorem dX1_add_15 : decode cX1_add 15 = .ok (.iload_n 1, 1) := by decide +kernel
theorem dX1_add_16 : decode cX1_add 16 = .ok (.bipush 64, 2) := by decide +kernel
theorem dX1_add_18 : decode cX1_add 18 = .ok (.idiv, 1) := by decide +kernel
theorem dX1_add_19 : decode cX1_add 19 = .ok (.dup2, 1) := by decide +kernel
theorem dX1_add_20 : decode cX1_add 20 = .ok (.laload, 1) := by decide +kernel
theorem dX1_add_21 : decode cX1_add 21 = .ok (.lconst 1, 1) := by decide +kernel
theorem dX1_add_22 : decode cX1_add 22 = .ok (.iload_n 1, 1) := by decide +kernel
theorem dX1_add_23 : decode cX1_add 23 = .ok (.bipush 64, 2) := by decide +kernel
theorem dX1_add_25 : decode cX1_add 25 = .ok (.irem, 1) := by decide +kernel
theorem dX1_add_26 : decode cX1_add 26 = .ok (.lshl, 1) := by decide +kernel
theorem dX1_add_27 : decode cX1_add 27 = .ok (.lor, 1) := by decide +kernel
theorem dX1_add_28 : decode cX1_add 28 = .ok (.lastore, 1) := by decide +kernel
theorem dX1_add_29 : decode cX1_add 29 = .ok (.return_, 1) := by decide +kernel
theorem dX1_has_0 : decode cX1_has 0 = .ok (.iload_n 1, 1) := by decide +kernel
theorem dX1_has_1 : decode cX1_has 1 = .ok (.iconst 0, 1) := by decide +kernel
theorem dX1_has_2 : decode cX1_has 2 = .ok (.sipush 255, 3) := by decide +kernel
theorem dX1_has_5 : decode cX1_has 5 = .ok (.invokestatic 15, 3) := by decide +kernel
theorem dX1_has_8 : decode cX1_has 8 = .ok (.ifCond .eq 28, 3) := by decide +kernel
theorem dX1_has_11 : decode cX1_has 11 = .ok (.aload_n 0, 1) := by decide +kernel
theorem dX1_has_12 : decode cX1_has 12 = .ok (.getfield 9, 3) := by decide +kernel
theorem dX1_has_15 : decode cX1_has 15 = .ok (.iload_n 1, 1) := by decide +kernel
theorem dX1_has_16 : decode cX1_has 16 = .ok (.bipush 64, 2) := by decide +kernel
theorem dX1_has_18 : decode cX1_has 18 = .ok (.idiv, 1) := by decide +kernel
theorem dX1_has_19 : decode cX1_has 19 = .ok (.laload, 1) := by decide +kernel
theorem dX1_has_20 : decode cX1_has 20 = .ok (.iload_n 1, 1) := by decide +kernel
theorem dX1_has_21 : decode cX1_has 21 = .ok (.bipush 64, 2) := by decide +kernel
theorem dX1_has_23 : decode cX1_has 23 = .ok (.irem, 1) := by decide +kernel
theorem dX1_has_24 : decode cX1_has 24 = .ok (.lushr, 1) := by decide +kernel
theorem dX1_has_25 : decode cX1_has 25 = .ok (.lconst 1, 1) := by decide +kernel
theorem dX1_has_26 : decode cX1_has 26 = .ok (.land, 1) := by decide +kernel
theorem dX1_has_27 : decode cX1_has 27 = .ok (.lconst 1, 1) := by decide +kernel
theorem dX1_has_28 : decode cX1_has 28 = .ok (.lcmp, 1) := by decide +kernel
theorem dX1_has_29 : decode cX1_has 29 = .ok (.ifCond .ne 7, 3) := by decide +kernel
theorem dX1_has_32 : decode cX1_has 32 = .ok (.iconst 1, 1) := by decide +kernel
theorem dX1_has_33 : decode cX1_has 33 = .ok (.goto 4, 3) := by decide +kernel
theorem dX1_has_36 : decode cX1_has 36 = .ok (.iconst 0, 1) := by decide +kernel
theorem dX1_has_37 : decode cX1_has 37 = .ok (.ireturn, 1) := by decide +kernel
theorem dX2_init_0 : decode cX2_init 0 = .ok (.aload_n 0, 1) := by decide +kernel
theorem dX2_init_1 : decode cX2_init 1 = .ok (.invokespecial 1, 3) := by decide +kernel
theorem dX2_init_4 : decode cX2_init 4 = .ok (.return_, 1) := by decide +kernel
theorem dX2_become_0 : decode cX2_become 0 = .ok (.aload_n 0, 1) := by decide +kernel
theorem dX2_become_1 : decode cX2_become 1 = .ok (.aload_n 1, 1) := by decide +kernel
theorem dX2_become_2 : decode cX2_become 2 = .ok (.getfield 7, 3) := by decide +kernel
theorem dX2_become_5 : decode cX2_become 5 = .ok (.putfield 7, 3) := by decide +kernel
theorem dX2_become_8 : decode cX2_become 8 = .ok (.aload_n 0, 1) := by decide +kernel
theorem dX2_become_9 : decode cX2_become 9 = .ok (.aload_n 1, 1) := by decide +kernel
theorem dX2_become_10 : decode cX2_become 10 = .ok (.getfield 13, 3) := by decide +kernel
theorem dX2_become_13 : decode cX2_become 13 = .ok (.putfield 13, 3) := by decide +kernel
theorem dX2_become_16 : decode cX2_become 16 = .ok (.aload_n 0, 1) := by decide +kernel
theorem dX2_become_17 : decode cX2_become 17 = .ok (.aload_n 1, 1) := by decide +kernel
theorem dX2_become_18 : decode cX2_become 18 = .ok (.getfield 16, 3) := by decide +kernel
theorem dX2_become_21 : decode cX2_become 21 = .ok (.putfield 16, 3) := by decide +kernel
theorem dX2_become_24 : decode cX2_become 24 = .ok (.aload_n 0, 1) := by decide +kernel
theorem dX2_become_25 : decode cX2_become 25 = .ok (.aload_n 1, 1) := by decide +kernel
theorem dX2_become_26 : decode cX2_become 26 = .ok (.getfield 19, 3) := by decide +kernel
theorem dX2_become_29 : decode cX2_become 29 = .ok (.putfield 19, 3) := by decide +kernel
theorem dX2_become_32 : decode cX2_become 32 = .ok (.aload_n 0, 1) := by decide +kernel
theorem dX2_become_33 : decode cX2_become 33 = .ok (.aload_n 1, 1) := by decide +kernel
theorem dX2_become_34 : decode cX2_become 34 = .ok (.getfield 22, 3) := by decide +kernel
theorem dX2_become_37 : decode cX2_become 37 = .ok (.putfield 22, 3) := by decide +kernel
theorem dX2_become_40 : decode cX2_become 40 = .ok (.return_, 1) := by decide +kernel
theorem dX2_isNamed_0 : decode cX2_isNamed 0 = .ok (.aload_n 0, 1) := by decide +kernel
theorem dX2_isNamed_1 : decode cX2_isNamed 1 = .ok (.getfield 7, 3) := by decide +kernel
theorem dX2_isNamed_4 : decode cX2_isNamed 4 = .ok (.iload_n 1, 1) := by decide +kernel
theorem dX2_isNamed_5 : decode cX2_isNamed 5 = .ok (.if_icmp .ne 15, 3) := by decide +kernel
theorem dX2_isNamed_8 : decode cX2_isNamed 8 = .ok (.aload_n 0, 1) := by decide +kernel
theorem dX2_isNamed_9 : decode cX2_isNamed 9 = .ok (.getfield 13, 3) := by decide +kernel
theorem dX2_isNamed_12 : decode cX2_isNamed 12 = .ok (.iload_n 2, 1) := by decide +kernel
theorem dX2_isNamed_13 : decode cX2_isNamed 13 = .ok (.if_icmp .ne 7, 3) := by decide +kernel
theorem dX2_isNamed_16 : decode cX2_isNamed 16 = .ok (.iconst 1, 1) := by decide +kernel
theorem dX2_isNamed_17 : decode cX2_isNamed 17 = .ok (.goto 4, 3) := by decide +kernel
theorem dX2_isNamed_20 : decode cX2_isNamed 20 = .ok (.iconst 0, 1) := by decide +kernel
theorem dX2_isNamed_21 : decode cX2_isNamed 21 = .ok (.ireturn, 1) := by decide +kernel
theorem dX3_init_0 : decode cX3_init 0 = .ok (.aload_n 0, 1) := by decide +kernel
theorem dX3_init_1 : decode cX3_init 1 = .ok (.invokespecial 3, 3) := by decide +kernel
theorem dX3_init_4 : decode cX3_init 4 = .ok (.aload_n 0, 1) := by decide +kernel
theorem dX3_init_5 : decode cX3_init 5 = .ok (.bipush 6, 2) := by decide +kernel
theorem dX3_init_7 : decode cX3_init 7 = .ok (.anewarray 11, 3) := by decide +kernel
theorem dX3_init_10 : decode cX3_init 10 = .ok (.putfield 13, 3) := by decide +kernel
theorem dX3_init_13 : decode cX3_init 13 = .ok (.iconst 0, 1) := by decide +kernel
theorem dX3_init_14 : decode cX3_init 14 = .ok (.istore_n 1, 1) := by decide +kernel
theorem dX3_init_15 : decode cX3_init 15 = .ok (.iload_n 1, 1) := by decide +kernel
theorem dX3_init_16 : decode cX3_init 16 = .ok (.bipush 6, 2) := by decide +kernel
theorem dX3_init_18 : decode cX3_init 18 = .ok (.if_icmp .ge 22, 3) := by decide +kernel
theorem dX3_init_21 : decode cX3_init 21 = .ok (.aload_n 0, 1) := by decide +kernel
theorem dX3_init_22 : decode cX3_init 22 = .ok (.getfield 13, 3) := by decide +kernel
theorem dX3_init_25 : decode cX3_init 25 = .ok (.iload_n 1, 1) := by decide +kernel
theorem dX3_init_26 : decode cX3_init 26 = .ok (.new 11, 3) := by decide +kernel
theorem dX3_init_29 : decode cX3_init 29 = .ok (.dup, 1) := by decide +kernel
theorem dX3_init_30 : decode cX3_init 30 = .ok (.invokespecial 17, 3) := by decide +kernel
theorem dX3_init_33 : decode cX3_init 33 = .ok (.aastore, 1) := by decide +kernel
theorem dX3_init_34 : decode cX3_init 34 = .ok (.iinc 1 1, 3) := by decide +kernel
theorem dX3_init_37 : decode cX3_init 37 = .ok (.goto (-22), 3) := by decide +kernel
theorem dX3_init_40 : decode cX3_init 40 = .ok (.return_, 1) := by decide +kernel
theorem dX3_behindNewest_0 : decode cX3_behindNewest 0 = .ok (.aload_n 0, 1) := by decide +kernel
theorem dX3_behindNewest_1 : decode cX3_behindNewest 1 = .ok (.getfield 13, 3) := by decide +kernel
theorem dX3_behindNewest_4 : decode cX3_behindNewest 4 = .ok (.aload_n 0, 1) := by decide +kernel
theorem dX3_behindNewest_5 : decode cX3_behindNewest 5 = .ok (.getfield 18, 3) := by decide +kernel
theorem dX3_behindNewest_8 : decode cX3_behindNewest 8 = .ok (.aload_n 0, 1) := by decide +kernel
theorem dX3_behindNewest_9 : decode cX3_behindNewest 9 = .ok (.getfield 22, 3) := by decide +kernel
theorem dX3_behindNewest_12 : decode cX3_behindNewest 12 = .ok (.iadd, 1) := by decide +kernel
theorem dX3_behindNewest_13 : decode cX3_behindNewest 13 = .ok (.bipush 6, 2) := by decide +kernel
theorem dX3_behindNewest_15 : decode cX3_behindNewest 15 = .ok (.irem, 1) := by decide +kernel
theorem dX3_behindNewest_16 : decode cX3_behindNewest 16 = .ok (.aaload, 1) := by decide +kernel
theorem dX3_behindNewest_17 : decode cX3_behindNewest 17 = .ok (.areturn, 1) := by decide +kernel
theorem dX3_draft_0 : decode cX3_draft 0 = .ok (.aload_n 0, 1) := by decide +kernel
theorem dX3_draft_1 : decode cX3_draft 1 = .ok (.invokevirtual 25, 3) := by decide +kernel
theorem dX3_draft_4 : decode cX3_draft 4 = .ok (.aload_n 1, 1) := by decide +kernel
theorem dX3_draft_5 : decode cX3_draft 5 = .ok (.invokevirtual 29, 3) := by decide +kernel
theorem dX3_draft_8 : decode cX3_draft 8 = .ok (.return_, 1) := by decide +kernel
theorem dX3_restoreDraft_0 : decode cX3_restoreDraft 0 = .ok (.aload_n 1, 1) := by decide +kernel
theorem dX3_restoreDraft_1 : decode cX3_restoreDraft 1 = .ok (.aload_n 0, 1) := by decide +kernel
theorem dX3_restoreDraft_2 : decode cX3_restoreDraft 2 = .ok (.invokevirtual 25, 3) := by decide +kernel
theorem dX3_restoreDraft_5 : decode cX3_restoreDraft 5 = .ok (.invokevirtual 29, 3) := by decide +kernel
theorem dX3_restoreDraft_8 : decode cX3_restoreDraft 8 = .ok (.return_, 1) := by decide +kernel
theorem dX3_keepDraft_0 : decode cX3_keepDraft 0 = .ok (.aload_n 0, 1) := by decide +kernel
theorem dX3_keepDraft_1 : decode cX3_keepDraft 1 = .ok (.getfield 22, 3) := by decide +kernel
theorem dX3_keepDraft_4 : decode cX3_keepDraft 4 = .ok (.iconst 5, 1) := by decide +kernel
theorem dX3_keepDraft_5 : decode cX3_keepDraft 5 = .ok (.if_icmp .lt 19, 3) := by decide +kernel
theorem dX3_keepDraft_8 : decode cX3_keepDraft 8 = .ok (.aload_n 0, 1) := by decide +kernel
theorem dX3_keepDraft_9 : decode cX3_keepDraft 9 = .ok (.aload_n 0, 1) := by decide +kernel
theorem dX3_keepDraft_10 : decode cX3_keepDraft 10 = .ok (.getfield 18, 3) := by decide +kernel
theorem dX3_keepDraft_13 : decode cX3_keepDraft 13 = .ok (.iconst 1, 1) := by decide +kernel
theorem dX3_keepDraft_14 : decode cX3_keepDraft 14 = .ok (.iadd, 1) := by decide +kernel
theorem dX3_keepDraft_15 : decode cX3_keepDraft 15 = .ok (.bipush 6, 2) := by decide +kernel
theorem dX3_keepDraft_17 : decode cX3_keepDraft 17 = .ok (.irem, 1) := by decide +kernel
theorem dX3_keepDraft_18 : decode cX3_keepDraft 18 = .ok (.putfield 18, 3) := by decide +kernel
theorem dX3_keepDraft_21 : decode cX3_keepDraft 21 = .ok (.goto 13, 3) := by decide +kernel
theorem dX3_keepDraft_24 : decode cX3_keepDraft 24 = .ok (.aload_n 0, 1) := by decide +kernel
theorem dX3_keepDraft_25 : decode cX3_keepDraft 25 = .ok (.dup, 1) := by decide +kernel
theorem dX3_keepDraft_26 : decode cX3_keepDraft 26 = .ok (.getfield 22, 3) := by decide +kernel
theorem dX3_keepDraft_29 : decode cX3_keepDraft 29 = .ok (.iconst 1, 1) := by decide +kernel
theorem dX3_keepDraft_30 : decode cX3_keepDraft 30 = .ok (.iadd, 1) := by decide +kernel
theorem dX3_keepDraft_31 : decode cX3_keepDraft 31 = .ok (.putfield 22, 3) := by decide +kernel
theorem dX3_keepDraft_34 : decode cX3_keepDraft 34 = .ok (.return_, 1) := by decide +kernel
theorem dX3_goBack_0 : decode cX3_goBack 0 = .ok (.aload_n 0, 1) := by decide +kernel
theorem dX3_goBack_1 : decode cX3_goBack 1 = .ok (.getfield 22, 3) := by decide +kernel
theorem dX3_goBack_4 : decode cX3_goBack 4 = .ok (.ifCond .ne 6, 3) := by decide +kernel
theorem dX3_goBack_7 : decode cX3_goBack 7 = .ok (.bipush (-3), 2) := by decide +kernel
theorem dX3_goBack_9 : decode cX3_goBack 9 = .ok (.ireturn, 1) := by decide +kernel
theorem dX3_goBack_10 : decode cX3_goBack 10 = .ok (.aload_n 0, 1) := by decide +kernel
theorem dX3_goBack_11 : decode cX3_goBack 11 = .ok (.dup, 1) := by decide +kernel
theorem dX3_goBack_12 : decode cX3_goBack 12 = .ok (.getfield 22, 3) := by decide +kernel
theorem dX3_goBack_15 : decode cX3_goBack 15 = .ok (.iconst 1, 1) := by decide +kernel
theorem dX3_goBack_16 : decode cX3_goBack 16 = .ok (.isub, 1) := by decide +kernel
theorem dX3_goBack_17 : decode cX3_goBack 17 = .ok (.putfield 22, 3) := by decide +kernel
theorem dX3_goBack_20 : decode cX3_goBack 20 = .ok (.aload_n 0, 1) := by decide +kernel
theorem dX3_goBack_21 : decode cX3_goBack 21 = .ok (.aload_n 1, 1) := by decide +kernel
theorem dX3_goBack_22 : decode cX3_goBack 22 = .ok (.invokevirtual 33, 3) := by decide +kernel
theorem dX3_goBack_25 : decode cX3_goBack 25 = .ok (.aload_n 0, 1) := by decide +kernel
theorem dX3_goBack_26 : decode cX3_goBack 26 = .ok (.getfield 22, 3) := by decide +kernel
theorem dX3_goBack_29 : decode cX3_goBack 29 = .ok (.ireturn, 1) := by decide +kernel
theorem dX4_init_0 : decode cX4_init 0 = .ok (.aload_n 0, 1) := by decide +kernel
theorem dX4_init_1 : decode cX4_init 1 = .ok (.invokespecial 3, 3) := by decide +kernel
theorem dX4_init_4 : decode cX4_init 4 = .ok (.aload_n 0, 1) := by decide +kernel
theorem dX4_init_5 : decode cX4_init 5 = .ok (.iconst 5, 1) := by decide +kernel
theorem dX4_init_6 : decode cX4_init 6 = .ok (.anewarray 9, 3) := by decide +kernel
theorem dX4_init_9 : decode cX4_init 9 = .ok (.putfield 11, 3) := by decide +kernel
theorem dX4_init_12 : decode cX4_init 12 = .ok (.iconst 0, 1) := by decide +kernel
theorem dX4_init_13 : decode cX4_init 13 = .ok (.istore_n 1, 1) := by decide +kernel
theorem dX4_init_14 : decode cX4_init 14 = .ok (.iload_n 1, 1) := by decide +kernel
theorem dX4_init_15 : decode cX4_init 15 = .ok (.iconst 5, 1) := by decide +kernel
theorem dX4_init_16 : decode cX4_init 16 = .ok (.if_icmp .ge 22, 3) := by decide +kernel
theorem dX4_init_19 : decode cX4_init 19 = .ok (.aload_n 0, 1) := by decide +kernel
theorem dX4_init_20 : decode cX4_init 20 = .ok (.getfield 11, 3) := by decide +kernel
theorem dX4_init_23 : decode cX4_init 23 = .ok (.iload_n 1, 1) := by decide +kernel
theorem dX4_init_24 : decode cX4_init 24 = .ok (.new 9, 3) := by decide +kernel
theorem dX4_init_27 : decode cX4_init 27 = .ok (.dup, 1) := by decide +kernel
theorem dX4_init_28 : decode cX4_init 28 = .ok (.invokespecial 17, 3) := by decide +kernel
theorem dX4_init_31 : decode cX4_init 31 = .ok (.aastore, 1) := by decide +kernel
theorem dX4_init_32 : decode cX4_init 32 = .ok (.iinc 1 1, 3) := by decide +kernel
theorem dX4_init_35 : decode cX4_init 35 = .ok (.goto (-21), 3) := by decide +kernel
theorem dX4_init_38 : decode cX4_init 38 = .ok (.aload_n 0, 1) := by decide +kernel
theorem dX4_init_39 : decode cX4_init 39 = .ok (.new 18, 3) := by decide +kernel
theorem dX4_init_42 : decode cX4_init 42 = .ok (.dup, 1) := by decide +kernel
theorem dX4_init_43 : decode cX4_init 43 = .ok (.invokespecial 20, 3) := by decide +kernel
theorem dX4_init_46 : decode cX4_init 46 = .ok (.putfield 21, 3) := by decide +kernel
theorem dX4_init_49 : decode cX4_init 49 = .ok (.return_, 1) := by decide +kernel
theorem dX4_begin_0 : decode cX4_begin 0 = .ok (.aload_n 0, 1) := by decide +kernel
theorem dX4_begin_1 : decode cX4_begin 1 = .ok (.iconst 0, 1) := by decide +kernel
theorem dX4_begin_2 : decode cX4_begin 2 = .ok (.putfield 25, 3) := by decide +kernel
theorem dX4_begin_5 : decode cX4_begin 5 = .ok (.aload_n 0, 1) := by decide +kernel
theorem dX4_begin_6 : decode cX4_begin 6 = .ok (.getfield 21, 3) := by decide +kernel
theorem dX4_begin_9 : decode cX4_begin 9 = .ok (.iconst 0, 1) := by decide +kernel
theorem dX4_begin_10 : decode cX4_begin 10 = .ok (.putfield 29, 3) := by decide +kernel
theorem dX4_begin_13 : decode cX4_begin 13 = .ok (.aload_n 0, 1) := by decide +kernel
theorem dX4_begin_14 : decode cX4_begin 14 = .ok (.iconst 1, 1) := by decide +kernel
theorem dX4_begin_15 : decode cX4_begin 15 = .ok (.putfield 32, 3) := by decide +kernel
theorem dX4_begin_18 : decode cX4_begin 18 = .ok (.aload_n 0, 1) := by decide +kernel
theorem dX4_begin_19 : decode cX4_begin 19 = .ok (.iconst (-1), 1) := by decide +kernel
theorem dX4_begin_20 : decode cX4_begin 20 = .ok (.putfield 36, 3) := by decide +kernel
theorem dX4_begin_23 : decode cX4_begin 23 = .ok (.return_, 1) := by decide +kernel
theorem dX4_become_0 : decode cX4_become 0 = .ok (.aload_n 0, 1) := by decide +kernel
theorem dX4_become_1 : decode cX4_become 1 = .ok (.aload_n 1, 1) := by decide +kernel
theorem dX4_become_2 : decode cX4_become 2 = .ok (.getfield 25, 3) := by decide +kernel
theorem dX4_become_5 : decode cX4_become 5 = .ok (.putfield 25, 3) := by decide +kernel
theorem dX4_become_8 : decode cX4_become 8 = .ok (.iconst 0, 1) := by decide +kernel
theorem dX4_become_9 : decode cX4_become 9 = .ok (.istore_n 2, 1) := by decide +kernel
theorem dX4_become_10 : decode cX4_become 10 = .ok (.iload_n 2, 1) := by decide +kernel
theorem dX4_become_11 : decode cX4_become 11 = .ok (.aload_n 0, 1) := by decide +kernel
theorem dX4_become_12 : decode cX4_become 12 = .ok (.getfield 25, 3) := by decide +kernel
theorem dX4_become_15 : decode cX4_become 15 = .ok (.if_icmp .ge 24, 3) := by decide +kernel
theorem dX4_become_18 : decode cX4_become 18 = .ok (.aload_n 0, 1) := by decide +kernel
theorem dX4_become_19 : decode cX4_become 19 = .ok (.getfield 11, 3) := by decide +kernel
theorem dX4_become_22 : decode cX4_become 22 = .ok (.iload_n 2, 1) := by decide +kernel
theorem dX4_become_23 : decode cX4_become 23 = .ok (.aaload, 1) := by decide +kernel
theorem dX4_become_24 : decode cX4_become 24 = .ok (.aload_n 1, 1) := by decide +kernel
theorem dX4_become_25 : decode cX4_become 25 = .ok (.getfield 11, 3) := by decide +kernel
theorem dX4_become_28 : decode cX4_become 28 = .ok (.iload_n 2, 1) := by decide +kernel
theorem dX4_become_29 : decode cX4_become 29 = .ok (.aaload, 1) := by decide +kernel
theorem dX4_become_30 : decode cX4_become 30 = .ok (.invokevirtual 39, 3) := by decide +kernel
theorem dX4_become_33 : decode cX4_become 33 = .ok (.iinc 2 1, 3) := by decide +kernel
theorem dX4_become_36 : decode cX4_become 36 = .ok (.goto (-26), 3) := by decide +kernel
theorem dX4_become_39 : decode cX4_become 39 = .ok (.aload_n 0, 1) := by decide +kernel
theorem dX4_become_40 : decode cX4_become 40 = .ok (.getfield 21, 3) := by decide +kernel
theorem dX4_become_43 : decode cX4_become 43 = .ok (.aload_n 1, 1) := by decide +kernel
theorem dX4_become_44 : decode cX4_become 44 = .ok (.getfield 21, 3) := by decide +kernel
theorem dX4_become_47 : decode cX4_become 47 = .ok (.invokevirtual 43, 3) := by decide +kernel
theorem dX4_become_50 : decode cX4_become 50 = .ok (.aload_n 0, 1) := by decide +kernel
theorem dX4_become_51 : decode cX4_become 51 = .ok (.aload_n 1, 1) := by decide +kernel
theorem dX4_become_52 : decode cX4_become 52 = .ok (.getfield 32, 3) := by decide +kernel
theorem dX4_become_55 : decode cX4_become 55 = .ok (.putfield 32, 3) := by decide +kernel
theorem dX4_become_58 : decode cX4_become 58 = .ok (.aload_n 0, 1) := by decide +kernel
theorem dX4_become_59 : decode cX4_become 59 = .ok (.aload_n 1, 1) := by decide +kernel
theorem dX4_become_60 : decode cX4_become 60 = .ok (.getfield 36, 3) := by decide +kernel
theorem dX4_become_63 : decode cX4_become 63 = .ok (.putfield 36, 3) := by decide +kernel
theorem dX4_become_66 : decode cX4_become 66 = .ok (.return_, 1) := by decide +kernel
theorem dX4_add_0 : decode cX4_add 0 = .ok (.aload_n 0, 1) := by decide +kernel
theorem dX4_add_1 : decode cX4_add 1 = .ok (.getfield 11, 3) := by decide +kernel
theorem dX4_add_4 : decode cX4_add 4 = .ok (.aload_n 0, 1) := by decide +kernel
theorem dX4_add_5 : decode cX4_add 5 = .ok (.getfield 25, 3) := by decide +kernel
theorem dX4_add_8 : decode cX4_add 8 = .ok (.aaload, 1) := by decide +kernel
theorem dX4_add_9 : decode cX4_add 9 = .ok (.astore 5, 2) := by decide +kernel
theorem dX4_add_11 : decode cX4_add 11 = .ok (.aload_n 0, 1) := by decide +kernel
theorem dX4_add_12 : decode cX4_add 12 = .ok (.dup, 1) := by decide +kernel
theorem dX4_add_13 : decode cX4_add 13 = .ok (.getfield 25, 3) := by decide +kernel
theorem dX4_add_16 : decode cX4_add 16 = .ok (.iconst 1, 1) := by decide +kernel
theorem dX4_add_17 : decode cX4_add 17 = .ok (.iadd, 1) := by decide +kernel
theorem dX4_add_18 : decode cX4_add 18 = .ok (.putfield 25, 3) := by decide +kernel
theorem dX4_add_21 : decode cX4_add 21 = .ok (.aload 5, 2) := by decide +kernel
theorem dX4_add_23 : decode cX4_add 23 = .ok (.iload_n 1, 1) := by decide +kernel
theorem dX4_add_24 : decode cX4_add 24 = .ok (.putfield 46, 3) := by decide +kernel
theorem dX4_add_27 : decode cX4_add 27 = .ok (.aload 5, 2) := by decide +kernel
theorem dX4_add_29 : decode cX4_add 29 = .ok (.iload_n 2, 1) := by decide +kernel
theorem dX4_add_30 : decode cX4_add 30 = .ok (.putfield 49, 3) := by decide +kernel
theorem dX4_add_33 : decode cX4_add 33 = .ok (.aload 5, 2) := by decide +kernel
theorem dX4_add_35 : decode cX4_add 35 = .ok (.iload_n 3, 1) := by decide +kernel
theorem dX4_add_36 : decode cX4_add 36 = .ok (.putfield 52, 3) := by decide +kernel
theorem dX4_add_39 : decode cX4_add 39 = .ok (.aload 5, 2) := by decide +kernel
theorem dX4_add_41 : decode cX4_add 41 = .ok (.iload 4, 2) := by decide +kernel
theorem dX4_add_43 : decode cX4_add 43 = .ok (.putfield 55, 3) := by decide +kernel
theorem dX4_add_46 : decode cX4_add 46 = .ok (.aload 5, 2) := by decide +kernel
theorem dX4_add_48 : decode cX4_add 48 = .ok (.iconst 0, 1) := by decide +kernel
theorem dX4_add_49 : decode cX4_add 49 = .ok (.putfield 58, 3) := by decide +kernel
theorem dX4_add_52 : decode cX4_add 52 = .ok (.aload 5, 2) := by decide +kernel
theorem dX4_add_54 : decode cX4_add 54 = .ok (.areturn, 1) := by decide +kernel
theorem dX4_takeOut_0 : decode cX4_takeOut 0 = .ok (.aload_n 0, 1) := by decide +kernel
theorem dX4_takeOut_1 : decode cX4_takeOut 1 = .ok (.getfield 11, 3) := by decide +kernel
theorem dX4_takeOut_4 : decode cX4_takeOut 4 = .ok (.iload_n 1, 1) := by decide +kernel
theorem dX4_takeOut_5 : decode cX4_takeOut 5 = .ok (.aaload, 1) := by decide +kernel
theorem dX4_takeOut_6 : decode cX4_takeOut 6 = .ok (.astore_n 2, 1) := by decide +kernel
theorem dX4_takeOut_7 : decode cX4_takeOut 7 = .ok (.iload_n 1, 1) := by decide +kernel
theorem dX4_takeOut_8 : decode cX4_takeOut 8 = .ok (.istore_n 3, 1) := by decide +kernel
theorem dX4_takeOut_9 : decode cX4_takeOut 9 = .ok (.iload_n 3, 1) := by decide +kernel
theorem dX4_takeOut_10 : decode cX4_takeOut 10 = .ok (.aload_n 0, 1) := by decide +kernel
theorem dX4_takeOut_11 : decode cX4_takeOut 11 = .ok (.getfield 25, 3) := by decide +kernel
theorem dX4_takeOut_14 : decode cX4_takeOut 14 = .ok (.iconst 1, 1) := by decide +kernel
theorem dX4_takeOut_15 : decode cX4_takeOut 15 = .ok (.isub, 1) := by decide +kernel
theorem dX4_takeOut_16 : decode cX4_takeOut 16 = .ok (.if_icmp .ge 23, 3) := by decide +kernel
theorem dX4_takeOut_19 : decode cX4_takeOut 19 = .ok (.aload_n 0, 1) := by decide +kernel
theorem dX4_takeOut_20 : decode cX4_takeOut 20 = .ok (.getfield 11, 3) := by decide +kernel
theorem dX4_takeOut_23 : decode cX4_takeOut 23 = .ok (.iload_n 3, 1) := by decide +kernel
theorem dX4_takeOut_24 : decode cX4_takeOut 24 = .ok (.aload_n 0, 1) := by decide +kernel
theorem dX4_takeOut_25 : decode cX4_takeOut 25 = .ok (.getfield 11, 3) := by decide +kernel
theorem dX4_takeOut_28 : decode cX4_takeOut 28 = .ok (.iload_n 3, 1) := by decide +kernel
theorem dX4_takeOut_29 : decode cX4_takeOut 29 = .ok (.iconst 1, 1) := by decide +kernel
theorem dX4_takeOut_30 : decode cX4_takeOut 30 = .ok (.iadd, 1) := by decide +kernel
theorem dX4_takeOut_31 : decode cX4_takeOut 31 = .ok (.aaload, 1) := by decide +kernel
theorem dX4_takeOut_32 : decode cX4_takeOut 32 = .ok (.aastore, 1) := by decide +kernel
theorem dX4_takeOut_33 : decode cX4_takeOut 33 = .ok (.iinc 3 1, 3) := by decide +kernel
theorem dX4_takeOut_36 : decode cX4_takeOut 36 = .ok (.goto (-27), 3) := by decide +kernel
theorem dX4_takeOut_39 : decode cX4_takeOut 39 = .ok (.aload_n 0, 1) := by decide +kernel
theorem dX4_takeOut_40 : decode cX4_takeOut 40 = .ok (.dup, 1) := by decide +kernel
theorem dX4_takeOut_41 : decode cX4_takeOut 41 = .ok (.getfield 25, 3) := by decide +kernel
theorem dX4_takeOut_44 : decode cX4_takeOut 44 = .ok (.iconst 1, 1) := by decide +kernel
theorem dX4_takeOut_45 : decode cX4_takeOut 45 = .ok (.isub, 1) := by decide +kernel
theorem dX4_takeOut_46 : decode cX4_takeOut 46 = .ok (.putfield 25, 3) := by decide +kernel
theorem dX4_takeOut_49 : decode cX4_takeOut 49 = .ok (.aload_n 0, 1) := by decide +kernel
theorem dX4_takeOut_50 : decode cX4_takeOut 50 = .ok (.getfield 11, 3) := by decide +kernel
theorem dX4_takeOut_53 : decode cX4_takeOut 53 = .ok (.aload_n 0, 1) := by decide +kernel
theorem dX4_takeOut_54 : decode cX4_takeOut 54 = .ok (.getfield 25, 3) := by decide +kernel
theorem dX4_takeOut_57 : decode cX4_takeOut 57 = .ok (.aload_n 2, 1) := by decide +kernel
theorem dX4_takeOut_58 : decode cX4_takeOut 58 = .ok (.aastore, 1) := by decide +kernel
theorem dX4_takeOut_59 : decode cX4_takeOut 59 = .ok (.aload_n 2, 1) := by decide +kernel
theorem dX4_takeOut_60 : decode cX4_takeOut 60 = .ok (.areturn, 1) := by decide +kernel
theorem dX4_hasNamed_0 : decode cX4_hasNamed 0 = .ok (.iconst 0, 1) := by decide +kernel
theorem dX4_hasNamed_1 : decode cX4_hasNamed 1 = .ok (.istore_n 3, 1) := by decide +kernel
theorem dX4_hasNamed_2 : decode cX4_hasNamed 2 = .ok (.iload_n 3, 1) := by decide +kernel
theorem dX4_hasNamed_3 : decode cX4_hasNamed 3 = .ok (.aload_n 0, 1) := by decide +kernel
theorem dX4_hasNamed_4 : decode cX4_hasNamed 4 = .ok (.getfield 25, 3) := by decide +kernel
theorem dX4_hasNamed_7 : decode cX4_hasNamed 7 = .ok (.if_icmp .ge 25, 3) := by decide +kernel
theorem dX4_hasNamed_10 : decode cX4_hasNamed 10 = .ok (.aload_n 0, 1) := by decide +kernel
theorem dX4_hasNamed_11 : decode cX4_hasNamed 11 = .ok (.getfield 11, 3) := by decide +kernel
theorem dX4_hasNamed_14 : decode cX4_hasNamed 14 = .ok (.iload_n 3, 1) := by decide +kernel
theorem dX4_hasNamed_15 : decode cX4_hasNamed 15 = .ok (.aaload, 1) := by decide +kernel
theorem dX4_hasNamed_16 : decode cX4_hasNamed 16 = .ok (.iload_n 1, 1) := by decide +kernel
theorem dX4_hasNamed_17 : decode cX4_hasNamed 17 = .ok (.iload_n 2, 1) := by decide +kernel
theorem dX4_hasNamed_18 : decode cX4_hasNamed 18 = .ok (.invokevirtual 61, 3) := by decide +kernel
theorem dX4_hasNamed_21 : decode cX4_hasNamed 21 = .ok (.ifCond .eq 5, 3) := by decide +kernel
theorem dX4_hasNamed_24 : decode cX4_hasNamed 24 = .ok (.iconst 1, 1) := by decide +kernel
theorem dX4_hasNamed_25 : decode cX4_hasNamed 25 = .ok (.ireturn, 1) := by decide +kernel
theorem dX4_hasNamed_26 : decode cX4_hasNamed 26 = .ok (.iinc 3 1, 3) := by decide +kernel
theorem dX4_hasNamed_29 : decode cX4_hasNamed 29 = .ok (.goto (-27), 3) := by decide +kernel
theorem dX4_hasNamed_32 : decode cX4_hasNamed 32 = .ok (.iconst 0, 1) := by decide +kernel
theorem dX4_hasNamed_33 : decode cX4_hasNamed 33 = .ok (.ireturn, 1) := by decide +kernel
theorem dX4_has_0 : decode cX4_has 0 = .ok (.iconst 0, 1) := by decide +kernel
theorem dX4_has_1 : decode cX4_has 1 = .ok (.istore 4, 2) := by decide +kernel
theorem dX4_has_3 : decode cX4_has 3 = .ok (.iload 4, 2) := by decide +kernel
theorem dX4_has_5 : decode cX4_has 5 = .ok (.aload_n 0, 1) := by decide +kernel
theorem dX4_has_6 : decode cX4_has 6 = .ok (.getfield 25, 3) := by decide +kernel
theorem dX4_has_9 : decode cX4_has 9 = .ok (.if_icmp .ge 40, 3) := by decide +kernel
theorem dX4_has_12 : decode cX4_has 12 = .ok (.aload_n 0, 1) := by decide +kernel
theorem dX4_has_13 : decode cX4_has 13 = .ok (.getfield 11, 3) := by decide +kernel
theorem dX4_has_16 : decode cX4_has 16 = .ok (.iload 4, 2) := by decide +kernel
theorem dX4_has_18 : decode cX4_has 18 = .ok (.aaload, 1) := by decide +kernel
theorem dX4_has_19 : decode cX4_has 19 = .ok (.iload_n 1, 1) := by decide +kernel
theorem dX4_has_20 : decode cX4_has 20 = .ok (.iload_n 2, 1) := by decide +kernel
theorem dX4_has_21 : decode cX4_has 21 = .ok (.invokevirtual 61, 3) := by decide +kernel
theorem dX4_has_24 : decode cX4_has 24 = .ok (.ifCond .eq 19, 3) := by decide +kernel
theorem dX4_has_27 : decode cX4_has 27 = .ok (.aload_n 0, 1) := by decide +kernel
theorem dX4_has_28 : decode cX4_has 28 = .ok (.getfield 11, 3) := by decide +kernel
theorem dX4_has_31 : decode cX4_has 31 = .ok (.iload 4, 2) := by decide +kernel
theorem dX4_has_33 : decode cX4_has 33 = .ok (.aaload, 1) := by decide +kernel
theorem dX4_has_34 : decode cX4_has 34 = .ok (.getfield 52, 3) := by decide +kernel
theorem dX4_has_37 : decode cX4_has 37 = .ok (.iload_n 3, 1) := by decide +kernel
theorem dX4_has_38 : decode cX4_has 38 = .ok (.if_icmp .ne 5, 3) := by decide +kernel
theorem dX4_has_41 : decode cX4_has 41 = .ok (.iconst 1, 1) := by decide +kernel
theorem dX4_has_42 : decode cX4_has 42 = .ok (.ireturn, 1) := by decide +kernel
theorem dX4_has_43 : decode cX4_has 43 = .ok (.iinc 4 1, 3) := by decide +kernel
theorem dX4_has_46 : decode cX4_has 46 = .ok (.goto (-43), 3) := by decide +kernel
theorem dX4_has_49 : decode cX4_has 49 = .ok (.iconst 0, 1) := by decide +kernel
theorem dX4_has_50 : decode cX4_has 50 = .ok (.ireturn, 1) := by decide +kernel
theorem dX4_owns_0 : decode cX4_owns 0 = .ok (.iconst 0, 1) := by decide +kernel
theorem dX4_owns_1 : decode cX4_owns 1 = .ok (.istore 4, 2) := by decide +kernel
theorem dX4_owns_3 : decode cX4_owns 3 = .ok (.iload 4, 2) := by decide +kernel
theorem dX4_owns_5 : decode cX4_owns 5 = .ok (.aload_n 0, 1) := by decide +kernel
theorem dX4_owns_6 : decode cX4_owns 6 = .ok (.getfield 25, 3) := by decide +kernel
theorem dX4_owns_9 : decode cX4_owns 9 = .ok (.if_icmp .ge 47, 3) := by decide +kernel
theorem dX4_owns_12 : decode cX4_owns 12 = .ok (.aload_n 0, 1) := by decide +kernel
theorem dX4_owns_13 : decode cX4_owns 13 = .ok (.getfield 11, 3) := by decide +kernel
theorem dX4_owns_16 : decode cX4_owns 16 = .ok (.iload 4, 2) := by decide +kernel
theorem dX4_owns_18 : decode cX4_owns 18 = .ok (.aaload, 1) := by decide +kernel
theorem dX4_owns_19 : decode cX4_owns 19 = .ok (.astore 5, 2) := by decide +kernel
theorem dX4_owns_21 : decode cX4_owns 21 = .ok (.aload 5, 2) := by decide +kernel
theorem dX4_owns_23 : decode cX4_owns 23 = .ok (.invokevirtual 65, 3) := by decide +kernel
theorem dX4_owns_26 : decode cX4_owns 26 = .ok (.ifCond .eq 24, 3) := by decide +kernel
theorem dX4_owns_29 : decode cX4_owns 29 = .ok (.aload 5, 2) := by decide +kernel
theorem dX4_owns_31 : decode cX4_owns 31 = .ok (.iload_n 1, 1) := by decide +kernel
theorem dX4_owns_32 : decode cX4_owns 32 = .ok (.iload_n 2, 1) := by decide +kernel
theorem dX4_owns_33 : decode cX4_owns 33 = .ok (.invokevirtual 61, 3) := by decide +kernel
theorem dX4_owns_36 : decode cX4_owns 36 = .ok (.ifCond .eq 14, 3) := by decide +kernel
theorem dX4_owns_39 : decode cX4_owns 39 = .ok (.aload 5, 2) := by decide +kernel
theorem dX4_owns_41 : decode cX4_owns 41 = .ok (.getfield 52, 3) := by decide +kernel
theorem dX4_owns_44 : decode cX4_owns 44 = .ok (.iload_n 3, 1) := by decide +kernel
theorem dX4_owns_45 : decode cX4_owns 45 = .ok (.if_icmp .ne 5, 3) := by decide +kernel
theorem dX4_owns_48 : decode cX4_owns 48 = .ok (.iconst 1, 1) := by decide +kernel
theorem dX4_owns_49 : decode cX4_owns 49 = .ok (.ireturn, 1) := by decide +kernel
theorem dX4_owns_50 : decode cX4_owns 50 = .ok (.iinc 4 1, 3) := by decide +kernel
theorem dX4_owns_53 : decode cX4_owns 53 = .ok (.goto (-50), 3) := by decide +kernel
theorem dX4_owns_56 : decode cX4_owns 56 = .ok (.iconst 0, 1) := by decide +kernel
theorem dX4_owns_57 : decode cX4_owns 57 = .ok (.ireturn, 1) := by decide +kernel
theorem dX4_ownedCount_0 : decode cX4_ownedCount 0 = .ok (.iconst 0, 1) := by decide +kernel
theorem dX4_ownedCount_1 : decode cX4_ownedCount 1 = .ok (.istore_n 1, 1) := by decide +kernel
theorem dX4_ownedCount_2 : decode cX4_ownedCount 2 = .ok (.iconst 0, 1) := by decide +kernel
theorem dX4_ownedCount_3 : decode cX4_ownedCount 3 = .ok (.istore_n 2, 1) := by decide +kernel
theorem dX4_ownedCount_4 : decode cX4_ownedCount 4 = .ok (.iload_n 2, 1) := by decide +kernel
theorem dX4_ownedCount_5 : decode cX4_ownedCount 5 = .ok (.aload_n 0, 1) := by decide +kernel
theorem dX4_ownedCount_6 : decode cX4_ownedCount 6 = .ok (.getfield 25, 3) := by decide +kernel
theorem dX4_ownedCount_9 : decode cX4_ownedCount 9 = .ok (.if_icmp .ge 24, 3) := by decide +kernel
theorem dX4_ownedCount_12 : decode cX4_ownedCount 12 = .ok (.iload_n 1, 1) := by decide +kernel
theorem dX4_ownedCount_13 : decode cX4_ownedCount 13 = .ok (.aload_n 0, 1) := by decide +kernel
theorem dX4_ownedCount_14 : decode cX4_ownedCount 14 = .ok (.getfield 11, 3) := by decide +kernel
theorem dX4_ownedCount_17 : decode cX4_ownedCount 17 = .ok (.iload_n 2, 1) := by decide +kernel
theorem dX4_ownedCount_18 : decode cX4_ownedCount 18 = .ok (.aaload, 1) := by decide +kernel
theorem dX4_ownedCount_19 : decode cX4_ownedCount 19 = .ok (.invokevirtual 65, 3) := by decide +kernel
theorem dX4_ownedCount_22 : decode cX4_ownedCount 22 = .ok (.invokestatic 69, 3) := by decide +kernel
theorem dX4_ownedCount_25 : decode cX4_ownedCount 25 = .ok (.iadd, 1) := by decide +kernel
theorem dX4_ownedCount_26 : decode cX4_ownedCount 26 = .ok (.istore_n 1, 1) := by decide +kernel
theorem dX4_ownedCount_27 : decode cX4_ownedCount 27 = .ok (.iinc 2 1, 3) := by decide +kernel
theorem dX4_ownedCount_30 : decode cX4_ownedCount 30 = .ok (.goto (-26), 3) := by decide +kernel
theorem dX4_ownedCount_33 : decode cX4_ownedCount 33 = .ok (.iload_n 1, 1) := by decide +kernel
theorem dX4_ownedCount_34 : decode cX4_ownedCount 34 = .ok (.ireturn, 1) := by decide +kernel
theorem dX4_firstSole_0 : decode cX4_firstSole 0 = .ok (.iconst 0, 1) := by decide +kernel
theorem dX4_firstSole_1 : decode cX4_firstSole 1 = .ok (.istore_n 3, 1) := by decide +kernel
theorem dX4_firstSole_2 : decode cX4_firstSole 2 = .ok (.iload_n 3, 1) := by decide +kernel
theorem dX4_firstSole_3 : decode cX4_firstSole 3 = .ok (.aload_n 0, 1) := by decide +kernel
theorem dX4_firstSole_4 : decode cX4_firstSole 4 = .ok (.getfield 25, 3) := by decide +kernel
theorem dX4_firstSole_7 : decode cX4_firstSole 7 = .ok (.if_icmp .ge 45, 3) := by decide +kernel
theorem dX4_firstSole_10 : decode cX4_firstSole 10 = .ok (.aload_n 0, 1) := by decide +kernel
theorem dX4_firstSole_11 : decode cX4_firstSole 11 = .ok (.getfield 11, 3) := by decide +kernel
theorem dX4_firstSole_14 : decode cX4_firstSole 14 = .ok (.iload_n 3, 1) := by decide +kernel
theorem dX4_firstSole_15 : decode cX4_firstSole 15 = .ok (.aaload, 1) := by decide +kernel
theorem dX4_firstSole_16 : decode cX4_firstSole 16 = .ok (.astore 4, 2) := by decide +kernel
theorem dX4_firstSole_18 : decode cX4_firstSole 18 = .ok (.aload 4, 2) := by decide +kernel
theorem dX4_firstSole_20 : decode cX4_firstSole 20 = .ok (.getfield 73, 3) := by decide +kernel
theorem dX4_firstSole_23 : decode cX4_firstSole 23 = .ok (.ifCond .eq 23, 3) := by decide +kernel
theorem dX4_firstSole_26 : decode cX4_firstSole 26 = .ok (.aload 4, 2) := by decide +kernel
theorem dX4_firstSole_28 : decode cX4_firstSole 28 = .ok (.invokevirtual 65, 3) := by decide +kernel
theorem dX4_firstSole_31 : decode cX4_firstSole 31 = .ok (.ifCond .eq 15, 3) := by decide +kernel
theorem dX4_firstSole_34 : decode cX4_firstSole 34 = .ok (.aload 4, 2) := by decide +kernel
theorem dX4_firstSole_36 : decode cX4_firstSole 36 = .ok (.iload_n 1, 1) := by decide +kernel
theorem dX4_firstSole_37 : decode cX4_firstSole 37 = .ok (.iload_n 2, 1) := by decide +kernel
theorem dX4_firstSole_38 : decode cX4_firstSole 38 = .ok (.invokevirtual 61, 3) := by decide +kernel
theorem dX4_firstSole_41 : decode cX4_firstSole 41 = .ok (.ifCond .eq 5, 3) := by decide +kernel
theorem dX4_firstSole_44 : decode cX4_firstSole 44 = .ok (.iload_n 3, 1) := by decide +kernel
theorem dX4_firstSole_45 : decode cX4_firstSole 45 = .ok (.ireturn, 1) := by decide +kernel
theorem dX4_firstSole_46 : decode cX4_firstSole 46 = .ok (.iinc 3 1, 3) := by decide +kernel
theorem dX4_firstSole_49 : decode cX4_firstSole 49 = .ok (.goto (-47), 3) := by decide +kernel
theorem dX4_firstSole_52 : decode cX4_firstSole 52 = .ok (.iconst (-1), 1) := by decide +kernel
theorem dX4_firstSole_53 : decode cX4_firstSole 53 = .ok (.ireturn, 1) := by decide +kernel
theorem dX4_ownsRivalOf_0 : decode cX4_ownsRivalOf 0 = .ok (.iconst 0, 1) := by decide +kernel
theorem dX4_ownsRivalOf_1 : decode cX4_ownsRivalOf 1 = .ok (.istore_n 2, 1) := by decide +kernel
theorem dX4_ownsRivalOf_2 : decode cX4_ownsRivalOf 2 = .ok (.iload_n 2, 1) := by decide +kernel
theorem dX4_ownsRivalOf_3 : decode cX4_ownsRivalOf 3 = .ok (.aload_n 0, 1) := by decide +kernel
theorem dX4_ownsRivalOf_4 : decode cX4_ownsRivalOf 4 = .ok (.getfield 25, 3) := by decide +kernel
theorem dX4_ownsRivalOf_7 : decode cX4_ownsRivalOf 7 = .ok (.if_icmp .ge 58, 3) := by decide +kernel
theorem dX4_ownsRivalOf_10 : decode cX4_ownsRivalOf 10 = .ok (.aload_n 0, 1) := by decide +kernel
theorem dX4_ownsRivalOf_11 : decode cX4_ownsRivalOf 11 = .ok (.getfield 11, 3) := by decide +kernel
theorem dX4_ownsRivalOf_14 : decode cX4_ownsRivalOf 14 = .ok (.iload_n 2, 1) := by decide +kernel
theorem dX4_ownsRivalOf_15 : decode cX4_ownsRivalOf 15 = .ok (.aaload, 1) := by decide +kernel
theorem dX4_ownsRivalOf_16 : decode cX4_ownsRivalOf 16 = .ok (.astore_n 3, 1) := by decide +kernel
theorem dX4_ownsRivalOf_17 : decode cX4_ownsRivalOf 17 = .ok (.aload_n 3, 1) := by decide +kernel
theorem dX4_ownsRivalOf_18 : decode cX4_ownsRivalOf 18 = .ok (.getfield 73, 3) := by decide +kernel
theorem dX4_ownsRivalOf_21 : decode cX4_ownsRivalOf 21 = .ok (.ifCond .eq 38, 3) := by decide +kernel
theorem dX4_ownsRivalOf_24 : decode cX4_ownsRivalOf 24 = .ok (.aload_n 3, 1) := by decide +kernel
theorem dX4_ownsRivalOf_25 : decode cX4_ownsRivalOf 25 = .ok (.invokevirtual 65, 3) := by decide +kernel
theorem dX4_ownsRivalOf_28 : decode cX4_ownsRivalOf 28 = .ok (.ifCond .eq 31, 3) := by decide +kernel
theorem dX4_ownsRivalOf_31 : decode cX4_ownsRivalOf 31 = .ok (.aload_n 3, 1) := by decide +kernel
theorem dX4_ownsRivalOf_32 : decode cX4_ownsRivalOf 32 = .ok (.aload_n 1, 1) := by decide +kernel
theorem dX4_ownsRivalOf_33 : decode cX4_ownsRivalOf 33 = .ok (.getfield 46, 3) := by decide +kernel
theorem dX4_ownsRivalOf_36 : decode cX4_ownsRivalOf 36 = .ok (.aload_n 1, 1) := by decide +kernel
theorem dX4_ownsRivalOf_37 : decode cX4_ownsRivalOf 37 = .ok (.getfield 49, 3) := by decide +kernel
theorem dX4_ownsRivalOf_40 : decode cX4_ownsRivalOf 40 = .ok (.invokevirtual 61, 3) := by decide +kernel
theorem dX4_ownsRivalOf_43 : decode cX4_ownsRivalOf 43 = .ok (.ifCond .eq 16, 3) := by decide +kernel
theorem dX4_ownsRivalOf_46 : decode cX4_ownsRivalOf 46 = .ok (.aload_n 3, 1) := by decide +kernel
theorem dX4_ownsRivalOf_47 : decode cX4_ownsRivalOf 47 = .ok (.getfield 52, 3) := by decide +kernel
theorem dX4_ownsRivalOf_50 : decode cX4_ownsRivalOf 50 = .ok (.aload_n 1, 1) := by decide +kernel
theorem dX4_ownsRivalOf_51 : decode cX4_ownsRivalOf 51 = .ok (.getfield 52, 3) := by decide +kernel
theorem dX4_ownsRivalOf_54 : decode cX4_ownsRivalOf 54 = .ok (.if_icmp .eq 5, 3) := by decide +kernel
theorem dX4_ownsRivalOf_57 : decode cX4_ownsRivalOf 57 = .ok (.iconst 1, 1) := by decide +kernel
theorem dX4_ownsRivalOf_58 : decode cX4_ownsRivalOf 58 = .ok (.ireturn, 1) := by decide +kernel
theorem dX4_ownsRivalOf_59 : decode cX4_ownsRivalOf 59 = .ok (.iinc 2 1, 3) := by decide +kernel
theorem dX4_ownsRivalOf_62 : decode cX4_ownsRivalOf 62 = .ok (.goto (-60), 3) := by decide +kernel
theorem dX4_ownsRivalOf_65 : decode cX4_ownsRivalOf 65 = .ok (.iconst 0, 1) := by decide +kernel
theorem dX4_ownsRivalOf_66 : decode cX4_ownsRivalOf 66 = .ok (.ireturn, 1) := by decide +kernel
theorem dX4_outbids_0 : decode cX4_outbids 0 = .ok (.iconst 0, 1) := by decide +kernel
theorem dX4_outbids_1 : decode cX4_outbids 1 = .ok (.istore_n 2, 1) := by decide +kernel
theorem dX4_outbids_2 : decode cX4_outbids 2 = .ok (.iload_n 2, 1) := by decide +kernel
theorem dX4_outbids_3 : decode cX4_outbids 3 = .ok (.aload_n 0, 1) := by decide +kernel
theorem dX4_outbids_4 : decode cX4_outbids 4 = .ok (.getfield 25, 3) := by decide +kernel
theorem dX4_outbids_7 : decode cX4_outbids 7 = .ok (.if_icmp .ge 51, 3) := by decide +kernel
theorem dX4_outbids_10 : decode cX4_outbids 10 = .ok (.aload_n 0, 1) := by decide +kernel
theorem dX4_outbids_11 : decode cX4_outbids 11 = .ok (.getfield 11, 3) := by decide +kernel
theorem dX4_outbids_14 : decode cX4_outbids 14 = .ok (.iload_n 2, 1) := by decide +kernel
theorem dX4_outbids_15 : decode cX4_outbids 15 = .ok (.aaload, 1) := by decide +kernel
theorem dX4_outbids_16 : decode cX4_outbids 16 = .ok (.astore_n 3, 1) := by decide +kernel
theorem dX4_outbids_17 : decode cX4_outbids 17 = .ok (.aload_n 3, 1) := by decide +kernel
theorem dX4_outbids_18 : decode cX4_outbids 18 = .ok (.invokevirtual 65, 3) := by decide +kernel
theorem dX4_outbids_21 : decode cX4_outbids 21 = .ok (.ifCond .ne 31, 3) := by decide +kernel
theorem dX4_outbids_24 : decode cX4_outbids 24 = .ok (.aload_n 3, 1) := by decide +kernel
theorem dX4_outbids_25 : decode cX4_outbids 25 = .ok (.aload_n 1, 1) := by decide +kernel
theorem dX4_outbids_26 : decode cX4_outbids 26 = .ok (.getfield 46, 3) := by decide +kernel
theorem dX4_outbids_29 : decode cX4_outbids 29 = .ok (.aload_n 1, 1) := by decide +kernel
theorem dX4_outbids_30 : decode cX4_outbids 30 = .ok (.getfield 49, 3) := by decide +kernel
theorem dX4_outbids_33 : decode cX4_outbids 33 = .ok (.invokevirtual 61, 3) := by decide +kernel
theorem dX4_outbids_36 : decode cX4_outbids 36 = .ok (.ifCond .eq 16, 3) := by decide +kernel
theorem dX4_outbids_39 : decode cX4_outbids 39 = .ok (.aload_n 3, 1) := by decide +kernel
theorem dX4_outbids_40 : decode cX4_outbids 40 = .ok (.getfield 52, 3) := by decide +kernel
theorem dX4_outbids_43 : decode cX4_outbids 43 = .ok (.aload_n 1, 1) := by decide +kernel
theorem dX4_outbids_44 : decode cX4_outbids 44 = .ok (.getfield 52, 3) := by decide +kernel
theorem dX4_outbids_47 : decode cX4_outbids 47 = .ok (.if_icmp .le 5, 3) := by decide +kernel
theorem dX4_outbids_50 : decode cX4_outbids 50 = .ok (.iconst 1, 1) := by decide +kernel
theorem dX4_outbids_51 : decode cX4_outbids 51 = .ok (.ireturn, 1) := by decide +kernel
theorem dX4_outbids_52 : decode cX4_outbids 52 = .ok (.iinc 2 1, 3) := by decide +kernel
theorem dX4_outbids_55 : decode cX4_outbids 55 = .ok (.goto (-53), 3) := by decide +kernel
theorem dX4_outbids_58 : decode cX4_outbids 58 = .ok (.iconst 0, 1) := by decide +kernel
theorem dX4_outbids_59 : decode cX4_outbids 59 = .ok (.ireturn, 1) := by decide +kernel
theorem dX5_init_0 : decode cX5_init 0 = .ok (.aload_n 0, 1) := by decide +kernel
theorem dX5_init_1 : decode cX5_init 1 = .ok (.invokespecial 3, 3) := by decide +kernel
theorem dX5_init_4 : decode cX5_init 4 = .ok (.aload_n 0, 1) := by decide +kernel
theorem dX5_init_5 : decode cX5_init 5 = .ok (.bipush 6, 2) := by decide +kernel
theorem dX5_init_7 : decode cX5_init 7 = .ok (.anewarray 9, 3) := by decide +kernel
theorem dX5_init_10 : decode cX5_init 10 = .ok (.putfield 11, 3) := by decide +kernel
theorem dX5_init_13 : decode cX5_init 13 = .ok (.iconst 0, 1) := by decide +kernel
theorem dX5_init_14 : decode cX5_init 14 = .ok (.istore_n 1, 1) := by decide +kernel
theorem dX5_init_15 : decode cX5_init 15 = .ok (.iload_n 1, 1) := by decide +kernel
theorem dX5_init_16 : decode cX5_init 16 = .ok (.bipush 6, 2) := by decide +kernel
theorem dX5_init_18 : decode cX5_init 18 = .ok (.if_icmp .ge 22, 3) := by decide +kernel
theorem dX5_init_21 : decode cX5_init 21 = .ok (.aload_n 0, 1) := by decide +kernel
theorem dX5_init_22 : decode cX5_init 22 = .ok (.getfield 11, 3) := by decide +kernel
theorem dX5_init_25 : decode cX5_init 25 = .ok (.iload_n 1, 1) := by decide +kernel
theorem dX5_init_26 : decode cX5_init 26 = .ok (.new 9, 3) := by decide +kernel
theorem dX5_init_29 : decode cX5_init 29 = .ok (.dup, 1) := by decide +kernel
theorem dX5_init_30 : decode cX5_init 30 = .ok (.invokespecial 17, 3) := by decide +kernel
theorem dX5_init_33 : decode cX5_init 33 = .ok (.aastore, 1) := by decide +kernel
theorem dX5_init_34 : decode cX5_init 34 = .ok (.iinc 1 1, 3) := by decide +kernel
theorem dX5_init_37 : decode cX5_init 37 = .ok (.goto (-22), 3) := by decide +kernel
theorem dX5_init_40 : decode cX5_init 40 = .ok (.aload_n 0, 1) := by decide +kernel
theorem dX5_init_41 : decode cX5_init 41 = .ok (.new 18, 3) := by decide +kernel
theorem dX5_init_44 : decode cX5_init 44 = .ok (.dup, 1) := by decide +kernel
theorem dX5_init_45 : decode cX5_init 45 = .ok (.invokespecial 20, 3) := by decide +kernel
theorem dX5_init_48 : decode cX5_init 48 = .ok (.putfield 21, 3) := by decide +kernel
theorem dX5_init_51 : decode cX5_init 51 = .ok (.return_, 1) := by decide +kernel
theorem dX5_become_0 : decode cX5_become 0 = .ok (.aload_n 0, 1) := by decide +kernel
theorem dX5_become_1 : decode cX5_become 1 = .ok (.aload_n 1, 1) := by decide +kernel
theorem dX5_become_2 : decode cX5_become 2 = .ok (.getfield 25, 3) := by decide +kernel
theorem dX5_become_5 : decode cX5_become 5 = .ok (.putfield 25, 3) := by decide +kernel
theorem dX5_become_8 : decode cX5_become 8 = .ok (.iconst 0, 1) := by decide +kernel
theorem dX5_become_9 : decode cX5_become 9 = .ok (.istore_n 2, 1) := by decide +kernel
theorem dX5_become_10 : decode cX5_become 10 = .ok (.iload_n 2, 1) := by decide +kernel
theorem dX5_become_11 : decode cX5_become 11 = .ok (.aload_n 0, 1) := by decide +kernel
theorem dX5_become_12 : decode cX5_become 12 = .ok (.getfield 25, 3) := by decide +kernel
theorem dX5_become_15 : decode cX5_become 15 = .ok (.if_icmp .ge 24, 3) := by decide +kernel
theorem dX5_become_18 : decode cX5_become 18 = .ok (.aload_n 0, 1) := by decide +kernel
theorem dX5_become_19 : decode cX5_become 19 = .ok (.getfield 11, 3) := by decide +kernel
theorem dX5_become_22 : decode cX5_become 22 = .ok (.iload_n 2, 1) := by decide +kernel
theorem dX5_become_23 : decode cX5_become 23 = .ok (.aaload, 1) := by decide +kernel
theorem dX5_become_24 : decode cX5_become 24 = .ok (.aload_n 1, 1) := by decide +kernel
theorem dX5_become_25 : decode cX5_become 25 = .ok (.getfield 11, 3) := by decide +kernel
theorem dX5_become_28 : decode cX5_become 28 = .ok (.iload_n 2, 1) := by decide +kernel
theorem dX5_become_29 : decode cX5_become 29 = .ok (.aaload, 1) := by decide +kernel
theorem dX5_become_30 : decode cX5_become 30 = .ok (.invokevirtual 29, 3) := by decide +kernel
theorem dX5_become_33 : decode cX5_become 33 = .ok (.iinc 2 1, 3) := by decide +kernel
theorem dX5_become_36 : decode cX5_become 36 = .ok (.goto (-26), 3) := by decide +kernel
theorem dX5_become_39 : decode cX5_become 39 = .ok (.aload_n 0, 1) := by decide +kernel
theorem dX5_become_40 : decode cX5_become 40 = .ok (.aload_n 1, 1) := by decide +kernel
theorem dX5_become_41 : decode cX5_become 41 = .ok (.getfield 33, 3) := by decide +kernel
theorem dX5_become_44 : decode cX5_become 44 = .ok (.putfield 33, 3) := by decide +kernel
theorem dX5_become_47 : decode cX5_become 47 = .ok (.aload_n 0, 1) := by decide +kernel
theorem dX5_become_48 : decode cX5_become 48 = .ok (.aload_n 1, 1) := by decide +kernel
theorem dX5_become_49 : decode cX5_become 49 = .ok (.getfield 36, 3) := by decide +kernel
theorem dX5_become_52 : decode cX5_become 52 = .ok (.putfield 36, 3) := by decide +kernel
theorem dX5_become_55 : decode cX5_become 55 = .ok (.aload_n 0, 1) := by decide +kernel
theorem dX5_become_56 : decode cX5_become 56 = .ok (.aload_n 1, 1) := by decide +kernel
theorem dX5_become_57 : decode cX5_become 57 = .ok (.getfield 39, 3) := by decide +kernel
theorem dX5_become_60 : decode cX5_become 60 = .ok (.putfield 39, 3) := by decide +kernel
theorem dX5_become_63 : decode cX5_become 63 = .ok (.aload_n 0, 1) := by decide +kernel
theorem dX5_become_64 : decode cX5_become 64 = .ok (.aload_n 1, 1) := by decide +kernel
theorem dX5_become_65 : decode cX5_become 65 = .ok (.getfield 42, 3) := by decide +kernel
theorem dX5_become_68 : decode cX5_become 68 = .ok (.putfield 42, 3) := by decide +kernel
theorem dX5_become_71 : decode cX5_become 71 = .ok (.aload_n 0, 1) := by decide +kernel
theorem dX5_become_72 : decode cX5_become 72 = .ok (.aload_n 1, 1) := by decide +kernel
theorem dX5_become_73 : decode cX5_become 73 = .ok (.getfield 45, 3) := by decide +kernel
theorem dX5_become_76 : decode cX5_become 76 = .ok (.putfield 45, 3) := by decide +kernel
theorem dX5_become_79 : decode cX5_become 79 = .ok (.aload_n 0, 1) := by decide +kernel
theorem dX5_become_80 : decode cX5_become 80 = .ok (.aload_n 1, 1) := by decide +kernel
theorem dX5_become_81 : decode cX5_become 81 = .ok (.getfield 48, 3) := by decide +kernel
theorem dX5_become_84 : decode cX5_become 84 = .ok (.putfield 48, 3) := by decide +kernel
theorem dX5_become_87 : decode cX5_become 87 = .ok (.aload_n 0, 1) := by decide +kernel
theorem dX5_become_88 : decode cX5_become 88 = .ok (.aload_n 1, 1) := by decide +kernel
theorem dX5_become_89 : decode cX5_become 89 = .ok (.getfield 51, 3) := by decide +kernel
theorem dX5_become_92 : decode cX5_become 92 = .ok (.putfield 51, 3) := by decide +kernel
theorem dX5_become_95 : decode cX5_become 95 = .ok (.return_, 1) := by decide +kernel
theorem dX5_isHost_0 : decode cX5_isHost 0 = .ok (.iload_n 1, 1) := by decide +kernel
theorem dX5_isHost_1 : decode cX5_isHost 1 = .ok (.ifCond .lt 15, 3) := by decide +kernel
theorem dX5_isHost_4 : decode cX5_isHost 4 = .ok (.iload_n 1, 1) := by decide +kernel
theorem dX5_isHost_5 : decode cX5_isHost 5 = .ok (.aload_n 0, 1) := by decide +kernel
theorem dX5_isHost_6 : decode cX5_isHost 6 = .ok (.getfield 25, 3) := by decide +kernel
theorem dX5_isHost_9 : decode cX5_isHost 9 = .ok (.if_icmp .ge 7, 3) := by decide +kernel
theorem dX5_isHost_12 : decode cX5_isHost 12 = .ok (.iconst 1, 1) := by decide +kernel
theorem dX5_isHost_13 : decode cX5_isHost 13 = .ok (.goto 4, 3) := by decide +kernel
theorem dX5_isHost_16 : decode cX5_isHost 16 = .ok (.iconst 0, 1) := by decide +kernel
theorem dX5_isHost_17 : decode cX5_isHost 17 = .ok (.ireturn, 1) := by decide +kernel
theorem dX5_isRecord_0 : decode cX5_isRecord 0 = .ok (.aload_n 0, 1) := by decide +kernel
theorem dX5_isRecord_1 : decode cX5_isRecord 1 = .ok (.iload_n 1, 1) := by decide +kernel
theorem dX5_isRecord_2 : decode cX5_isRecord 2 = .ok (.invokevirtual 55, 3) := by decide +kernel
theorem dX5_isRecord_5 : decode cX5_isRecord 5 = .ok (.ifCond .eq 24, 3) := by decide +kernel
theorem dX5_isRecord_8 : decode cX5_isRecord 8 = .ok (.iload_n 2, 1) := by decide +kernel
theorem dX5_isRecord_9 : decode cX5_isRecord 9 = .ok (.ifCond .lt 20, 3) := by decide +kernel
theorem dX5_isRecord_12 : decode cX5_isRecord 12 = .ok (.iload_n 2, 1) := by decide +kernel
theorem dX5_isRecord_13 : decode cX5_isRecord 13 = .ok (.aload_n 0, 1) := by decide +kernel
theorem dX5_isRecord_14 : decode cX5_isRecord 14 = .ok (.getfield 11, 3) := by decide +kernel
theorem dX5_isRecord_17 : decode cX5_isRecord 17 = .ok (.iload_n 1, 1) := by decide +kernel
theorem dX5_isRecord_18 : decode cX5_isRecord 18 = .ok (.aaload, 1) := by decide +kernel
theorem dX5_isRecord_19 : decode cX5_isRecord 19 = .ok (.getfield 59, 3) := by decide +kernel
theorem dX5_isRecord_22 : decode cX5_isRecord 22 = .ok (.if_icmp .ge 7, 3) := by decide +kernel
theorem dX5_isRecord_25 : decode cX5_isRecord 25 = .ok (.iconst 1, 1) := by decide +kernel
theorem dX5_isRecord_26 : decode cX5_isRecord 26 = .ok (.goto 4, 3) := by decide +kernel
theorem dX5_isRecord_29 : decode cX5_isRecord 29 = .ok (.iconst 0, 1) := by decide +kernel
theorem dX5_isRecord_30 : decode cX5_isRecord 30 = .ok (.ireturn, 1) := by decide +kernel
theorem dX5_isName_0 : decode cX5_isName 0 = .ok (.iload_n 0, 1) := by decide +kernel
theorem dX5_isName_1 : decode cX5_isName 1 = .ok (.iconst 0, 1) := by decide +kernel
theorem dX5_isName_2 : decode cX5_isName 2 = .ok (.bipush 15, 2) := by decide +kernel
theorem dX5_isName_4 : decode cX5_isName 4 = .ok (.invokestatic 62, 3) := by decide +kernel
theorem dX5_isName_7 : decode cX5_isName 7 = .ok (.ifCond .eq 16, 3) := by decide +kernel
theorem dX5_isName_10 : decode cX5_isName 10 = .ok (.iload_n 1, 1) := by decide +kernel
theorem dX5_isName_11 : decode cX5_isName 11 = .ok (.iconst 0, 1) := by decide +kernel
theorem dX5_isName_12 : decode cX5_isName 12 = .ok (.iconst 3, 1) := by decide +kernel
theorem dX5_isName_13 : decode cX5_isName 13 = .ok (.invokestatic 62, 3) := by decide +kernel
theorem dX5_isName_16 : decode cX5_isName 16 = .ok (.ifCond .eq 7, 3) := by decide +kernel
theorem dX5_isName_19 : decode cX5_isName 19 = .ok (.iconst 1, 1) := by decide +kernel
theorem dX5_isName_20 : decode cX5_isName 20 = .ok (.goto 4, 3) := by decide +kernel
theorem dX5_isName_23 : decode cX5_isName 23 = .ok (.iconst 0, 1) := by decide +kernel
theorem dX5_isName_24 : decode cX5_isName 24 = .ok (.ireturn, 1) := by decide +kernel
theorem dX5_addHost_0 : decode cX5_addHost 0 = .ok (.aload_n 0, 1) := by decide +kernel
theorem dX5_addHost_1 : decode cX5_addHost 1 = .ok (.getfield 25, 3) := by decide +kernel
theorem dX5_addHost_4 : decode cX5_addHost 4 = .ok (.bipush 6, 2) := by decide +kernel
theorem dX5_addHost_6 : decode cX5_addHost 6 = .ok (.if_icmp .lt 6, 3) := by decide +kernel
theorem dX5_addHost_9 : decode cX5_addHost 9 = .ok (.bipush (-4), 2) := by decide +kernel
theorem dX5_addHost_11 : decode cX5_addHost 11 = .ok (.ireturn, 1) := by decide +kernel
theorem dX5_addHost_12 : decode cX5_addHost 12 = .ok (.aload_n 0, 1) := by decide +kernel
theorem dX5_addHost_13 : decode cX5_addHost 13 = .ok (.getfield 11, 3) := by decide +kernel
theorem dX5_addHost_16 : decode cX5_addHost 16 = .ok (.aload_n 0, 1) := by decide +kernel
theorem dX5_addHost_17 : decode cX5_addHost 17 = .ok (.getfield 25, 3) := by decide +kernel
theorem dX5_addHost_20 : decode cX5_addHost 20 = .ok (.aaload, 1) := by decide +kernel
theorem dX5_addHost_21 : decode cX5_addHost 21 = .ok (.invokevirtual 66, 3) := by decide +kernel
theorem dX5_addHost_24 : decode cX5_addHost 24 = .ok (.aload_n 0, 1) := by decide +kernel
theorem dX5_addHost_25 : decode cX5_addHost 25 = .ok (.dup, 1) := by decide +kernel
theorem dX5_addHost_26 : decode cX5_addHost 26 = .ok (.getfield 25, 3) := by decide +kernel
theorem dX5_addHost_29 : decode cX5_addHost 29 = .ok (.iconst 1, 1) := by decide +kernel
theorem dX5_addHost_30 : decode cX5_addHost 30 = .ok (.iadd, 1) := by decide +kernel
theorem dX5_addHost_31 : decode cX5_addHost 31 = .ok (.putfield 25, 3) := by decide +kernel
theorem dX5_addHost_34 : decode cX5_addHost 34 = .ok (.aload_n 0, 1) := by decide +kernel
theorem dX5_addHost_35 : decode cX5_addHost 35 = .ok (.getfield 25, 3) := by decide +kernel
theorem dX5_addHost_38 : decode cX5_addHost 38 = .ok (.iconst 1, 1) := by decide +kernel
theorem dX5_addHost_39 : decode cX5_addHost 39 = .ok (.isub, 1) := by decide +kernel
theorem dX5_addHost_40 : decode cX5_addHost 40 = .ok (.ireturn, 1) := by decide +kernel
theorem dX5_claim_0 : decode cX5_claim 0 = .ok (.aload_n 0, 1) := by decide +kernel
theorem dX5_claim_1 : decode cX5_claim 1 = .ok (.iload_n 1, 1) := by decide +kernel
theorem dX5_claim_2 : decode cX5_claim 2 = .ok (.iload_n 2, 1) := by decide +kernel
theorem dX5_claim_3 : decode cX5_claim 3 = .ok (.iload_n 3, 1) := by decide +kernel
theorem dX5_claim_4 : decode cX5_claim 4 = .ok (.iload 4, 2) := by decide +kernel
theorem dX5_claim_6 : decode cX5_claim 6 = .ok (.iload 5, 2) := by decide +kernel
theorem dX5_claim_8 : decode cX5_claim 8 = .ok (.invokevirtual 69, 3) := by decide +kernel
theorem dX5_claim_11 : decode cX5_claim 11 = .ok (.istore 6, 2) := by decide +kernel
theorem dX5_claim_13 : decode cX5_claim 13 = .ok (.iload 6, 2) := by decide +kernel
theorem dX5_claim_15 : decode cX5_claim 15 = .ok (.ifCond .eq 6, 3) := by decide +kernel
theorem dX5_claim_18 : decode cX5_claim 18 = .ok (.iload 6, 2) := by decide +kernel
theorem dX5_claim_20 : decode cX5_claim 20 = .ok (.ireturn, 1) := by decide +kernel
theorem dX5_claim_21 : decode cX5_claim 21 = .ok (.aload_n 0, 1) := by decide +kernel
theorem dX5_claim_22 : decode cX5_claim 22 = .ok (.getfield 11, 3) := by decide +kernel
theorem dX5_claim_25 : decode cX5_claim 25 = .ok (.iload_n 1, 1) := by decide +kernel
theorem dX5_claim_26 : decode cX5_claim 26 = .ok (.aaload, 1) := by decide +kernel
theorem dX5_claim_27 : decode cX5_claim 27 = .ok (.iload_n 2, 1) := by decide +kernel
theorem dX5_claim_28 : decode cX5_claim 28 = .ok (.iload_n 3, 1) := by decide +kernel
theorem dX5_claim_29 : decode cX5_claim 29 = .ok (.iload 4, 2) := by decide +kernel
theorem dX5_claim_31 : decode cX5_claim 31 = .ok (.iload 5, 2) := by decide +kernel
theorem dX5_claim_33 : decode cX5_claim 33 = .ok (.invokevirtual 73, 3) := by decide +kernel
theorem dX5_claim_36 : decode cX5_claim 36 = .ok (.astore 7, 2) := by decide +kernel
theorem dX5_claim_38 : decode cX5_claim 38 = .ok (.aload 7, 2) := by decide +kernel
theorem dX5_claim_40 : decode cX5_claim 40 = .ok (.iconst 1, 1) := by decide +kernel
theorem dX5_claim_41 : decode cX5_claim 41 = .ok (.putfield 77, 3) := by decide +kernel
theorem dX5_claim_44 : decode cX5_claim 44 = .ok (.aload 7, 2) := by decide +kernel
theorem dX5_claim_46 : decode cX5_claim 46 = .ok (.iconst 0, 1) := by decide +kernel
theorem dX5_claim_47 : decode cX5_claim 47 = .ok (.putfield 83, 3) := by decide +kernel
theorem dX5_claim_50 : decode cX5_claim 50 = .ok (.aload_n 0, 1) := by decide +kernel
theorem dX5_claim_51 : decode cX5_claim 51 = .ok (.getfield 11, 3) := by decide +kernel
theorem dX5_claim_54 : decode cX5_claim 54 = .ok (.iload_n 1, 1) := by decide +kernel
theorem dX5_claim_55 : decode cX5_claim 55 = .ok (.aaload, 1) := by decide +kernel
theorem dX5_claim_56 : decode cX5_claim 56 = .ok (.getfield 59, 3) := by decide +kernel
theorem dX5_claim_59 : decode cX5_claim 59 = .ok (.iconst 1, 1) := by decide +kernel
theorem dX5_claim_60 : decode cX5_claim 60 = .ok (.isub, 1) := by decide +kernel
theorem dX5_claim_61 : decode cX5_claim 61 = .ok (.ireturn, 1) := by decide +kernel
theorem dX5_share_0 : decode cX5_share 0 = .ok (.aload_n 0, 1) := by decide +kernel
theorem dX5_share_1 : decode cX5_share 1 = .ok (.iload_n 1, 1) := by decide +kernel
theorem dX5_share_2 : decode cX5_share 2 = .ok (.iload_n 2, 1) := by decide +kernel
theorem dX5_share_3 : decode cX5_share 3 = .ok (.iload_n 3, 1) := by decide +kernel
theorem dX5_share_4 : decode cX5_share 4 = .ok (.iload 4, 2) := by decide +kernel
theorem dX5_share_6 : decode cX5_share 6 = .ok (.iload 5, 2) := by decide +kernel
theorem dX5_share_8 : decode cX5_share 8 = .ok (.invokevirtual 69, 3) := by decide +kernel
theorem dX5_share_11 : decode cX5_share 11 = .ok (.istore 6, 2) := by decide +kernel
theorem dX5_share_13 : decode cX5_share 13 = .ok (.iload 6, 2) := by decide +kernel
theorem dX5_share_15 : decode cX5_share 15 = .ok (.ifCond .eq 6, 3) := by decide +kernel
theorem dX5_share_18 : decode cX5_share 18 = .ok (.iload 6, 2) := by decide +kernel
theorem dX5_share_20 : decode cX5_share 20 = .ok (.ireturn, 1) := by decide +kernel
theorem dX5_share_21 : decode cX5_share 21 = .ok (.aload_n 0, 1) := by decide +kernel
theorem dX5_share_22 : decode cX5_share 22 = .ok (.getfield 11, 3) := by decide +kernel
theorem dX5_share_25 : decode cX5_share 25 = .ok (.iload_n 1, 1) := by decide +kernel
theorem dX5_share_26 : decode cX5_share 26 = .ok (.aaload, 1) := by decide +kernel
theorem dX5_share_27 : decode cX5_share 27 = .ok (.iload_n 2, 1) := by decide +kernel
theorem dX5_share_28 : decode cX5_share 28 = .ok (.iload_n 3, 1) := by decide +kernel
theorem dX5_share_29 : decode cX5_share 29 = .ok (.iload 4, 2) := by decide +kernel
theorem dX5_share_31 : decode cX5_share 31 = .ok (.iload 5, 2) := by decide +kernel
theorem dX5_share_33 : decode cX5_share 33 = .ok (.invokevirtual 73, 3) := by decide +kernel
theorem dX5_share_36 : decode cX5_share 36 = .ok (.astore 7, 2) := by decide +kernel
theorem dX5_share_38 : decode cX5_share 38 = .ok (.aload 7, 2) := by decide +kernel
theorem dX5_share_40 : decode cX5_share 40 = .ok (.iconst 0, 1) := by decide +kernel
theorem dX5_share_41 : decode cX5_share 41 = .ok (.putfield 77, 3) := by decide +kernel
theorem dX5_share_44 : decode cX5_share 44 = .ok (.aload 7, 2) := by decide +kernel
theorem dX5_share_46 : decode cX5_share 46 = .ok (.iconst 3, 1) := by decide +kernel
theorem dX5_share_47 : decode cX5_share 47 = .ok (.putfield 83, 3) := by decide +kernel
theorem dX5_share_50 : decode cX5_share 50 = .ok (.aload_n 0, 1) := by decide +kernel
theorem dX5_share_51 : decode cX5_share 51 = .ok (.iload_n 1, 1) := by decide +kernel
theorem dX5_share_52 : decode cX5_share 52 = .ok (.aload 7, 2) := by decide +kernel
theorem dX5_share_54 : decode cX5_share 54 = .ok (.invokevirtual 86, 3) := by decide +kernel
theorem dX5_share_57 : decode cX5_share 57 = .ok (.aload_n 0, 1) := by decide +kernel
theorem dX5_share_58 : decode cX5_share 58 = .ok (.getfield 11, 3) := by decide +kernel
theorem dX5_share_61 : decode cX5_share 61 = .ok (.iload_n 1, 1) := by decide +kernel
theorem dX5_share_62 : decode cX5_share 62 = .ok (.aaload, 1) := by decide +kernel
theorem dX5_share_63 : decode cX5_share 63 = .ok (.getfield 59, 3) := by decide +kernel
theorem dX5_share_66 : decode cX5_share 66 = .ok (.iconst 1, 1) := by decide +kernel
theorem dX5_share_67 : decode cX5_share 67 = .ok (.isub, 1) := by decide +kernel
theorem dX5_share_68 : decode cX5_share 68 = .ok (.ireturn, 1) := by decide +kernel
theorem dX5_errorOfAdding_0 : decode cX5_errorOfAdding 0 = .ok (.aload_n 0, 1) := by decide +kernel
theorem dX5_errorOfAdding_1 : decode cX5_errorOfAdding 1 = .ok (.iload_n 1, 1) := by decide +kernel
theorem dX5_errorOfAdding_2 : decode cX5_errorOfAdding 2 = .ok (.invokevirtual 55, 3) := by decide +kernel
theorem dX5_errorOfAdding_5 : decode cX5_errorOfAdding 5 = .ok (.ifCond .eq 34, 3) := by decide +kernel
theorem dX5_errorOfAdding_8 : decode cX5_errorOfAdding 8 = .ok (.iload_n 2, 1) := by decide +kernel
theorem dX5_errorOfAdding_9 : decode cX5_errorOfAdding 9 = .ok (.iload_n 3, 1) := by decide +kernel
theorem dX5_errorOfAdding_10 : decode cX5_errorOfAdding 10 = .ok (.invokestatic 90, 3) := by decide +kernel
theorem dX5_errorOfAdding_13 : decode cX5_errorOfAdding 13 = .ok (.ifCond .eq 26, 3) := by decide +kernel
theorem dX5_errorOfAdding_16 : decode cX5_errorOfAdding 16 = .ok (.iload 4, 2) := by decide +kernel
theorem dX5_errorOfAdding_18 : decode cX5_errorOfAdding 18 = .ok (.iconst 0, 1) := by decide +kernel
theorem dX5_errorOfAdding_19 : decode cX5_errorOfAdding 19 = .ok (.sipush 255, 3) := by decide +kernel
theorem dX5_errorOfAdding_22 : decode cX5_errorOfAdding 22 = .ok (.invokestatic 62, 3) := by decide +kernel
theorem dX5_errorOfAdding_25 : decode cX5_errorOfAdding 25 = .ok (.ifCond .eq 14, 3) := by decide +kernel
theorem dX5_errorOfAdding_28 : decode cX5_errorOfAdding 28 = .ok (.iload 5, 2) := by decide +kernel
theorem dX5_errorOfAdding_30 : decode cX5_errorOfAdding 30 = .ok (.iconst 2, 1) := by decide +kernel
theorem dX5_errorOfAdding_31 : decode cX5_errorOfAdding 31 = .ok (.bipush 60, 2) := by decide +kernel
theorem dX5_errorOfAdding_33 : decode cX5_errorOfAdding 33 = .ok (.invokestatic 62, 3) := by decide +kernel
theorem dX5_errorOfAdding_36 : decode cX5_errorOfAdding 36 = .ok (.ifCond .ne 6, 3) := by decide +kernel
theorem dX5_errorOfAdding_39 : decode cX5_errorOfAdding 39 = .ok (.bipush (-2), 2) := by decide +kernel
theorem dX5_errorOfAdding_41 : decode cX5_errorOfAdding 41 = .ok (.ireturn, 1) := by decide +kernel
theorem dX5_errorOfAdding_42 : decode cX5_errorOfAdding 42 = .ok (.aload_n 0, 1) := by decide +kernel
theorem dX5_errorOfAdding_43 : decode cX5_errorOfAdding 43 = .ok (.getfield 11, 3) := by decide +kernel
theorem dX5_errorOfAdding_46 : decode cX5_errorOfAdding 46 = .ok (.iload_n 1, 1) := by decide +kernel
theorem dX5_errorOfAdding_47 : decode cX5_errorOfAdding 47 = .ok (.aaload, 1) := by decide +kernel
theorem dX5_errorOfAdding_48 : decode cX5_errorOfAdding 48 = .ok (.getfield 94, 3) := by decide +kernel
theorem dX5_errorOfAdding_51 : decode cX5_errorOfAdding 51 = .ok (.ifCond .eq 17, 3) := by decide +kernel
theorem dX5_errorOfAdding_54 : decode cX5_errorOfAdding 54 = .ok (.aload_n 0, 1) := by decide +kernel
theorem dX5_errorOfAdding_55 : decode cX5_errorOfAdding 55 = .ok (.getfield 11, 3) := by decide +kernel
theorem dX5_errorOfAdding_58 : decode cX5_errorOfAdding 58 = .ok (.iload_n 1, 1) := by decide +kernel
theorem dX5_errorOfAdding_59 : decode cX5_errorOfAdding 59 = .ok (.aaload, 1) := by decide +kernel
theorem dX5_errorOfAdding_60 : decode cX5_errorOfAdding 60 = .ok (.iload_n 2, 1) := by decide +kernel
theorem dX5_errorOfAdding_61 : decode cX5_errorOfAdding 61 = .ok (.iload_n 3, 1) := by decide +kernel
theorem dX5_errorOfAdding_62 : decode cX5_errorOfAdding 62 = .ok (.invokevirtual 97, 3) := by decide +kernel
theorem dX5_errorOfAdding_65 : decode cX5_errorOfAdding 65 = .ok (.ifCond .eq 6, 3) := by decide +kernel
theorem dX5_errorOfAdding_68 : decode cX5_errorOfAdding 68 = .ok (.bipush (-3), 2) := by decide +kernel
theorem dX5_errorOfAdding_70 : decode cX5_errorOfAdding 70 = .ok (.ireturn, 1) := by decide +kernel
theorem dX5_errorOfAdding_71 : decode cX5_errorOfAdding 71 = .ok (.aload_n 0, 1) := by decide +kernel
theorem dX5_errorOfAdding_72 : decode cX5_errorOfAdding 72 = .ok (.getfield 11, 3) := by decide +kernel
theorem dX5_errorOfAdding_75 : decode cX5_errorOfAdding 75 = .ok (.iload_n 1, 1) := by decide +kernel
theorem dX5_errorOfAdding_76 : decode cX5_errorOfAdding 76 = .ok (.aaload, 1) := by decide +kernel
theorem dX5_errorOfAdding_77 : decode cX5_errorOfAdding 77 = .ok (.getfield 59, 3) := by decide +kernel
theorem dX5_errorOfAdding_80 : decode cX5_errorOfAdding 80 = .ok (.iconst 5, 1) := by decide +kernel
theorem dX5_errorOfAdding_81 : decode cX5_errorOfAdding 81 = .ok (.if_icmp .lt 8, 3) := by decide +kernel
theorem dX5_errorOfAdding_84 : decode cX5_errorOfAdding 84 = .ok (.bipush (-4), 2) := by decide +kernel
theorem dX5_errorOfAdding_86 : decode cX5_errorOfAdding 86 = .ok (.goto 4, 3) := by decide +kernel
theorem dX5_errorOfAdding_89 : decode cX5_errorOfAdding 89 = .ok (.iconst 0, 1) := by decide +kernel
theorem dX5_errorOfAdding_90 : decode cX5_errorOfAdding 90 = .ok (.ireturn, 1) := by decide +kernel
theorem dX5_sayGoodbye_0 : decode cX5_sayGoodbye 0 = .ok (.aload_n 0, 1) := by decide +kernel
theorem dX5_sayGoodbye_1 : decode cX5_sayGoodbye 1 = .ok (.iload_n 1, 1) := by decide +kernel
theorem dX5_sayGoodbye_2 : decode cX5_sayGoodbye 2 = .ok (.iload_n 2, 1) := by decide +kernel
theorem dX5_sayGoodbye_3 : decode cX5_sayGoodbye 3 = .ok (.invokevirtual 100, 3) := by decide +kernel
theorem dX5_sayGoodbye_6 : decode cX5_sayGoodbye 6 = .ok (.ifCond .ne 6, 3) := by decide +kernel
theorem dX5_sayGoodbye_9 : decode cX5_sayGoodbye 9 = .ok (.bipush (-2), 2) := by decide +kernel
theorem dX5_sayGoodbye_11 : decode cX5_sayGoodbye 11 = .ok (.ireturn, 1) := by decide +kernel
theorem dX5_sayGoodbye_12 : decode cX5_sayGoodbye 12 = .ok (.aload_n 0, 1) := by decide +kernel
theorem dX5_sayGoodbye_13 : decode cX5_sayGoodbye 13 = .ok (.getfield 11, 3) := by decide +kernel
theorem dX5_sayGoodbye_16 : decode cX5_sayGoodbye 16 = .ok (.iload_n 1, 1) := by decide +kernel
theorem dX5_sayGoodbye_17 : decode cX5_sayGoodbye 17 = .ok (.aaload, 1) := by decide +kernel
theorem dX5_sayGoodbye_18 : decode cX5_sayGoodbye 18 = .ok (.getfield 94, 3) := by decide +kernel
theorem dX5_sayGoodbye_21 : decode cX5_sayGoodbye 21 = .ok (.ifCond .ne 6, 3) := by decide +kernel
theorem dX5_sayGoodbye_24 : decode cX5_sayGoodbye 24 = .ok (.bipush (-3), 2) := by decide +kernel
theorem dX5_sayGoodbye_26 : decode cX5_sayGoodbye 26 = .ok (.ireturn, 1) := by decide +kernel
theorem dX5_sayGoodbye_27 : decode cX5_sayGoodbye 27 = .ok (.aload_n 0, 1) := by decide +kernel
theorem dX5_sayGoodbye_28 : decode cX5_sayGoodbye 28 = .ok (.getfield 11, 3) := by decide +kernel
theorem dX5_sayGoodbye_31 : decode cX5_sayGoodbye 31 = .ok (.iload_n 1, 1) := by decide +kernel
theorem dX5_sayGoodbye_32 : decode cX5_sayGoodbye 32 = .ok (.aaload, 1) := by decide +kernel
theorem dX5_sayGoodbye_33 : decode cX5_sayGoodbye 33 = .ok (.iload_n 2, 1) := by decide +kernel
theorem dX5_sayGoodbye_34 : decode cX5_sayGoodbye 34 = .ok (.invokevirtual 103, 3) := by decide +kernel
theorem dX5_sayGoodbye_37 : decode cX5_sayGoodbye 37 = .ok (.astore_n 3, 1) := by decide +kernel
theorem dX5_sayGoodbye_38 : decode cX5_sayGoodbye 38 = .ok (.aload_n 3, 1) := by decide +kernel
theorem dX5_sayGoodbye_39 : decode cX5_sayGoodbye 39 = .ok (.invokevirtual 107, 3) := by decide +kernel
theorem dX5_sayGoodbye_42 : decode cX5_sayGoodbye 42 = .ok (.ifCond .eq 64, 3) := by decide +kernel
theorem dX5_sayGoodbye_45 : decode cX5_sayGoodbye 45 = .ok (.aload_n 0, 1) := by decide +kernel
theorem dX5_sayGoodbye_46 : decode cX5_sayGoodbye 46 = .ok (.dup, 1) := by decide +kernel
theorem dX5_sayGoodbye_47 : decode cX5_sayGoodbye 47 = .ok (.getfield 36, 3) := by decide +kernel
theorem dX5_sayGoodbye_50 : decode cX5_sayGoodbye 50 = .ok (.iconst 1, 1) := by decide +kernel
theorem dX5_sayGoodbye_51 : decode cX5_sayGoodbye 51 = .ok (.iadd, 1) := by decide +kernel
theorem dX5_sayGoodbye_52 : decode cX5_sayGoodbye 52 = .ok (.putfield 36, 3) := by decide +kernel
theorem dX5_sayGoodbye_55 : decode cX5_sayGoodbye 55 = .ok (.iconst 0, 1) := by decide +kernel
theorem dX5_sayGoodbye_56 : decode cX5_sayGoodbye 56 = .ok (.istore 4, 2) := by decide +kernel
theorem dX5_sayGoodbye_58 : decode cX5_sayGoodbye 58 = .ok (.iload 4, 2) := by decide +kernel
theorem dX5_sayGoodbye_60 : decode cX5_sayGoodbye 60 = .ok (.aload_n 0, 1) := by decide +kernel
theorem dX5_sayGoodbye_61 : decode cX5_sayGoodbye 61 = .ok (.getfield 25, 3) := by decide +kernel
theorem dX5_sayGoodbye_64 : decode cX5_sayGoodbye 64 = .ok (.if_icmp .ge 42, 3) := by decide +kernel
theorem dX5_sayGoodbye_67 : decode cX5_sayGoodbye 67 = .ok (.aload_n 0, 1) := by decide +kernel
theorem dX5_sayGoodbye_68 : decode cX5_sayGoodbye 68 = .ok (.getfield 11, 3) := by decide +kernel
theorem dX5_sayGoodbye_71 : decode cX5_sayGoodbye 71 = .ok (.iload 4, 2) := by decide +kernel
theorem dX5_sayGoodbye_73 : decode cX5_sayGoodbye 73 = .ok (.aaload, 1) := by decide +kernel
theorem dX5_sayGoodbye_74 : decode cX5_sayGoodbye 74 = .ok (.getfield 94, 3) := by decide +kernel
theorem dX5_sayGoodbye_77 : decode cX5_sayGoodbye 77 = .ok (.ifCond .eq 23, 3) := by decide +kernel
theorem dX5_sayGoodbye_80 : decode cX5_sayGoodbye 80 = .ok (.aload_n 0, 1) := by decide +kernel
theorem dX5_sayGoodbye_81 : decode cX5_sayGoodbye 81 = .ok (.getfield 11, 3) := by decide +kernel
theorem dX5_sayGoodbye_84 : decode cX5_sayGoodbye 84 = .ok (.iload 4, 2) := by decide +kernel
theorem dX5_sayGoodbye_86 : decode cX5_sayGoodbye 86 = .ok (.aaload, 1) := by decide +kernel
theorem dX5_sayGoodbye_87 : decode cX5_sayGoodbye 87 = .ok (.getfield 111, 3) := by decide +kernel
theorem dX5_sayGoodbye_90 : decode cX5_sayGoodbye 90 = .ok (.aload_n 3, 1) := by decide +kernel
theorem dX5_sayGoodbye_91 : decode cX5_sayGoodbye 91 = .ok (.aload_n 0, 1) := by decide +kernel
theorem dX5_sayGoodbye_92 : decode cX5_sayGoodbye 92 = .ok (.getfield 33, 3) := by decide +kernel
theorem dX5_sayGoodbye_95 : decode cX5_sayGoodbye 95 = .ok (.iconst 1, 1) := by decide +kernel
theorem dX5_sayGoodbye_96 : decode cX5_sayGoodbye 96 = .ok (.iadd, 1) := by decide +kernel
theorem dX5_sayGoodbye_97 : decode cX5_sayGoodbye 97 = .ok (.invokevirtual 115, 3) := by decide +kernel
theorem dX5_sayGoodbye_100 : decode cX5_sayGoodbye 100 = .ok (.iinc 4 1, 3) := by decide +kernel
theorem dX5_sayGoodbye_103 : decode cX5_sayGoodbye 103 = .ok (.goto (-45), 3) := by decide +kernel
theorem dX5_sayGoodbye_106 : decode cX5_sayGoodbye 106 = .ok (.aload_n 0, 1) := by decide +kernel
theorem dX5_sayGoodbye_107 : decode cX5_sayGoodbye 107 = .ok (.getfield 11, 3) := by decide +kernel
theorem dX5_sayGoodbye_110 : decode cX5_sayGoodbye 110 = .ok (.iload_n 1, 1) := by decide +kernel
theorem dX5_sayGoodbye_111 : decode cX5_sayGoodbye 111 = .ok (.aaload, 1) := by decide +kernel
theorem dX5_sayGoodbye_112 : decode cX5_sayGoodbye 112 = .ok (.getfield 59, 3) := by decide +kernel
theorem dX5_sayGoodbye_115 : decode cX5_sayGoodbye 115 = .ok (.ireturn, 1) := by decide +kernel
theorem dX5_announce_0 : decode cX5_announce 0 = .ok (.iconst 0, 1) := by decide +kernel
theorem dX5_announce_1 : decode cX5_announce 1 = .ok (.istore_n 3, 1) := by decide +kernel
theorem dX5_announce_2 : decode cX5_announce 2 = .ok (.iload_n 3, 1) := by decide +kernel
theorem dX5_announce_3 : decode cX5_announce 3 = .ok (.aload_n 0, 1) := by decide +kernel
theorem dX5_announce_4 : decode cX5_announce 4 = .ok (.getfield 25, 3) := by decide +kernel
theorem dX5_announce_7 : decode cX5_announce 7 = .ok (.if_icmp .ge 63, 3) := by decide +kernel
theorem dX5_announce_10 : decode cX5_announce 10 = .ok (.aload_n 0, 1) := by decide +kernel
theorem dX5_announce_11 : decode cX5_announce 11 = .ok (.getfield 11, 3) := by decide +kernel
theorem dX5_announce_14 : decode cX5_announce 14 = .ok (.iload_n 3, 1) := by decide +kernel
theorem dX5_announce_15 : decode cX5_announce 15 = .ok (.aaload, 1) := by decide +kernel
theorem dX5_announce_16 : decode cX5_announce 16 = .ok (.astore 4, 2) := by decide +kernel
theorem dX5_announce_18 : decode cX5_announce 18 = .ok (.iload_n 3, 1) := by decide +kernel
theorem dX5_announce_19 : decode cX5_announce 19 = .ok (.iload_n 1, 1) := by decide +kernel
theorem dX5_announce_20 : decode cX5_announce 20 = .ok (.if_icmp .eq 44, 3) := by decide +kernel
theorem dX5_announce_23 : decode cX5_announce 23 = .ok (.aload 4, 2) := by decide +kernel
theorem dX5_announce_25 : decode cX5_announce 25 = .ok (.getfield 94, 3) := by decide +kernel
theorem dX5_announce_28 : decode cX5_announce 28 = .ok (.ifCond .eq 36, 3) := by decide +kernel
theorem dX5_announce_31 : decode cX5_announce 31 = .ok (.aload 4, 2) := by decide +kernel
theorem dX5_announce_33 : decode cX5_announce 33 = .ok (.aload_n 2, 1) := by decide +kernel
theorem dX5_announce_34 : decode cX5_announce 34 = .ok (.getfield 121, 3) := by decide +kernel
theorem dX5_announce_37 : decode cX5_announce 37 = .ok (.aload_n 2, 1) := by decide +kernel
theorem dX5_announce_38 : decode cX5_announce 38 = .ok (.getfield 124, 3) := by decide +kernel
theorem dX5_announce_41 : decode cX5_announce 41 = .ok (.aload_n 2, 1) := by decide +kernel
theorem dX5_announce_42 : decode cX5_announce 42 = .ok (.getfield 127, 3) := by decide +kernel
theorem dX5_announce_45 : decode cX5_announce 45 = .ok (.invokevirtual 130, 3) := by decide +kernel
theorem dX5_announce_48 : decode cX5_announce 48 = .ok (.ifCond .ne 16, 3) := by decide +kernel
theorem dX5_announce_51 : decode cX5_announce 51 = .ok (.aload 4, 2) := by decide +kernel
theorem dX5_announce_53 : decode cX5_announce 53 = .ok (.getfield 111, 3) := by decide +kernel
theorem dX5_announce_56 : decode cX5_announce 56 = .ok (.aload_n 2, 1) := by decide +kernel
theorem dX5_announce_57 : decode cX5_announce 57 = .ok (.aload_n 0, 1) := by decide +kernel
theorem dX5_announce_58 : decode cX5_announce 58 = .ok (.getfield 33, 3) := by decide +kernel
theorem dX5_announce_61 : decode cX5_announce 61 = .ok (.invokevirtual 133, 3) := by decide +kernel
theorem dX5_announce_64 : decode cX5_announce 64 = .ok (.iinc 3 1, 3) := by decide +kernel
theorem dX5_announce_67 : decode cX5_announce 67 = .ok (.goto (-65), 3) := by decide +kernel
theorem dX5_announce_70 : decode cX5_announce 70 = .ok (.aload_n 0, 1) := by decide +kernel
theorem dX5_announce_71 : decode cX5_announce 71 = .ok (.dup, 1) := by decide +kernel
theorem dX5_announce_72 : decode cX5_announce 72 = .ok (.getfield 36, 3) := by decide +kernel
theorem dX5_announce_75 : decode cX5_announce 75 = .ok (.iconst 1, 1) := by decide +kernel
theorem dX5_announce_76 : decode cX5_announce 76 = .ok (.iadd, 1) := by decide +kernel
theorem dX5_announce_77 : decode cX5_announce 77 = .ok (.putfield 36, 3) := by decide +kernel
theorem dX5_announce_80 : decode cX5_announce 80 = .ok (.return_, 1) := by decide +kernel
theorem dX5_speakerFor_0 : decode cX5_speakerFor 0 = .ok (.aload_n 0, 1) := by decide +kernel
theorem dX5_speakerFor_1 : decode cX5_speakerFor 1 = .ok (.getfield 11, 3) := by decide +kernel
theorem dX5_speakerFor_4 : decode cX5_speakerFor 4 = .ok (.iload_n 1, 1) := by decide +kernel
theorem dX5_speakerFor_5 : decode cX5_speakerFor 5 = .ok (.aaload, 1) := by decide +kernel
theorem dX5_speakerFor_6 : decode cX5_speakerFor 6 = .ok (.astore_n 2, 1) := by decide +kernel
theorem dX5_speakerFor_7 : decode cX5_speakerFor 7 = .ok (.aload_n 2, 1) := by decide +kernel
theorem dX5_speakerFor_8 : decode cX5_speakerFor 8 = .ok (.getfield 94, 3) := by decide +kernel
theorem dX5_speakerFor_11 : decode cX5_speakerFor 11 = .ok (.ifCond .eq 5, 3) := by decide +kernel
theorem dX5_speakerFor_14 : decode cX5_speakerFor 14 = .ok (.iload_n 1, 1) := by decide +kernel
theorem dX5_speakerFor_15 : decode cX5_speakerFor 15 = .ok (.ireturn, 1) := by decide +kernel
theorem dX5_speakerFor_16 : decode cX5_speakerFor 16 = .ok (.aload_n 0, 1) := by decide +kernel
theorem dX5_speakerFor_17 : decode cX5_speakerFor 17 = .ok (.aload_n 2, 1) := by decide +kernel
theorem dX5_speakerFor_18 : decode cX5_speakerFor 18 = .ok (.getfield 136, 3) := by decide +kernel
theorem dX5_speakerFor_21 : decode cX5_speakerFor 21 = .ok (.invokevirtual 55, 3) := by decide +kernel
theorem dX5_speakerFor_24 : decode cX5_speakerFor 24 = .ok (.ifCond .eq 25, 3) := by decide +kernel
theorem dX5_speakerFor_27 : decode cX5_speakerFor 27 = .ok (.aload_n 0, 1) := by decide +kernel
theorem dX5_speakerFor_28 : decode cX5_speakerFor 28 = .ok (.getfield 11, 3) := by decide +kernel
theorem dX5_speakerFor_31 : decode cX5_speakerFor 31 = .ok (.aload_n 2, 1) := by decide +kernel
theorem dX5_speakerFor_32 : decode cX5_speakerFor 32 = .ok (.getfield 136, 3) := by decide +kernel
theorem dX5_speakerFor_35 : decode cX5_speakerFor 35 = .ok (.aaload, 1) := by decide +kernel
theorem dX5_speakerFor_36 : decode cX5_speakerFor 36 = .ok (.getfield 94, 3) := by decide +kernel
theorem dX5_speakerFor_39 : decode cX5_speakerFor 39 = .ok (.ifCond .eq 10, 3) := by decide +kernel
theorem dX5_speakerFor_42 : decode cX5_speakerFor 42 = .ok (.aload_n 2, 1) := by decide +kernel
theorem dX5_speakerFor_43 : decode cX5_speakerFor 43 = .ok (.getfield 136, 3) := by decide +kernel
theorem dX5_speakerFor_46 : decode cX5_speakerFor 46 = .ok (.goto 4, 3) := by decide +kernel
theorem dX5_speakerFor_49 : decode cX5_speakerFor 49 = .ok (.iconst (-1), 1) := by decide +kernel
theorem dX5_speakerFor_50 : decode cX5_speakerFor 50 = .ok (.ireturn, 1) := by decide +kernel
theorem dX5_isDefended_0 : decode cX5_isDefended 0 = .ok (.aload_n 2, 1) := by decide +kernel
theorem dX5_isDefended_1 : decode cX5_isDefended 1 = .ok (.getfield 77, 3) := by decide +kernel
theorem dX5_isDefended_4 : decode cX5_isDefended 4 = .ok (.ifCond .eq 23, 3) := by decide +kernel
theorem dX5_isDefended_7 : decode cX5_isDefended 7 = .ok (.aload_n 2, 1) := by decide +kernel
theorem dX5_isDefended_8 : decode cX5_isDefended 8 = .ok (.invokevirtual 107, 3) := by decide +kernel
theorem dX5_isDefended_11 : decode cX5_isDefended 11 = .ok (.ifCond .eq 16, 3) := by decide +kernel
theorem dX5_isDefended_14 : decode cX5_isDefended 14 = .ok (.aload_n 0, 1) := by decide +kernel
theorem dX5_isDefended_15 : decode cX5_isDefended 15 = .ok (.iload_n 1, 1) := by decide +kernel
theorem dX5_isDefended_16 : decode cX5_isDefended 16 = .ok (.invokevirtual 139, 3) := by decide +kernel
theorem dX5_isDefended_19 : decode cX5_isDefended 19 = .ok (.iconst (-1), 1) := by decide +kernel
theorem dX5_isDefended_20 : decode cX5_isDefended 20 = .ok (.if_icmp .eq 7, 3) := by decide +kernel
theorem dX5_isDefended_23 : decode cX5_isDefended 23 = .ok (.iconst 1, 1) := by decide +kernel
theorem dX5_isDefended_24 : decode cX5_isDefended 24 = .ok (.goto 4, 3) := by decide +kernel
theorem dX5_isDefended_27 : decode cX5_isDefended 27 = .ok (.iconst 0, 1) := by decide +kernel
theorem dX5_isDefended_28 : decode cX5_isDefended 28 = .ok (.ireturn, 1) := by decide +kernel
theorem dX5_passTicks_0 : decode cX5_passTicks 0 = .ok (.iload_n 1, 1) := by decide +kernel
theorem dX5_passTicks_1 : decode cX5_passTicks 1 = .ok (.iconst 1, 1) := by decide +kernel
theorem dX5_passTicks_2 : decode cX5_passTicks 2 = .ok (.bipush 60, 2) := by decide +kernel
theorem dX5_passTicks_4 : decode cX5_passTicks 4 = .ok (.invokestatic 62, 3) := by decide +kernel
theorem dX5_passTicks_7 : decode cX5_passTicks 7 = .ok (.ifCond .ne 6, 3) := by decide +kernel
theorem dX5_passTicks_10 : decode cX5_passTicks 10 = .ok (.bipush (-2), 2) := by decide +kernel
theorem dX5_passTicks_12 : decode cX5_passTicks 12 = .ok (.ireturn, 1) := by decide +kernel
theorem dX5_passTicks_13 : decode cX5_passTicks 13 = .ok (.aload_n 0, 1) := by decide +kernel
theorem dX5_passTicks_14 : decode cX5_passTicks 14 = .ok (.getfield 36, 3) := by decide +kernel
theorem dX5_passTicks_17 : decode cX5_passTicks 17 = .ok (.istore_n 2, 1) := by decide +kernel
theorem dX5_passTicks_18 : decode cX5_passTicks 18 = .ok (.iconst 0, 1) := by decide +kernel
theorem dX5_passTicks_19 : decode cX5_passTicks 19 = .ok (.istore_n 3, 1) := by decide +kernel
theorem dX5_passTicks_20 : decode cX5_passTicks 20 = .ok (.iload_n 3, 1) := by decide +kernel
theorem dX5_passTicks_21 : decode cX5_passTicks 21 = .ok (.iload_n 1, 1) := by decide +kernel
theorem dX5_passTicks_22 : decode cX5_passTicks 22 = .ok (.if_icmp .ge 78, 3) := by decide +kernel
theorem dX5_passTicks_25 : decode cX5_passTicks 25 = .ok (.aload_n 0, 1) := by decide +kernel
theorem dX5_passTicks_26 : decode cX5_passTicks 26 = .ok (.invokevirtual 143, 3) := by decide +kernel
theorem dX5_passTicks_29 : decode cX5_passTicks 29 = .ok (.iconst 0, 1) := by decide +kernel
theorem dX5_passTicks_30 : decode cX5_passTicks 30 = .ok (.istore 4, 2) := by decide +kernel
theorem dX5_passTicks_32 : decode cX5_passTicks 32 = .ok (.iload 4, 2) := by decide +kernel
theorem dX5_passTicks_34 : decode cX5_passTicks 34 = .ok (.aload_n 0, 1) := by decide +kernel
theorem dX5_passTicks_35 : decode cX5_passTicks 35 = .ok (.getfield 25, 3) := by decide +kernel
theorem dX5_passTicks_38 : decode cX5_passTicks 38 = .ok (.if_icmp .ge 52, 3) := by decide +kernel
theorem dX5_passTicks_41 : decode cX5_passTicks 41 = .ok (.iconst 0, 1) := by decide +kernel
theorem dX5_passTicks_42 : decode cX5_passTicks 42 = .ok (.istore 5, 2) := by decide +kernel
theorem dX5_passTicks_44 : decode cX5_passTicks 44 = .ok (.iload 5, 2) := by decide +kernel
theorem dX5_passTicks_46 : decode cX5_passTicks 46 = .ok (.aload_n 0, 1) := by decide +kernel
theorem dX5_passTicks_47 : decode cX5_passTicks 47 = .ok (.getfield 11, 3) := by decide +kernel
theorem dX5_passTicks_50 : decode cX5_passTicks 50 = .ok (.iload 4, 2) := by decide +kernel
theorem dX5_passTicks_52 : decode cX5_passTicks 52 = .ok (.aaload, 1) := by decide +kernel
theorem dX5_passTicks_53 : decode cX5_passTicks 53 = .ok (.getfield 59, 3) := by decide +kernel
theorem dX5_passTicks_56 : decode cX5_passTicks 56 = .ok (.if_icmp .ge 28, 3) := by decide +kernel
theorem dX5_passTicks_59 : decode cX5_passTicks 59 = .ok (.aload_n 0, 1) := by decide +kernel
theorem dX5_passTicks_60 : decode cX5_passTicks 60 = .ok (.iload 4, 2) := by decide +kernel
theorem dX5_passTicks_62 : decode cX5_passTicks 62 = .ok (.aload_n 0, 1) := by decide +kernel
theorem dX5_passTicks_63 : decode cX5_passTicks 63 = .ok (.getfield 11, 3) := by decide +kernel
theorem dX5_passTicks_66 : decode cX5_passTicks 66 = .ok (.iload 4, 2) := by decide +kernel
theorem dX5_passTicks_68 : decode cX5_passTicks 68 = .ok (.aaload, 1) := by decide +kernel
theorem dX5_passTicks_69 : decode cX5_passTicks 69 = .ok (.getfield 146, 3) := by decide +kernel
theorem dX5_passTicks_72 : decode cX5_passTicks 72 = .ok (.iload 5, 2) := by decide +kernel
theorem dX5_passTicks_74 : decode cX5_passTicks 74 = .ok (.aaload, 1) := by decide +kernel
theorem dX5_passTicks_75 : decode cX5_passTicks 75 = .ok (.invokevirtual 150, 3) := by decide +kernel
theorem dX5_passTicks_78 : decode cX5_passTicks 78 = .ok (.iinc 5 1, 3) := by decide +kernel
theorem dX5_passTicks_81 : decode cX5_passTicks 81 = .ok (.goto (-37), 3) := by decide +kernel
theorem dX5_passTicks_84 : decode cX5_passTicks 84 = .ok (.iinc 4 1, 3) := by decide +kernel
theorem dX5_passTicks_87 : decode cX5_passTicks 87 = .ok (.goto (-55), 3) := by decide +kernel
theorem dX5_passTicks_90 : decode cX5_passTicks 90 = .ok (.aload_n 0, 1) := by decide +kernel
theorem dX5_passTicks_91 : decode cX5_passTicks 91 = .ok (.invokevirtual 153, 3) := by decide +kernel
theorem dX5_passTicks_94 : decode cX5_passTicks 94 = .ok (.iinc 3 1, 3) := by decide +kernel
theorem dX5_passTicks_97 : decode cX5_passTicks 97 = .ok (.goto (-77), 3) := by decide +kernel
theorem dX5_passTicks_100 : decode cX5_passTicks 100 = .ok (.aload_n 0, 1) := by decide +kernel
theorem dX5_passTicks_101 : decode cX5_passTicks 101 = .ok (.getfield 36, 3) := by decide +kernel
theorem dX5_passTicks_104 : decode cX5_passTicks 104 = .ok (.iload_n 2, 1) := by decide +kernel
theorem dX5_passTicks_105 : decode cX5_passTicks 105 = .ok (.isub, 1) := by decide +kernel
theorem dX5_passTicks_106 : decode cX5_passTicks 106 = .ok (.ireturn, 1) := by decide +kernel
theorem dX5_beginTick_0 : decode cX5_beginTick 0 = .ok (.aload_n 0, 1) := by decide +kernel
theorem dX5_beginTick_1 : decode cX5_beginTick 1 = .ok (.dup, 1) := by decide +kernel
theorem dX5_beginTick_2 : decode cX5_beginTick 2 = .ok (.getfield 33, 3) := by decide +kernel
theorem dX5_beginTick_5 : decode cX5_beginTick 5 = .ok (.iconst 1, 1) := by decide +kernel
theorem dX5_beginTick_6 : decode cX5_beginTick 6 = .ok (.iadd, 1) := by decide +kernel
theorem dX5_beginTick_7 : decode cX5_beginTick 7 = .ok (.putfield 33, 3) := by decide +kernel
theorem dX5_beginTick_10 : decode cX5_beginTick 10 = .ok (.iconst 0, 1) := by decide +kernel
theorem dX5_beginTick_11 : decode cX5_beginTick 11 = .ok (.istore_n 1, 1) := by decide +kernel
theorem dX5_beginTick_12 : decode cX5_beginTick 12 = .ok (.iload_n 1, 1) := by decide +kernel
theorem dX5_beginTick_13 : decode cX5_beginTick 13 = .ok (.aload_n 0, 1) := by decide +kernel
theorem dX5_beginTick_14 : decode cX5_beginTick 14 = .ok (.getfield 25, 3) := by decide +kernel
theorem dX5_beginTick_17 : decode cX5_beginTick 17 = .ok (.if_icmp .ge 25, 3) := by decide +kernel
theorem dX5_beginTick_20 : decode cX5_beginTick 20 = .ok (.aload_n 0, 1) := by decide +kernel
theorem dX5_beginTick_21 : decode cX5_beginTick 21 = .ok (.getfield 11, 3) := by decide +kernel
theorem dX5_beginTick_24 : decode cX5_beginTick 24 = .ok (.iload_n 1, 1) := by decide +kernel
theorem dX5_beginTick_25 : decode cX5_beginTick 25 = .ok (.aaload, 1) := by decide +kernel
theorem dX5_beginTick_26 : decode cX5_beginTick 26 = .ok (.getfield 111, 3) := by decide +kernel
theorem dX5_beginTick_29 : decode cX5_beginTick 29 = .ok (.aload_n 0, 1) := by decide +kernel
theorem dX5_beginTick_30 : decode cX5_beginTick 30 = .ok (.getfield 33, 3) := by decide +kernel
theorem dX5_beginTick_33 : decode cX5_beginTick 33 = .ok (.invokevirtual 156, 3) := by decide +kernel
theorem dX5_beginTick_36 : decode cX5_beginTick 36 = .ok (.iinc 1 1, 3) := by decide +kernel
theorem dX5_beginTick_39 : decode cX5_beginTick 39 = .ok (.goto (-27), 3) := by decide +kernel
theorem dX5_beginTick_42 : decode cX5_beginTick 42 = .ok (.return_, 1) := by decide +kernel
theorem dX5_measureRate_0 : decode cX5_measureRate 0 = .ok (.aload_n 0, 1) := by decide +kernel
theorem dX5_measureRate_1 : decode cX5_measureRate 1 = .ok (.getfield 36, 3) := by decide +kernel
theorem dX5_measureRate_4 : decode cX5_measureRate 4 = .ok (.aload_n 0, 1) := by decide +kernel
theorem dX5_measureRate_5 : decode cX5_measureRate 5 = .ok (.getfield 39, 3) := by decide +kernel
theorem dX5_measureRate_8 : decode cX5_measureRate 8 = .ok (.isub, 1) := by decide +kernel
theorem dX5_measureRate_9 : decode cX5_measureRate 9 = .ok (.i2f, 1) := by decide +kernel
theorem dX5_measureRate_10 : decode cX5_measureRate 10 = .ok (.fstore_n 1, 1) := by decide +kernel
theorem dX5_measureRate_11 : decode cX5_measureRate 11 = .ok (.aload_n 0, 1) := by decide +kernel
theorem dX5_measureRate_12 : decode cX5_measureRate 12 = .ok (.aload_n 0, 1) := by decide +kernel
theorem dX5_measureRate_13 : decode cX5_measureRate 13 = .ok (.getfield 51, 3) := by decide +kernel
theorem dX5_measureRate_16 : decode cX5_measureRate 16 = .ok (.ldc 160, 2) := by decide +kernel
theorem dX5_measureRate_18 : decode cX5_measureRate 18 = .ok (.fmul, 1) := by decide +kernel
theorem dX5_measureRate_19 : decode cX5_measureRate 19 = .ok (.fload_n 1, 1) := by decide +kernel
theorem dX5_measureRate_20 : decode cX5_measureRate 20 = .ok (.ldc 161, 2) := by decide +kernel
theorem dX5_measureRate_22 : decode cX5_measureRate 22 = .ok (.fmul, 1) := by decide +kernel
theorem dX5_measureRate_23 : decode cX5_measureRate 23 = .ok (.fadd, 1) := by decide +kernel
theorem dX5_measureRate_24 : decode cX5_measureRate 24 = .ok (.putfield 51, 3) := by decide +kernel
theorem dX5_measureRate_27 : decode cX5_measureRate 27 = .ok (.aload_n 0, 1) := by decide +kernel
theorem dX5_measureRate_28 : decode cX5_measureRate 28 = .ok (.aload_n 0, 1) := by decide +kernel
theorem dX5_measureRate_29 : decode cX5_measureRate 29 = .ok (.getfield 36, 3) := by decide +kernel
theorem dX5_measureRate_32 : decode cX5_measureRate 32 = .ok (.putfield 39, 3) := by decide +kernel
theorem dX5_measureRate_35 : decode cX5_measureRate 35 = .ok (.return_, 1) := by decide +kernel
theorem dX5_advance_0 : decode cX5_advance 0 = .ok (.aload_n 0, 1) := by decide +kernel
theorem dX5_advance_1 : decode cX5_advance 1 = .ok (.getfield 11, 3) := by decide +kernel
theorem dX5_advance_4 : decode cX5_advance 4 = .ok (.iload_n 1, 1) := by decide +kernel
theorem dX5_advance_5 : decode cX5_advance 5 = .ok (.aaload, 1) := by decide +kernel
theorem dX5_advance_6 : decode cX5_advance 6 = .ok (.getfield 94, 3) := by decide +kernel
theorem dX5_advance_9 : decode cX5_advance 9 = .ok (.ifCond .eq 10, 3) := by decide +kernel
theorem dX5_advance_12 : decode cX5_advance 12 = .ok (.aload_n 2, 1) := by decide +kernel
theorem dX5_advance_13 : decode cX5_advance 13 = .ok (.invokevirtual 107, 3) := by decide +kernel
theorem dX5_advance_16 : decode cX5_advance 16 = .ok (.ifCond .eq 4, 3) := by decide +kernel
theorem dX5_advance_19 : decode cX5_advance 19 = .ok (.return_, 1) := by decide +kernel
theorem dX5_advance_20 : decode cX5_advance 20 = .ok (.aload_n 2, 1) := by decide +kernel
theorem dX5_advance_21 : decode cX5_advance 21 = .ok (.getfield 162, 3) := by decide +kernel
theorem dX5_advance_24 : decode cX5_advance 24 = .ok (.ifCond .le 14, 3) := by decide +kernel
theorem dX5_advance_27 : decode cX5_advance 27 = .ok (.aload_n 2, 1) := by decide +kernel
theorem dX5_advance_28 : decode cX5_advance 28 = .ok (.dup, 1) := by decide +kernel
theorem dX5_advance_29 : decode cX5_advance 29 = .ok (.getfield 162, 3) := by decide +kernel
theorem dX5_advance_32 : decode cX5_advance 32 = .ok (.iconst 1, 1) := by decide +kernel
theorem dX5_advance_33 : decode cX5_advance 33 = .ok (.isub, 1) := by decide +kernel
theorem dX5_advance_34 : decode cX5_advance 34 = .ok (.putfield 162, 3) := by decide +kernel
theorem dX5_advance_37 : decode cX5_advance 37 = .ok (.return_, 1) := by decide +kernel
theorem dX5_advance_38 : decode cX5_advance 38 = .ok (.aload_n 0, 1) := by decide +kernel
theorem dX5_advance_39 : decode cX5_advance 39 = .ok (.dup, 1) := by decide +kernel
theorem dX5_advance_40 : decode cX5_advance 40 = .ok (.getfield 42, 3) := by decide +kernel
theorem dX5_advance_43 : decode cX5_advance 43 = .ok (.iconst 1, 1) := by decide +kernel
theorem dX5_advance_44 : decode cX5_advance 44 = .ok (.iadd, 1) := by decide +kernel
theorem dX5_advance_45 : decode cX5_advance 45 = .ok (.putfield 42, 3) := by decide +kernel
theorem dX5_advance_48 : decode cX5_advance 48 = .ok (.aload_n 0, 1) := by decide +kernel
theorem dX5_advance_49 : decode cX5_advance 49 = .ok (.iload_n 1, 1) := by decide +kernel
theorem dX5_advance_50 : decode cX5_advance 50 = .ok (.aload_n 2, 1) := by decide +kernel
theorem dX5_advance_51 : decode cX5_advance 51 = .ok (.invokevirtual 165, 3) := by decide +kernel
theorem dX5_advance_54 : decode cX5_advance 54 = .ok (.ifCond .eq 34, 3) := by decide +kernel
theorem dX5_advance_57 : decode cX5_advance 57 = .ok (.aload_n 2, 1) := by decide +kernel
theorem dX5_advance_58 : decode cX5_advance 58 = .ok (.aload_n 2, 1) := by decide +kernel
theorem dX5_advance_59 : decode cX5_advance 59 = .ok (.getfield 121, 3) := by decide +kernel
theorem dX5_advance_62 : decode cX5_advance 62 = .ok (.iconst 1, 1) := by decide +kernel
theorem dX5_advance_63 : decode cX5_advance 63 = .ok (.iadd, 1) := by decide +kernel
theorem dX5_advance_64 : decode cX5_advance 64 = .ok (.bipush 16, 2) := by decide +kernel
theorem dX5_advance_66 : decode cX5_advance 66 = .ok (.irem, 1) := by decide +kernel
theorem dX5_advance_67 : decode cX5_advance 67 = .ok (.putfield 121, 3) := by decide +kernel
theorem dX5_advance_70 : decode cX5_advance 70 = .ok (.aload_n 2, 1) := by decide +kernel
theorem dX5_advance_71 : decode cX5_advance 71 = .ok (.iconst 0, 1) := by decide +kernel
theorem dX5_advance_72 : decode cX5_advance 72 = .ok (.invokevirtual 169, 3) := by decide +kernel
theorem dX5_advance_75 : decode cX5_advance 75 = .ok (.aload_n 0, 1) := by decide +kernel
theorem dX5_advance_76 : decode cX5_advance 76 = .ok (.dup, 1) := by decide +kernel
theorem dX5_advance_77 : decode cX5_advance 77 = .ok (.getfield 45, 3) := by decide +kernel
theorem dX5_advance_80 : decode cX5_advance 80 = .ok (.iconst 1, 1) := by decide +kernel
theorem dX5_advance_81 : decode cX5_advance 81 = .ok (.iadd, 1) := by decide +kernel
theorem dX5_advance_82 : decode cX5_advance 82 = .ok (.putfield 45, 3) := by decide +kernel
theorem dX5_advance_85 : decode cX5_advance 85 = .ok (.goto 43, 3) := by decide +kernel
theorem dX5_advance_88 : decode cX5_advance 88 = .ok (.aload_n 0, 1) := by decide +kernel
theorem dX5_advance_89 : decode cX5_advance 89 = .ok (.iload_n 1, 1) := by decide +kernel
theorem dX5_advance_90 : decode cX5_advance 90 = .ok (.aload_n 2, 1) := by decide +kernel
theorem dX5_advance_91 : decode cX5_advance 91 = .ok (.invokevirtual 172, 3) := by decide +kernel
theorem dX5_advance_94 : decode cX5_advance 94 = .ok (.ifCond .eq 11, 3) := by decide +kernel
theorem dX5_advance_97 : decode cX5_advance 97 = .ok (.aload_n 2, 1) := by decide +kernel
theorem dX5_advance_98 : decode cX5_advance 98 = .ok (.iconst 1, 1) := by decide +kernel
theorem dX5_advance_99 : decode cX5_advance 99 = .ok (.invokevirtual 169, 3) := by decide +kernel
theorem dX5_advance_102 : decode cX5_advance 102 = .ok (.goto 26, 3) := by decide +kernel
theorem dX5_advance_105 : decode cX5_advance 105 = .ok (.aload_n 2, 1) := by decide +kernel
theorem dX5_advance_106 : decode cX5_advance 106 = .ok (.dup, 1) := by decide +kernel
theorem dX5_advance_107 : decode cX5_advance 107 = .ok (.getfield 83, 3) := by decide +kernel
theorem dX5_advance_110 : decode cX5_advance 110 = .ok (.iconst 1, 1) := by decide +kernel
theorem dX5_advance_111 : decode cX5_advance 111 = .ok (.iadd, 1) := by decide +kernel
theorem dX5_advance_112 : decode cX5_advance 112 = .ok (.putfield 83, 3) := by decide +kernel
theorem dX5_advance_115 : decode cX5_advance 115 = .ok (.aload_n 2, 1) := by decide +kernel
theorem dX5_advance_116 : decode cX5_advance 116 = .ok (.invokevirtual 107, 3) := by decide +kernel
theorem dX5_advance_119 : decode cX5_advance 119 = .ok (.ifCond .eq 9, 3) := by decide +kernel
theorem dX5_advance_122 : decode cX5_advance 122 = .ok (.aload_n 0, 1) := by decide +kernel
theorem dX5_advance_123 : decode cX5_advance 123 = .ok (.iload_n 1, 1) := by decide +kernel
theorem dX5_advance_124 : decode cX5_advance 124 = .ok (.aload_n 2, 1) := by decide +kernel
theorem dX5_advance_125 : decode cX5_advance 125 = .ok (.invokevirtual 86, 3) := by decide +kernel
theorem dX5_advance_128 : decode cX5_advance 128 = .ok (.return_, 1) := by decide +kernel
theorem dX5_isTaken_0 : decode cX5_isTaken 0 = .ok (.iconst 0, 1) := by decide +kernel
theorem dX5_isTaken_1 : decode cX5_isTaken 1 = .ok (.istore_n 3, 1) := by decide +kernel
theorem dX5_isTaken_2 : decode cX5_isTaken 2 = .ok (.iload_n 3, 1) := by decide +kernel
theorem dX5_isTaken_3 : decode cX5_isTaken 3 = .ok (.aload_n 0, 1) := by decide +kernel
theorem dX5_isTaken_4 : decode cX5_isTaken 4 = .ok (.getfield 25, 3) := by decide +kernel
theorem dX5_isTaken_7 : decode cX5_isTaken 7 = .ok (.if_icmp .ge 38, 3) := by decide +kernel
theorem dX5_isTaken_10 : decode cX5_isTaken 10 = .ok (.iload_n 3, 1) := by decide +kernel
theorem dX5_isTaken_11 : decode cX5_isTaken 11 = .ok (.iload_n 1, 1) := by decide +kernel
theorem dX5_isTaken_12 : decode cX5_isTaken 12 = .ok (.if_icmp .eq 27, 3) := by decide +kernel
theorem dX5_isTaken_15 : decode cX5_isTaken 15 = .ok (.aload_n 0, 1) := by decide +kernel
theorem dX5_isTaken_16 : decode cX5_isTaken 16 = .ok (.iload_n 3, 1) := by decide +kernel
theorem dX5_isTaken_17 : decode cX5_isTaken 17 = .ok (.invokevirtual 139, 3) := by decide +kernel
theorem dX5_isTaken_20 : decode cX5_isTaken 20 = .ok (.iconst (-1), 1) := by decide +kernel
theorem dX5_isTaken_21 : decode cX5_isTaken 21 = .ok (.if_icmp .eq 18, 3) := by decide +kernel
theorem dX5_isTaken_24 : decode cX5_isTaken 24 = .ok (.aload_n 0, 1) := by decide +kernel
theorem dX5_isTaken_25 : decode cX5_isTaken 25 = .ok (.getfield 11, 3) := by decide +kernel
theorem dX5_isTaken_28 : decode cX5_isTaken 28 = .ok (.iload_n 3, 1) := by decide +kernel
theorem dX5_isTaken_29 : decode cX5_isTaken 29 = .ok (.aaload, 1) := by decide +kernel
theorem dX5_isTaken_30 : decode cX5_isTaken 30 = .ok (.aload_n 2, 1) := by decide +kernel
theorem dX5_isTaken_31 : decode cX5_isTaken 31 = .ok (.invokevirtual 175, 3) := by decide +kernel
theorem dX5_isTaken_34 : decode cX5_isTaken 34 = .ok (.ifCond .eq 5, 3) := by decide +kernel
theorem dX5_isTaken_37 : decode cX5_isTaken 37 = .ok (.iconst 1, 1) := by decide +kernel
theorem dX5_isTaken_38 : decode cX5_isTaken 38 = .ok (.ireturn, 1) := by decide +kernel
theorem dX5_isTaken_39 : decode cX5_isTaken 39 = .ok (.iinc 3 1, 3) := by decide +kernel
theorem dX5_isTaken_42 : decode cX5_isTaken 42 = .ok (.goto (-40), 3) := by decide +kernel
theorem dX5_isTaken_45 : decode cX5_isTaken 45 = .ok (.iconst 0, 1) := by decide +kernel
theorem dX5_isTaken_46 : decode cX5_isTaken 46 = .ok (.ireturn, 1) := by decide +kernel
theorem dX5_isOutbid_0 : decode cX5_isOutbid 0 = .ok (.iconst 0, 1) := by decide +kernel
theorem dX5_isOutbid_1 : decode cX5_isOutbid 1 = .ok (.istore_n 3, 1) := by decide +kernel
theorem dX5_isOutbid_2 : decode cX5_isOutbid 2 = .ok (.iload_n 3, 1) := by decide +kernel
theorem dX5_isOutbid_3 : decode cX5_isOutbid 3 = .ok (.aload_n 0, 1) := by decide +kernel
theorem dX5_isOutbid_4 : decode cX5_isOutbid 4 = .ok (.getfield 25, 3) := by decide +kernel
theorem dX5_isOutbid_7 : decode cX5_isOutbid 7 = .ok (.if_icmp .ge 41, 3) := by decide +kernel
theorem dX5_isOutbid_10 : decode cX5_isOutbid 10 = .ok (.iload_n 3, 1) := by decide +kernel
theorem dX5_isOutbid_11 : decode cX5_isOutbid 11 = .ok (.iload_n 1, 1) := by decide +kernel
theorem dX5_isOutbid_12 : decode cX5_isOutbid 12 = .ok (.if_icmp .eq 30, 3) := by decide +kernel
theorem dX5_isOutbid_15 : decode cX5_isOutbid 15 = .ok (.aload_n 0, 1) := by decide +kernel
theorem dX5_isOutbid_16 : decode cX5_isOutbid 16 = .ok (.getfield 11, 3) := by decide +kernel
theorem dX5_isOutbid_19 : decode cX5_isOutbid 19 = .ok (.iload_n 3, 1) := by decide +kernel
theorem dX5_isOutbid_20 : decode cX5_isOutbid 20 = .ok (.aaload, 1) := by decide +kernel
theorem dX5_isOutbid_21 : decode cX5_isOutbid 21 = .ok (.getfield 94, 3) := by decide +kernel
theorem dX5_isOutbid_24 : decode cX5_isOutbid 24 = .ok (.ifCond .eq 18, 3) := by decide +kernel
theorem dX5_isOutbid_27 : decode cX5_isOutbid 27 = .ok (.aload_n 0, 1) := by decide +kernel
theorem dX5_isOutbid_28 : decode cX5_isOutbid 28 = .ok (.getfield 11, 3) := by decide +kernel
theorem dX5_isOutbid_31 : decode cX5_isOutbid 31 = .ok (.iload_n 3, 1) := by decide +kernel
theorem dX5_isOutbid_32 : decode cX5_isOutbid 32 = .ok (.aaload, 1) := by decide +kernel
theorem dX5_isOutbid_33 : decode cX5_isOutbid 33 = .ok (.aload_n 2, 1) := by decide +kernel
theorem dX5_isOutbid_34 : decode cX5_isOutbid 34 = .ok (.invokevirtual 179, 3) := by decide +kernel
theorem dX5_isOutbid_37 : decode cX5_isOutbid 37 = .ok (.ifCond .eq 5, 3) := by decide +kernel
theorem dX5_isOutbid_40 : decode cX5_isOutbid 40 = .ok (.iconst 1, 1) := by decide +kernel
theorem dX5_isOutbid_41 : decode cX5_isOutbid 41 = .ok (.ireturn, 1) := by decide +kernel
theorem dX5_isOutbid_42 : decode cX5_isOutbid 42 = .ok (.iinc 3 1, 3) := by decide +kernel
theorem dX5_isOutbid_45 : decode cX5_isOutbid 45 = .ok (.goto (-43), 3) := by decide +kernel
theorem dX5_isOutbid_48 : decode cX5_isOutbid 48 = .ok (.iconst 0, 1) := by decide +kernel
theorem dX5_isOutbid_49 : decode cX5_isOutbid 49 = .ok (.ireturn, 1) := by decide +kernel
theorem dX5_ask_0 : decode cX5_ask 0 = .ok (.aload_n 0, 1) := by decide +kernel
theorem dX5_ask_1 : decode cX5_ask 1 = .ok (.iload_n 1, 1) := by decide +kernel
theorem dX5_ask_2 : decode cX5_ask 2 = .ok (.invokevirtual 55, 3) := by decide +kernel
theorem dX5_ask_5 : decode cX5_ask 5 = .ok (.ifCond .eq 11, 3) := by decide +kernel
theorem dX5_ask_8 : decode cX5_ask 8 = .ok (.iload_n 2, 1) := by decide +kernel
theorem dX5_ask_9 : decode cX5_ask 9 = .ok (.iload_n 3, 1) := by decide +kernel
theorem dX5_ask_10 : decode cX5_ask 10 = .ok (.invokestatic 90, 3) := by decide +kernel
theorem dX5_ask_13 : decode cX5_ask 13 = .ok (.ifCond .ne 6, 3) := by decide +kernel
theorem dX5_ask_16 : decode cX5_ask 16 = .ok (.bipush (-2), 2) := by decide +kernel
theorem dX5_ask_18 : decode cX5_ask 18 = .ok (.ireturn, 1) := by decide +kernel
theorem dX5_ask_19 : decode cX5_ask 19 = .ok (.aload_n 0, 1) := by decide +kernel
theorem dX5_ask_20 : decode cX5_ask 20 = .ok (.getfield 11, 3) := by decide +kernel
theorem dX5_ask_23 : decode cX5_ask 23 = .ok (.iload_n 1, 1) := by decide +kernel
theorem dX5_ask_24 : decode cX5_ask 24 = .ok (.aaload, 1) := by decide +kernel
theorem dX5_ask_25 : decode cX5_ask 25 = .ok (.getfield 94, 3) := by decide +kernel
theorem dX5_ask_28 : decode cX5_ask 28 = .ok (.ifCond .ne 6, 3) := by decide +kernel
theorem dX5_ask_31 : decode cX5_ask 31 = .ok (.bipush (-3), 2) := by decide +kernel
theorem dX5_ask_33 : decode cX5_ask 33 = .ok (.ireturn, 1) := by decide +kernel
theorem dX5_ask_34 : decode cX5_ask 34 = .ok (.aload_n 0, 1) := by decide +kernel
theorem dX5_ask_35 : decode cX5_ask 35 = .ok (.getfield 21, 3) := by decide +kernel
theorem dX5_ask_38 : decode cX5_ask 38 = .ok (.invokevirtual 182, 3) := by decide +kernel
theorem dX5_ask_41 : decode cX5_ask 41 = .ok (.aload_n 0, 1) := by decide +kernel
theorem dX5_ask_42 : decode cX5_ask 42 = .ok (.getfield 11, 3) := by decide +kernel
theorem dX5_ask_45 : decode cX5_ask 45 = .ok (.iload_n 1, 1) := by decide +kernel
theorem dX5_ask_46 : decode cX5_ask 46 = .ok (.aaload, 1) := by decide +kernel
theorem dX5_ask_47 : decode cX5_ask 47 = .ok (.getfield 111, 3) := by decide +kernel
theorem dX5_ask_50 : decode cX5_ask 50 = .ok (.iload_n 2, 1) := by decide +kernel
theorem dX5_ask_51 : decode cX5_ask 51 = .ok (.iload_n 3, 1) := by decide +kernel
theorem dX5_ask_52 : decode cX5_ask 52 = .ok (.aload_n 0, 1) := by decide +kernel
theorem dX5_ask_53 : decode cX5_ask 53 = .ok (.getfield 33, 3) := by decide +kernel
theorem dX5_ask_56 : decode cX5_ask 56 = .ok (.aload_n 0, 1) := by decide +kernel
theorem dX5_ask_57 : decode cX5_ask 57 = .ok (.getfield 21, 3) := by decide +kernel
theorem dX5_ask_60 : decode cX5_ask 60 = .ok (.invokevirtual 185, 3) := by decide +kernel
theorem dX5_ask_63 : decode cX5_ask 63 = .ok (.iconst 0, 1) := by decide +kernel
theorem dX5_ask_64 : decode cX5_ask 64 = .ok (.istore 4, 2) := by decide +kernel
theorem dX5_ask_66 : decode cX5_ask 66 = .ok (.iconst 0, 1) := by decide +kernel
theorem dX5_ask_67 : decode cX5_ask 67 = .ok (.istore 5, 2) := by decide +kernel
theorem dX5_ask_69 : decode cX5_ask 69 = .ok (.iload 5, 2) := by decide +kernel
theorem dX5_ask_71 : decode cX5_ask 71 = .ok (.aload_n 0, 1) := by decide +kernel
theorem dX5_ask_72 : decode cX5_ask 72 = .ok (.getfield 25, 3) := by decide +kernel
theorem dX5_ask_75 : decode cX5_ask 75 = .ok (.if_icmp .ge 28, 3) := by decide +kernel
theorem dX5_ask_78 : decode cX5_ask 78 = .ok (.iload 5, 2) := by decide +kernel
theorem dX5_ask_80 : decode cX5_ask 80 = .ok (.iload_n 1, 1) := by decide +kernel
theorem dX5_ask_81 : decode cX5_ask 81 = .ok (.if_icmp .eq 16, 3) := by decide +kernel
theorem dX5_ask_84 : decode cX5_ask 84 = .ok (.iload 4, 2) := by decide +kernel
theorem dX5_ask_86 : decode cX5_ask 86 = .ok (.aload_n 0, 1) := by decide +kernel
theorem dX5_ask_87 : decode cX5_ask 87 = .ok (.iload 5, 2) := by decide +kernel
theorem dX5_ask_89 : decode cX5_ask 89 = .ok (.iload_n 2, 1) := by decide +kernel
theorem dX5_ask_90 : decode cX5_ask 90 = .ok (.iload_n 3, 1) := by decide +kernel
theorem dX5_ask_91 : decode cX5_ask 91 = .ok (.invokevirtual 189, 3) := by decide +kernel
theorem dX5_ask_94 : decode cX5_ask 94 = .ok (.iadd, 1) := by decide +kernel
theorem dX5_ask_95 : decode cX5_ask 95 = .ok (.istore 4, 2) := by decide +kernel
theorem dX5_ask_97 : decode cX5_ask 97 = .ok (.iinc 5 1, 3) := by decide +kernel
theorem dX5_ask_100 : decode cX5_ask 100 = .ok (.goto (-31), 3) := by decide +kernel
theorem dX5_ask_103 : decode cX5_ask 103 = .ok (.iload 4, 2) := by decide +kernel
theorem dX5_ask_105 : decode cX5_ask 105 = .ok (.ireturn, 1) := by decide +kernel
theorem dX5_answerFor_0 : decode cX5_answerFor 0 = .ok (.aload_n 0, 1) := by decide +kernel
theorem dX5_answerFor_1 : decode cX5_answerFor 1 = .ok (.iload_n 1, 1) := by decide +kernel
theorem dX5_answerFor_2 : decode cX5_answerFor 2 = .ok (.invokevirtual 139, 3) := by decide +kernel
theorem dX5_answerFor_5 : decode cX5_answerFor 5 = .ok (.istore 4, 2) := by decide +kernel
theorem dX5_answerFor_7 : decode cX5_answerFor 7 = .ok (.iload 4, 2) := by decide +kernel
theorem dX5_answerFor_9 : decode cX5_answerFor 9 = .ok (.iconst (-1), 1) := by decide +kernel
theorem dX5_answerFor_10 : decode cX5_answerFor 10 = .ok (.if_icmp .ne 5, 3) := by decide +kernel
theorem dX5_answerFor_13 : decode cX5_answerFor 13 = .ok (.iconst 0, 1) := by decide +kernel
theorem dX5_answerFor_14 : decode cX5_answerFor 14 = .ok (.ireturn, 1) := by decide +kernel
theorem dX5_answerFor_15 : decode cX5_answerFor 15 = .ok (.iconst 0, 1) := by decide +kernel
theorem dX5_answerFor_16 : decode cX5_answerFor 16 = .ok (.istore 5, 2) := by decide +kernel
theorem dX5_answerFor_18 : decode cX5_answerFor 18 = .ok (.aload_n 0, 1) := by decide +kernel
theorem dX5_answerFor_19 : decode cX5_answerFor 19 = .ok (.getfield 11, 3) := by decide +kernel
theorem dX5_answerFor_22 : decode cX5_answerFor 22 = .ok (.iload_n 1, 1) := by decide +kernel
theorem dX5_answerFor_23 : decode cX5_answerFor 23 = .ok (.aaload, 1) := by decide +kernel
theorem dX5_answerFor_24 : decode cX5_answerFor 24 = .ok (.astore 6, 2) := by decide +kernel
theorem dX5_answerFor_26 : decode cX5_answerFor 26 = .ok (.iconst 0, 1) := by decide +kernel
theorem dX5_answerFor_27 : decode cX5_answerFor 27 = .ok (.istore 7, 2) := by decide +kernel
theorem dX5_answerFor_29 : decode cX5_answerFor 29 = .ok (.iload 7, 2) := by decide +kernel
theorem dX5_answerFor_31 : decode cX5_answerFor 31 = .ok (.aload 6, 2) := by decide +kernel
theorem dX5_answerFor_33 : decode cX5_answerFor 33 = .ok (.getfield 59, 3) := by decide +kernel
theorem dX5_answerFor_36 : decode cX5_answerFor 36 = .ok (.if_icmp .ge 91, 3) := by decide +kernel
theorem dX5_answerFor_39 : decode cX5_answerFor 39 = .ok (.aload 6, 2) := by decide +kernel
theorem dX5_answerFor_41 : decode cX5_answerFor 41 = .ok (.getfield 146, 3) := by decide +kernel
theorem dX5_answerFor_44 : decode cX5_answerFor 44 = .ok (.iload 7, 2) := by decide +kernel
theorem dX5_answerFor_46 : decode cX5_answerFor 46 = .ok (.aaload, 1) := by decide +kernel
theorem dX5_answerFor_47 : decode cX5_answerFor 47 = .ok (.astore 8, 2) := by decide +kernel
theorem dX5_answerFor_49 : decode cX5_answerFor 49 = .ok (.aload 8, 2) := by decide +kernel
theorem dX5_answerFor_51 : decode cX5_answerFor 51 = .ok (.invokevirtual 107, 3) := by decide +kernel
theorem dX5_answerFor_54 : decode cX5_answerFor 54 = .ok (.ifCond .eq 67, 3) := by decide +kernel
theorem dX5_answerFor_57 : decode cX5_answerFor 57 = .ok (.aload 8, 2) := by decide +kernel
theorem dX5_answerFor_59 : decode cX5_answerFor 59 = .ok (.iload_n 2, 1) := by decide +kernel
theorem dX5_answerFor_60 : decode cX5_answerFor 60 = .ok (.iload_n 3, 1) := by decide +kernel
theorem dX5_answerFor_61 : decode cX5_answerFor 61 = .ok (.invokevirtual 193, 3) := by decide +kernel
theorem dX5_answerFor_64 : decode cX5_answerFor 64 = .ok (.ifCond .ne 6, 3) := by decide +kernel
theorem dX5_answerFor_67 : decode cX5_answerFor 67 = .ok (.goto 54, 3) := by decide +kernel
theorem dX5_answerFor_70 : decode cX5_answerFor 70 = .ok (.aload_n 0, 1) := by decide +kernel
theorem dX5_answerFor_71 : decode cX5_answerFor 71 = .ok (.getfield 21, 3) := by decide +kernel
theorem dX5_answerFor_74 : decode cX5_answerFor 74 = .ok (.aload 8, 2) := by decide +kernel
theorem dX5_answerFor_76 : decode cX5_answerFor 76 = .ok (.getfield 127, 3) := by decide +kernel
theorem dX5_answerFor_79 : decode cX5_answerFor 79 = .ok (.invokevirtual 196, 3) := by decide +kernel
theorem dX5_answerFor_82 : decode cX5_answerFor 82 = .ok (.ifCond .eq 16, 3) := by decide +kernel
theorem dX5_answerFor_85 : decode cX5_answerFor 85 = .ok (.aload_n 0, 1) := by decide +kernel
theorem dX5_answerFor_86 : decode cX5_answerFor 86 = .ok (.dup, 1) := by decide +kernel
theorem dX5_answerFor_87 : decode cX5_answerFor 87 = .ok (.getfield 48, 3) := by decide +kernel
theorem dX5_answerFor_90 : decode cX5_answerFor 90 = .ok (.iconst 1, 1) := by decide +kernel
theorem dX5_answerFor_91 : decode cX5_answerFor 91 = .ok (.iadd, 1) := by decide +kernel
theorem dX5_answerFor_92 : decode cX5_answerFor 92 = .ok (.putfield 48, 3) := by decide +kernel
theorem dX5_answerFor_95 : decode cX5_answerFor 95 = .ok (.goto 26, 3) := by decide +kernel
theorem dX5_answerFor_98 : decode cX5_answerFor 98 = .ok (.aload_n 0, 1) := by decide +kernel
theorem dX5_answerFor_99 : decode cX5_answerFor 99 = .ok (.getfield 21, 3) := by decide +kernel
theorem dX5_answerFor_102 : decode cX5_answerFor 102 = .ok (.aload 8, 2) := by decide +kernel
theorem dX5_answerFor_104 : decode cX5_answerFor 104 = .ok (.getfield 127, 3) := by decide +kernel
theorem dX5_answerFor_107 : decode cX5_answerFor 107 = .ok (.invokevirtual 198, 3) := by decide +kernel
theorem dX5_answerFor_110 : decode cX5_answerFor 110 = .ok (.aload_n 0, 1) := by decide +kernel
theorem dX5_answerFor_111 : decode cX5_answerFor 111 = .ok (.iload 4, 2) := by decide +kernel
theorem dX5_answerFor_113 : decode cX5_answerFor 113 = .ok (.aload 8, 2) := by decide +kernel
theorem dX5_answerFor_115 : decode cX5_answerFor 115 = .ok (.invokevirtual 86, 3) := by decide +kernel
theorem dX5_answerFor_118 : decode cX5_answerFor 118 = .ok (.iinc 5 1, 3) := by decide +kernel
theorem dX5_answerFor_121 : decode cX5_answerFor 121 = .ok (.iinc 7 1, 3) := by decide +kernel
theorem dX5_answerFor_124 : decode cX5_answerFor 124 = .ok (.goto (-95), 3) := by decide +kernel
theorem dX5_answerFor_127 : decode cX5_answerFor 127 = .ok (.iload 5, 2) := by decide +kernel
theorem dX5_answerFor_129 : decode cX5_answerFor 129 = .ok (.ireturn, 1) := by decide +kernel
theorem dX5_fallAsleep_0 : decode cX5_fallAsleep 0 = .ok (.aload_n 0, 1) := by decide +kernel
theorem dX5_fallAsleep_1 : decode cX5_fallAsleep 1 = .ok (.iload_n 1, 1) := by decide +kernel
theorem dX5_fallAsleep_2 : decode cX5_fallAsleep 2 = .ok (.invokevirtual 55, 3) := by decide +kernel
theorem dX5_fallAsleep_5 : decode cX5_fallAsleep 5 = .ok (.ifCond .eq 21, 3) := by decide +kernel
theorem dX5_fallAsleep_8 : decode cX5_fallAsleep 8 = .ok (.iload_n 2, 1) := by decide +kernel
theorem dX5_fallAsleep_9 : decode cX5_fallAsleep 9 = .ok (.iload_n 1, 1) := by decide +kernel
theorem dX5_fallAsleep_10 : decode cX5_fallAsleep 10 = .ok (.if_icmp .eq 16, 3) := by decide +kernel
theorem dX5_fallAsleep_13 : decode cX5_fallAsleep 13 = .ok (.iload_n 2, 1) := by decide +kernel
theorem dX5_fallAsleep_14 : decode cX5_fallAsleep 14 = .ok (.iconst (-1), 1) := by decide +kernel
theorem dX5_fallAsleep_15 : decode cX5_fallAsleep 15 = .ok (.if_icmp .eq 14, 3) := by decide +kernel
theorem dX5_fallAsleep_18 : decode cX5_fallAsleep 18 = .ok (.aload_n 0, 1) := by decide +kernel
theorem dX5_fallAsleep_19 : decode cX5_fallAsleep 19 = .ok (.iload_n 2, 1) := by decide +kernel
theorem dX5_fallAsleep_20 : decode cX5_fallAsleep 20 = .ok (.invokevirtual 55, 3) := by decide +kernel
theorem dX5_fallAsleep_23 : decode cX5_fallAsleep 23 = .ok (.ifCond .ne 6, 3) := by decide +kernel
theorem dX5_fallAsleep_26 : decode cX5_fallAsleep 26 = .ok (.bipush (-2), 2) := by decide +kernel
theorem dX5_fallAsleep_28 : decode cX5_fallAsleep 28 = .ok (.ireturn, 1) := by decide +kernel
theorem dX5_fallAsleep_29 : decode cX5_fallAsleep 29 = .ok (.aload_n 0, 1) := by decide +kernel
theorem dX5_fallAsleep_30 : decode cX5_fallAsleep 30 = .ok (.getfield 11, 3) := by decide +kernel
theorem dX5_fallAsleep_33 : decode cX5_fallAsleep 33 = .ok (.iload_n 1, 1) := by decide +kernel
theorem dX5_fallAsleep_34 : decode cX5_fallAsleep 34 = .ok (.aaload, 1) := by decide +kernel
theorem dX5_fallAsleep_35 : decode cX5_fallAsleep 35 = .ok (.getfield 94, 3) := by decide +kernel
theorem dX5_fallAsleep_38 : decode cX5_fallAsleep 38 = .ok (.ifCond .eq 23, 3) := by decide +kernel
theorem dX5_fallAsleep_41 : decode cX5_fallAsleep 41 = .ok (.aload_n 0, 1) := by decide +kernel
theorem dX5_fallAsleep_42 : decode cX5_fallAsleep 42 = .ok (.iload_n 2, 1) := by decide +kernel
theorem dX5_fallAsleep_43 : decode cX5_fallAsleep 43 = .ok (.invokevirtual 55, 3) := by decide +kernel
theorem dX5_fallAsleep_46 : decode cX5_fallAsleep 46 = .ok (.ifCond .eq 18, 3) := by decide +kernel
theorem dX5_fallAsleep_49 : decode cX5_fallAsleep 49 = .ok (.aload_n 0, 1) := by decide +kernel
theorem dX5_fallAsleep_50 : decode cX5_fallAsleep 50 = .ok (.getfield 11, 3) := by decide +kernel
theorem dX5_fallAsleep_53 : decode cX5_fallAsleep 53 = .ok (.iload_n 2, 1) := by decide +kernel
theorem dX5_fallAsleep_54 : decode cX5_fallAsleep 54 = .ok (.aaload, 1) := by decide +kernel
theorem dX5_fallAsleep_55 : decode cX5_fallAsleep 55 = .ok (.getfield 94, 3) := by decide +kernel
theorem dX5_fallAsleep_58 : decode cX5_fallAsleep 58 = .ok (.ifCond .ne 6, 3) := by decide +kernel
theorem dX5_fallAsleep_61 : decode cX5_fallAsleep 61 = .ok (.bipush (-3), 2) := by decide +kernel
theorem dX5_fallAsleep_63 : decode cX5_fallAsleep 63 = .ok (.ireturn, 1) := by decide +kernel
theorem dX5_fallAsleep_64 : decode cX5_fallAsleep 64 = .ok (.aload_n 0, 1) := by decide +kernel
theorem dX5_fallAsleep_65 : decode cX5_fallAsleep 65 = .ok (.getfield 11, 3) := by decide +kernel
theorem dX5_fallAsleep_68 : decode cX5_fallAsleep 68 = .ok (.iload_n 1, 1) := by decide +kernel
theorem dX5_fallAsleep_69 : decode cX5_fallAsleep 69 = .ok (.aaload, 1) := by decide +kernel
theorem dX5_fallAsleep_70 : decode cX5_fallAsleep 70 = .ok (.iconst 0, 1) := by decide +kernel
theorem dX5_fallAsleep_71 : decode cX5_fallAsleep 71 = .ok (.putfield 94, 3) := by decide +kernel
theorem dX5_fallAsleep_74 : decode cX5_fallAsleep 74 = .ok (.aload_n 0, 1) := by decide +kernel
theorem dX5_fallAsleep_75 : decode cX5_fallAsleep 75 = .ok (.getfield 11, 3) := by decide +kernel
theorem dX5_fallAsleep_78 : decode cX5_fallAsleep 78 = .ok (.iload_n 1, 1) := by decide +kernel
theorem dX5_fallAsleep_79 : decode cX5_fallAsleep 79 = .ok (.aaload, 1) := by decide +kernel
theorem dX5_fallAsleep_80 : decode cX5_fallAsleep 80 = .ok (.iload_n 2, 1) := by decide +kernel
theorem dX5_fallAsleep_81 : decode cX5_fallAsleep 81 = .ok (.putfield 136, 3) := by decide +kernel
theorem dX5_fallAsleep_84 : decode cX5_fallAsleep 84 = .ok (.aload_n 0, 1) := by decide +kernel
theorem dX5_fallAsleep_85 : decode cX5_fallAsleep 85 = .ok (.getfield 11, 3) := by decide +kernel
theorem dX5_fallAsleep_88 : decode cX5_fallAsleep 88 = .ok (.iload_n 1, 1) := by decide +kernel
theorem dX5_fallAsleep_89 : decode cX5_fallAsleep 89 = .ok (.aaload, 1) := by decide +kernel
theorem dX5_fallAsleep_90 : decode cX5_fallAsleep 90 = .ok (.invokevirtual 200, 3) := by decide +kernel
theorem dX5_fallAsleep_93 : decode cX5_fallAsleep 93 = .ok (.ireturn, 1) := by decide +kernel
theorem dX5_wakeUp_0 : decode cX5_wakeUp 0 = .ok (.aload_n 0, 1) := by decide +kernel
theorem dX5_wakeUp_1 : decode cX5_wakeUp 1 = .ok (.iload_n 1, 1) := by decide +kernel
theorem dX5_wakeUp_2 : decode cX5_wakeUp 2 = .ok (.invokevirtual 55, 3) := by decide +kernel
theorem dX5_wakeUp_5 : decode cX5_wakeUp 5 = .ok (.ifCond .ne 6, 3) := by decide +kernel
theorem dX5_wakeUp_8 : decode cX5_wakeUp 8 = .ok (.bipush (-2), 2) := by decide +kernel
theorem dX5_wakeUp_10 : decode cX5_wakeUp 10 = .ok (.ireturn, 1) := by decide +kernel
theorem dX5_wakeUp_11 : decode cX5_wakeUp 11 = .ok (.aload_n 0, 1) := by decide +kernel
theorem dX5_wakeUp_12 : decode cX5_wakeUp 12 = .ok (.getfield 11, 3) := by decide +kernel
theorem dX5_wakeUp_15 : decode cX5_wakeUp 15 = .ok (.iload_n 1, 1) := by decide +kernel
theorem dX5_wakeUp_16 : decode cX5_wakeUp 16 = .ok (.aaload, 1) := by decide +kernel
theorem dX5_wakeUp_17 : decode cX5_wakeUp 17 = .ok (.astore_n 2, 1) := by decide +kernel
theorem dX5_wakeUp_18 : decode cX5_wakeUp 18 = .ok (.aload_n 2, 1) := by decide +kernel
theorem dX5_wakeUp_19 : decode cX5_wakeUp 19 = .ok (.getfield 94, 3) := by decide +kernel
theorem dX5_wakeUp_22 : decode cX5_wakeUp 22 = .ok (.ifCond .eq 6, 3) := by decide +kernel
theorem dX5_wakeUp_25 : decode cX5_wakeUp 25 = .ok (.bipush (-3), 2) := by decide +kernel
theorem dX5_wakeUp_27 : decode cX5_wakeUp 27 = .ok (.ireturn, 1) := by decide +kernel
theorem dX5_wakeUp_28 : decode cX5_wakeUp 28 = .ok (.aload_n 2, 1) := by decide +kernel
theorem dX5_wakeUp_29 : decode cX5_wakeUp 29 = .ok (.iconst 1, 1) := by decide +kernel
theorem dX5_wakeUp_30 : decode cX5_wakeUp 30 = .ok (.putfield 94, 3) := by decide +kernel
theorem dX5_wakeUp_33 : decode cX5_wakeUp 33 = .ok (.aload_n 2, 1) := by decide +kernel
theorem dX5_wakeUp_34 : decode cX5_wakeUp 34 = .ok (.iconst (-1), 1) := by decide +kernel
theorem dX5_wakeUp_35 : decode cX5_wakeUp 35 = .ok (.putfield 136, 3) := by decide +kernel
theorem dX5_wakeUp_38 : decode cX5_wakeUp 38 = .ok (.iconst 0, 1) := by decide +kernel
theorem dX5_wakeUp_39 : decode cX5_wakeUp 39 = .ok (.istore_n 3, 1) := by decide +kernel
theorem dX5_wakeUp_40 : decode cX5_wakeUp 40 = .ok (.iconst 0, 1) := by decide +kernel
theorem dX5_wakeUp_41 : decode cX5_wakeUp 41 = .ok (.istore 4, 2) := by decide +kernel
theorem dX5_wakeUp_43 : decode cX5_wakeUp 43 = .ok (.iload 4, 2) := by decide +kernel
theorem dX5_wakeUp_45 : decode cX5_wakeUp 45 = .ok (.aload_n 2, 1) := by decide +kernel
theorem dX5_wakeUp_46 : decode cX5_wakeUp 46 = .ok (.getfield 59, 3) := by decide +kernel
theorem dX5_wakeUp_49 : decode cX5_wakeUp 49 = .ok (.if_icmp .ge 66, 3) := by decide +kernel
theorem dX5_wakeUp_52 : decode cX5_wakeUp 52 = .ok (.aload_n 2, 1) := by decide +kernel
theorem dX5_wakeUp_53 : decode cX5_wakeUp 53 = .ok (.getfield 146, 3) := by decide +kernel
theorem dX5_wakeUp_56 : decode cX5_wakeUp 56 = .ok (.iload 4, 2) := by decide +kernel
theorem dX5_wakeUp_58 : decode cX5_wakeUp 58 = .ok (.aaload, 1) := by decide +kernel
theorem dX5_wakeUp_59 : decode cX5_wakeUp 59 = .ok (.astore 5, 2) := by decide +kernel
theorem dX5_wakeUp_61 : decode cX5_wakeUp 61 = .ok (.aload 5, 2) := by decide +kernel
theorem dX5_wakeUp_63 : decode cX5_wakeUp 63 = .ok (.invokevirtual 107, 3) := by decide +kernel
theorem dX5_wakeUp_66 : decode cX5_wakeUp 66 = .ok (.ifCond .ne 6, 3) := by decide +kernel
theorem dX5_wakeUp_69 : decode cX5_wakeUp 69 = .ok (.goto 40, 3) := by decide +kernel
theorem dX5_wakeUp_72 : decode cX5_wakeUp 72 = .ok (.aload 5, 2) := by decide +kernel
theorem dX5_wakeUp_74 : decode cX5_wakeUp 74 = .ok (.getfield 77, 3) := by decide +kernel
theorem dX5_wakeUp_77 : decode cX5_wakeUp 77 = .ok (.ifCond .eq 22, 3) := by decide +kernel
theorem dX5_wakeUp_80 : decode cX5_wakeUp 80 = .ok (.aload_n 0, 1) := by decide +kernel
theorem dX5_wakeUp_81 : decode cX5_wakeUp 81 = .ok (.iload_n 1, 1) := by decide +kernel
theorem dX5_wakeUp_82 : decode cX5_wakeUp 82 = .ok (.aload 5, 2) := by decide +kernel
theorem dX5_wakeUp_84 : decode cX5_wakeUp 84 = .ok (.invokevirtual 165, 3) := by decide +kernel
theorem dX5_wakeUp_87 : decode cX5_wakeUp 87 = .ok (.ifCond .eq 12, 3) := by decide +kernel
theorem dX5_wakeUp_90 : decode cX5_wakeUp 90 = .ok (.aload 5, 2) := by decide +kernel
theorem dX5_wakeUp_92 : decode cX5_wakeUp 92 = .ok (.iconst 0, 1) := by decide +kernel
theorem dX5_wakeUp_93 : decode cX5_wakeUp 93 = .ok (.invokevirtual 169, 3) := by decide +kernel
theorem dX5_wakeUp_96 : decode cX5_wakeUp 96 = .ok (.goto 13, 3) := by decide +kernel
theorem dX5_wakeUp_99 : decode cX5_wakeUp 99 = .ok (.aload_n 0, 1) := by decide +kernel
theorem dX5_wakeUp_100 : decode cX5_wakeUp 100 = .ok (.iload_n 1, 1) := by decide +kernel
theorem dX5_wakeUp_101 : decode cX5_wakeUp 101 = .ok (.aload 5, 2) := by decide +kernel
theorem dX5_wakeUp_103 : decode cX5_wakeUp 103 = .ok (.invokevirtual 86, 3) := by decide +kernel
theorem dX5_wakeUp_106 : decode cX5_wakeUp 106 = .ok (.iinc 3 1, 3) := by decide +kernel
theorem dX5_wakeUp_109 : decode cX5_wakeUp 109 = .ok (.iinc 4 1, 3) := by decide +kernel
theorem dX5_wakeUp_112 : decode cX5_wakeUp 112 = .ok (.goto (-69), 3) := by decide +kernel
theorem dX5_wakeUp_115 : decode cX5_wakeUp 115 = .ok (.iload_n 3, 1) := by decide +kernel
theorem dX5_wakeUp_116 : decode cX5_wakeUp 116 = .ok (.ireturn, 1) := by decide +kernel
theorem dX5_recordProperty_0 : decode cX5_recordProperty 0 = .ok (.aload_n 0, 1) := by decide +kernel
theorem dX5_recordProperty_1 : decode cX5_recordProperty 1 = .ok (.iload_n 1, 1) := by decide +kernel
theorem dX5_recordProperty_2 : decode cX5_recordProperty 2 = .ok (.iload_n 2, 1) := by decide +kernel
theorem dX5_recordProperty_3 : decode cX5_recordProperty 3 = .ok (.invokevirtual 100, 3) := by decide +kernel
theorem dX5_recordProperty_6 : decode cX5_recordProperty 6 = .ok (.ifCond .ne 6, 3) := by decide +kernel
theorem dX5_recordProperty_9 : decode cX5_recordProperty 9 = .ok (.bipush (-2), 2) := by decide +kernel
theorem dX5_recordProperty_11 : decode cX5_recordProperty 11 = .ok (.ireturn, 1) := by decide +kernel
theorem dX5_recordProperty_12 : decode cX5_recordProperty 12 = .ok (.aload_n 0, 1) := by decide +kernel
theorem dX5_recordProperty_13 : decode cX5_recordProperty 13 = .ok (.getfield 11, 3) := by decide +kernel
theorem dX5_recordProperty_16 : decode cX5_recordProperty 16 = .ok (.iload_n 1, 1) := by decide +kernel
theorem dX5_recordProperty_17 : decode cX5_recordProperty 17 = .ok (.aaload, 1) := by decide +kernel
theorem dX5_recordProperty_18 : decode cX5_recordProperty 18 = .ok (.getfield 146, 3) := by decide +kernel
theorem dX5_recordProperty_21 : decode cX5_recordProperty 21 = .ok (.iload_n 2, 1) := by decide +kernel
theorem dX5_recordProperty_22 : decode cX5_recordProperty 22 = .ok (.aaload, 1) := by decide +kernel
theorem dX5_recordProperty_23 : decode cX5_recordProperty 23 = .ok (.astore 4, 2) := by decide +kernel
theorem dX5_recordProperty_25 : decode cX5_recordProperty 25 = .ok (.iload_n 3, 1) := by decide +kernel
theorem dX5_recordProperty_26 : decode cX5_recordProperty 26 = .ok (.tableswitch 102 0 7 #[46, 52, 58, 64, 70, 76, 82, 91], 46) := by decide +kernel
theorem dX5_recordProperty_72 : decode cX5_recordProperty 72 = .ok (.aload 4, 2) := by decide +kernel
theorem dX5_recordProperty_74 : decode cX5_recordProperty 74 = .ok (.getfield 121, 3) := by decide +kernel
theorem dX5_recordProperty_77 : decode cX5_recordProperty 77 = .ok (.ireturn, 1) := by decide +kernel
theorem dX5_recordProperty_78 : decode cX5_recordProperty 78 = .ok (.aload 4, 2) := by decide +kernel
theorem dX5_recordProperty_80 : decode cX5_recordProperty 80 = .ok (.getfield 124, 3) := by decide +kernel
theorem dX5_recordProperty_83 : decode cX5_recordProperty 83 = .ok (.ireturn, 1) := by decide +kernel
theorem dX5_recordProperty_84 : decode cX5_recordProperty 84 = .ok (.aload 4, 2) := by decide +kernel
theorem dX5_recordProperty_86 : decode cX5_recordProperty 86 = .ok (.getfield 127, 3) := by decide +kernel
theorem dX5_recordProperty_89 : decode cX5_recordProperty 89 = .ok (.ireturn, 1) := by decide +kernel
theorem dX5_recordProperty_90 : decode cX5_recordProperty 90 = .ok (.aload 4, 2) := by decide +kernel
theorem dX5_recordProperty_92 : decode cX5_recordProperty 92 = .ok (.getfield 204, 3) := by decide +kernel
theorem dX5_recordProperty_95 : decode cX5_recordProperty 95 = .ok (.ireturn, 1) := by decide +kernel
theorem dX5_recordProperty_96 : decode cX5_recordProperty 96 = .ok (.aload 4, 2) := by decide +kernel
theorem dX5_recordProperty_98 : decode cX5_recordProperty 98 = .ok (.getfield 83, 3) := by decide +kernel
theorem dX5_recordProperty_101 : decode cX5_recordProperty 101 = .ok (.ireturn, 1) := by decide +kernel
theorem dX5_recordProperty_102 : decode cX5_recordProperty 102 = .ok (.aload 4, 2) := by decide +kernel
theorem dX5_recordProperty_104 : decode cX5_recordProperty 104 = .ok (.getfield 162, 3) := by decide +kernel
theorem dX5_recordProperty_107 : decode cX5_recordProperty 107 = .ok (.ireturn, 1) := by decide +kernel
theorem dX5_recordProperty_108 : decode cX5_recordProperty 108 = .ok (.aload 4, 2) := by decide +kernel
theorem dX5_recordProperty_110 : decode cX5_recordProperty 110 = .ok (.getfield 77, 3) := by decide +kernel
theorem dX5_recordProperty_113 : decode cX5_recordProperty 113 = .ok (.invokestatic 207, 3) := by decide +kernel
theorem dX5_recordProperty_116 : decode cX5_recordProperty 116 = .ok (.ireturn, 1) := by decide +kernel
theorem dX5_recordProperty_117 : decode cX5_recordProperty 117 = .ok (.aload_n 0, 1) := by decide +kernel
theorem dX5_recordProperty_118 : decode cX5_recordProperty 118 = .ok (.iload_n 1, 1) := by decide +kernel
theorem dX5_recordProperty_119 : decode cX5_recordProperty 119 = .ok (.aload 4, 2) := by decide +kernel
theorem dX5_recordProperty_121 : decode cX5_recordProperty 121 = .ok (.invokevirtual 211, 3) := by decide +kernel
theorem dX5_recordProperty_124 : decode cX5_recordProperty 124 = .ok (.invokestatic 207, 3) := by decide +kernel
theorem dX5_recordProperty_127 : decode cX5_recordProperty 127 = .ok (.ireturn, 1) := by decide +kernel
theorem dX5_recordProperty_128 : decode cX5_recordProperty 128 = .ok (.bipush (-2), 2) := by decide +kernel
theorem dX5_recordProperty_130 : decode cX5_recordProperty 130 = .ok (.ireturn, 1) := by decide +kernel
theorem dX5_hostProperty_0 : decode cX5_hostProperty 0 = .ok (.aload_n 0, 1) := by decide +kernel
theorem dX5_hostProperty_1 : decode cX5_hostProperty 1 = .ok (.iload_n 1, 1) := by decide +kernel
theorem dX5_hostProperty_2 : decode cX5_hostProperty 2 = .ok (.invokevirtual 55, 3) := by decide +kernel
theorem dX5_hostProperty_5 : decode cX5_hostProperty 5 = .ok (.ifCond .ne 6, 3) := by decide +kernel
theorem dX5_hostProperty_8 : decode cX5_hostProperty 8 = .ok (.bipush (-2), 2) := by decide +kernel
theorem dX5_hostProperty_10 : decode cX5_hostProperty 10 = .ok (.ireturn, 1) := by decide +kernel
theorem dX5_hostProperty_11 : decode cX5_hostProperty 11 = .ok (.aload_n 0, 1) := by decide +kernel
theorem dX5_hostProperty_12 : decode cX5_hostProperty 12 = .ok (.getfield 11, 3) := by decide +kernel
theorem dX5_hostProperty_15 : decode cX5_hostProperty 15 = .ok (.iload_n 1, 1) := by decide +kernel
theorem dX5_hostProperty_16 : decode cX5_hostProperty 16 = .ok (.aaload, 1) := by decide +kernel
theorem dX5_hostProperty_17 : decode cX5_hostProperty 17 = .ok (.astore_n 3, 1) := by decide +kernel
theorem dX5_hostProperty_18 : decode cX5_hostProperty 18 = .ok (.iload_n 2, 1) := by decide +kernel
theorem dX5_hostProperty_19 : decode cX5_hostProperty 19 = .ok (.tableswitch 74 0 5 #[37, 42, 50, 55, 63, 68], 37) := by decide +kernel
theorem dX5_hostProperty_56 : decode cX5_hostProperty 56 = .ok (.aload_n 3, 1) := by decide +kernel
theorem dX5_hostProperty_57 : decode cX5_hostProperty 57 = .ok (.getfield 59, 3) := by decide +kernel
theorem dX5_hostProperty_60 : decode cX5_hostProperty 60 = .ok (.ireturn, 1) := by decide +kernel
theorem dX5_hostProperty_61 : decode cX5_hostProperty 61 = .ok (.aload_n 3, 1) := by decide +kernel
theorem dX5_hostProperty_62 : decode cX5_hostProperty 62 = .ok (.getfield 94, 3) := by decide +kernel
theorem dX5_hostProperty_65 : decode cX5_hostProperty 65 = .ok (.invokestatic 207, 3) := by decide +kernel
theorem dX5_hostProperty_68 : decode cX5_hostProperty 68 = .ok (.ireturn, 1) := by decide +kernel
theorem dX5_hostProperty_69 : decode cX5_hostProperty 69 = .ok (.aload_n 3, 1) := by decide +kernel
theorem dX5_hostProperty_70 : decode cX5_hostProperty 70 = .ok (.getfield 136, 3) := by decide +kernel
theorem dX5_hostProperty_73 : decode cX5_hostProperty 73 = .ok (.ireturn, 1) := by decide +kernel
theorem dX5_hostProperty_74 : decode cX5_hostProperty 74 = .ok (.aload_n 3, 1) := by decide +kernel
theorem dX5_hostProperty_75 : decode cX5_hostProperty 75 = .ok (.getfield 111, 3) := by decide +kernel
theorem dX5_hostProperty_78 : decode cX5_hostProperty 78 = .ok (.getfield 214, 3) := by decide +kernel
theorem dX5_hostProperty_81 : decode cX5_hostProperty 81 = .ok (.ireturn, 1) := by decide +kernel
theorem dX5_hostProperty_82 : decode cX5_hostProperty 82 = .ok (.aload_n 3, 1) := by decide +kernel
theorem dX5_hostProperty_83 : decode cX5_hostProperty 83 = .ok (.invokevirtual 200, 3) := by decide +kernel
theorem dX5_hostProperty_86 : decode cX5_hostProperty 86 = .ok (.ireturn, 1) := by decide +kernel
theorem dX5_hostProperty_87 : decode cX5_hostProperty 87 = .ok (.aload_n 0, 1) := by decide +kernel
theorem dX5_hostProperty_88 : decode cX5_hostProperty 88 = .ok (.iload_n 1, 1) := by decide +kernel
theorem dX5_hostProperty_89 : decode cX5_hostProperty 89 = .ok (.invokevirtual 217, 3) := by decide +kernel
theorem dX5_hostProperty_92 : decode cX5_hostProperty 92 = .ok (.ireturn, 1) := by decide +kernel
theorem dX5_hostProperty_93 : decode cX5_hostProperty 93 = .ok (.bipush (-2), 2) := by decide +kernel
theorem dX5_hostProperty_95 : decode cX5_hostProperty 95 = .ok (.ireturn, 1) := by decide +kernel
theorem dX5_hostsWithProxy_0 : decode cX5_hostsWithProxy 0 = .ok (.iconst 0, 1) := by decide +kernel
theorem dX5_hostsWithProxy_1 : decode cX5_hostsWithProxy 1 = .ok (.istore_n 2, 1) := by decide +kernel
theorem dX5_hostsWithProxy_2 : decode cX5_hostsWithProxy 2 = .ok (.iconst 0, 1) := by decide +kernel
theorem dX5_hostsWithProxy_3 : decode cX5_hostsWithProxy 3 = .ok (.istore_n 3, 1) := by decide +kernel
theorem dX5_hostsWithProxy_4 : decode cX5_hostsWithProxy 4 = .ok (.iload_n 3, 1) := by decide +kernel
theorem dX5_hostsWithProxy_5 : decode cX5_hostsWithProxy 5 = .ok (.aload_n 0, 1) := by decide +kernel
theorem dX5_hostsWithProxy_6 : decode cX5_hostsWithProxy 6 = .ok (.getfield 25, 3) := by decide +kernel
theorem dX5_hostsWithProxy_9 : decode cX5_hostsWithProxy 9 = .ok (.if_icmp .ge 28, 3) := by decide +kernel
theorem dX5_hostsWithProxy_12 : decode cX5_hostsWithProxy 12 = .ok (.aload_n 0, 1) := by decide +kernel
theorem dX5_hostsWithProxy_13 : decode cX5_hostsWithProxy 13 = .ok (.getfield 11, 3) := by decide +kernel
theorem dX5_hostsWithProxy_16 : decode cX5_hostsWithProxy 16 = .ok (.iload_n 3, 1) := by decide +kernel
theorem dX5_hostsWithProxy_17 : decode cX5_hostsWithProxy 17 = .ok (.aaload, 1) := by decide +kernel
theorem dX5_hostsWithProxy_18 : decode cX5_hostsWithProxy 18 = .ok (.getfield 136, 3) := by decide +kernel
theorem dX5_hostsWithProxy_21 : decode cX5_hostsWithProxy 21 = .ok (.iload_n 1, 1) := by decide +kernel
theorem dX5_hostsWithProxy_22 : decode cX5_hostsWithProxy 22 = .ok (.if_icmp .ne 9, 3) := by decide +kernel
theorem dX5_hostsWithProxy_25 : decode cX5_hostsWithProxy 25 = .ok (.iload_n 2, 1) := by decide +kernel
theorem dX5_hostsWithProxy_26 : decode cX5_hostsWithProxy 26 = .ok (.iconst 1, 1) := by decide +kernel
theorem dX5_hostsWithProxy_27 : decode cX5_hostsWithProxy 27 = .ok (.iload_n 3, 1) := by decide +kernel
theorem dX5_hostsWithProxy_28 : decode cX5_hostsWithProxy 28 = .ok (.ishl, 1) := by decide +kernel
theorem dX5_hostsWithProxy_29 : decode cX5_hostsWithProxy 29 = .ok (.ior, 1) := by decide +kernel
theorem dX5_hostsWithProxy_30 : decode cX5_hostsWithProxy 30 = .ok (.istore_n 2, 1) := by decide +kernel
theorem dX5_hostsWithProxy_31 : decode cX5_hostsWithProxy 31 = .ok (.iinc 3 1, 3) := by decide +kernel
theorem dX5_hostsWithProxy_34 : decode cX5_hostsWithProxy 34 = .ok (.goto (-30), 3) := by decide +kernel
theorem dX5_hostsWithProxy_37 : decode cX5_hostsWithProxy 37 = .ok (.iload_n 2, 1) := by decide +kernel
theorem dX5_hostsWithProxy_38 : decode cX5_hostsWithProxy 38 = .ok (.ireturn, 1) := by decide +kernel
theorem dX5_entryProperty_0 : decode cX5_entryProperty 0 = .ok (.aload_n 0, 1) := by decide +kernel
theorem dX5_entryProperty_1 : decode cX5_entryProperty 1 = .ok (.iload_n 1, 1) := by decide +kernel
theorem dX5_entryProperty_2 : decode cX5_entryProperty 2 = .ok (.invokevirtual 55, 3) := by decide +kernel
theorem dX5_entryProperty_5 : decode cX5_entryProperty 5 = .ok (.ifCond .eq 16, 3) := by decide +kernel
theorem dX5_entryProperty_8 : decode cX5_entryProperty 8 = .ok (.iload_n 2, 1) := by decide +kernel
theorem dX5_entryProperty_9 : decode cX5_entryProperty 9 = .ok (.ifCond .lt 12, 3) := by decide +kernel
theorem dX5_entryProperty_12 : decode cX5_entryProperty 12 = .ok (.iload_n 3, 1) := by decide +kernel
theorem dX5_entryProperty_13 : decode cX5_entryProperty 13 = .ok (.iconst 0, 1) := by decide +kernel
theorem dX5_entryProperty_14 : decode cX5_entryProperty 14 = .ok (.iconst 4, 1) := by decide +kernel
theorem dX5_entryProperty_15 : decode cX5_entryProperty 15 = .ok (.invokestatic 62, 3) := by decide +kernel
theorem dX5_entryProperty_18 : decode cX5_entryProperty 18 = .ok (.ifCond .ne 6, 3) := by decide +kernel
theorem dX5_entryProperty_21 : decode cX5_entryProperty 21 = .ok (.bipush (-2), 2) := by decide +kernel
theorem dX5_entryProperty_23 : decode cX5_entryProperty 23 = .ok (.ireturn, 1) := by decide +kernel
theorem dX5_entryProperty_24 : decode cX5_entryProperty 24 = .ok (.aload_n 0, 1) := by decide +kernel
theorem dX5_entryProperty_25 : decode cX5_entryProperty 25 = .ok (.getfield 11, 3) := by decide +kernel
theorem dX5_entryProperty_28 : decode cX5_entryProperty 28 = .ok (.iload_n 1, 1) := by decide +kernel
theorem dX5_entryProperty_29 : decode cX5_entryProperty 29 = .ok (.aaload, 1) := by decide +kernel
theorem dX5_entryProperty_30 : decode cX5_entryProperty 30 = .ok (.getfield 111, 3) := by decide +kernel
theorem dX5_entryProperty_33 : decode cX5_entryProperty 33 = .ok (.astore 4, 2) := by decide +kernel
theorem dX5_entryProperty_35 : decode cX5_entryProperty 35 = .ok (.iload_n 2, 1) := by decide +kernel
theorem dX5_entryProperty_36 : decode cX5_entryProperty 36 = .ok (.aload 4, 2) := by decide +kernel
theorem dX5_entryProperty_38 : decode cX5_entryProperty 38 = .ok (.getfield 214, 3) := by decide +kernel
theorem dX5_entryProperty_41 : decode cX5_entryProperty 41 = .ok (.if_icmp .lt 5, 3) := by decide +kernel
theorem dX5_entryProperty_44 : decode cX5_entryProperty 44 = .ok (.iconst (-1), 1) := by decide +kernel
theorem dX5_entryProperty_45 : decode cX5_entryProperty 45 = .ok (.ireturn, 1) := by decide +kernel
theorem dX5_entryProperty_46 : decode cX5_entryProperty 46 = .ok (.aload 4, 2) := by decide +kernel
theorem dX5_entryProperty_48 : decode cX5_entryProperty 48 = .ok (.getfield 220, 3) := by decide +kernel
theorem dX5_entryProperty_51 : decode cX5_entryProperty 51 = .ok (.iload_n 2, 1) := by decide +kernel
theorem dX5_entryProperty_52 : decode cX5_entryProperty 52 = .ok (.aaload, 1) := by decide +kernel
theorem dX5_entryProperty_53 : decode cX5_entryProperty 53 = .ok (.astore 5, 2) := by decide +kernel
theorem dX5_entryProperty_55 : decode cX5_entryProperty 55 = .ok (.iload_n 3, 1) := by decide +kernel
theorem dX5_entryProperty_56 : decode cX5_entryProperty 56 = .ok (.tableswitch 56 0 3 #[32, 38, 44, 50], 32) := by decide +kernel
theorem dX5_entryProperty_88 : decode cX5_entryProperty 88 = .ok (.aload 5, 2) := by decide +kernel
theorem dX5_entryProperty_90 : decode cX5_entryProperty 90 = .ok (.getfield 224, 3) := by decide +kernel
theorem dX5_entryProperty_93 : decode cX5_entryProperty 93 = .ok (.ireturn, 1) := by decide +kernel
theorem dX5_entryProperty_94 : decode cX5_entryProperty 94 = .ok (.aload 5, 2) := by decide +kernel
theorem dX5_entryProperty_96 : decode cX5_entryProperty 96 = .ok (.getfield 227, 3) := by decide +kernel
theorem dX5_entryProperty_99 : decode cX5_entryProperty 99 = .ok (.ireturn, 1) := by decide +kernel
theorem dX5_entryProperty_100 : decode cX5_entryProperty 100 = .ok (.aload 5, 2) := by decide +kernel
theorem dX5_entryProperty_102 : decode cX5_entryProperty 102 = .ok (.getfield 228, 3) := by decide +kernel
theorem dX5_entryProperty_105 : decode cX5_entryProperty 105 = .ok (.ireturn, 1) := by decide +kernel
theorem dX5_entryProperty_106 : decode cX5_entryProperty 106 = .ok (.aload 5, 2) := by decide +kernel
theorem dX5_entryProperty_108 : decode cX5_entryProperty 108 = .ok (.getfield 229, 3) := by decide +kernel
theorem dX5_entryProperty_111 : decode cX5_entryProperty 111 = .ok (.ireturn, 1) := by decide +kernel
theorem dX5_entryProperty_112 : decode cX5_entryProperty 112 = .ok (.aload 5, 2) := by decide +kernel
theorem dX5_entryProperty_114 : decode cX5_entryProperty 114 = .ok (.getfield 230, 3) := by decide +kernel
theorem dX5_entryProperty_117 : decode cX5_entryProperty 117 = .ok (.aload_n 0, 1) := by decide +kernel
theorem dX5_entryProperty_118 : decode cX5_entryProperty 118 = .ok (.getfield 33, 3) := by decide +kernel
theorem dX5_entryProperty_121 : decode cX5_entryProperty 121 = .ok (.isub, 1) := by decide +kernel
theorem dX5_entryProperty_122 : decode cX5_entryProperty 122 = .ok (.ireturn, 1) := by decide +kernel
theorem dX5_lookUp_0 : decode cX5_lookUp 0 = .ok (.aload_n 0, 1) := by decide +kernel
theorem dX5_lookUp_1 : decode cX5_lookUp 1 = .ok (.iload_n 1, 1) := by decide +kernel
theorem dX5_lookUp_2 : decode cX5_lookUp 2 = .ok (.invokevirtual 55, 3) := by decide +kernel
theorem dX5_lookUp_5 : decode cX5_lookUp 5 = .ok (.ifCond .eq 11, 3) := by decide +kernel
theorem dX5_lookUp_8 : decode cX5_lookUp 8 = .ok (.iload_n 2, 1) := by decide +kernel
theorem dX5_lookUp_9 : decode cX5_lookUp 9 = .ok (.iload_n 3, 1) := by decide +kernel
theorem dX5_lookUp_10 : decode cX5_lookUp 10 = .ok (.invokestatic 90, 3) := by decide +kernel
theorem dX5_lookUp_13 : decode cX5_lookUp 13 = .ok (.ifCond .ne 6, 3) := by decide +kernel
theorem dX5_lookUp_16 : decode cX5_lookUp 16 = .ok (.bipush (-2), 2) := by decide +kernel
theorem dX5_lookUp_18 : decode cX5_lookUp 18 = .ok (.ireturn, 1) := by decide +kernel
theorem dX5_lookUp_19 : decode cX5_lookUp 19 = .ok (.aload_n 0, 1) := by decide +kernel
theorem dX5_lookUp_20 : decode cX5_lookUp 20 = .ok (.getfield 11, 3) := by decide +kernel
theorem dX5_lookUp_23 : decode cX5_lookUp 23 = .ok (.iload_n 1, 1) := by decide +kernel
theorem dX5_lookUp_24 : decode cX5_lookUp 24 = .ok (.aaload, 1) := by decide +kernel
theorem dX5_lookUp_25 : decode cX5_lookUp 25 = .ok (.getfield 111, 3) := by decide +kernel
theorem dX5_lookUp_28 : decode cX5_lookUp 28 = .ok (.astore 5, 2) := by decide +kernel
theorem dX5_lookUp_30 : decode cX5_lookUp 30 = .ok (.iload 4, 2) := by decide +kernel
theorem dX5_lookUp_32 : decode cX5_lookUp 32 = .ok (.tableswitch 56 0 2 #[28, 36, 44], 28) := by decide +kernel
theorem dX5_lookUp_60 : decode cX5_lookUp 60 = .ok (.aload 5, 2) := by decide +kernel
theorem dX5_lookUp_62 : decode cX5_lookUp 62 = .ok (.iload_n 2, 1) := by decide +kernel
theorem dX5_lookUp_63 : decode cX5_lookUp 63 = .ok (.iload_n 3, 1) := by decide +kernel
theorem dX5_lookUp_64 : decode cX5_lookUp 64 = .ok (.invokevirtual 233, 3) := by decide +kernel
theorem dX5_lookUp_67 : decode cX5_lookUp 67 = .ok (.ireturn, 1) := by decide +kernel
theorem dX5_lookUp_68 : decode cX5_lookUp 68 = .ok (.aload 5, 2) := by decide +kernel
theorem dX5_lookUp_70 : decode cX5_lookUp 70 = .ok (.iload_n 2, 1) := by decide +kernel
theorem dX5_lookUp_71 : decode cX5_lookUp 71 = .ok (.iload_n 3, 1) := by decide +kernel
theorem dX5_lookUp_72 : decode cX5_lookUp 72 = .ok (.invokevirtual 237, 3) := by decide +kernel
theorem dX5_lookUp_75 : decode cX5_lookUp 75 = .ok (.ireturn, 1) := by decide +kernel
theorem dX5_lookUp_76 : decode cX5_lookUp 76 = .ok (.aload 5, 2) := by decide +kernel
theorem dX5_lookUp_78 : decode cX5_lookUp 78 = .ok (.iload_n 2, 1) := by decide +kernel
theorem dX5_lookUp_79 : decode cX5_lookUp 79 = .ok (.iload_n 3, 1) := by decide +kernel
theorem dX5_lookUp_80 : decode cX5_lookUp 80 = .ok (.aload_n 0, 1) := by decide +kernel
theorem dX5_lookUp_81 : decode cX5_lookUp 81 = .ok (.getfield 33, 3) := by decide +kernel
theorem dX5_lookUp_84 : decode cX5_lookUp 84 = .ok (.invokevirtual 240, 3) := by decide +kernel
theorem dX5_lookUp_87 : decode cX5_lookUp 87 = .ok (.ireturn, 1) := by decide +kernel
theorem dX5_lookUp_88 : decode cX5_lookUp 88 = .ok (.bipush (-2), 2) := by decide +kernel
theorem dX5_lookUp_90 : decode cX5_lookUp 90 = .ok (.ireturn, 1) := by decide +kernel
theorem dX5_defender_0 : decode cX5_defender 0 = .ok (.iload_n 1, 1) := by decide +kernel
theorem dX5_defender_1 : decode cX5_defender 1 = .ok (.iload_n 2, 1) := by decide +kernel
theorem dX5_defender_2 : decode cX5_defender 2 = .ok (.invokestatic 90, 3) := by decide +kernel
theorem dX5_defender_5 : decode cX5_defender 5 = .ok (.ifCond .eq 12, 3) := by decide +kernel
theorem dX5_defender_8 : decode cX5_defender 8 = .ok (.iload_n 3, 1) := by decide +kernel
theorem dX5_defender_9 : decode cX5_defender 9 = .ok (.iconst 0, 1) := by decide +kernel
theorem dX5_defender_10 : decode cX5_defender 10 = .ok (.iconst 2, 1) := by decide +kernel
theorem dX5_defender_11 : decode cX5_defender 11 = .ok (.invokestatic 62, 3) := by decide +kernel
theorem dX5_defender_14 : decode cX5_defender 14 = .ok (.ifCond .ne 6, 3) := by decide +kernel
theorem dX5_defender_17 : decode cX5_defender 17 = .ok (.bipush (-2), 2) := by decide +kernel
theorem dX5_defender_19 : decode cX5_defender 19 = .ok (.ireturn, 1) := by decide +kernel
theorem dX5_defender_20 : decode cX5_defender 20 = .ok (.iconst (-1), 1) := by decide +kernel
theorem dX5_defender_21 : decode cX5_defender 21 = .ok (.istore 4, 2) := by decide +kernel
theorem dX5_defender_23 : decode cX5_defender 23 = .ok (.iconst 0, 1) := by decide +kernel
theorem dX5_defender_24 : decode cX5_defender 24 = .ok (.istore 5, 2) := by decide +kernel
theorem dX5_defender_26 : decode cX5_defender 26 = .ok (.iconst 0, 1) := by decide +kernel
theorem dX5_defender_27 : decode cX5_defender 27 = .ok (.istore 6, 2) := by decide +kernel
theorem dX5_defender_29 : decode cX5_defender 29 = .ok (.iload 6, 2) := by decide +kernel
theorem dX5_defender_31 : decode cX5_defender 31 = .ok (.aload_n 0, 1) := by decide +kernel
theorem dX5_defender_32 : decode cX5_defender 32 = .ok (.getfield 25, 3) := by decide +kernel
theorem dX5_defender_35 : decode cX5_defender 35 = .ok (.if_icmp .ge 53, 3) := by decide +kernel
theorem dX5_defender_38 : decode cX5_defender 38 = .ok (.aload_n 0, 1) := by decide +kernel
theorem dX5_defender_39 : decode cX5_defender 39 = .ok (.iload 6, 2) := by decide +kernel
theorem dX5_defender_41 : decode cX5_defender 41 = .ok (.invokevirtual 139, 3) := by decide +kernel
theorem dX5_defender_44 : decode cX5_defender 44 = .ok (.iconst (-1), 1) := by decide +kernel
theorem dX5_defender_45 : decode cX5_defender 45 = .ok (.if_icmp .eq 37, 3) := by decide +kernel
theorem dX5_defender_48 : decode cX5_defender 48 = .ok (.aload_n 0, 1) := by decide +kernel
theorem dX5_defender_49 : decode cX5_defender 49 = .ok (.getfield 11, 3) := by decide +kernel
theorem dX5_defender_52 : decode cX5_defender 52 = .ok (.iload 6, 2) := by decide +kernel
theorem dX5_defender_54 : decode cX5_defender 54 = .ok (.aaload, 1) := by decide +kernel
theorem dX5_defender_55 : decode cX5_defender 55 = .ok (.iload_n 1, 1) := by decide +kernel
theorem dX5_defender_56 : decode cX5_defender 56 = .ok (.iload_n 2, 1) := by decide +kernel
theorem dX5_defender_57 : decode cX5_defender 57 = .ok (.invokevirtual 243, 3) := by decide +kernel
theorem dX5_defender_60 : decode cX5_defender 60 = .ok (.iconst (-1), 1) := by decide +kernel
theorem dX5_defender_61 : decode cX5_defender 61 = .ok (.if_icmp .eq 21, 3) := by decide +kernel
theorem dX5_defender_64 : decode cX5_defender 64 = .ok (.iload 4, 2) := by decide +kernel
theorem dX5_defender_66 : decode cX5_defender 66 = .ok (.iconst (-1), 1) := by decide +kernel
theorem dX5_defender_67 : decode cX5_defender 67 = .ok (.if_icmp .ne 8, 3) := by decide +kernel
theorem dX5_defender_70 : decode cX5_defender 70 = .ok (.iload 6, 2) := by decide +kernel
theorem dX5_defender_72 : decode cX5_defender 72 = .ok (.goto 5, 3) := by decide +kernel
theorem dX5_defender_75 : decode cX5_defender 75 = .ok (.iload 4, 2) := by decide +kernel
theorem dX5_defender_77 : decode cX5_defender 77 = .ok (.istore 4, 2) := by decide +kernel
theorem dX5_defender_79 : decode cX5_defender 79 = .ok (.iinc 5 1, 3) := by decide +kernel
theorem dX5_defender_82 : decode cX5_defender 82 = .ok (.iinc 6 1, 3) := by decide +kernel
theorem dX5_defender_85 : decode cX5_defender 85 = .ok (.goto (-56), 3) := by decide +kernel
theorem dX5_defender_88 : decode cX5_defender 88 = .ok (.iload_n 3, 1) := by decide +kernel
theorem dX5_defender_89 : decode cX5_defender 89 = .ok (.iconst 2, 1) := by decide +kernel
theorem dX5_defender_90 : decode cX5_defender 90 = .ok (.if_icmp .ne 6, 3) := by decide +kernel
theorem dX5_defender_93 : decode cX5_defender 93 = .ok (.iload 5, 2) := by decide +kernel
theorem dX5_defender_95 : decode cX5_defender 95 = .ok (.ireturn, 1) := by decide +kernel
theorem dX5_defender_96 : decode cX5_defender 96 = .ok (.aload_n 0, 1) := by decide +kernel
theorem dX5_defender_97 : decode cX5_defender 97 = .ok (.iload 4, 2) := by decide +kernel
theorem dX5_defender_99 : decode cX5_defender 99 = .ok (.invokevirtual 55, 3) := by decide +kernel
theorem dX5_defender_102 : decode cX5_defender 102 = .ok (.ifCond .eq 7, 3) := by decide +kernel
theorem dX5_defender_105 : decode cX5_defender 105 = .ok (.iload_n 3, 1) := by decide +kernel
theorem dX5_defender_106 : decode cX5_defender 106 = .ok (.ifCond .ne 6, 3) := by decide +kernel
theorem dX5_defender_109 : decode cX5_defender 109 = .ok (.iload 4, 2) := by decide +kernel
theorem dX5_defender_111 : decode cX5_defender 111 = .ok (.ireturn, 1) := by decide +kernel
theorem dX5_defender_112 : decode cX5_defender 112 = .ok (.aload_n 0, 1) := by decide +kernel
theorem dX5_defender_113 : decode cX5_defender 113 = .ok (.iload 4, 2) := by decide +kernel
theorem dX5_defender_115 : decode cX5_defender 115 = .ok (.aload_n 0, 1) := by decide +kernel
theorem dX5_defender_116 : decode cX5_defender 116 = .ok (.getfield 11, 3) := by decide +kernel
theorem dX5_defender_119 : decode cX5_defender 119 = .ok (.iload 4, 2) := by decide +kernel
theorem dX5_defender_121 : decode cX5_defender 121 = .ok (.aaload, 1) := by decide +kernel
theorem dX5_defender_122 : decode cX5_defender 122 = .ok (.iload_n 1, 1) := by decide +kernel
theorem dX5_defender_123 : decode cX5_defender 123 = .ok (.iload_n 2, 1) := by decide +kernel
theorem dX5_defender_124 : decode cX5_defender 124 = .ok (.invokevirtual 243, 3) := by decide +kernel
theorem dX5_defender_127 : decode cX5_defender 127 = .ok (.iconst 2, 1) := by decide +kernel
theorem dX5_defender_128 : decode cX5_defender 128 = .ok (.invokevirtual 246, 3) := by decide +kernel
theorem dX5_defender_131 : decode cX5_defender 131 = .ok (.ireturn, 1) := by decide +kernel
theorem dX5_total_0 : decode cX5_total 0 = .ok (.iload_n 1, 1) := by decide +kernel
theorem dX5_total_1 : decode cX5_total 1 = .ok (.iconst 0, 1) := by decide +kernel
theorem dX5_total_2 : decode cX5_total 2 = .ok (.iconst 3, 1) := by decide +kernel
theorem dX5_total_3 : decode cX5_total 3 = .ok (.invokestatic 62, 3) := by decide +kernel
theorem dX5_total_6 : decode cX5_total 6 = .ok (.ifCond .ne 6, 3) := by decide +kernel
theorem dX5_total_9 : decode cX5_total 9 = .ok (.bipush (-2), 2) := by decide +kernel
theorem dX5_total_11 : decode cX5_total 11 = .ok (.ireturn, 1) := by decide +kernel
theorem dX5_total_12 : decode cX5_total 12 = .ok (.iconst 0, 1) := by decide +kernel
theorem dX5_total_13 : decode cX5_total 13 = .ok (.istore_n 2, 1) := by decide +kernel
theorem dX5_total_14 : decode cX5_total 14 = .ok (.iconst 0, 1) := by decide +kernel
theorem dX5_total_15 : decode cX5_total 15 = .ok (.istore_n 3, 1) := by decide +kernel
theorem dX5_total_16 : decode cX5_total 16 = .ok (.iload_n 3, 1) := by decide +kernel
theorem dX5_total_17 : decode cX5_total 17 = .ok (.aload_n 0, 1) := by decide +kernel
theorem dX5_total_18 : decode cX5_total 18 = .ok (.getfield 25, 3) := by decide +kernel
theorem dX5_total_21 : decode cX5_total 21 = .ok (.if_icmp .ge 102, 3) := by decide +kernel
theorem dX5_total_24 : decode cX5_total 24 = .ok (.aload_n 0, 1) := by decide +kernel
theorem dX5_total_25 : decode cX5_total 25 = .ok (.getfield 11, 3) := by decide +kernel
theorem dX5_total_28 : decode cX5_total 28 = .ok (.iload_n 3, 1) := by decide +kernel
theorem dX5_total_29 : decode cX5_total 29 = .ok (.aaload, 1) := by decide +kernel
theorem dX5_total_30 : decode cX5_total 30 = .ok (.astore 4, 2) := by decide +kernel
theorem dX5_total_32 : decode cX5_total 32 = .ok (.iload_n 1, 1) := by decide +kernel
theorem dX5_total_33 : decode cX5_total 33 = .ok (.tableswitch 73 0 2 #[27, 41, 56], 27) := by decide +kernel
theorem dX5_total_60 : decode cX5_total 60 = .ok (.iload_n 2, 1) := by decide +kernel
theorem dX5_total_61 : decode cX5_total 61 = .ok (.aload 4, 2) := by decide +kernel
theorem dX5_total_63 : decode cX5_total 63 = .ok (.getfield 111, 3) := by decide +kernel
theorem dX5_total_66 : decode cX5_total 66 = .ok (.getfield 214, 3) := by decide +kernel
theorem dX5_total_69 : decode cX5_total 69 = .ok (.iadd, 1) := by decide +kernel
theorem dX5_total_70 : decode cX5_total 70 = .ok (.istore_n 2, 1) := by decide +kernel
theorem dX5_total_71 : decode cX5_total 71 = .ok (.goto 46, 3) := by decide +kernel
theorem dX5_total_74 : decode cX5_total 74 = .ok (.iload_n 2, 1) := by decide +kernel
theorem dX5_total_75 : decode cX5_total 75 = .ok (.aload_n 0, 1) := by decide +kernel
theorem dX5_total_76 : decode cX5_total 76 = .ok (.aload 4, 2) := by decide +kernel
theorem dX5_total_78 : decode cX5_total 78 = .ok (.getfield 111, 3) := by decide +kernel
theorem dX5_total_81 : decode cX5_total 81 = .ok (.invokevirtual 249, 3) := by decide +kernel
theorem dX5_total_84 : decode cX5_total 84 = .ok (.iadd, 1) := by decide +kernel
theorem dX5_total_85 : decode cX5_total 85 = .ok (.istore_n 2, 1) := by decide +kernel
theorem dX5_total_86 : decode cX5_total 86 = .ok (.goto 31, 3) := by decide +kernel
theorem dX5_total_89 : decode cX5_total 89 = .ok (.iload_n 2, 1) := by decide +kernel
theorem dX5_total_90 : decode cX5_total 90 = .ok (.aload 4, 2) := by decide +kernel
theorem dX5_total_92 : decode cX5_total 92 = .ok (.getfield 59, 3) := by decide +kernel
theorem dX5_total_95 : decode cX5_total 95 = .ok (.aload 4, 2) := by decide +kernel
theorem dX5_total_97 : decode cX5_total 97 = .ok (.invokevirtual 200, 3) := by decide +kernel
theorem dX5_total_100 : decode cX5_total 100 = .ok (.isub, 1) := by decide +kernel
theorem dX5_total_101 : decode cX5_total 101 = .ok (.iadd, 1) := by decide +kernel
theorem dX5_total_102 : decode cX5_total 102 = .ok (.istore_n 2, 1) := by decide +kernel
theorem dX5_total_103 : decode cX5_total 103 = .ok (.goto 14, 3) := by decide +kernel
theorem dX5_total_106 : decode cX5_total 106 = .ok (.iload_n 2, 1) := by decide +kernel
theorem dX5_total_107 : decode cX5_total 107 = .ok (.aload 4, 2) := by decide +kernel
theorem dX5_total_109 : decode cX5_total 109 = .ok (.getfield 94, 3) := by decide +kernel
theorem dX5_total_112 : decode cX5_total 112 = .ok (.invokestatic 207, 3) := by decide +kernel
theorem dX5_total_115 : decode cX5_total 115 = .ok (.iadd, 1) := by decide +kernel
theorem dX5_total_116 : decode cX5_total 116 = .ok (.istore_n 2, 1) := by decide +kernel
theorem dX5_total_117 : decode cX5_total 117 = .ok (.iinc 3 1, 3) := by decide +kernel
theorem dX5_total_120 : decode cX5_total 120 = .ok (.goto (-104), 3) := by decide +kernel
theorem dX5_total_123 : decode cX5_total 123 = .ok (.iload_n 2, 1) := by decide +kernel
theorem dX5_total_124 : decode cX5_total 124 = .ok (.ireturn, 1) := by decide +kernel
theorem dX5_staleEntries_0 : decode cX5_staleEntries 0 = .ok (.iconst 0, 1) := by decide +kernel
theorem dX5_staleEntries_1 : decode cX5_staleEntries 1 = .ok (.istore_n 2, 1) := by decide +kernel
theorem dX5_staleEntries_2 : decode cX5_staleEntries 2 = .ok (.iconst 0, 1) := by decide +kernel
theorem dX5_staleEntries_3 : decode cX5_staleEntries 3 = .ok (.istore_n 3, 1) := by decide +kernel
theorem dX5_staleEntries_4 : decode cX5_staleEntries 4 = .ok (.iload_n 3, 1) := by decide +kernel
theorem dX5_staleEntries_5 : decode cX5_staleEntries 5 = .ok (.aload_n 1, 1) := by decide +kernel
theorem dX5_staleEntries_6 : decode cX5_staleEntries 6 = .ok (.getfield 214, 3) := by decide +kernel
theorem dX5_staleEntries_9 : decode cX5_staleEntries 9 = .ok (.if_icmp .ge 33, 3) := by decide +kernel
theorem dX5_staleEntries_12 : decode cX5_staleEntries 12 = .ok (.iload_n 2, 1) := by decide +kernel
theorem dX5_staleEntries_13 : decode cX5_staleEntries 13 = .ok (.aload_n 0, 1) := by decide +kernel
theorem dX5_staleEntries_14 : decode cX5_staleEntries 14 = .ok (.aload_n 1, 1) := by decide +kernel
theorem dX5_staleEntries_15 : decode cX5_staleEntries 15 = .ok (.getfield 220, 3) := by decide +kernel
theorem dX5_staleEntries_18 : decode cX5_staleEntries 18 = .ok (.iload_n 3, 1) := by decide +kernel
theorem dX5_staleEntries_19 : decode cX5_staleEntries 19 = .ok (.aaload, 1) := by decide +kernel
theorem dX5_staleEntries_20 : decode cX5_staleEntries 20 = .ok (.invokevirtual 253, 3) := by decide +kernel
theorem dX5_staleEntries_23 : decode cX5_staleEntries 23 = .ok (.ifCond .ne 7, 3) := by decide +kernel
theorem dX5_staleEntries_26 : decode cX5_staleEntries 26 = .ok (.iconst 1, 1) := by decide +kernel
theorem dX5_staleEntries_27 : decode cX5_staleEntries 27 = .ok (.goto 4, 3) := by decide +kernel
theorem dX5_staleEntries_30 : decode cX5_staleEntries 30 = .ok (.iconst 0, 1) := by decide +kernel
theorem dX5_staleEntries_31 : decode cX5_staleEntries 31 = .ok (.invokestatic 207, 3) := by decide +kernel
theorem dX5_staleEntries_34 : decode cX5_staleEntries 34 = .ok (.iadd, 1) := by decide +kernel
theorem dX5_staleEntries_35 : decode cX5_staleEntries 35 = .ok (.istore_n 2, 1) := by decide +kernel
theorem dX5_staleEntries_36 : decode cX5_staleEntries 36 = .ok (.iinc 3 1, 3) := by decide +kernel
theorem dX5_staleEntries_39 : decode cX5_staleEntries 39 = .ok (.goto (-35), 3) := by decide +kernel
theorem dX5_staleEntries_42 : decode cX5_staleEntries 42 = .ok (.iload_n 2, 1) := by decide +kernel
theorem dX5_staleEntries_43 : decode cX5_staleEntries 43 = .ok (.ireturn, 1) := by decide +kernel
theorem dX5_isOwnedByAny_0 : decode cX5_isOwnedByAny 0 = .ok (.iconst 0, 1) := by decide +kernel
theorem dX5_isOwnedByAny_1 : decode cX5_isOwnedByAny 1 = .ok (.istore_n 2, 1) := by decide +kernel
theorem dX5_isOwnedByAny_2 : decode cX5_isOwnedByAny 2 = .ok (.iload_n 2, 1) := by decide +kernel
theorem dX5_isOwnedByAny_3 : decode cX5_isOwnedByAny 3 = .ok (.aload_n 0, 1) := by decide +kernel
theorem dX5_isOwnedByAny_4 : decode cX5_isOwnedByAny 4 = .ok (.getfield 25, 3) := by decide +kernel
theorem dX5_isOwnedByAny_7 : decode cX5_isOwnedByAny 7 = .ok (.if_icmp .ge 35, 3) := by decide +kernel
theorem dX5_isOwnedByAny_10 : decode cX5_isOwnedByAny 10 = .ok (.aload_n 0, 1) := by decide +kernel
theorem dX5_isOwnedByAny_11 : decode cX5_isOwnedByAny 11 = .ok (.getfield 11, 3) := by decide +kernel
theorem dX5_isOwnedByAny_14 : decode cX5_isOwnedByAny 14 = .ok (.iload_n 2, 1) := by decide +kernel
theorem dX5_isOwnedByAny_15 : decode cX5_isOwnedByAny 15 = .ok (.aaload, 1) := by decide +kernel
theorem dX5_isOwnedByAny_16 : decode cX5_isOwnedByAny 16 = .ok (.aload_n 1, 1) := by decide +kernel
theorem dX5_isOwnedByAny_17 : decode cX5_isOwnedByAny 17 = .ok (.getfield 224, 3) := by decide +kernel
theorem dX5_isOwnedByAny_20 : decode cX5_isOwnedByAny 20 = .ok (.aload_n 1, 1) := by decide +kernel
theorem dX5_isOwnedByAny_21 : decode cX5_isOwnedByAny 21 = .ok (.getfield 227, 3) := by decide +kernel
theorem dX5_isOwnedByAny_24 : decode cX5_isOwnedByAny 24 = .ok (.aload_n 1, 1) := by decide +kernel
theorem dX5_isOwnedByAny_25 : decode cX5_isOwnedByAny 25 = .ok (.getfield 228, 3) := by decide +kernel
theorem dX5_isOwnedByAny_28 : decode cX5_isOwnedByAny 28 = .ok (.invokevirtual 257, 3) := by decide +kernel
theorem dX5_isOwnedByAny_31 : decode cX5_isOwnedByAny 31 = .ok (.ifCond .eq 5, 3) := by decide +kernel
theorem dX5_isOwnedByAny_34 : decode cX5_isOwnedByAny 34 = .ok (.iconst 1, 1) := by decide +kernel
theorem dX5_isOwnedByAny_35 : decode cX5_isOwnedByAny 35 = .ok (.ireturn, 1) := by decide +kernel
theorem dX5_isOwnedByAny_36 : decode cX5_isOwnedByAny 36 = .ok (.iinc 2 1, 3) := by decide +kernel
theorem dX5_isOwnedByAny_39 : decode cX5_isOwnedByAny 39 = .ok (.goto (-37), 3) := by decide +kernel
theorem dX5_isOwnedByAny_42 : decode cX5_isOwnedByAny 42 = .ok (.iconst 0, 1) := by decide +kernel
theorem dX5_isOwnedByAny_43 : decode cX5_isOwnedByAny 43 = .ok (.ireturn, 1) := by decide +kernel
theorem dX6_init_0 : decode cX6_init 0 = .ok (.aload_n 0, 1) := by decide +kernel
theorem dX6_init_1 : decode cX6_init 1 = .ok (.invokespecial 3, 3) := by decide +kernel
theorem dX6_init_4 : decode cX6_init 4 = .ok (.return_, 1) := by decide +kernel
theorem dX6_become_0 : decode cX6_become 0 = .ok (.aload_n 0, 1) := by decide +kernel
theorem dX6_become_1 : decode cX6_become 1 = .ok (.aload_n 1, 1) := by decide +kernel
theorem dX6_become_2 : decode cX6_become 2 = .ok (.getfield 9, 3) := by decide +kernel
theorem dX6_become_5 : decode cX6_become 5 = .ok (.putfield 9, 3) := by decide +kernel
theorem dX6_become_8 : decode cX6_become 8 = .ok (.aload_n 0, 1) := by decide +kernel
theorem dX6_become_9 : decode cX6_become 9 = .ok (.aload_n 1, 1) := by decide +kernel
theorem dX6_become_10 : decode cX6_become 10 = .ok (.getfield 15, 3) := by decide +kernel
theorem dX6_become_13 : decode cX6_become 13 = .ok (.putfield 15, 3) := by decide +kernel
theorem dX6_become_16 : decode cX6_become 16 = .ok (.aload_n 0, 1) := by decide +kernel
theorem dX6_become_17 : decode cX6_become 17 = .ok (.aload_n 1, 1) := by decide +kernel
theorem dX6_become_18 : decode cX6_become 18 = .ok (.getfield 18, 3) := by decide +kernel
theorem dX6_become_21 : decode cX6_become 21 = .ok (.putfield 18, 3) := by decide +kernel
theorem dX6_become_24 : decode cX6_become 24 = .ok (.aload_n 0, 1) := by decide +kernel
theorem dX6_become_25 : decode cX6_become 25 = .ok (.aload_n 1, 1) := by decide +kernel
theorem dX6_become_26 : decode cX6_become 26 = .ok (.getfield 21, 3) := by decide +kernel
theorem dX6_become_29 : decode cX6_become 29 = .ok (.putfield 21, 3) := by decide +kernel
theorem dX6_become_32 : decode cX6_become 32 = .ok (.aload_n 0, 1) := by decide +kernel
theorem dX6_become_33 : decode cX6_become 33 = .ok (.aload_n 1, 1) := by decide +kernel
theorem dX6_become_34 : decode cX6_become 34 = .ok (.getfield 24, 3) := by decide +kernel
theorem dX6_become_37 : decode cX6_become 37 = .ok (.putfield 24, 3) := by decide +kernel
theorem dX6_become_40 : decode cX6_become 40 = .ok (.aload_n 0, 1) := by decide +kernel
theorem dX6_become_41 : decode cX6_become 41 = .ok (.aload_n 1, 1) := by decide +kernel
theorem dX6_become_42 : decode cX6_become 42 = .ok (.getfield 27, 3) := by decide +kernel
theorem dX6_become_45 : decode cX6_become 45 = .ok (.putfield 27, 3) := by decide +kernel
theorem dX6_become_48 : decode cX6_become 48 = .ok (.aload_n 0, 1) := by decide +kernel
theorem dX6_become_49 : decode cX6_become 49 = .ok (.aload_n 1, 1) := by decide +kernel
theorem dX6_become_50 : decode cX6_become 50 = .ok (.getfield 30, 3) := by decide +kernel
theorem dX6_become_53 : decode cX6_become 53 = .ok (.putfield 30, 3) := by decide +kernel
theorem dX6_become_56 : decode cX6_become 56 = .ok (.return_, 1) := by decide +kernel
theorem dX6_isNamed_0 : decode cX6_isNamed 0 = .ok (.aload_n 0, 1) := by decide +kernel
theorem dX6_isNamed_1 : decode cX6_isNamed 1 = .ok (.getfield 9, 3) := by decide +kernel
theorem dX6_isNamed_4 : decode cX6_isNamed 4 = .ok (.iload_n 1, 1) := by decide +kernel
theorem dX6_isNamed_5 : decode cX6_isNamed 5 = .ok (.if_icmp .ne 15, 3) := by decide +kernel
theorem dX6_isNamed_8 : decode cX6_isNamed 8 = .ok (.aload_n 0, 1) := by decide +kernel
theorem dX6_isNamed_9 : decode cX6_isNamed 9 = .ok (.getfield 15, 3) := by decide +kernel
theorem dX6_isNamed_12 : decode cX6_isNamed 12 = .ok (.iload_n 2, 1) := by decide +kernel
theorem dX6_isNamed_13 : decode cX6_isNamed 13 = .ok (.if_icmp .ne 7, 3) := by decide +kernel
theorem dX6_isNamed_16 : decode cX6_isNamed 16 = .ok (.iconst 1, 1) := by decide +kernel
theorem dX6_isNamed_17 : decode cX6_isNamed 17 = .ok (.goto 4, 3) := by decide +kernel
theorem dX6_isNamed_20 : decode cX6_isNamed 20 = .ok (.iconst 0, 1) := by decide +kernel
theorem dX6_isNamed_21 : decode cX6_isNamed 21 = .ok (.ireturn, 1) := by decide +kernel
theorem dX6_isOwned_0 : decode cX6_isOwned 0 = .ok (.aload_n 0, 1) := by decide +kernel
theorem dX6_isOwned_1 : decode cX6_isOwned 1 = .ok (.getfield 24, 3) := by decide +kernel
theorem dX6_isOwned_4 : decode cX6_isOwned 4 = .ok (.iconst 3, 1) := by decide +kernel
theorem dX6_isOwned_5 : decode cX6_isOwned 5 = .ok (.if_icmp .ne 7, 3) := by decide +kernel
theorem dX6_isOwned_8 : decode cX6_isOwned 8 = .ok (.iconst 1, 1) := by decide +kernel
theorem dX6_isOwned_9 : decode cX6_isOwned 9 = .ok (.goto 4, 3) := by decide +kernel
theorem dX6_isOwned_12 : decode cX6_isOwned 12 = .ok (.iconst 0, 1) := by decide +kernel
theorem dX6_isOwned_13 : decode cX6_isOwned 13 = .ok (.ireturn, 1) := by decide +kernel
theorem dX6_restart_0 : decode cX6_restart 0 = .ok (.aload_n 0, 1) := by decide +kernel
theorem dX6_restart_1 : decode cX6_restart 1 = .ok (.iconst 0, 1) := by decide +kernel
theorem dX6_restart_2 : decode cX6_restart 2 = .ok (.putfield 24, 3) := by decide +kernel
theorem dX6_restart_5 : decode cX6_restart 5 = .ok (.aload_n 0, 1) := by decide +kernel
theorem dX6_restart_6 : decode cX6_restart 6 = .ok (.iload_n 1, 1) := by decide +kernel
theorem dX6_restart_7 : decode cX6_restart 7 = .ok (.putfield 27, 3) := by decide +kernel
theorem dX6_restart_10 : decode cX6_restart 10 = .ok (.return_, 1) := by decide +kernel
theorem dX7_init_0 : decode cX7_init 0 = .ok (.aload_n 0, 1) := by decide +kernel
theorem dX7_init_1 : decode cX7_init 1 = .ok (.invokespecial 3, 3) := by decide +kernel
theorem dX7_init_4 : decode cX7_init 4 = .ok (.aload_n 0, 1) := by decide +kernel
theorem dX7_init_5 : decode cX7_init 5 = .ok (.bipush 120, 2) := by decide +kernel
theorem dX7_init_7 : decode cX7_init 7 = .ok (.newarray .byte, 2) := by decide +kernel
theorem dX7_init_9 : decode cX7_init 9 = .ok (.putfield 9, 3) := by decide +kernel
theorem dX7_init_12 : decode cX7_init 12 = .ok (.aload_n 0, 1) := by decide +kernel
theorem dX7_init_13 : decode cX7_init 13 = .ok (.bipush 60, 2) := by decide +kernel
theorem dX7_init_15 : decode cX7_init 15 = .ok (.newarray .int, 2) := by decide +kernel
theorem dX7_init_17 : decode cX7_init 17 = .ok (.putfield 15, 3) := by decide +kernel
theorem dX7_init_20 : decode cX7_init 20 = .ok (.aload_n 0, 1) := by decide +kernel
theorem dX7_init_21 : decode cX7_init 21 = .ok (.sipush 300, 3) := by decide +kernel
theorem dX7_init_24 : decode cX7_init 24 = .ok (.newarray .int, 2) := by decide +kernel
theorem dX7_init_26 : decode cX7_init 26 = .ok (.putfield 19, 3) := by decide +kernel
theorem dX7_init_29 : decode cX7_init 29 = .ok (.return_, 1) := by decide +kernel
theorem dX7_append_0 : decode cX7_append 0 = .ok (.iload_n 1, 1) := by decide +kernel
theorem dX7_append_1 : decode cX7_append 1 = .ok (.iconst 0, 1) := by decide +kernel
theorem dX7_append_2 : decode cX7_append 2 = .ok (.bipush 127, 2) := by decide +kernel
theorem dX7_append_4 : decode cX7_append 4 = .ok (.invokestatic 22, 3) := by decide +kernel
theorem dX7_append_7 : decode cX7_append 7 = .ok (.ifCond .ne 6, 3) := by decide +kernel
theorem dX7_append_10 : decode cX7_append 10 = .ok (.bipush (-2), 2) := by decide +kernel
theorem dX7_append_12 : decode cX7_append 12 = .ok (.ireturn, 1) := by decide +kernel
theorem dX7_append_13 : decode cX7_append 13 = .ok (.aload_n 0, 1) := by decide +kernel
theorem dX7_append_14 : decode cX7_append 14 = .ok (.getfield 26, 3) := by decide +kernel
theorem dX7_append_17 : decode cX7_append 17 = .ok (.bipush 120, 2) := by decide +kernel
theorem dX7_append_19 : decode cX7_append 19 = .ok (.if_icmp .lt 6, 3) := by decide +kernel
theorem dX7_append_22 : decode cX7_append 22 = .ok (.bipush (-4), 2) := by decide +kernel
theorem dX7_append_24 : decode cX7_append 24 = .ok (.ireturn, 1) := by decide +kernel
theorem dX7_append_25 : decode cX7_append 25 = .ok (.aload_n 0, 1) := by decide +kernel
theorem dX7_append_26 : decode cX7_append 26 = .ok (.getfield 9, 3) := by decide +kernel
theorem dX7_append_29 : decode cX7_append 29 = .ok (.aload_n 0, 1) := by decide +kernel
theorem dX7_append_30 : decode cX7_append 30 = .ok (.getfield 26, 3) := by decide +kernel
theorem dX7_append_33 : decode cX7_append 33 = .ok (.iload_n 1, 1) := by decide +kernel
theorem dX7_append_34 : decode cX7_append 34 = .ok (.i2b, 1) := by decide +kernel
theorem dX7_append_35 : decode cX7_append 35 = .ok (.bastore, 1) := by decide +kernel
theorem dX7_append_36 : decode cX7_append 36 = .ok (.aload_n 0, 1) := by decide +kernel
theorem dX7_append_37 : decode cX7_append 37 = .ok (.dup, 1) := by decide +kernel
theorem dX7_append_38 : decode cX7_append 38 = .ok (.getfield 26, 3) := by decide +kernel
theorem dX7_append_41 : decode cX7_append 41 = .ok (.iconst 1, 1) := by decide +kernel
theorem dX7_append_42 : decode cX7_append 42 = .ok (.iadd, 1) := by decide +kernel
theorem dX7_append_43 : decode cX7_append 43 = .ok (.putfield 26, 3) := by decide +kernel
theorem dX7_append_46 : decode cX7_append 46 = .ok (.aload_n 0, 1) := by decide +kernel
theorem dX7_append_47 : decode cX7_append 47 = .ok (.getfield 26, 3) := by decide +kernel
theorem dX7_append_50 : decode cX7_append 50 = .ok (.ireturn, 1) := by decide +kernel
theorem dX7_letter_0 : decode cX7_letter 0 = .ok (.iload_n 1, 1) := by decide +kernel
theorem dX7_letter_1 : decode cX7_letter 1 = .ok (.iconst 0, 1) := by decide +kernel
theorem dX7_letter_2 : decode cX7_letter 2 = .ok (.bipush 59, 2) := by decide +kernel
theorem dX7_letter_4 : decode cX7_letter 4 = .ok (.invokestatic 22, 3) := by decide +kernel
theorem dX7_letter_7 : decode cX7_letter 7 = .ok (.ifCond .eq 12, 3) := by decide +kernel
theorem dX7_letter_10 : decode cX7_letter 10 = .ok (.aload_n 0, 1) := by decide +kernel
theorem dX7_letter_11 : decode cX7_letter 11 = .ok (.getfield 15, 3) := by decide +kernel
theorem dX7_letter_14 : decode cX7_letter 14 = .ok (.iload_n 1, 1) := by decide +kernel
theorem dX7_letter_15 : decode cX7_letter 15 = .ok (.iaload, 1) := by decide +kernel
theorem dX7_letter_16 : decode cX7_letter 16 = .ok (.goto 4, 3) := by decide +kernel
theorem dX7_letter_19 : decode cX7_letter 19 = .ok (.iconst (-1), 1) := by decide +kernel
theorem dX7_letter_20 : decode cX7_letter 20 = .ok (.ireturn, 1) := by decide +kernel
theorem dX7_number_0 : decode cX7_number 0 = .ok (.iload_n 1, 1) := by decide +kernel
theorem dX7_number_1 : decode cX7_number 1 = .ok (.iconst 0, 1) := by decide +kernel
theorem dX7_number_2 : decode cX7_number 2 = .ok (.bipush 59, 2) := by decide +kernel
theorem dX7_number_4 : decode cX7_number 4 = .ok (.invokestatic 22, 3) := by decide +kernel
theorem dX7_number_7 : decode cX7_number 7 = .ok (.ifCond .eq 25, 3) := by decide +kernel
theorem dX7_number_10 : decode cX7_number 10 = .ok (.iload_n 2, 1) := by decide +kernel
theorem dX7_number_11 : decode cX7_number 11 = .ok (.iconst 0, 1) := by decide +kernel
theorem dX7_number_12 : decode cX7_number 12 = .ok (.iconst 4, 1) := by decide +kernel
theorem dX7_number_13 : decode cX7_number 13 = .ok (.invokestatic 22, 3) := by decide +kernel
theorem dX7_number_16 : decode cX7_number 16 = .ok (.ifCond .eq 16, 3) := by decide +kernel
theorem dX7_number_19 : decode cX7_number 19 = .ok (.aload_n 0, 1) := by decide +kernel
theorem dX7_number_20 : decode cX7_number 20 = .ok (.getfield 19, 3) := by decide +kernel
theorem dX7_number_23 : decode cX7_number 23 = .ok (.iload_n 1, 1) := by decide +kernel
theorem dX7_number_24 : decode cX7_number 24 = .ok (.iconst 5, 1) := by decide +kernel
theorem dX7_number_25 : decode cX7_number 25 = .ok (.imul, 1) := by decide +kernel
theorem dX7_number_26 : decode cX7_number 26 = .ok (.iload_n 2, 1) := by decide +kernel
theorem dX7_number_27 : decode cX7_number 27 = .ok (.iadd, 1) := by decide +kernel
theorem dX7_number_28 : decode cX7_number 28 = .ok (.iaload, 1) := by decide +kernel
theorem dX7_number_29 : decode cX7_number 29 = .ok (.goto 4, 3) := by decide +kernel
theorem dX7_number_32 : decode cX7_number 32 = .ok (.iconst (-1), 1) := by decide +kernel
theorem dX7_number_33 : decode cX7_number 33 = .ok (.ireturn, 1) := by decide +kernel
theorem dX7_findFault_0 : decode cX7_findFault 0 = .ok (.aload_n 0, 1) := by decide +kernel
theorem dX7_findFault_1 : decode cX7_findFault 1 = .ok (.iconst 0, 1) := by decide +kernel
theorem dX7_findFault_2 : decode cX7_findFault 2 = .ok (.putfield 30, 3) := by decide +kernel
theorem dX7_findFault_5 : decode cX7_findFault 5 = .ok (.aload_n 0, 1) := by decide +kernel
theorem dX7_findFault_6 : decode cX7_findFault 6 = .ok (.iconst 0, 1) := by decide +kernel
theorem dX7_findFault_7 : decode cX7_findFault 7 = .ok (.putfield 33, 3) := by decide +kernel
theorem dX7_findFault_10 : decode cX7_findFault 10 = .ok (.iconst 0, 1) := by decide +kernel
theorem dX7_findFault_11 : decode cX7_findFault 11 = .ok (.istore_n 1, 1) := by decide +kernel
theorem dX7_findFault_12 : decode cX7_findFault 12 = .ok (.iload_n 1, 1) := by decide +kernel
theorem dX7_findFault_13 : decode cX7_findFault 13 = .ok (.aload_n 0, 1) := by decide +kernel
theorem dX7_findFault_14 : decode cX7_findFault 14 = .ok (.getfield 26, 3) := by decide +kernel
theorem dX7_findFault_17 : decode cX7_findFault 17 = .ok (.if_icmp .ge 24, 3) := by decide +kernel
theorem dX7_findFault_20 : decode cX7_findFault 20 = .ok (.aload_n 0, 1) := by decide +kernel
theorem dX7_findFault_21 : decode cX7_findFault 21 = .ok (.aload_n 0, 1) := by decide +kernel
theorem dX7_findFault_22 : decode cX7_findFault 22 = .ok (.getfield 9, 3) := by decide +kernel
theorem dX7_findFault_25 : decode cX7_findFault 25 = .ok (.iload_n 1, 1) := by decide +kernel
theorem dX7_findFault_26 : decode cX7_findFault 26 = .ok (.baload, 1) := by decide +kernel
theorem dX7_findFault_27 : decode cX7_findFault 27 = .ok (.invokevirtual 37, 3) := by decide +kernel
theorem dX7_findFault_30 : decode cX7_findFault 30 = .ok (.ifCond .ne 5, 3) := by decide +kernel
theorem dX7_findFault_33 : decode cX7_findFault 33 = .ok (.iload_n 1, 1) := by decide +kernel
theorem dX7_findFault_34 : decode cX7_findFault 34 = .ok (.ireturn, 1) := by decide +kernel
theorem dX7_findFault_35 : decode cX7_findFault 35 = .ok (.iinc 1 1, 3) := by decide +kernel
theorem dX7_findFault_38 : decode cX7_findFault 38 = .ok (.goto (-26), 3) := by decide +kernel
theorem dX7_findFault_41 : decode cX7_findFault 41 = .ok (.aload_n 0, 1) := by decide +kernel
theorem dX7_findFault_42 : decode cX7_findFault 42 = .ok (.getfield 33, 3) := by decide +kernel
theorem dX7_findFault_45 : decode cX7_findFault 45 = .ok (.ifCond .ne 10, 3) := by decide +kernel
theorem dX7_findFault_48 : decode cX7_findFault 48 = .ok (.aload_n 0, 1) := by decide +kernel
theorem dX7_findFault_49 : decode cX7_findFault 49 = .ok (.getfield 30, 3) := by decide +kernel
theorem dX7_findFault_52 : decode cX7_findFault 52 = .ok (.ifCond .ne 10, 3) := by decide +kernel
theorem dX7_findFault_55 : decode cX7_findFault 55 = .ok (.aload_n 0, 1) := by decide +kernel
theorem dX7_findFault_56 : decode cX7_findFault 56 = .ok (.getfield 26, 3) := by decide +kernel
theorem dX7_findFault_59 : decode cX7_findFault 59 = .ok (.goto 4, 3) := by decide +kernel
theorem dX7_findFault_62 : decode cX7_findFault 62 = .ok (.iconst (-1), 1) := by decide +kernel
theorem dX7_findFault_63 : decode cX7_findFault 63 = .ok (.ireturn, 1) := by decide +kernel
theorem dX7_takes_0 : decode cX7_takes 0 = .ok (.iload_n 1, 1) := by decide +kernel
theorem dX7_takes_1 : decode cX7_takes 1 = .ok (.bipush 32, 2) := by decide +kernel
theorem dX7_takes_3 : decode cX7_takes 3 = .ok (.if_icmp .ne 10, 3) := by decide +kernel
theorem dX7_takes_6 : decode cX7_takes 6 = .ok (.aload_n 0, 1) := by decide +kernel
theorem dX7_takes_7 : decode cX7_takes 7 = .ok (.iconst 0, 1) := by decide +kernel
theorem dX7_takes_8 : decode cX7_takes 8 = .ok (.putfield 41, 3) := by decide +kernel
theorem dX7_takes_11 : decode cX7_takes 11 = .ok (.iconst 1, 1) := by decide +kernel
theorem dX7_takes_12 : decode cX7_takes 12 = .ok (.ireturn, 1) := by decide +kernel
theorem dX7_takes_13 : decode cX7_takes 13 = .ok (.aload_n 0, 1) := by decide +kernel
theorem dX7_takes_14 : decode cX7_takes 14 = .ok (.getfield 33, 3) := by decide +kernel
theorem dX7_takes_17 : decode cX7_takes 17 = .ok (.ifCond .ne 9, 3) := by decide +kernel
theorem dX7_takes_20 : decode cX7_takes 20 = .ok (.aload_n 0, 1) := by decide +kernel
theorem dX7_takes_21 : decode cX7_takes 21 = .ok (.iload_n 1, 1) := by decide +kernel
theorem dX7_takes_22 : decode cX7_takes 22 = .ok (.invokevirtual 44, 3) := by decide +kernel
theorem dX7_takes_25 : decode cX7_takes 25 = .ok (.ireturn, 1) := by decide +kernel
theorem dX7_takes_26 : decode cX7_takes 26 = .ok (.iload_n 1, 1) := by decide +kernel
theorem dX7_takes_27 : decode cX7_takes 27 = .ok (.bipush 48, 2) := by decide +kernel
theorem dX7_takes_29 : decode cX7_takes 29 = .ok (.if_icmp .lt 18, 3) := by decide +kernel
theorem dX7_takes_32 : decode cX7_takes 32 = .ok (.iload_n 1, 1) := by decide +kernel
theorem dX7_takes_33 : decode cX7_takes 33 = .ok (.bipush 57, 2) := by decide +kernel
theorem dX7_takes_35 : decode cX7_takes 35 = .ok (.if_icmp .gt 12, 3) := by decide +kernel
theorem dX7_takes_38 : decode cX7_takes 38 = .ok (.aload_n 0, 1) := by decide +kernel
theorem dX7_takes_39 : decode cX7_takes 39 = .ok (.iload_n 1, 1) := by decide +kernel
theorem dX7_takes_40 : decode cX7_takes 40 = .ok (.bipush 48, 2) := by decide +kernel
theorem dX7_takes_42 : decode cX7_takes 42 = .ok (.isub, 1) := by decide +kernel
theorem dX7_takes_43 : decode cX7_takes 43 = .ok (.invokevirtual 47, 3) := by decide +kernel
theorem dX7_takes_46 : decode cX7_takes 46 = .ok (.ireturn, 1) := by decide +kernel
theorem dX7_takes_47 : decode cX7_takes 47 = .ok (.iload_n 1, 1) := by decide +kernel
theorem dX7_takes_48 : decode cX7_takes 48 = .ok (.bipush 59, 2) := by decide +kernel
theorem dX7_takes_50 : decode cX7_takes 50 = .ok (.if_icmp .ne 22, 3) := by decide +kernel
theorem dX7_takes_53 : decode cX7_takes 53 = .ok (.aload_n 0, 1) := by decide +kernel
theorem dX7_takes_54 : decode cX7_takes 54 = .ok (.getfield 50, 3) := by decide +kernel
theorem dX7_takes_57 : decode cX7_takes 57 = .ok (.aload_n 0, 1) := by decide +kernel
theorem dX7_takes_58 : decode cX7_takes 58 = .ok (.getfield 15, 3) := by decide +kernel
theorem dX7_takes_61 : decode cX7_takes 61 = .ok (.aload_n 0, 1) := by decide +kernel
theorem dX7_takes_62 : decode cX7_takes 62 = .ok (.getfield 30, 3) := by decide +kernel
theorem dX7_takes_65 : decode cX7_takes 65 = .ok (.iaload, 1) := by decide +kernel
theorem dX7_takes_66 : decode cX7_takes 66 = .ok (.invokestatic 53, 3) := by decide +kernel
theorem dX7_takes_69 : decode cX7_takes 69 = .ok (.if_icmp .ge 5, 3) := by decide +kernel
theorem dX7_takes_72 : decode cX7_takes 72 = .ok (.iconst 0, 1) := by decide +kernel
theorem dX7_takes_73 : decode cX7_takes 73 = .ok (.ireturn, 1) := by decide +kernel
theorem dX7_takes_74 : decode cX7_takes 74 = .ok (.aload_n 0, 1) := by decide +kernel
theorem dX7_takes_75 : decode cX7_takes 75 = .ok (.iconst 0, 1) := by decide +kernel
theorem dX7_takes_76 : decode cX7_takes 76 = .ok (.putfield 33, 3) := by decide +kernel
theorem dX7_takes_79 : decode cX7_takes 79 = .ok (.aload_n 0, 1) := by decide +kernel
theorem dX7_takes_80 : decode cX7_takes 80 = .ok (.dup, 1) := by decide +kernel
theorem dX7_takes_81 : decode cX7_takes 81 = .ok (.getfield 30, 3) := by decide +kernel
theorem dX7_takes_84 : decode cX7_takes 84 = .ok (.iconst 1, 1) := by decide +kernel
theorem dX7_takes_85 : decode cX7_takes 85 = .ok (.iadd, 1) := by decide +kernel
theorem dX7_takes_86 : decode cX7_takes 86 = .ok (.putfield 30, 3) := by decide +kernel
theorem dX7_takes_89 : decode cX7_takes 89 = .ok (.iconst 1, 1) := by decide +kernel
theorem dX7_takes_90 : decode cX7_takes 90 = .ok (.ireturn, 1) := by decide +kernel
theorem dX7_beginsOrder_0 : decode cX7_beginsOrder 0 = .ok (.iload_n 1, 1) := by decide +kernel
theorem dX7_beginsOrder_1 : decode cX7_beginsOrder 1 = .ok (.invokestatic 53, 3) := by decide +kernel
theorem dX7_beginsOrder_4 : decode cX7_beginsOrder 4 = .ok (.iconst (-1), 1) := by decide +kernel
theorem dX7_beginsOrder_5 : decode cX7_beginsOrder 5 = .ok (.if_icmp .eq 12, 3) := by decide +kernel
theorem dX7_beginsOrder_8 : decode cX7_beginsOrder 8 = .ok (.aload_n 0, 1) := by decide +kernel
theorem dX7_beginsOrder_9 : decode cX7_beginsOrder 9 = .ok (.getfield 30, 3) := by decide +kernel
theorem dX7_beginsOrder_12 : decode cX7_beginsOrder 12 = .ok (.bipush 60, 2) := by decide +kernel
theorem dX7_beginsOrder_14 : decode cX7_beginsOrder 14 = .ok (.if_icmp .lt 5, 3) := by decide +kernel
theorem dX7_beginsOrder_17 : decode cX7_beginsOrder 17 = .ok (.iconst 0, 1) := by decide +kernel
theorem dX7_beginsOrder_18 : decode cX7_beginsOrder 18 = .ok (.ireturn, 1) := by decide +kernel
theorem dX7_beginsOrder_19 : decode cX7_beginsOrder 19 = .ok (.aload_n 0, 1) := by decide +kernel
theorem dX7_beginsOrder_20 : decode cX7_beginsOrder 20 = .ok (.getfield 15, 3) := by decide +kernel
theorem dX7_beginsOrder_23 : decode cX7_beginsOrder 23 = .ok (.aload_n 0, 1) := by decide +kernel
theorem dX7_beginsOrder_24 : decode cX7_beginsOrder 24 = .ok (.getfield 30, 3) := by decide +kernel
theorem dX7_beginsOrder_27 : decode cX7_beginsOrder 27 = .ok (.iload_n 1, 1) := by decide +kernel
theorem dX7_beginsOrder_28 : decode cX7_beginsOrder 28 = .ok (.iastore, 1) := by decide +kernel
theorem dX7_beginsOrder_29 : decode cX7_beginsOrder 29 = .ok (.iconst 0, 1) := by decide +kernel
theorem dX7_beginsOrder_30 : decode cX7_beginsOrder 30 = .ok (.istore_n 2, 1) := by decide +kernel
theorem dX7_beginsOrder_31 : decode cX7_beginsOrder 31 = .ok (.iload_n 2, 1) := by decide +kernel
theorem dX7_beginsOrder_32 : decode cX7_beginsOrder 32 = .ok (.iconst 5, 1) := by decide +kernel
theorem dX7_beginsOrder_33 : decode cX7_beginsOrder 33 = .ok (.if_icmp .ge 23, 3) := by decide +kernel
theorem dX7_beginsOrder_36 : decode cX7_beginsOrder 36 = .ok (.aload_n 0, 1) := by decide +kernel
theorem dX7_beginsOrder_37 : decode cX7_beginsOrder 37 = .ok (.getfield 19, 3) := by decide +kernel
theorem dX7_beginsOrder_40 : decode cX7_beginsOrder 40 = .ok (.aload_n 0, 1) := by decide +kernel
theorem dX7_beginsOrder_41 : decode cX7_beginsOrder 41 = .ok (.getfield 30, 3) := by decide +kernel
theorem dX7_beginsOrder_44 : decode cX7_beginsOrder 44 = .ok (.iconst 5, 1) := by decide +kernel
theorem dX7_beginsOrder_45 : decode cX7_beginsOrder 45 = .ok (.imul, 1) := by decide +kernel
theorem dX7_beginsOrder_46 : decode cX7_beginsOrder 46 = .ok (.iload_n 2, 1) := by decide +kernel
theorem dX7_beginsOrder_47 : decode cX7_beginsOrder 47 = .ok (.iadd, 1) := by decide +kernel
theorem dX7_beginsOrder_48 : decode cX7_beginsOrder 48 = .ok (.iconst (-1), 1) := by decide +kernel
theorem dX7_beginsOrder_49 : decode cX7_beginsOrder 49 = .ok (.iastore, 1) := by decide +kernel
theorem dX7_beginsOrder_50 : decode cX7_beginsOrder 50 = .ok (.iinc 2 1, 3) := by decide +kernel
theorem dX7_beginsOrder_53 : decode cX7_beginsOrder 53 = .ok (.goto (-22), 3) := by decide +kernel
theorem dX7_beginsOrder_56 : decode cX7_beginsOrder 56 = .ok (.aload_n 0, 1) := by decide +kernel
theorem dX7_beginsOrder_57 : decode cX7_beginsOrder 57 = .ok (.iconst 1, 1) := by decide +kernel
theorem dX7_beginsOrder_58 : decode cX7_beginsOrder 58 = .ok (.putfield 33, 3) := by decide +kernel
theorem dX7_beginsOrder_61 : decode cX7_beginsOrder 61 = .ok (.aload_n 0, 1) := by decide +kernel
theorem dX7_beginsOrder_62 : decode cX7_beginsOrder 62 = .ok (.iconst 0, 1) := by decide +kernel
theorem dX7_beginsOrder_63 : decode cX7_beginsOrder 63 = .ok (.putfield 50, 3) := by decide +kernel
theorem dX7_beginsOrder_66 : decode cX7_beginsOrder 66 = .ok (.aload_n 0, 1) := by decide +kernel
theorem dX7_beginsOrder_67 : decode cX7_beginsOrder 67 = .ok (.iconst 0, 1) := by decide +kernel
theorem dX7_beginsOrder_68 : decode cX7_beginsOrder 68 = .ok (.putfield 41, 3) := by decide +kernel
theorem dX7_beginsOrder_71 : decode cX7_beginsOrder 71 = .ok (.iconst 1, 1) := by decide +kernel
theorem dX7_beginsOrder_72 : decode cX7_beginsOrder 72 = .ok (.ireturn, 1) := by decide +kernel
theorem dX7_takesDigit_0 : decode cX7_takesDigit 0 = .ok (.aload_n 0, 1) := by decide +kernel
theorem dX7_takesDigit_1 : decode cX7_takesDigit 1 = .ok (.getfield 41, 3) := by decide +kernel
theorem dX7_takesDigit_4 : decode cX7_takesDigit 4 = .ok (.iconst 3, 1) := by decide +kernel
theorem dX7_takesDigit_5 : decode cX7_takesDigit 5 = .ok (.if_icmp .eq 29, 3) := by decide +kernel
theorem dX7_takesDigit_8 : decode cX7_takesDigit 8 = .ok (.aload_n 0, 1) := by decide +kernel
theorem dX7_takesDigit_9 : decode cX7_takesDigit 9 = .ok (.getfield 41, 3) := by decide +kernel
theorem dX7_takesDigit_12 : decode cX7_takesDigit 12 = .ok (.ifCond .ne 24, 3) := by decide +kernel
theorem dX7_takesDigit_15 : decode cX7_takesDigit 15 = .ok (.aload_n 0, 1) := by decide +kernel
theorem dX7_takesDigit_16 : decode cX7_takesDigit 16 = .ok (.getfield 50, 3) := by decide +kernel
theorem dX7_takesDigit_19 : decode cX7_takesDigit 19 = .ok (.aload_n 0, 1) := by decide +kernel
theorem dX7_takesDigit_20 : decode cX7_takesDigit 20 = .ok (.getfield 15, 3) := by decide +kernel
theorem dX7_takesDigit_23 : decode cX7_takesDigit 23 = .ok (.aload_n 0, 1) := by decide +kernel
theorem dX7_takesDigit_24 : decode cX7_takesDigit 24 = .ok (.getfield 30, 3) := by decide +kernel
theorem dX7_takesDigit_27 : decode cX7_takesDigit 27 = .ok (.iaload, 1) := by decide +kernel
theorem dX7_takesDigit_28 : decode cX7_takesDigit 28 = .ok (.invokestatic 57, 3) := by decide +kernel
theorem dX7_takesDigit_31 : decode cX7_takesDigit 31 = .ok (.if_icmp .ne 5, 3) := by decide +kernel
theorem dX7_takesDigit_34 : decode cX7_takesDigit 34 = .ok (.iconst 0, 1) := by decide +kernel
theorem dX7_takesDigit_35 : decode cX7_takesDigit 35 = .ok (.ireturn, 1) := by decide +kernel
theorem dX7_takesDigit_36 : decode cX7_takesDigit 36 = .ok (.aload_n 0, 1) := by decide +kernel
theorem dX7_takesDigit_37 : decode cX7_takesDigit 37 = .ok (.getfield 41, 3) := by decide +kernel
theorem dX7_takesDigit_40 : decode cX7_takesDigit 40 = .ok (.ifCond .ne 30, 3) := by decide +kernel
theorem dX7_takesDigit_43 : decode cX7_takesDigit 43 = .ok (.aload_n 0, 1) := by decide +kernel
theorem dX7_takesDigit_44 : decode cX7_takesDigit 44 = .ok (.getfield 19, 3) := by decide +kernel
theorem dX7_takesDigit_47 : decode cX7_takesDigit 47 = .ok (.aload_n 0, 1) := by decide +kernel
theorem dX7_takesDigit_48 : decode cX7_takesDigit 48 = .ok (.getfield 30, 3) := by decide +kernel
theorem dX7_takesDigit_51 : decode cX7_takesDigit 51 = .ok (.iconst 5, 1) := by decide +kernel
theorem dX7_takesDigit_52 : decode cX7_takesDigit 52 = .ok (.imul, 1) := by decide +kernel
theorem dX7_takesDigit_53 : decode cX7_takesDigit 53 = .ok (.aload_n 0, 1) := by decide +kernel
theorem dX7_takesDigit_54 : decode cX7_takesDigit 54 = .ok (.getfield 50, 3) := by decide +kernel
theorem dX7_takesDigit_57 : decode cX7_takesDigit 57 = .ok (.iadd, 1) := by decide +kernel
theorem dX7_takesDigit_58 : decode cX7_takesDigit 58 = .ok (.iconst 0, 1) := by decide +kernel
theorem dX7_takesDigit_59 : decode cX7_takesDigit 59 = .ok (.iastore, 1) := by decide +kernel
theorem dX7_takesDigit_60 : decode cX7_takesDigit 60 = .ok (.aload_n 0, 1) := by decide +kernel
theorem dX7_takesDigit_61 : decode cX7_takesDigit 61 = .ok (.dup, 1) := by decide +kernel
theorem dX7_takesDigit_62 : decode cX7_takesDigit 62 = .ok (.getfield 50, 3) := by decide +kernel
theorem dX7_takesDigit_65 : decode cX7_takesDigit 65 = .ok (.iconst 1, 1) := by decide +kernel
theorem dX7_takesDigit_66 : decode cX7_takesDigit 66 = .ok (.iadd, 1) := by decide +kernel
theorem dX7_takesDigit_67 : decode cX7_takesDigit 67 = .ok (.putfield 50, 3) := by decide +kernel
theorem dX7_takesDigit_70 : decode cX7_takesDigit 70 = .ok (.aload_n 0, 1) := by decide +kernel
theorem dX7_takesDigit_71 : decode cX7_takesDigit 71 = .ok (.getfield 30, 3) := by decide +kernel
theorem dX7_takesDigit_74 : decode cX7_takesDigit 74 = .ok (.iconst 5, 1) := by decide +kernel
theorem dX7_takesDigit_75 : decode cX7_takesDigit 75 = .ok (.imul, 1) := by decide +kernel
theorem dX7_takesDigit_76 : decode cX7_takesDigit 76 = .ok (.aload_n 0, 1) := by decide +kernel
theorem dX7_takesDigit_77 : decode cX7_takesDigit 77 = .ok (.getfield 50, 3) := by decide +kernel
theorem dX7_takesDigit_80 : decode cX7_takesDigit 80 = .ok (.iadd, 1) := by decide +kernel
theorem dX7_takesDigit_81 : decode cX7_takesDigit 81 = .ok (.iconst 1, 1) := by decide +kernel
theorem dX7_takesDigit_82 : decode cX7_takesDigit 82 = .ok (.isub, 1) := by decide +kernel
theorem dX7_takesDigit_83 : decode cX7_takesDigit 83 = .ok (.istore_n 2, 1) := by decide +kernel
theorem dX7_takesDigit_84 : decode cX7_takesDigit 84 = .ok (.aload_n 0, 1) := by decide +kernel
theorem dX7_takesDigit_85 : decode cX7_takesDigit 85 = .ok (.getfield 19, 3) := by decide +kernel
theorem dX7_takesDigit_88 : decode cX7_takesDigit 88 = .ok (.iload_n 2, 1) := by decide +kernel
theorem dX7_takesDigit_89 : decode cX7_takesDigit 89 = .ok (.aload_n 0, 1) := by decide +kernel
theorem dX7_takesDigit_90 : decode cX7_takesDigit 90 = .ok (.getfield 19, 3) := by decide +kernel
theorem dX7_takesDigit_93 : decode cX7_takesDigit 93 = .ok (.iload_n 2, 1) := by decide +kernel
theorem dX7_takesDigit_94 : decode cX7_takesDigit 94 = .ok (.iaload, 1) := by decide +kernel
theorem dX7_takesDigit_95 : decode cX7_takesDigit 95 = .ok (.bipush 10, 2) := by decide +kernel
theorem dX7_takesDigit_97 : decode cX7_takesDigit 97 = .ok (.imul, 1) := by decide +kernel
theorem dX7_takesDigit_98 : decode cX7_takesDigit 98 = .ok (.iload_n 1, 1) := by decide +kernel
theorem dX7_takesDigit_99 : decode cX7_takesDigit 99 = .ok (.iadd, 1) := by decide +kernel
theorem dX7_takesDigit_100 : decode cX7_takesDigit 100 = .ok (.iastore, 1) := by decide +kernel
theorem dX7_takesDigit_101 : decode cX7_takesDigit 101 = .ok (.aload_n 0, 1) := by decide +kernel
theorem dX7_takesDigit_102 : decode cX7_takesDigit 102 = .ok (.dup, 1) := by decide +kernel
theorem dX7_takesDigit_103 : decode cX7_takesDigit 103 = .ok (.getfield 41, 3) := by decide +kernel
theorem dX7_takesDigit_106 : decode cX7_takesDigit 106 = .ok (.iconst 1, 1) := by decide +kernel
theorem dX7_takesDigit_107 : decode cX7_takesDigit 107 = .ok (.iadd, 1) := by decide +kernel
theorem dX7_takesDigit_108 : decode cX7_takesDigit 108 = .ok (.putfield 41, 3) := by decide +kernel
theorem dX7_takesDigit_111 : decode cX7_takesDigit 111 = .ok (.iconst 1, 1) := by decide +kernel
theorem dX7_takesDigit_112 : decode cX7_takesDigit 112 = .ok (.ireturn, 1) := by decide +kernel
theorem dX7_leastNumbers_0 : decode cX7_leastNumbers 0 = .ok (.iload_n 0, 1) := by decide +kernel
theorem dX7_leastNumbers_1 : decode cX7_leastNumbers 1 = .ok (.tableswitch 129 97 122 #[125, 129, 127, 129, 129, 129, 123, 119, 129, 129, 129, 129, 129, 129, 129, 129, 129, 129, 127, 121, 129, 129, 121, 129, 129, 121], 119) := by decide +kernel
theorem dX7_leastNumbers_120 : decode cX7_leastNumbers 120 = .ok (.iconst 0, 1) := by decide +kernel
theorem dX7_leastNumbers_121 : decode cX7_leastNumbers 121 = .ok (.ireturn, 1) := by decide +kernel
theorem dX7_leastNumbers_122 : decode cX7_leastNumbers 122 = .ok (.iconst 1, 1) := by decide +kernel
theorem dX7_leastNumbers_123 : decode cX7_leastNumbers 123 = .ok (.ireturn, 1) := by decide +kernel
theorem dX7_leastNumbers_124 : decode cX7_leastNumbers 124 = .ok (.iconst 2, 1) := by decide +kernel
theorem dX7_leastNumbers_125 : decode cX7_leastNumbers 125 = .ok (.ireturn, 1) := by decide +kernel
theorem dX7_leastNumbers_126 : decode cX7_leastNumbers 126 = .ok (.iconst 3, 1) := by decide +kernel
theorem dX7_leastNumbers_127 : decode cX7_leastNumbers 127 = .ok (.ireturn, 1) := by decide +kernel
theorem dX7_leastNumbers_128 : decode cX7_leastNumbers 128 = .ok (.iconst 5, 1) := by decide +kernel
theorem dX7_leastNumbers_129 : decode cX7_leastNumbers 129 = .ok (.ireturn, 1) := by decide +kernel
theorem dX7_leastNumbers_130 : decode cX7_leastNumbers 130 = .ok (.iconst (-1), 1) := by decide +kernel
theorem dX7_leastNumbers_131 : decode cX7_leastNumbers 131 = .ok (.ireturn, 1) := by decide +kernel
theorem dX7_mostNumbers_0 : decode cX7_mostNumbers 0 = .ok (.iload_n 0, 1) := by decide +kernel
theorem dX7_mostNumbers_1 : decode cX7_mostNumbers 1 = .ok (.bipush 122, 2) := by decide +kernel
theorem dX7_mostNumbers_3 : decode cX7_mostNumbers 3 = .ok (.if_icmp .ne 7, 3) := by decide +kernel
theorem dX7_mostNumbers_6 : decode cX7_mostNumbers 6 = .ok (.iconst 2, 1) := by decide +kernel
theorem dX7_mostNumbers_7 : decode cX7_mostNumbers 7 = .ok (.goto 7, 3) := by decide +kernel
theorem dX7_mostNumbers_10 : decode cX7_mostNumbers 10 = .ok (.iload_n 0, 1) := by decide +kernel
theorem dX7_mostNumbers_11 : decode cX7_mostNumbers 11 = .ok (.invokestatic 53, 3) := by decide +kernel
theorem dX7_mostNumbers_14 : decode cX7_mostNumbers 14 = .ok (.ireturn, 1) := by decide +kernel
theorem dX8_init_0 : decode cX8_init 0 = .ok (.aload_n 0, 1) := by decide +kernel
theorem dX8_init_1 : decode cX8_init 1 = .ok (.invokespecial 3, 3) := by decide +kernel
theorem dX8_init_4 : decode cX8_init 4 = .ok (.aload_n 0, 1) := by decide +kernel
theorem dX8_init_5 : decode cX8_init 5 = .ok (.new 9, 3) := by decide +kernel
theorem dX8_init_8 : decode cX8_init 8 = .ok (.dup, 1) := by decide +kernel
theorem dX8_init_9 : decode cX8_init 9 = .ok (.invokespecial 11, 3) := by decide +kernel
theorem dX8_init_12 : decode cX8_init 12 = .ok (.putfield 12, 3) := by decide +kernel
theorem dX8_init_15 : decode cX8_init 15 = .ok (.aload_n 0, 1) := by decide +kernel
theorem dX8_init_16 : decode cX8_init 16 = .ok (.new 16, 3) := by decide +kernel
theorem dX8_init_19 : decode cX8_init 19 = .ok (.dup, 1) := by decide +kernel
theorem dX8_init_20 : decode cX8_init 20 = .ok (.invokespecial 18, 3) := by decide +kernel
theorem dX8_init_23 : decode cX8_init 23 = .ok (.putfield 19, 3) := by decide +kernel
theorem dX8_init_26 : decode cX8_init 26 = .ok (.aload_n 0, 1) := by decide +kernel
theorem dX8_init_27 : decode cX8_init 27 = .ok (.new 23, 3) := by decide +kernel
theorem dX8_init_30 : decode cX8_init 30 = .ok (.dup, 1) := by decide +kernel
theorem dX8_init_31 : decode cX8_init 31 = .ok (.invokespecial 25, 3) := by decide +kernel
theorem dX8_init_34 : decode cX8_init 34 = .ok (.putfield 26, 3) := by decide +kernel
theorem dX8_init_37 : decode cX8_init 37 = .ok (.aload_n 0, 1) := by decide +kernel
theorem dX8_init_38 : decode cX8_init 38 = .ok (.iconst (-1), 1) := by decide +kernel
theorem dX8_init_39 : decode cX8_init 39 = .ok (.putfield 30, 3) := by decide +kernel
theorem dX8_init_42 : decode cX8_init 42 = .ok (.return_, 1) := by decide +kernel
theorem dX8_host_0 : decode cX8_host 0 = .ok (.aload_n 0, 1) := by decide +kernel
theorem dX8_host_1 : decode cX8_host 1 = .ok (.getfield 19, 3) := by decide +kernel
theorem dX8_host_4 : decode cX8_host 4 = .ok (.aload_n 0, 1) := by decide +kernel
theorem dX8_host_5 : decode cX8_host 5 = .ok (.getfield 12, 3) := by decide +kernel
theorem dX8_host_8 : decode cX8_host 8 = .ok (.invokevirtual 34, 3) := by decide +kernel
theorem dX8_host_11 : decode cX8_host 11 = .ok (.aload_n 0, 1) := by decide +kernel
theorem dX8_host_12 : decode cX8_host 12 = .ok (.aload_n 0, 1) := by decide +kernel
theorem dX8_host_13 : decode cX8_host 13 = .ok (.getfield 12, 3) := by decide +kernel
theorem dX8_host_16 : decode cX8_host 16 = .ok (.invokevirtual 38, 3) := by decide +kernel
theorem dX8_host_19 : decode cX8_host 19 = .ok (.invokevirtual 42, 3) := by decide +kernel
theorem dX8_host_22 : decode cX8_host 22 = .ok (.ireturn, 1) := by decide +kernel
theorem dX8_claims_0 : decode cX8_claims 0 = .ok (.aload_n 0, 1) := by decide +kernel
theorem dX8_claims_1 : decode cX8_claims 1 = .ok (.getfield 19, 3) := by decide +kernel
theorem dX8_claims_4 : decode cX8_claims 4 = .ok (.aload_n 0, 1) := by decide +kernel
theorem dX8_claims_5 : decode cX8_claims 5 = .ok (.getfield 12, 3) := by decide +kernel
theorem dX8_claims_8 : decode cX8_claims 8 = .ok (.invokevirtual 34, 3) := by decide +kernel
theorem dX8_claims_11 : decode cX8_claims 11 = .ok (.aload_n 0, 1) := by decide +kernel
theorem dX8_claims_12 : decode cX8_claims 12 = .ok (.aload_n 0, 1) := by decide +kernel
theorem dX8_claims_13 : decode cX8_claims 13 = .ok (.getfield 12, 3) := by decide +kernel
theorem dX8_claims_16 : decode cX8_claims 16 = .ok (.iload_n 1, 1) := by decide +kernel
theorem dX8_claims_17 : decode cX8_claims 17 = .ok (.iload_n 2, 1) := by decide +kernel
theorem dX8_claims_18 : decode cX8_claims 18 = .ok (.iload_n 3, 1) := by decide +kernel
theorem dX8_claims_19 : decode cX8_claims 19 = .ok (.iload 4, 2) := by decide +kernel
theorem dX8_claims_21 : decode cX8_claims 21 = .ok (.iload 5, 2) := by decide +kernel
theorem dX8_claims_23 : decode cX8_claims 23 = .ok (.invokevirtual 46, 3) := by decide +kernel
theorem dX8_claims_26 : decode cX8_claims 26 = .ok (.invokevirtual 42, 3) := by decide +kernel
theorem dX8_claims_29 : decode cX8_claims 29 = .ok (.ireturn, 1) := by decide +kernel
theorem dX8_shares_0 : decode cX8_shares 0 = .ok (.aload_n 0, 1) := by decide +kernel
theorem dX8_shares_1 : decode cX8_shares 1 = .ok (.getfield 19, 3) := by decide +kernel
theorem dX8_shares_4 : decode cX8_shares 4 = .ok (.aload_n 0, 1) := by decide +kernel
theorem dX8_shares_5 : decode cX8_shares 5 = .ok (.getfield 12, 3) := by decide +kernel
theorem dX8_shares_8 : decode cX8_shares 8 = .ok (.invokevirtual 34, 3) := by decide +kernel
theorem dX8_shares_11 : decode cX8_shares 11 = .ok (.aload_n 0, 1) := by decide +kernel
theorem dX8_shares_12 : decode cX8_shares 12 = .ok (.aload_n 0, 1) := by decide +kernel
theorem dX8_shares_13 : decode cX8_shares 13 = .ok (.getfield 12, 3) := by decide +kernel
theorem dX8_shares_16 : decode cX8_shares 16 = .ok (.iload_n 1, 1) := by decide +kernel
theorem dX8_shares_17 : decode cX8_shares 17 = .ok (.iload_n 2, 1) := by decide +kernel
theorem dX8_shares_18 : decode cX8_shares 18 = .ok (.iload_n 3, 1) := by decide +kernel
theorem dX8_shares_19 : decode cX8_shares 19 = .ok (.iload 4, 2) := by decide +kernel
theorem dX8_shares_21 : decode cX8_shares 21 = .ok (.iload 5, 2) := by decide +kernel
theorem dX8_shares_23 : decode cX8_shares 23 = .ok (.invokevirtual 50, 3) := by decide +kernel
theorem dX8_shares_26 : decode cX8_shares 26 = .ok (.invokevirtual 42, 3) := by decide +kernel
theorem dX8_shares_29 : decode cX8_shares 29 = .ok (.ireturn, 1) := by decide +kernel
theorem dX8_leaves_0 : decode cX8_leaves 0 = .ok (.aload_n 0, 1) := by decide +kernel
theorem dX8_leaves_1 : decode cX8_leaves 1 = .ok (.getfield 19, 3) := by decide +kernel
theorem dX8_leaves_4 : decode cX8_leaves 4 = .ok (.aload_n 0, 1) := by decide +kernel
theorem dX8_leaves_5 : decode cX8_leaves 5 = .ok (.getfield 12, 3) := by decide +kernel
theorem dX8_leaves_8 : decode cX8_leaves 8 = .ok (.invokevirtual 34, 3) := by decide +kernel
theorem dX8_leaves_11 : decode cX8_leaves 11 = .ok (.aload_n 0, 1) := by decide +kernel
theorem dX8_leaves_12 : decode cX8_leaves 12 = .ok (.aload_n 0, 1) := by decide +kernel
theorem dX8_leaves_13 : decode cX8_leaves 13 = .ok (.getfield 12, 3) := by decide +kernel
theorem dX8_leaves_16 : decode cX8_leaves 16 = .ok (.iload_n 1, 1) := by decide +kernel
theorem dX8_leaves_17 : decode cX8_leaves 17 = .ok (.iload_n 2, 1) := by decide +kernel
theorem dX8_leaves_18 : decode cX8_leaves 18 = .ok (.invokevirtual 53, 3) := by decide +kernel
theorem dX8_leaves_21 : decode cX8_leaves 21 = .ok (.invokevirtual 42, 3) := by decide +kernel
theorem dX8_leaves_24 : decode cX8_leaves 24 = .ok (.ireturn, 1) := by decide +kernel
theorem dX8_record_0 : decode cX8_record 0 = .ok (.aload_n 0, 1) := by decide +kernel
theorem dX8_record_1 : decode cX8_record 1 = .ok (.aload_n 0, 1) := by decide +kernel
theorem dX8_record_2 : decode cX8_record 2 = .ok (.getfield 12, 3) := by decide +kernel
theorem dX8_record_5 : decode cX8_record 5 = .ok (.iload_n 1, 1) := by decide +kernel
theorem dX8_record_6 : decode cX8_record 6 = .ok (.iload_n 2, 1) := by decide +kernel
theorem dX8_record_7 : decode cX8_record 7 = .ok (.iload_n 3, 1) := by decide +kernel
theorem dX8_record_8 : decode cX8_record 8 = .ok (.invokevirtual 57, 3) := by decide +kernel
theorem dX8_record_11 : decode cX8_record 11 = .ok (.invokevirtual 61, 3) := by decide +kernel
theorem dX8_record_14 : decode cX8_record 14 = .ok (.ireturn, 1) := by decide +kernel
theorem dX8_of_0 : decode cX8_of 0 = .ok (.aload_n 0, 1) := by decide +kernel
theorem dX8_of_1 : decode cX8_of 1 = .ok (.aload_n 0, 1) := by decide +kernel
theorem dX8_of_2 : decode cX8_of 2 = .ok (.getfield 12, 3) := by decide +kernel
theorem dX8_of_5 : decode cX8_of 5 = .ok (.iload_n 1, 1) := by decide +kernel
theorem dX8_of_6 : decode cX8_of 6 = .ok (.iload_n 2, 1) := by decide +kernel
theorem dX8_of_7 : decode cX8_of 7 = .ok (.invokevirtual 64, 3) := by decide +kernel
theorem dX8_of_10 : decode cX8_of 10 = .ok (.invokevirtual 61, 3) := by decide +kernel
theorem dX8_of_13 : decode cX8_of 13 = .ok (.ireturn, 1) := by decide +kernel
theorem dX8_ticks_0 : decode cX8_ticks 0 = .ok (.aload_n 0, 1) := by decide +kernel
theorem dX8_ticks_1 : decode cX8_ticks 1 = .ok (.getfield 19, 3) := by decide +kernel
theorem dX8_ticks_4 : decode cX8_ticks 4 = .ok (.aload_n 0, 1) := by decide +kernel
theorem dX8_ticks_5 : decode cX8_ticks 5 = .ok (.getfield 12, 3) := by decide +kernel
theorem dX8_ticks_8 : decode cX8_ticks 8 = .ok (.invokevirtual 34, 3) := by decide +kernel
theorem dX8_ticks_11 : decode cX8_ticks 11 = .ok (.aload_n 0, 1) := by decide +kernel
theorem dX8_ticks_12 : decode cX8_ticks 12 = .ok (.aload_n 0, 1) := by decide +kernel
theorem dX8_ticks_13 : decode cX8_ticks 13 = .ok (.getfield 12, 3) := by decide +kernel
theorem dX8_ticks_16 : decode cX8_ticks 16 = .ok (.iload_n 1, 1) := by decide +kernel
theorem dX8_ticks_17 : decode cX8_ticks 17 = .ok (.invokevirtual 67, 3) := by decide +kernel
theorem dX8_ticks_20 : decode cX8_ticks 20 = .ok (.invokevirtual 42, 3) := by decide +kernel
theorem dX8_ticks_23 : decode cX8_ticks 23 = .ok (.ireturn, 1) := by decide +kernel
theorem dX8_rate_0 : decode cX8_rate 0 = .ok (.aload_n 0, 1) := by decide +kernel
theorem dX8_rate_1 : decode cX8_rate 1 = .ok (.getfield 12, 3) := by decide +kernel
theorem dX8_rate_4 : decode cX8_rate 4 = .ok (.getfield 70, 3) := by decide +kernel
theorem dX8_rate_7 : decode cX8_rate 7 = .ok (.invokestatic 74, 3) := by decide +kernel
theorem dX8_rate_10 : decode cX8_rate 10 = .ok (.ireturn, 1) := by decide +kernel
theorem dX8_asks_0 : decode cX8_asks 0 = .ok (.aload_n 0, 1) := by decide +kernel
theorem dX8_asks_1 : decode cX8_asks 1 = .ok (.getfield 19, 3) := by decide +kernel
theorem dX8_asks_4 : decode cX8_asks 4 = .ok (.aload_n 0, 1) := by decide +kernel
theorem dX8_asks_5 : decode cX8_asks 5 = .ok (.getfield 12, 3) := by decide +kernel
theorem dX8_asks_8 : decode cX8_asks 8 = .ok (.invokevirtual 34, 3) := by decide +kernel
theorem dX8_asks_11 : decode cX8_asks 11 = .ok (.aload_n 0, 1) := by decide +kernel
theorem dX8_asks_12 : decode cX8_asks 12 = .ok (.aload_n 0, 1) := by decide +kernel
theorem dX8_asks_13 : decode cX8_asks 13 = .ok (.getfield 12, 3) := by decide +kernel
theorem dX8_asks_16 : decode cX8_asks 16 = .ok (.iload_n 1, 1) := by decide +kernel
theorem dX8_asks_17 : decode cX8_asks 17 = .ok (.iload_n 2, 1) := by decide +kernel
theorem dX8_asks_18 : decode cX8_asks 18 = .ok (.iload_n 3, 1) := by decide +kernel
theorem dX8_asks_19 : decode cX8_asks 19 = .ok (.invokevirtual 78, 3) := by decide +kernel
theorem dX8_asks_22 : decode cX8_asks 22 = .ok (.invokevirtual 42, 3) := by decide +kernel
theorem dX8_asks_25 : decode cX8_asks 25 = .ok (.ireturn, 1) := by decide +kernel
theorem dX8_entry_0 : decode cX8_entry 0 = .ok (.aload_n 0, 1) := by decide +kernel
theorem dX8_entry_1 : decode cX8_entry 1 = .ok (.aload_n 0, 1) := by decide +kernel
theorem dX8_entry_2 : decode cX8_entry 2 = .ok (.getfield 12, 3) := by decide +kernel
theorem dX8_entry_5 : decode cX8_entry 5 = .ok (.iload_n 1, 1) := by decide +kernel
theorem dX8_entry_6 : decode cX8_entry 6 = .ok (.iload_n 2, 1) := by decide +kernel
theorem dX8_entry_7 : decode cX8_entry 7 = .ok (.iload_n 3, 1) := by decide +kernel
theorem dX8_entry_8 : decode cX8_entry 8 = .ok (.invokevirtual 81, 3) := by decide +kernel
theorem dX8_entry_11 : decode cX8_entry 11 = .ok (.invokevirtual 61, 3) := by decide +kernel
theorem dX8_entry_14 : decode cX8_entry 14 = .ok (.ireturn, 1) := by decide +kernel
theorem dX8_finds_0 : decode cX8_finds 0 = .ok (.aload_n 0, 1) := by decide +kernel
theorem dX8_finds_1 : decode cX8_finds 1 = .ok (.aload_n 0, 1) := by decide +kernel
theorem dX8_finds_2 : decode cX8_finds 2 = .ok (.getfield 12, 3) := by decide +kernel
theorem dX8_finds_5 : decode cX8_finds 5 = .ok (.iload_n 1, 1) := by decide +kernel
theorem dX8_finds_6 : decode cX8_finds 6 = .ok (.iload_n 2, 1) := by decide +kernel
theorem dX8_finds_7 : decode cX8_finds 7 = .ok (.iload_n 3, 1) := by decide +kernel
theorem dX8_finds_8 : decode cX8_finds 8 = .ok (.iload 4, 2) := by decide +kernel
theorem dX8_finds_10 : decode cX8_finds 10 = .ok (.invokevirtual 84, 3) := by decide +kernel
theorem dX8_finds_13 : decode cX8_finds 13 = .ok (.invokevirtual 61, 3) := by decide +kernel
theorem dX8_finds_16 : decode cX8_finds 16 = .ok (.ireturn, 1) := by decide +kernel
theorem dX8_owner_0 : decode cX8_owner 0 = .ok (.aload_n 0, 1) := by decide +kernel
theorem dX8_owner_1 : decode cX8_owner 1 = .ok (.aload_n 0, 1) := by decide +kernel
theorem dX8_owner_2 : decode cX8_owner 2 = .ok (.getfield 12, 3) := by decide +kernel
theorem dX8_owner_5 : decode cX8_owner 5 = .ok (.iload_n 1, 1) := by decide +kernel
theorem dX8_owner_6 : decode cX8_owner 6 = .ok (.iload_n 2, 1) := by decide +kernel
theorem dX8_owner_7 : decode cX8_owner 7 = .ok (.iload_n 3, 1) := by decide +kernel
theorem dX8_owner_8 : decode cX8_owner 8 = .ok (.invokevirtual 88, 3) := by decide +kernel
theorem dX8_owner_11 : decode cX8_owner 11 = .ok (.invokevirtual 61, 3) := by decide +kernel
theorem dX8_owner_14 : decode cX8_owner 14 = .ok (.ireturn, 1) := by decide +kernel
theorem dX8_all_0 : decode cX8_all 0 = .ok (.aload_n 0, 1) := by decide +kernel
theorem dX8_all_1 : decode cX8_all 1 = .ok (.aload_n 0, 1) := by decide +kernel
theorem dX8_all_2 : decode cX8_all 2 = .ok (.getfield 12, 3) := by decide +kernel
theorem dX8_all_5 : decode cX8_all 5 = .ok (.iload_n 1, 1) := by decide +kernel
theorem dX8_all_6 : decode cX8_all 6 = .ok (.invokevirtual 91, 3) := by decide +kernel
theorem dX8_all_9 : decode cX8_all 9 = .ok (.invokevirtual 61, 3) := by decide +kernel
theorem dX8_all_12 : decode cX8_all 12 = .ok (.ireturn, 1) := by decide +kernel
theorem dX8_sleeps_0 : decode cX8_sleeps 0 = .ok (.aload_n 0, 1) := by decide +kernel
theorem dX8_sleeps_1 : decode cX8_sleeps 1 = .ok (.getfield 19, 3) := by decide +kernel
theorem dX8_sleeps_4 : decode cX8_sleeps 4 = .ok (.aload_n 0, 1) := by decide +kernel
theorem dX8_sleeps_5 : decode cX8_sleeps 5 = .ok (.getfield 12, 3) := by decide +kernel
theorem dX8_sleeps_8 : decode cX8_sleeps 8 = .ok (.invokevirtual 34, 3) := by decide +kernel
theorem dX8_sleeps_11 : decode cX8_sleeps 11 = .ok (.aload_n 0, 1) := by decide +kernel
theorem dX8_sleeps_12 : decode cX8_sleeps 12 = .ok (.aload_n 0, 1) := by decide +kernel
theorem dX8_sleeps_13 : decode cX8_sleeps 13 = .ok (.getfield 12, 3) := by decide +kernel
theorem dX8_sleeps_16 : decode cX8_sleeps 16 = .ok (.iload_n 1, 1) := by decide +kernel
theorem dX8_sleeps_17 : decode cX8_sleeps 17 = .ok (.iload_n 2, 1) := by decide +kernel
theorem dX8_sleeps_18 : decode cX8_sleeps 18 = .ok (.invokevirtual 94, 3) := by decide +kernel
theorem dX8_sleeps_21 : decode cX8_sleeps 21 = .ok (.invokevirtual 42, 3) := by decide +kernel
theorem dX8_sleeps_24 : decode cX8_sleeps 24 = .ok (.ireturn, 1) := by decide +kernel
theorem dX8_wakes_0 : decode cX8_wakes 0 = .ok (.aload_n 0, 1) := by decide +kernel
theorem dX8_wakes_1 : decode cX8_wakes 1 = .ok (.getfield 19, 3) := by decide +kernel
theorem dX8_wakes_4 : decode cX8_wakes 4 = .ok (.aload_n 0, 1) := by decide +kernel
theorem dX8_wakes_5 : decode cX8_wakes 5 = .ok (.getfield 12, 3) := by decide +kernel
theorem dX8_wakes_8 : decode cX8_wakes 8 = .ok (.invokevirtual 34, 3) := by decide +kernel
theorem dX8_wakes_11 : decode cX8_wakes 11 = .ok (.aload_n 0, 1) := by decide +kernel
theorem dX8_wakes_12 : decode cX8_wakes 12 = .ok (.aload_n 0, 1) := by decide +kernel
theorem dX8_wakes_13 : decode cX8_wakes 13 = .ok (.getfield 12, 3) := by decide +kernel
theorem dX8_wakes_16 : decode cX8_wakes 16 = .ok (.iload_n 1, 1) := by decide +kernel
theorem dX8_wakes_17 : decode cX8_wakes 17 = .ok (.invokevirtual 97, 3) := by decide +kernel
theorem dX8_wakes_20 : decode cX8_wakes 20 = .ok (.invokevirtual 42, 3) := by decide +kernel
theorem dX8_wakes_23 : decode cX8_wakes 23 = .ok (.ireturn, 1) := by decide +kernel
theorem dX8_type_0 : decode cX8_type 0 = .ok (.aload_n 0, 1) := by decide +kernel
theorem dX8_type_1 : decode cX8_type 1 = .ok (.aload_n 0, 1) := by decide +kernel
theorem dX8_type_2 : decode cX8_type 2 = .ok (.getfield 26, 3) := by decide +kernel
theorem dX8_type_5 : decode cX8_type 5 = .ok (.iload_n 1, 1) := by decide +kernel
theorem dX8_type_6 : decode cX8_type 6 = .ok (.invokevirtual 100, 3) := by decide +kernel
theorem dX8_type_9 : decode cX8_type 9 = .ok (.invokevirtual 61, 3) := by decide +kernel
theorem dX8_type_12 : decode cX8_type 12 = .ok (.ireturn, 1) := by decide +kernel
theorem dX8_clear_0 : decode cX8_clear 0 = .ok (.aload_n 0, 1) := by decide +kernel
theorem dX8_clear_1 : decode cX8_clear 1 = .ok (.getfield 26, 3) := by decide +kernel
theorem dX8_clear_4 : decode cX8_clear 4 = .ok (.getfield 103, 3) := by decide +kernel
theorem dX8_clear_7 : decode cX8_clear 7 = .ok (.istore_n 1, 1) := by decide +kernel
theorem dX8_clear_8 : decode cX8_clear 8 = .ok (.aload_n 0, 1) := by decide +kernel
theorem dX8_clear_9 : decode cX8_clear 9 = .ok (.getfield 26, 3) := by decide +kernel
theorem dX8_clear_12 : decode cX8_clear 12 = .ok (.iconst 0, 1) := by decide +kernel
theorem dX8_clear_13 : decode cX8_clear 13 = .ok (.putfield 103, 3) := by decide +kernel
theorem dX8_clear_16 : decode cX8_clear 16 = .ok (.iload_n 1, 1) := by decide +kernel
theorem dX8_clear_17 : decode cX8_clear 17 = .ok (.ireturn, 1) := by decide +kernel
theorem dX8_reads_0 : decode cX8_reads 0 = .ok (.aload_n 0, 1) := by decide +kernel
theorem dX8_reads_1 : decode cX8_reads 1 = .ok (.getfield 26, 3) := by decide +kernel
theorem dX8_reads_4 : decode cX8_reads 4 = .ok (.invokevirtual 106, 3) := by decide +kernel
theorem dX8_reads_7 : decode cX8_reads 7 = .ok (.istore_n 1, 1) := by decide +kernel
theorem dX8_reads_8 : decode cX8_reads 8 = .ok (.iload_n 1, 1) := by decide +kernel
theorem dX8_reads_9 : decode cX8_reads 9 = .ok (.iconst (-1), 1) := by decide +kernel
theorem dX8_reads_10 : decode cX8_reads 10 = .ok (.if_icmp .eq 8, 3) := by decide +kernel
theorem dX8_reads_13 : decode cX8_reads 13 = .ok (.bipush (-10), 2) := by decide +kernel
theorem dX8_reads_15 : decode cX8_reads 15 = .ok (.iload_n 1, 1) := by decide +kernel
theorem dX8_reads_16 : decode cX8_reads 16 = .ok (.isub, 1) := by decide +kernel
theorem dX8_reads_17 : decode cX8_reads 17 = .ok (.ireturn, 1) := by decide +kernel
theorem dX8_reads_18 : decode cX8_reads 18 = .ok (.aload_n 0, 1) := by decide +kernel
theorem dX8_reads_19 : decode cX8_reads 19 = .ok (.getfield 19, 3) := by decide +kernel
theorem dX8_reads_22 : decode cX8_reads 22 = .ok (.aload_n 0, 1) := by decide +kernel
theorem dX8_reads_23 : decode cX8_reads 23 = .ok (.getfield 12, 3) := by decide +kernel
theorem dX8_reads_26 : decode cX8_reads 26 = .ok (.invokevirtual 34, 3) := by decide +kernel
theorem dX8_reads_29 : decode cX8_reads 29 = .ok (.iconst 0, 1) := by decide +kernel
theorem dX8_reads_30 : decode cX8_reads 30 = .ok (.istore_n 2, 1) := by decide +kernel
theorem dX8_reads_31 : decode cX8_reads 31 = .ok (.iload_n 2, 1) := by decide +kernel
theorem dX8_reads_32 : decode cX8_reads 32 = .ok (.aload_n 0, 1) := by decide +kernel
theorem dX8_reads_33 : decode cX8_reads 33 = .ok (.getfield 26, 3) := by decide +kernel
theorem dX8_reads_36 : decode cX8_reads 36 = .ok (.getfield 109, 3) := by decide +kernel
theorem dX8_reads_39 : decode cX8_reads 39 = .ok (.if_icmp .ge 49, 3) := by decide +kernel
theorem dX8_reads_42 : decode cX8_reads 42 = .ok (.aload_n 0, 1) := by decide +kernel
theorem dX8_reads_43 : decode cX8_reads 43 = .ok (.iload_n 2, 1) := by decide +kernel
theorem dX8_reads_44 : decode cX8_reads 44 = .ok (.invokevirtual 112, 3) := by decide +kernel
theorem dX8_reads_47 : decode cX8_reads 47 = .ok (.istore_n 3, 1) := by decide +kernel
theorem dX8_reads_48 : decode cX8_reads 48 = .ok (.iload_n 3, 1) := by decide +kernel
theorem dX8_reads_49 : decode cX8_reads 49 = .ok (.invokestatic 115, 3) := by decide +kernel
theorem dX8_reads_52 : decode cX8_reads 52 = .ok (.ifCond .eq 30, 3) := by decide +kernel
theorem dX8_reads_55 : decode cX8_reads 55 = .ok (.aload_n 0, 1) := by decide +kernel
theorem dX8_reads_56 : decode cX8_reads 56 = .ok (.getfield 19, 3) := by decide +kernel
theorem dX8_reads_59 : decode cX8_reads 59 = .ok (.aload_n 0, 1) := by decide +kernel
theorem dX8_reads_60 : decode cX8_reads 60 = .ok (.getfield 12, 3) := by decide +kernel
theorem dX8_reads_63 : decode cX8_reads 63 = .ok (.invokevirtual 119, 3) := by decide +kernel
theorem dX8_reads_66 : decode cX8_reads 66 = .ok (.aload_n 0, 1) := by decide +kernel
theorem dX8_reads_67 : decode cX8_reads 67 = .ok (.iload_n 3, 1) := by decide +kernel
theorem dX8_reads_68 : decode cX8_reads 68 = .ok (.putfield 122, 3) := by decide +kernel
theorem dX8_reads_71 : decode cX8_reads 71 = .ok (.aload_n 0, 1) := by decide +kernel
theorem dX8_reads_72 : decode cX8_reads 72 = .ok (.iload_n 2, 1) := by decide +kernel
theorem dX8_reads_73 : decode cX8_reads 73 = .ok (.putfield 30, 3) := by decide +kernel
theorem dX8_reads_76 : decode cX8_reads 76 = .ok (.sipush (-1000), 3) := by decide +kernel
theorem dX8_reads_79 : decode cX8_reads 79 = .ok (.iload_n 2, 1) := by decide +kernel
theorem dX8_reads_80 : decode cX8_reads 80 = .ok (.isub, 1) := by decide +kernel
theorem dX8_reads_81 : decode cX8_reads 81 = .ok (.ireturn, 1) := by decide +kernel
theorem dX8_reads_82 : decode cX8_reads 82 = .ok (.iinc 2 1, 3) := by decide +kernel
theorem dX8_reads_85 : decode cX8_reads 85 = .ok (.goto (-54), 3) := by decide +kernel
theorem dX8_reads_88 : decode cX8_reads 88 = .ok (.aload_n 0, 1) := by decide +kernel
theorem dX8_reads_89 : decode cX8_reads 89 = .ok (.getfield 19, 3) := by decide +kernel
theorem dX8_reads_92 : decode cX8_reads 92 = .ok (.invokevirtual 125, 3) := by decide +kernel
theorem dX8_reads_95 : decode cX8_reads 95 = .ok (.aload_n 0, 1) := by decide +kernel
theorem dX8_reads_96 : decode cX8_reads 96 = .ok (.getfield 26, 3) := by decide +kernel
theorem dX8_reads_99 : decode cX8_reads 99 = .ok (.getfield 109, 3) := by decide +kernel
theorem dX8_reads_102 : decode cX8_reads 102 = .ok (.ireturn, 1) := by decide +kernel
theorem dX8_why_0 : decode cX8_why 0 = .ok (.iload_n 1, 1) := by decide +kernel
theorem dX8_why_1 : decode cX8_why 1 = .ok (.lookupswitch 37 #[(0, 27), (1, 32)], 27) := by decide +kernel
theorem dX8_why_28 : decode cX8_why 28 = .ok (.aload_n 0, 1) := by decide +kernel
theorem dX8_why_29 : decode cX8_why 29 = .ok (.getfield 122, 3) := by decide +kernel
theorem dX8_why_32 : decode cX8_why 32 = .ok (.ireturn, 1) := by decide +kernel
theorem dX8_why_33 : decode cX8_why 33 = .ok (.aload_n 0, 1) := by decide +kernel
theorem dX8_why_34 : decode cX8_why 34 = .ok (.getfield 30, 3) := by decide +kernel
theorem dX8_why_37 : decode cX8_why 37 = .ok (.ireturn, 1) := by decide +kernel
theorem dX8_why_38 : decode cX8_why 38 = .ok (.aload_n 0, 1) := by decide +kernel
theorem dX8_why_39 : decode cX8_why 39 = .ok (.dup, 1) := by decide +kernel
theorem dX8_why_40 : decode cX8_why 40 = .ok (.getfield 128, 3) := by decide +kernel
theorem dX8_why_43 : decode cX8_why 43 = .ok (.iconst 1, 1) := by decide +kernel
theorem dX8_why_44 : decode cX8_why 44 = .ok (.iadd, 1) := by decide +kernel
theorem dX8_why_45 : decode cX8_why 45 = .ok (.putfield 128, 3) := by decide +kernel
theorem dX8_why_48 : decode cX8_why 48 = .ok (.bipush (-10), 2) := by decide +kernel
theorem dX8_why_50 : decode cX8_why 50 = .ok (.ireturn, 1) := by decide +kernel
theorem dX8_back_0 : decode cX8_back 0 = .ok (.aload_n 0, 1) := by decide +kernel
theorem dX8_back_1 : decode cX8_back 1 = .ok (.aload_n 0, 1) := by decide +kernel
theorem dX8_back_2 : decode cX8_back 2 = .ok (.getfield 19, 3) := by decide +kernel
theorem dX8_back_5 : decode cX8_back 5 = .ok (.aload_n 0, 1) := by decide +kernel
theorem dX8_back_6 : decode cX8_back 6 = .ok (.getfield 12, 3) := by decide +kernel
theorem dX8_back_9 : decode cX8_back 9 = .ok (.invokevirtual 131, 3) := by decide +kernel
theorem dX8_back_12 : decode cX8_back 12 = .ok (.invokevirtual 61, 3) := by decide +kernel
theorem dX8_back_15 : decode cX8_back 15 = .ok (.ireturn, 1) := by decide +kernel
theorem dX8_told_0 : decode cX8_told 0 = .ok (.iload_n 1, 1) := by decide +kernel
theorem dX8_told_1 : decode cX8_told 1 = .ok (.tableswitch 138 0 10 #[59, 64, 69, 74, 82, 90, 98, 106, 114, 122, 130], 59) := by decide +kernel
theorem dX8_told_60 : decode cX8_told 60 = .ok (.aload_n 0, 1) := by decide +kernel
theorem dX8_told_61 : decode cX8_told 61 = .ok (.getfield 128, 3) := by decide +kernel
theorem dX8_told_64 : decode cX8_told 64 = .ok (.ireturn, 1) := by decide +kernel
theorem dX8_told_65 : decode cX8_told 65 = .ok (.aload_n 0, 1) := by decide +kernel
theorem dX8_told_66 : decode cX8_told 66 = .ok (.getfield 135, 3) := by decide +kernel
theorem dX8_told_69 : decode cX8_told 69 = .ok (.ireturn, 1) := by decide +kernel
theorem dX8_told_70 : decode cX8_told 70 = .ok (.aload_n 0, 1) := by decide +kernel
theorem dX8_told_71 : decode cX8_told 71 = .ok (.getfield 138, 3) := by decide +kernel
theorem dX8_told_74 : decode cX8_told 74 = .ok (.ireturn, 1) := by decide +kernel
theorem dX8_told_75 : decode cX8_told 75 = .ok (.aload_n 0, 1) := by decide +kernel
theorem dX8_told_76 : decode cX8_told 76 = .ok (.getfield 26, 3) := by decide +kernel
theorem dX8_told_79 : decode cX8_told 79 = .ok (.getfield 103, 3) := by decide +kernel
theorem dX8_told_82 : decode cX8_told 82 = .ok (.ireturn, 1) := by decide +kernel
theorem dX8_told_83 : decode cX8_told 83 = .ok (.aload_n 0, 1) := by decide +kernel
theorem dX8_told_84 : decode cX8_told 84 = .ok (.getfield 12, 3) := by decide +kernel
theorem dX8_told_87 : decode cX8_told 87 = .ok (.getfield 141, 3) := by decide +kernel
theorem dX8_told_90 : decode cX8_told 90 = .ok (.ireturn, 1) := by decide +kernel
theorem dX8_told_91 : decode cX8_told 91 = .ok (.aload_n 0, 1) := by decide +kernel
theorem dX8_told_92 : decode cX8_told 92 = .ok (.getfield 12, 3) := by decide +kernel
theorem dX8_told_95 : decode cX8_told 95 = .ok (.getfield 144, 3) := by decide +kernel
theorem dX8_told_98 : decode cX8_told 98 = .ok (.ireturn, 1) := by decide +kernel
theorem dX8_told_99 : decode cX8_told 99 = .ok (.aload_n 0, 1) := by decide +kernel
theorem dX8_told_100 : decode cX8_told 100 = .ok (.getfield 12, 3) := by decide +kernel
theorem dX8_told_103 : decode cX8_told 103 = .ok (.getfield 147, 3) := by decide +kernel
theorem dX8_told_106 : decode cX8_told 106 = .ok (.ireturn, 1) := by decide +kernel
theorem dX8_told_107 : decode cX8_told 107 = .ok (.aload_n 0, 1) := by decide +kernel
theorem dX8_told_108 : decode cX8_told 108 = .ok (.getfield 12, 3) := by decide +kernel
theorem dX8_told_111 : decode cX8_told 111 = .ok (.getfield 150, 3) := by decide +kernel
theorem dX8_told_114 : decode cX8_told 114 = .ok (.ireturn, 1) := by decide +kernel
theorem dX8_told_115 : decode cX8_told 115 = .ok (.aload_n 0, 1) := by decide +kernel
theorem dX8_told_116 : decode cX8_told 116 = .ok (.getfield 12, 3) := by decide +kernel
theorem dX8_told_119 : decode cX8_told 119 = .ok (.getfield 153, 3) := by decide +kernel
theorem dX8_told_122 : decode cX8_told 122 = .ok (.ireturn, 1) := by decide +kernel
theorem dX8_told_123 : decode cX8_told 123 = .ok (.aload_n 0, 1) := by decide +kernel
theorem dX8_told_124 : decode cX8_told 124 = .ok (.getfield 12, 3) := by decide +kernel
theorem dX8_told_127 : decode cX8_told 127 = .ok (.getfield 156, 3) := by decide +kernel
theorem dX8_told_130 : decode cX8_told 130 = .ok (.ireturn, 1) := by decide +kernel
theorem dX8_told_131 : decode cX8_told 131 = .ok (.aload_n 0, 1) := by decide +kernel
theorem dX8_told_132 : decode cX8_told 132 = .ok (.getfield 19, 3) := by decide +kernel
theorem dX8_told_135 : decode cX8_told 135 = .ok (.getfield 159, 3) := by decide +kernel
theorem dX8_told_138 : decode cX8_told 138 = .ok (.ireturn, 1) := by decide +kernel
theorem dX8_told_139 : decode cX8_told 139 = .ok (.aload_n 0, 1) := by decide +kernel
theorem dX8_told_140 : decode cX8_told 140 = .ok (.bipush (-2), 2) := by decide +kernel
theorem dX8_told_142 : decode cX8_told 142 = .ok (.invokevirtual 61, 3) := by decide +kernel
theorem dX8_told_145 : decode cX8_told 145 = .ok (.ireturn, 1) := by decide +kernel
theorem dX8_digest_0 : decode cX8_digest 0 = .ok (.ldc2_w 162, 3) := by decide +kernel
theorem dX8_digest_3 : decode cX8_digest 3 = .ok (.lstore_n 1, 1) := by decide +kernel
theorem dX8_digest_4 : decode cX8_digest 4 = .ok (.iconst 0, 1) := by decide +kernel
theorem dX8_digest_5 : decode cX8_digest 5 = .ok (.istore_n 3, 1) := by decide +kernel
theorem dX8_digest_6 : decode cX8_digest 6 = .ok (.iload_n 3, 1) := by decide +kernel
theorem dX8_digest_7 : decode cX8_digest 7 = .ok (.bipush 10, 2) := by decide +kernel
theorem dX8_digest_9 : decode cX8_digest 9 = .ok (.if_icmp .gt 22, 3) := by decide +kernel
theorem dX8_digest_12 : decode cX8_digest 12 = .ok (.ldc2_w 164, 3) := by decide +kernel
theorem dX8_digest_15 : decode cX8_digest 15 = .ok (.lload_n 1, 1) := by decide +kernel
theorem dX8_digest_16 : decode cX8_digest 16 = .ok (.lmul, 1) := by decide +kernel
theorem dX8_digest_17 : decode cX8_digest 17 = .ok (.aload_n 0, 1) := by decide +kernel
theorem dX8_digest_18 : decode cX8_digest 18 = .ok (.iload_n 3, 1) := by decide +kernel
theorem dX8_digest_19 : decode cX8_digest 19 = .ok (.invokevirtual 166, 3) := by decide +kernel
theorem dX8_digest_22 : decode cX8_digest 22 = .ok (.i2l, 1) := by decide +kernel
theorem dX8_digest_23 : decode cX8_digest 23 = .ok (.ladd, 1) := by decide +kernel
theorem dX8_digest_24 : decode cX8_digest 24 = .ok (.lstore_n 1, 1) := by decide +kernel
theorem dX8_digest_25 : decode cX8_digest 25 = .ok (.iinc 3 1, 3) := by decide +kernel
theorem dX8_digest_28 : decode cX8_digest 28 = .ok (.goto (-22), 3) := by decide +kernel
theorem dX8_digest_31 : decode cX8_digest 31 = .ok (.ldc2_w 164, 3) := by decide +kernel
theorem dX8_digest_34 : decode cX8_digest 34 = .ok (.lload_n 1, 1) := by decide +kernel
theorem dX8_digest_35 : decode cX8_digest 35 = .ok (.lmul, 1) := by decide +kernel
theorem dX8_digest_36 : decode cX8_digest 36 = .ok (.aload_n 0, 1) := by decide +kernel
theorem dX8_digest_37 : decode cX8_digest 37 = .ok (.iconst 0, 1) := by decide +kernel
theorem dX8_digest_38 : decode cX8_digest 38 = .ok (.invokevirtual 169, 3) := by decide +kernel
theorem dX8_digest_41 : decode cX8_digest 41 = .ok (.i2l, 1) := by decide +kernel
theorem dX8_digest_42 : decode cX8_digest 42 = .ok (.ladd, 1) := by decide +kernel
theorem dX8_digest_43 : decode cX8_digest 43 = .ok (.lstore_n 1, 1) := by decide +kernel
theorem dX8_digest_44 : decode cX8_digest 44 = .ok (.ldc2_w 164, 3) := by decide +kernel
theorem dX8_digest_47 : decode cX8_digest 47 = .ok (.lload_n 1, 1) := by decide +kernel
theorem dX8_digest_48 : decode cX8_digest 48 = .ok (.lmul, 1) := by decide +kernel
theorem dX8_digest_49 : decode cX8_digest 49 = .ok (.aload_n 0, 1) := by decide +kernel
theorem dX8_digest_50 : decode cX8_digest 50 = .ok (.iconst 1, 1) := by decide +kernel
theorem dX8_digest_51 : decode cX8_digest 51 = .ok (.invokevirtual 169, 3) := by decide +kernel
theorem dX8_digest_54 : decode cX8_digest 54 = .ok (.i2l, 1) := by decide +kernel
theorem dX8_digest_55 : decode cX8_digest 55 = .ok (.ladd, 1) := by decide +kernel
theorem dX8_digest_56 : decode cX8_digest 56 = .ok (.lstore_n 1, 1) := by decide +kernel
theorem dX8_digest_57 : decode cX8_digest 57 = .ok (.iconst 0, 1) := by decide +kernel
theorem dX8_digest_58 : decode cX8_digest 58 = .ok (.istore_n 3, 1) := by decide +kernel
theorem dX8_digest_59 : decode cX8_digest 59 = .ok (.iload_n 3, 1) := by decide +kernel
theorem dX8_digest_60 : decode cX8_digest 60 = .ok (.aload_n 0, 1) := by decide +kernel
theorem dX8_digest_61 : decode cX8_digest 61 = .ok (.getfield 12, 3) := by decide +kernel
theorem dX8_digest_64 : decode cX8_digest 64 = .ok (.getfield 141, 3) := by decide +kernel
theorem dX8_digest_67 : decode cX8_digest 67 = .ok (.if_icmp .ge 16, 3) := by decide +kernel
theorem dX8_digest_70 : decode cX8_digest 70 = .ok (.aload_n 0, 1) := by decide +kernel
theorem dX8_digest_71 : decode cX8_digest 71 = .ok (.lload_n 1, 1) := by decide +kernel
theorem dX8_digest_72 : decode cX8_digest 72 = .ok (.iload_n 3, 1) := by decide +kernel
theorem dX8_digest_73 : decode cX8_digest 73 = .ok (.invokevirtual 172, 3) := by decide +kernel
theorem dX8_digest_76 : decode cX8_digest 76 = .ok (.lstore_n 1, 1) := by decide +kernel
theorem dX8_digest_77 : decode cX8_digest 77 = .ok (.iinc 3 1, 3) := by decide +kernel
theorem dX8_digest_80 : decode cX8_digest 80 = .ok (.goto (-21), 3) := by decide +kernel
theorem dX8_digest_83 : decode cX8_digest 83 = .ok (.ldc2_w 164, 3) := by decide +kernel
theorem dX8_digest_86 : decode cX8_digest 86 = .ok (.lload_n 1, 1) := by decide +kernel
theorem dX8_digest_87 : decode cX8_digest 87 = .ok (.lmul, 1) := by decide +kernel
theorem dX8_digest_88 : decode cX8_digest 88 = .ok (.aload_n 0, 1) := by decide +kernel
theorem dX8_digest_89 : decode cX8_digest 89 = .ok (.invokevirtual 176, 3) := by decide +kernel
theorem dX8_digest_92 : decode cX8_digest 92 = .ok (.i2l, 1) := by decide +kernel
theorem dX8_digest_93 : decode cX8_digest 93 = .ok (.ladd, 1) := by decide +kernel
theorem dX8_digest_94 : decode cX8_digest 94 = .ok (.lstore_n 1, 1) := by decide +kernel
theorem dX8_digest_95 : decode cX8_digest 95 = .ok (.iconst 0, 1) := by decide +kernel
theorem dX8_digest_96 : decode cX8_digest 96 = .ok (.istore_n 3, 1) := by decide +kernel
theorem dX8_digest_97 : decode cX8_digest 97 = .ok (.iload_n 3, 1) := by decide +kernel
theorem dX8_digest_98 : decode cX8_digest 98 = .ok (.iconst 3, 1) := by decide +kernel
theorem dX8_digest_99 : decode cX8_digest 99 = .ok (.if_icmp .gt 22, 3) := by decide +kernel
theorem dX8_digest_102 : decode cX8_digest 102 = .ok (.ldc2_w 164, 3) := by decide +kernel
theorem dX8_digest_105 : decode cX8_digest 105 = .ok (.lload_n 1, 1) := by decide +kernel
theorem dX8_digest_106 : decode cX8_digest 106 = .ok (.lmul, 1) := by decide +kernel
theorem dX8_digest_107 : decode cX8_digest 107 = .ok (.aload_n 0, 1) := by decide +kernel
theorem dX8_digest_108 : decode cX8_digest 108 = .ok (.iload_n 3, 1) := by decide +kernel
theorem dX8_digest_109 : decode cX8_digest 109 = .ok (.invokevirtual 178, 3) := by decide +kernel
theorem dX8_digest_112 : decode cX8_digest 112 = .ok (.i2l, 1) := by decide +kernel
theorem dX8_digest_113 : decode cX8_digest 113 = .ok (.ladd, 1) := by decide +kernel
theorem dX8_digest_114 : decode cX8_digest 114 = .ok (.lstore_n 1, 1) := by decide +kernel
theorem dX8_digest_115 : decode cX8_digest 115 = .ok (.iinc 3 1, 3) := by decide +kernel
theorem dX8_digest_118 : decode cX8_digest 118 = .ok (.goto (-21), 3) := by decide +kernel
theorem dX8_digest_121 : decode cX8_digest 121 = .ok (.lload_n 1, 1) := by decide +kernel
theorem dX8_digest_122 : decode cX8_digest 122 = .ok (.lreturn, 1) := by decide +kernel
theorem dX8_digestOfHost_0 : decode cX8_digestOfHost 0 = .ok (.lload_n 1, 1) := by decide +kernel
theorem dX8_digestOfHost_1 : decode cX8_digestOfHost 1 = .ok (.lstore 4, 2) := by decide +kernel
theorem dX8_digestOfHost_3 : decode cX8_digestOfHost 3 = .ok (.iconst 0, 1) := by decide +kernel
theorem dX8_digestOfHost_4 : decode cX8_digestOfHost 4 = .ok (.istore 6, 2) := by decide +kernel
theorem dX8_digestOfHost_6 : decode cX8_digestOfHost 6 = .ok (.iload 6, 2) := by decide +kernel
theorem dX8_digestOfHost_8 : decode cX8_digestOfHost 8 = .ok (.iconst 5, 1) := by decide +kernel
theorem dX8_digestOfHost_9 : decode cX8_digestOfHost 9 = .ok (.if_icmp .gt 26, 3) := by decide +kernel
theorem dX8_digestOfHost_12 : decode cX8_digestOfHost 12 = .ok (.ldc2_w 164, 3) := by decide +kernel
theorem dX8_digestOfHost_15 : decode cX8_digestOfHost 15 = .ok (.lload 4, 2) := by decide +kernel
theorem dX8_digestOfHost_17 : decode cX8_digestOfHost 17 = .ok (.lmul, 1) := by decide +kernel
theorem dX8_digestOfHost_18 : decode cX8_digestOfHost 18 = .ok (.aload_n 0, 1) := by decide +kernel
theorem dX8_digestOfHost_19 : decode cX8_digestOfHost 19 = .ok (.iload_n 3, 1) := by decide +kernel
theorem dX8_digestOfHost_20 : decode cX8_digestOfHost 20 = .ok (.iload 6, 2) := by decide +kernel
theorem dX8_digestOfHost_22 : decode cX8_digestOfHost 22 = .ok (.invokevirtual 181, 3) := by decide +kernel
theorem dX8_digestOfHost_25 : decode cX8_digestOfHost 25 = .ok (.i2l, 1) := by decide +kernel
theorem dX8_digestOfHost_26 : decode cX8_digestOfHost 26 = .ok (.ladd, 1) := by decide +kernel
theorem dX8_digestOfHost_27 : decode cX8_digestOfHost 27 = .ok (.lstore 4, 2) := by decide +kernel
theorem dX8_digestOfHost_29 : decode cX8_digestOfHost 29 = .ok (.iinc 6 1, 3) := by decide +kernel
theorem dX8_digestOfHost_32 : decode cX8_digestOfHost 32 = .ok (.goto (-26), 3) := by decide +kernel
theorem dX8_digestOfHost_35 : decode cX8_digestOfHost 35 = .ok (.aload_n 0, 1) := by decide +kernel
theorem dX8_digestOfHost_36 : decode cX8_digestOfHost 36 = .ok (.iload_n 3, 1) := by decide +kernel
theorem dX8_digestOfHost_37 : decode cX8_digestOfHost 37 = .ok (.iconst 0, 1) := by decide +kernel
theorem dX8_digestOfHost_38 : decode cX8_digestOfHost 38 = .ok (.invokevirtual 181, 3) := by decide +kernel
theorem dX8_digestOfHost_41 : decode cX8_digestOfHost 41 = .ok (.istore 6, 2) := by decide +kernel
theorem dX8_digestOfHost_43 : decode cX8_digestOfHost 43 = .ok (.iconst 0, 1) := by decide +kernel
theorem dX8_digestOfHost_44 : decode cX8_digestOfHost 44 = .ok (.istore 7, 2) := by decide +kernel
theorem dX8_digestOfHost_46 : decode cX8_digestOfHost 46 = .ok (.iload 7, 2) := by decide +kernel
theorem dX8_digestOfHost_48 : decode cX8_digestOfHost 48 = .ok (.iload 6, 2) := by decide +kernel
theorem dX8_digestOfHost_50 : decode cX8_digestOfHost 50 = .ok (.if_icmp .ge 44, 3) := by decide +kernel
theorem dX8_digestOfHost_53 : decode cX8_digestOfHost 53 = .ok (.iconst 0, 1) := by decide +kernel
theorem dX8_digestOfHost_54 : decode cX8_digestOfHost 54 = .ok (.istore 8, 2) := by decide +kernel
theorem dX8_digestOfHost_56 : decode cX8_digestOfHost 56 = .ok (.iload 8, 2) := by decide +kernel
theorem dX8_digestOfHost_58 : decode cX8_digestOfHost 58 = .ok (.bipush 7, 2) := by decide +kernel
theorem dX8_digestOfHost_60 : decode cX8_digestOfHost 60 = .ok (.if_icmp .gt 28, 3) := by decide +kernel
theorem dX8_digestOfHost_63 : decode cX8_digestOfHost 63 = .ok (.ldc2_w 164, 3) := by decide +kernel
theorem dX8_digestOfHost_66 : decode cX8_digestOfHost 66 = .ok (.lload 4, 2) := by decide +kernel
theorem dX8_digestOfHost_68 : decode cX8_digestOfHost 68 = .ok (.lmul, 1) := by decide +kernel
theorem dX8_digestOfHost_69 : decode cX8_digestOfHost 69 = .ok (.aload_n 0, 1) := by decide +kernel
theorem dX8_digestOfHost_70 : decode cX8_digestOfHost 70 = .ok (.iload_n 3, 1) := by decide +kernel
theorem dX8_digestOfHost_71 : decode cX8_digestOfHost 71 = .ok (.iload 7, 2) := by decide +kernel
theorem dX8_digestOfHost_73 : decode cX8_digestOfHost 73 = .ok (.iload 8, 2) := by decide +kernel
theorem dX8_digestOfHost_75 : decode cX8_digestOfHost 75 = .ok (.invokevirtual 184, 3) := by decide +kernel
theorem dX8_digestOfHost_78 : decode cX8_digestOfHost 78 = .ok (.i2l, 1) := by decide +kernel
theorem dX8_digestOfHost_79 : decode cX8_digestOfHost 79 = .ok (.ladd, 1) := by decide +kernel
theorem dX8_digestOfHost_80 : decode cX8_digestOfHost 80 = .ok (.lstore 4, 2) := by decide +kernel
theorem dX8_digestOfHost_82 : decode cX8_digestOfHost 82 = .ok (.iinc 8 1, 3) := by decide +kernel
theorem dX8_digestOfHost_85 : decode cX8_digestOfHost 85 = .ok (.goto (-29), 3) := by decide +kernel
theorem dX8_digestOfHost_88 : decode cX8_digestOfHost 88 = .ok (.iinc 7 1, 3) := by decide +kernel
theorem dX8_digestOfHost_91 : decode cX8_digestOfHost 91 = .ok (.goto (-45), 3) := by decide +kernel
theorem dX8_digestOfHost_94 : decode cX8_digestOfHost 94 = .ok (.aload_n 0, 1) := by decide +kernel
theorem dX8_digestOfHost_95 : decode cX8_digestOfHost 95 = .ok (.iload_n 3, 1) := by decide +kernel
theorem dX8_digestOfHost_96 : decode cX8_digestOfHost 96 = .ok (.iconst 3, 1) := by decide +kernel
theorem dX8_digestOfHost_97 : decode cX8_digestOfHost 97 = .ok (.invokevirtual 181, 3) := by decide +kernel
theorem dX8_digestOfHost_100 : decode cX8_digestOfHost 100 = .ok (.istore 7, 2) := by decide +kernel
theorem dX8_digestOfHost_102 : decode cX8_digestOfHost 102 = .ok (.iconst 0, 1) := by decide +kernel
theorem dX8_digestOfHost_103 : decode cX8_digestOfHost 103 = .ok (.istore 8, 2) := by decide +kernel
theorem dX8_digestOfHost_105 : decode cX8_digestOfHost 105 = .ok (.iload 8, 2) := by decide +kernel
theorem dX8_digestOfHost_107 : decode cX8_digestOfHost 107 = .ok (.iload 7, 2) := by decide +kernel
theorem dX8_digestOfHost_109 : decode cX8_digestOfHost 109 = .ok (.if_icmp .ge 43, 3) := by decide +kernel
theorem dX8_digestOfHost_112 : decode cX8_digestOfHost 112 = .ok (.iconst 0, 1) := by decide +kernel
theorem dX8_digestOfHost_113 : decode cX8_digestOfHost 113 = .ok (.istore 9, 2) := by decide +kernel
theorem dX8_digestOfHost_115 : decode cX8_digestOfHost 115 = .ok (.iload 9, 2) := by decide +kernel
theorem dX8_digestOfHost_117 : decode cX8_digestOfHost 117 = .ok (.iconst 4, 1) := by decide +kernel
theorem dX8_digestOfHost_118 : decode cX8_digestOfHost 118 = .ok (.if_icmp .gt 28, 3) := by decide +kernel
theorem dX8_digestOfHost_121 : decode cX8_digestOfHost 121 = .ok (.ldc2_w 164, 3) := by decide +kernel
theorem dX8_digestOfHost_124 : decode cX8_digestOfHost 124 = .ok (.lload 4, 2) := by decide +kernel
theorem dX8_digestOfHost_126 : decode cX8_digestOfHost 126 = .ok (.lmul, 1) := by decide +kernel
theorem dX8_digestOfHost_127 : decode cX8_digestOfHost 127 = .ok (.aload_n 0, 1) := by decide +kernel
theorem dX8_digestOfHost_128 : decode cX8_digestOfHost 128 = .ok (.iload_n 3, 1) := by decide +kernel
theorem dX8_digestOfHost_129 : decode cX8_digestOfHost 129 = .ok (.iload 8, 2) := by decide +kernel
theorem dX8_digestOfHost_131 : decode cX8_digestOfHost 131 = .ok (.iload 9, 2) := by decide +kernel
theorem dX8_digestOfHost_133 : decode cX8_digestOfHost 133 = .ok (.invokevirtual 187, 3) := by decide +kernel
theorem dX8_digestOfHost_136 : decode cX8_digestOfHost 136 = .ok (.i2l, 1) := by decide +kernel
theorem dX8_digestOfHost_137 : decode cX8_digestOfHost 137 = .ok (.ladd, 1) := by decide +kernel
theorem dX8_digestOfHost_138 : decode cX8_digestOfHost 138 = .ok (.lstore 4, 2) := by decide +kernel
theorem dX8_digestOfHost_140 : decode cX8_digestOfHost 140 = .ok (.iinc 9 1, 3) := by decide +kernel
theorem dX8_digestOfHost_143 : decode cX8_digestOfHost 143 = .ok (.goto (-28), 3) := by decide +kernel
theorem dX8_digestOfHost_146 : decode cX8_digestOfHost 146 = .ok (.iinc 8 1, 3) := by decide +kernel
theorem dX8_digestOfHost_149 : decode cX8_digestOfHost 149 = .ok (.goto (-44), 3) := by decide +kernel
theorem dX8_digestOfHost_152 : decode cX8_digestOfHost 152 = .ok (.lload 4, 2) := by decide +kernel
theorem dX8_digestOfHost_154 : decode cX8_digestOfHost 154 = .ok (.lreturn, 1) := by decide +kernel
theorem dX8_isError_0 : decode cX8_isError 0 = .ok (.iload_n 0, 1) := by decide +kernel
theorem dX8_isError_1 : decode cX8_isError 1 = .ok (.bipush (-2), 2) := by decide +kernel
theorem dX8_isError_3 : decode cX8_isError 3 = .ok (.if_icmp .eq 15, 3) := by decide +kernel
theorem dX8_isError_6 : decode cX8_isError 6 = .ok (.iload_n 0, 1) := by decide +kernel
theorem dX8_isError_7 : decode cX8_isError 7 = .ok (.bipush (-3), 2) := by decide +kernel
theorem dX8_isError_9 : decode cX8_isError 9 = .ok (.if_icmp .eq 9, 3) := by decide +kernel
theorem dX8_isError_12 : decode cX8_isError 12 = .ok (.iload_n 0, 1) := by decide +kernel
theorem dX8_isError_13 : decode cX8_isError 13 = .ok (.bipush (-4), 2) := by decide +kernel
theorem dX8_isError_15 : decode cX8_isError 15 = .ok (.if_icmp .ne 7, 3) := by decide +kernel
theorem dX8_isError_18 : decode cX8_isError 18 = .ok (.iconst 1, 1) := by decide +kernel
theorem dX8_isError_19 : decode cX8_isError 19 = .ok (.goto 4, 3) := by decide +kernel
theorem dX8_isError_22 : decode cX8_isError 22 = .ok (.iconst 0, 1) := by decide +kernel
theorem dX8_isError_23 : decode cX8_isError 23 = .ok (.ireturn, 1) := by decide +kernel
theorem dX8_counted_0 : decode cX8_counted 0 = .ok (.iload_n 1, 1) := by decide +kernel
theorem dX8_counted_1 : decode cX8_counted 1 = .ok (.bipush (-2), 2) := by decide +kernel
theorem dX8_counted_3 : decode cX8_counted 3 = .ok (.if_icmp .ne 16, 3) := by decide +kernel
theorem dX8_counted_6 : decode cX8_counted 6 = .ok (.aload_n 0, 1) := by decide +kernel
theorem dX8_counted_7 : decode cX8_counted 7 = .ok (.dup, 1) := by decide +kernel
theorem dX8_counted_8 : decode cX8_counted 8 = .ok (.getfield 128, 3) := by decide +kernel
theorem dX8_counted_11 : decode cX8_counted 11 = .ok (.iconst 1, 1) := by decide +kernel
theorem dX8_counted_12 : decode cX8_counted 12 = .ok (.iadd, 1) := by decide +kernel
theorem dX8_counted_13 : decode cX8_counted 13 = .ok (.putfield 128, 3) := by decide +kernel
theorem dX8_counted_16 : decode cX8_counted 16 = .ok (.goto 38, 3) := by decide +kernel
theorem dX8_counted_19 : decode cX8_counted 19 = .ok (.iload_n 1, 1) := by decide +kernel
theorem dX8_counted_20 : decode cX8_counted 20 = .ok (.bipush (-3), 2) := by decide +kernel
theorem dX8_counted_22 : decode cX8_counted 22 = .ok (.if_icmp .ne 16, 3) := by decide +kernel
theorem dX8_counted_25 : decode cX8_counted 25 = .ok (.aload_n 0, 1) := by decide +kernel
theorem dX8_counted_26 : decode cX8_counted 26 = .ok (.dup, 1) := by decide +kernel
theorem dX8_counted_27 : decode cX8_counted 27 = .ok (.getfield 135, 3) := by decide +kernel
theorem dX8_counted_30 : decode cX8_counted 30 = .ok (.iconst 1, 1) := by decide +kernel
theorem dX8_counted_31 : decode cX8_counted 31 = .ok (.iadd, 1) := by decide +kernel
theorem dX8_counted_32 : decode cX8_counted 32 = .ok (.putfield 135, 3) := by decide +kernel
theorem dX8_counted_35 : decode cX8_counted 35 = .ok (.goto 19, 3) := by decide +kernel
theorem dX8_counted_38 : decode cX8_counted 38 = .ok (.iload_n 1, 1) := by decide +kernel
theorem dX8_counted_39 : decode cX8_counted 39 = .ok (.bipush (-4), 2) := by decide +kernel
theorem dX8_counted_41 : decode cX8_counted 41 = .ok (.if_icmp .ne 13, 3) := by decide +kernel
theorem dX8_counted_44 : decode cX8_counted 44 = .ok (.aload_n 0, 1) := by decide +kernel
theorem dX8_counted_45 : decode cX8_counted 45 = .ok (.dup, 1) := by decide +kernel
theorem dX8_counted_46 : decode cX8_counted 46 = .ok (.getfield 138, 3) := by decide +kernel
theorem dX8_counted_49 : decode cX8_counted 49 = .ok (.iconst 1, 1) := by decide +kernel
theorem dX8_counted_50 : decode cX8_counted 50 = .ok (.iadd, 1) := by decide +kernel
theorem dX8_counted_51 : decode cX8_counted 51 = .ok (.putfield 138, 3) := by decide +kernel
theorem dX8_counted_54 : decode cX8_counted 54 = .ok (.iload_n 1, 1) := by decide +kernel
theorem dX8_counted_55 : decode cX8_counted 55 = .ok (.ireturn, 1) := by decide +kernel
theorem dX8_stepped_0 : decode cX8_stepped 0 = .ok (.iload_n 1, 1) := by decide +kernel
theorem dX8_stepped_1 : decode cX8_stepped 1 = .ok (.invokestatic 115, 3) := by decide +kernel
theorem dX8_stepped_4 : decode cX8_stepped 4 = .ok (.ifCond .ne 10, 3) := by decide +kernel
theorem dX8_stepped_7 : decode cX8_stepped 7 = .ok (.aload_n 0, 1) := by decide +kernel
theorem dX8_stepped_8 : decode cX8_stepped 8 = .ok (.getfield 19, 3) := by decide +kernel
theorem dX8_stepped_11 : decode cX8_stepped 11 = .ok (.invokevirtual 125, 3) := by decide +kernel
theorem dX8_stepped_14 : decode cX8_stepped 14 = .ok (.aload_n 0, 1) := by decide +kernel
theorem dX8_stepped_15 : decode cX8_stepped 15 = .ok (.iload_n 1, 1) := by decide +kernel
theorem dX8_stepped_16 : decode cX8_stepped 16 = .ok (.invokevirtual 61, 3) := by decide +kernel
theorem dX8_stepped_19 : decode cX8_stepped 19 = .ok (.ireturn, 1) := by decide +kernel
theorem dX8_perform_0 : decode cX8_perform 0 = .ok (.aload_n 0, 1) := by decide +kernel
theorem dX8_perform_1 : decode cX8_perform 1 = .ok (.getfield 26, 3) := by decide +kernel
theorem dX8_perform_4 : decode cX8_perform 4 = .ok (.iload_n 1, 1) := by decide +kernel
theorem dX8_perform_5 : decode cX8_perform 5 = .ok (.iconst 0, 1) := by decide +kernel
theorem dX8_perform_6 : decode cX8_perform 6 = .ok (.invokevirtual 190, 3) := by decide +kernel
theorem dX8_perform_9 : decode cX8_perform 9 = .ok (.istore_n 2, 1) := by decide +kernel
theorem dX8_perform_10 : decode cX8_perform 10 = .ok (.aload_n 0, 1) := by decide +kernel
theorem dX8_perform_11 : decode cX8_perform 11 = .ok (.getfield 26, 3) := by decide +kernel
theorem dX8_perform_14 : decode cX8_perform 14 = .ok (.iload_n 1, 1) := by decide +kernel
theorem dX8_perform_15 : decode cX8_perform 15 = .ok (.iconst 1, 1) := by decide +kernel
theorem dX8_perform_16 : decode cX8_perform 16 = .ok (.invokevirtual 190, 3) := by decide +kernel
theorem dX8_perform_19 : decode cX8_perform 19 = .ok (.istore_n 3, 1) := by decide +kernel
theorem dX8_perform_20 : decode cX8_perform 20 = .ok (.aload_n 0, 1) := by decide +kernel
theorem dX8_perform_21 : decode cX8_perform 21 = .ok (.getfield 26, 3) := by decide +kernel
theorem dX8_perform_24 : decode cX8_perform 24 = .ok (.iload_n 1, 1) := by decide +kernel
theorem dX8_perform_25 : decode cX8_perform 25 = .ok (.iconst 2, 1) := by decide +kernel
theorem dX8_perform_26 : decode cX8_perform 26 = .ok (.invokevirtual 190, 3) := by decide +kernel
theorem dX8_perform_29 : decode cX8_perform 29 = .ok (.istore 4, 2) := by decide +kernel
theorem dX8_perform_31 : decode cX8_perform 31 = .ok (.aload_n 0, 1) := by decide +kernel
theorem dX8_perform_32 : decode cX8_perform 32 = .ok (.getfield 26, 3) := by decide +kernel
theorem dX8_perform_35 : decode cX8_perform 35 = .ok (.iload_n 1, 1) := by decide +kernel
theorem dX8_perform_36 : decode cX8_perform 36 = .ok (.iconst 3, 1) := by decide +kernel
theorem dX8_perform_37 : decode cX8_perform 37 = .ok (.invokevirtual 190, 3) := by decide +kernel
theorem dX8_perform_40 : decode cX8_perform 40 = .ok (.istore 5, 2) := by decide +kernel
theorem dX8_perform_42 : decode cX8_perform 42 = .ok (.aload_n 0, 1) := by decide +kernel
theorem dX8_perform_43 : decode cX8_perform 43 = .ok (.getfield 26, 3) := by decide +kernel
theorem dX8_perform_46 : decode cX8_perform 46 = .ok (.iload_n 1, 1) := by decide +kernel
theorem dX8_perform_47 : decode cX8_perform 47 = .ok (.iconst 4, 1) := by decide +kernel
theorem dX8_perform_48 : decode cX8_perform 48 = .ok (.invokevirtual 190, 3) := by decide +kernel
theorem dX8_perform_51 : decode cX8_perform 51 = .ok (.istore 6, 2) := by decide +kernel
theorem dX8_perform_53 : decode cX8_perform 53 = .ok (.aload_n 0, 1) := by decide +kernel
theorem dX8_perform_54 : decode cX8_perform 54 = .ok (.getfield 26, 3) := by decide +kernel
theorem dX8_perform_57 : decode cX8_perform 57 = .ok (.iload_n 1, 1) := by decide +kernel
theorem dX8_perform_58 : decode cX8_perform 58 = .ok (.invokevirtual 193, 3) := by decide +kernel
theorem dX8_perform_61 : decode cX8_perform 61 = .ok (.tableswitch 209 97 122 #[187, 209, 155, 209, 209, 209, 199, 119, 209, 209, 209, 209, 209, 209, 209, 209, 209, 209, 171, 127, 209, 209, 136, 209, 209, 145], 119) := by decide +kernel
theorem dX8_perform_180 : decode cX8_perform 180 = .ok (.aload_n 0, 1) := by decide +kernel
theorem dX8_perform_181 : decode cX8_perform 181 = .ok (.getfield 12, 3) := by decide +kernel
theorem dX8_perform_184 : decode cX8_perform 184 = .ok (.invokevirtual 38, 3) := by decide +kernel
theorem dX8_perform_187 : decode cX8_perform 187 = .ok (.ireturn, 1) := by decide +kernel
theorem dX8_perform_188 : decode cX8_perform 188 = .ok (.aload_n 0, 1) := by decide +kernel
theorem dX8_perform_189 : decode cX8_perform 189 = .ok (.getfield 12, 3) := by decide +kernel
theorem dX8_perform_192 : decode cX8_perform 192 = .ok (.iload_n 2, 1) := by decide +kernel
theorem dX8_perform_193 : decode cX8_perform 193 = .ok (.invokevirtual 67, 3) := by decide +kernel
theorem dX8_perform_196 : decode cX8_perform 196 = .ok (.ireturn, 1) := by decide +kernel
theorem dX8_perform_197 : decode cX8_perform 197 = .ok (.aload_n 0, 1) := by decide +kernel
theorem dX8_perform_198 : decode cX8_perform 198 = .ok (.getfield 12, 3) := by decide +kernel
theorem dX8_perform_201 : decode cX8_perform 201 = .ok (.iload_n 2, 1) := by decide +kernel
theorem dX8_perform_202 : decode cX8_perform 202 = .ok (.invokevirtual 97, 3) := by decide +kernel
theorem dX8_perform_205 : decode cX8_perform 205 = .ok (.ireturn, 1) := by decide +kernel
theorem dX8_perform_206 : decode cX8_perform 206 = .ok (.aload_n 0, 1) := by decide +kernel
theorem dX8_perform_207 : decode cX8_perform 207 = .ok (.getfield 12, 3) := by decide +kernel
theorem dX8_perform_210 : decode cX8_perform 210 = .ok (.iload_n 2, 1) := by decide +kernel
theorem dX8_perform_211 : decode cX8_perform 211 = .ok (.iload_n 3, 1) := by decide +kernel
theorem dX8_perform_212 : decode cX8_perform 212 = .ok (.invokevirtual 94, 3) := by decide +kernel
theorem dX8_perform_215 : decode cX8_perform 215 = .ok (.ireturn, 1) := by decide +kernel
theorem dX8_perform_216 : decode cX8_perform 216 = .ok (.aload_n 0, 1) := by decide +kernel
theorem dX8_perform_217 : decode cX8_perform 217 = .ok (.getfield 12, 3) := by decide +kernel
theorem dX8_perform_220 : decode cX8_perform 220 = .ok (.iload_n 2, 1) := by decide +kernel
theorem dX8_perform_221 : decode cX8_perform 221 = .ok (.iload_n 3, 1) := by decide +kernel
theorem dX8_perform_222 : decode cX8_perform 222 = .ok (.iload 4, 2) := by decide +kernel
theorem dX8_perform_224 : decode cX8_perform 224 = .ok (.iload 5, 2) := by decide +kernel
theorem dX8_perform_226 : decode cX8_perform 226 = .ok (.iload 6, 2) := by decide +kernel
theorem dX8_perform_228 : decode cX8_perform 228 = .ok (.invokevirtual 46, 3) := by decide +kernel
theorem dX8_perform_231 : decode cX8_perform 231 = .ok (.ireturn, 1) := by decide +kernel
theorem dX8_perform_232 : decode cX8_perform 232 = .ok (.aload_n 0, 1) := by decide +kernel
theorem dX8_perform_233 : decode cX8_perform 233 = .ok (.getfield 12, 3) := by decide +kernel
theorem dX8_perform_236 : decode cX8_perform 236 = .ok (.iload_n 2, 1) := by decide +kernel
theorem dX8_perform_237 : decode cX8_perform 237 = .ok (.iload_n 3, 1) := by decide +kernel
theorem dX8_perform_238 : decode cX8_perform 238 = .ok (.iload 4, 2) := by decide +kernel
theorem dX8_perform_240 : decode cX8_perform 240 = .ok (.iload 5, 2) := by decide +kernel
theorem dX8_perform_242 : decode cX8_perform 242 = .ok (.iload 6, 2) := by decide +kernel
theorem dX8_perform_244 : decode cX8_perform 244 = .ok (.invokevirtual 50, 3) := by decide +kernel
theorem dX8_perform_247 : decode cX8_perform 247 = .ok (.ireturn, 1) := by decide +kernel
theorem dX8_perform_248 : decode cX8_perform 248 = .ok (.aload_n 0, 1) := by decide +kernel
theorem dX8_perform_249 : decode cX8_perform 249 = .ok (.getfield 12, 3) := by decide +kernel
theorem dX8_perform_252 : decode cX8_perform 252 = .ok (.iload_n 2, 1) := by decide +kernel
theorem dX8_perform_253 : decode cX8_perform 253 = .ok (.iload_n 3, 1) := by decide +kernel
theorem dX8_perform_254 : decode cX8_perform 254 = .ok (.iload 4, 2) := by decide +kernel
theorem dX8_perform_256 : decode cX8_perform 256 = .ok (.invokevirtual 78, 3) := by decide +kernel
theorem dX8_perform_259 : decode cX8_perform 259 = .ok (.ireturn, 1) := by decide +kernel
theorem dX8_perform_260 : decode cX8_perform 260 = .ok (.aload_n 0, 1) := by decide +kernel
theorem dX8_perform_261 : decode cX8_perform 261 = .ok (.getfield 12, 3) := by decide +kernel
theorem dX8_perform_264 : decode cX8_perform 264 = .ok (.iload_n 2, 1) := by decide +kernel
theorem dX8_perform_265 : decode cX8_perform 265 = .ok (.iload_n 3, 1) := by decide +kernel
theorem dX8_perform_266 : decode cX8_perform 266 = .ok (.invokevirtual 53, 3) := by decide +kernel
theorem dX8_perform_269 : decode cX8_perform 269 = .ok (.ireturn, 1) := by decide +kernel
theorem dX8_perform_270 : decode cX8_perform 270 = .ok (.bipush (-2), 2) := by decide +kernel
theorem dX8_perform_272 : decode cX8_perform 272 = .ok (.ireturn, 1) := by decide +kernel
theorem dX8_bitsOf_0 : decode cX8_bitsOf 0 = .ok (.fload_n 0, 1) := by decide +kernel
theorem dX8_bitsOf_1 : decode cX8_bitsOf 1 = .ok (.f2d, 1) := by decide +kernel
theorem dX8_bitsOf_2 : decode cX8_bitsOf 2 = .ok (.dstore_n 1, 1) := by decide +kernel
theorem dX8_bitsOf_3 : decode cX8_bitsOf 3 = .ok (.bipush 127, 2) := by decide +kernel
theorem dX8_bitsOf_5 : decode cX8_bitsOf 5 = .ok (.istore_n 3, 1) := by decide +kernel
theorem dX8_bitsOf_6 : decode cX8_bitsOf 6 = .ok (.dload_n 1, 1) := by decide +kernel
theorem dX8_bitsOf_7 : decode cX8_bitsOf 7 = .ok (.ldc2_w 196, 3) := by decide +kernel
theorem dX8_bitsOf_10 : decode cX8_bitsOf 10 = .ok (.dcmp .l, 1) := by decide +kernel
theorem dX8_bitsOf_11 : decode cX8_bitsOf 11 = .ok (.ifCond .lt 22, 3) := by decide +kernel
theorem dX8_bitsOf_14 : decode cX8_bitsOf 14 = .ok (.iload_n 3, 1) := by decide +kernel
theorem dX8_bitsOf_15 : decode cX8_bitsOf 15 = .ok (.sipush 254, 3) := by decide +kernel
theorem dX8_bitsOf_18 : decode cX8_bitsOf 18 = .ok (.if_icmp .ge 15, 3) := by decide +kernel
theorem dX8_bitsOf_21 : decode cX8_bitsOf 21 = .ok (.dload_n 1, 1) := by decide +kernel
theorem dX8_bitsOf_22 : decode cX8_bitsOf 22 = .ok (.ldc2_w 198, 3) := by decide +kernel
theorem dX8_bitsOf_25 : decode cX8_bitsOf 25 = .ok (.dmul, 1) := by decide +kernel
theorem dX8_bitsOf_26 : decode cX8_bitsOf 26 = .ok (.dstore_n 1, 1) := by decide +kernel
theorem dX8_bitsOf_27 : decode cX8_bitsOf 27 = .ok (.iinc 3 1, 3) := by decide +kernel
theorem dX8_bitsOf_30 : decode cX8_bitsOf 30 = .ok (.goto (-24), 3) := by decide +kernel
theorem dX8_bitsOf_33 : decode cX8_bitsOf 33 = .ok (.dload_n 1, 1) := by decide +kernel
theorem dX8_bitsOf_34 : decode cX8_bitsOf 34 = .ok (.dconst 1, 1) := by decide +kernel
theorem dX8_bitsOf_35 : decode cX8_bitsOf 35 = .ok (.dcmp .g, 1) := by decide +kernel
theorem dX8_bitsOf_36 : decode cX8_bitsOf 36 = .ok (.ifCond .ge 20, 3) := by decide +kernel
theorem dX8_bitsOf_39 : decode cX8_bitsOf 39 = .ok (.iload_n 3, 1) := by decide +kernel
theorem dX8_bitsOf_40 : decode cX8_bitsOf 40 = .ok (.iconst 1, 1) := by decide +kernel
theorem dX8_bitsOf_41 : decode cX8_bitsOf 41 = .ok (.if_icmp .le 15, 3) := by decide +kernel
theorem dX8_bitsOf_44 : decode cX8_bitsOf 44 = .ok (.dload_n 1, 1) := by decide +kernel
theorem dX8_bitsOf_45 : decode cX8_bitsOf 45 = .ok (.ldc2_w 196, 3) := by decide +kernel
theorem dX8_bitsOf_48 : decode cX8_bitsOf 48 = .ok (.dmul, 1) := by decide +kernel
theorem dX8_bitsOf_49 : decode cX8_bitsOf 49 = .ok (.dstore_n 1, 1) := by decide +kernel
theorem dX8_bitsOf_50 : decode cX8_bitsOf 50 = .ok (.iinc 3 (-1), 3) := by decide +kernel
theorem dX8_bitsOf_53 : decode cX8_bitsOf 53 = .ok (.goto (-20), 3) := by decide +kernel
theorem dX8_bitsOf_56 : decode cX8_bitsOf 56 = .ok (.iload_n 3, 1) := by decide +kernel
theorem dX8_bitsOf_57 : decode cX8_bitsOf 57 = .ok (.iconst 1, 1) := by decide +kernel
theorem dX8_bitsOf_58 : decode cX8_bitsOf 58 = .ok (.isub, 1) := by decide +kernel
theorem dX8_bitsOf_59 : decode cX8_bitsOf 59 = .ok (.bipush 23, 2) := by decide +kernel
theorem dX8_bitsOf_61 : decode cX8_bitsOf 61 = .ok (.ishl, 1) := by decide +kernel
theorem dX8_bitsOf_62 : decode cX8_bitsOf 62 = .ok (.dload_n 1, 1) := by decide +kernel
theorem dX8_bitsOf_63 : decode cX8_bitsOf 63 = .ok (.ldc2_w 200, 3) := by decide +kernel
theorem dX8_bitsOf_66 : decode cX8_bitsOf 66 = .ok (.dmul, 1) := by decide +kernel
theorem dX8_bitsOf_67 : decode cX8_bitsOf 67 = .ok (.d2i, 1) := by decide +kernel
theorem dX8_bitsOf_68 : decode cX8_bitsOf 68 = .ok (.iadd, 1) := by decide +kernel
theorem dX8_bitsOf_69 : decode cX8_bitsOf 69 = .ok (.ireturn, 1) := by decide +kernel
theorem dX8_within_0 : decode cX8_within 0 = .ok (.iload_n 0, 1) := by decide +kernel
theorem dX8_within_1 : decode cX8_within 1 = .ok (.iload_n 1, 1) := by decide +kernel
theorem dX8_within_2 : decode cX8_within 2 = .ok (.if_icmp .lt 12, 3) := by decide +kernel
theorem dX8_within_5 : decode cX8_within 5 = .ok (.iload_n 0, 1) := by decide +kernel
theorem dX8_within_6 : decode cX8_within 6 = .ok (.iload_n 2, 1) := by decide +kernel
theorem dX8_within_7 : decode cX8_within 7 = .ok (.if_icmp .gt 7, 3) := by decide +kernel
theorem dX8_within_10 : decode cX8_within 10 = .ok (.iconst 1, 1) := by decide +kernel
theorem dX8_within_11 : decode cX8_within 11 = .ok (.goto 4, 3) := by decide +kernel
theorem dX8_within_14 : decode cX8_within 14 = .ok (.iconst 0, 1) := by decide +kernel
theorem dX8_within_15 : decode cX8_within 15 = .ok (.ireturn, 1) := by decide +kernel
theorem dX8_oneIf_0 : decode cX8_oneIf 0 = .ok (.iload_n 0, 1) := by decide +kernel
theorem dX8_oneIf_1 : decode cX8_oneIf 1 = .ok (.ifCond .eq 7, 3) := by decide +kernel
theorem dX8_oneIf_4 : decode cX8_oneIf 4 = .ok (.iconst 1, 1) := by decide +kernel
theorem dX8_oneIf_5 : decode cX8_oneIf 5 = .ok (.goto 4, 3) := by decide +kernel
theorem dX8_oneIf_8 : decode cX8_oneIf 8 = .ok (.iconst 0, 1) := by decide +kernel
theorem dX8_oneIf_9 : decode cX8_oneIf 9 = .ok (.ireturn, 1) := by decide +kernel
theorem dX9_init_0 : decode cX9_init 0 = .ok (.aload_n 0, 1) := by decide +kernel
theorem dX9_init_1 : decode cX9_init 1 = .ok (.invokespecial 1, 3) := by decide +kernel
theorem dX9_init_4 : decode cX9_init 4 = .ok (.aload_n 0, 1) := by decide +kernel
theorem dX9_init_5 : decode cX9_init 5 = .ok (.sipush 424, 3) := by decide +kernel
theorem dX9_init_8 : decode cX9_init 8 = .ok (.newarray .int, 2) := by decide +kernel
theorem dX9_init_10 : decode cX9_init 10 = .ok (.putfield 7, 3) := by decide +kernel
theorem dX9_init_13 : decode cX9_init 13 = .ok (.aload_n 0, 1) := by decide +kernel
theorem dX9_init_14 : decode cX9_init 14 = .ok (.sipush 2120, 3) := by decide +kernel
theorem dX9_init_17 : decode cX9_init 17 = .ok (.newarray .int, 2) := by decide +kernel
theorem dX9_init_19 : decode cX9_init 19 = .ok (.putfield 13, 3) := by decide +kernel
theorem dX9_init_22 : decode cX9_init 22 = .ok (.aload_n 0, 1) := by decide +kernel
theorem dX9_init_23 : decode cX9_init 23 = .ok (.iconst 5, 1) := by decide +kernel
theorem dX9_init_24 : decode cX9_init 24 = .ok (.newarray .float, 2) := by decide +kernel
theorem dX9_init_26 : decode cX9_init 26 = .ok (.putfield 16, 3) := by decide +kernel
theorem dX9_init_29 : decode cX9_init 29 = .ok (.aload_n 0, 1) := by decide +kernel
theorem dX9_init_30 : decode cX9_init 30 = .ok (.sipush 424, 3) := by decide +kernel
theorem dX9_init_33 : decode cX9_init 33 = .ok (.newarray .int, 2) := by decide +kernel
theorem dX9_init_35 : decode cX9_init 35 = .ok (.putfield 20, 3) := by decide +kernel
theorem dX9_init_38 : decode cX9_init 38 = .ok (.aload_n 0, 1) := by decide +kernel
theorem dX9_init_39 : decode cX9_init 39 = .ok (.iconst 3, 1) := by decide +kernel
theorem dX9_init_40 : decode cX9_init 40 = .ok (.newarray .int, 2) := by decide +kernel
theorem dX9_init_42 : decode cX9_init 42 = .ok (.putfield 23, 3) := by decide +kernel
theorem dX9_init_45 : decode cX9_init 45 = .ok (.aload_n 0, 1) := by decide +kernel
theorem dX9_init_46 : decode cX9_init 46 = .ok (.sipush 256, 3) := by decide +kernel
theorem dX9_init_49 : decode cX9_init 49 = .ok (.newarray .boolean, 2) := by decide +kernel
theorem dX9_init_51 : decode cX9_init 51 = .ok (.putfield 26, 3) := by decide +kernel
theorem dX9_init_54 : decode cX9_init 54 = .ok (.aload_n 0, 1) := by decide +kernel
theorem dX9_init_55 : decode cX9_init 55 = .ok (.bipush 120, 2) := by decide +kernel
theorem dX9_init_57 : decode cX9_init 57 = .ok (.newarray .int, 2) := by decide +kernel
theorem dX9_init_59 : decode cX9_init 59 = .ok (.putfield 30, 3) := by decide +kernel
theorem dX9_init_62 : decode cX9_init 62 = .ok (.aload_n 0, 1) := by decide +kernel
theorem dX9_init_63 : decode cX9_init 63 = .ok (.iconst 5, 1) := by decide +kernel
theorem dX9_init_64 : decode cX9_init 64 = .ok (.newarray .int, 2) := by decide +kernel
theorem dX9_init_66 : decode cX9_init 66 = .ok (.putfield 33, 3) := by decide +kernel
theorem dX9_init_69 : decode cX9_init 69 = .ok (.aload_n 0, 1) := by decide +kernel
theorem dX9_init_70 : decode cX9_init 70 = .ok (.iconst (-1), 1) := by decide +kernel
theorem dX9_init_71 : decode cX9_init 71 = .ok (.putfield 36, 3) := by decide +kernel
theorem dX9_init_74 : decode cX9_init 74 = .ok (.return_, 1) := by decide +kernel
theorem dX9_in_0 : decode cX9_in 0 = .ok (.lload_n 0, 1) := by decide +kernel
theorem dX9_in_1 : decode cX9_in 1 = .ok (.lload_n 2, 1) := by decide +kernel
theorem dX9_in_2 : decode cX9_in 2 = .ok (.lcmp, 1) := by decide +kernel
theorem dX9_in_3 : decode cX9_in 3 = .ok (.ifCond .lt 14, 3) := by decide +kernel
theorem dX9_in_6 : decode cX9_in 6 = .ok (.lload_n 0, 1) := by decide +kernel
theorem dX9_in_7 : decode cX9_in 7 = .ok (.lload 4, 2) := by decide +kernel
theorem dX9_in_9 : decode cX9_in 9 = .ok (.lcmp, 1) := by decide +kernel
theorem dX9_in_10 : decode cX9_in 10 = .ok (.ifCond .gt 7, 3) := by decide +kernel
theorem dX9_in_13 : decode cX9_in 13 = .ok (.iconst 1, 1) := by decide +kernel
theorem dX9_in_14 : decode cX9_in 14 = .ok (.goto 4, 3) := by decide +kernel
theorem dX9_in_17 : decode cX9_in 17 = .ok (.iconst 0, 1) := by decide +kernel
theorem dX9_in_18 : decode cX9_in 18 = .ok (.ireturn, 1) := by decide +kernel
theorem dX9_refuses_0 : decode cX9_refuses 0 = .ok (.aload_n 0, 1) := by decide +kernel
theorem dX9_refuses_1 : decode cX9_refuses 1 = .ok (.getfield 23, 3) := by decide +kernel
theorem dX9_refuses_4 : decode cX9_refuses 4 = .ok (.bipush (-2), 2) := by decide +kernel
theorem dX9_refuses_6 : decode cX9_refuses 6 = .ok (.iload_n 1, 1) := by decide +kernel
theorem dX9_refuses_7 : decode cX9_refuses 7 = .ok (.isub, 1) := by decide +kernel
theorem dX9_refuses_8 : decode cX9_refuses 8 = .ok (.dup2, 1) := by decide +kernel
theorem dX9_refuses_9 : decode cX9_refuses 9 = .ok (.iaload, 1) := by decide +kernel
theorem dX9_refuses_10 : decode cX9_refuses 10 = .ok (.iconst 1, 1) := by decide +kernel
theorem dX9_refuses_11 : decode cX9_refuses 11 = .ok (.iadd, 1) := by decide +kernel
theorem dX9_refuses_12 : decode cX9_refuses 12 = .ok (.iastore, 1) := by decide +kernel
theorem dX9_refuses_13 : decode cX9_refuses 13 = .ok (.iload_n 1, 1) := by decide +kernel
theorem dX9_refuses_14 : decode cX9_refuses 14 = .ok (.ireturn, 1) := by decide +kernel
theorem dX9_keep_0 : decode cX9_keep 0 = .ok (.aload_n 0, 1) := by decide +kernel
theorem dX9_keep_1 : decode cX9_keep 1 = .ok (.getfield 40, 3) := by decide +kernel
theorem dX9_keep_4 : decode cX9_keep 4 = .ok (.iconst 5, 1) := by decide +kernel
theorem dX9_keep_5 : decode cX9_keep 5 = .ok (.if_icmp .ne 71, 3) := by decide +kernel
theorem dX9_keep_8 : decode cX9_keep 8 = .ok (.iconst 0, 1) := by decide +kernel
theorem dX9_keep_9 : decode cX9_keep 9 = .ok (.istore_n 1, 1) := by decide +kernel
theorem dX9_keep_10 : decode cX9_keep 10 = .ok (.iload_n 1, 1) := by decide +kernel
theorem dX9_keep_11 : decode cX9_keep 11 = .ok (.sipush 1696, 3) := by decide +kernel
theorem dX9_keep_14 : decode cX9_keep 14 = .ok (.if_icmp .ge 25, 3) := by decide +kernel
theorem dX9_keep_17 : decode cX9_keep 17 = .ok (.aload_n 0, 1) := by decide +kernel
theorem dX9_keep_18 : decode cX9_keep 18 = .ok (.getfield 13, 3) := by decide +kernel
theorem dX9_keep_21 : decode cX9_keep 21 = .ok (.iload_n 1, 1) := by decide +kernel
theorem dX9_keep_22 : decode cX9_keep 22 = .ok (.aload_n 0, 1) := by decide +kernel
theorem dX9_keep_23 : decode cX9_keep 23 = .ok (.getfield 13, 3) := by decide +kernel
theorem dX9_keep_26 : decode cX9_keep 26 = .ok (.iload_n 1, 1) := by decide +kernel
theorem dX9_keep_27 : decode cX9_keep 27 = .ok (.sipush 424, 3) := by decide +kernel
theorem dX9_keep_30 : decode cX9_keep 30 = .ok (.iadd, 1) := by decide +kernel
theorem dX9_keep_31 : decode cX9_keep 31 = .ok (.iaload, 1) := by decide +kernel
theorem dX9_keep_32 : decode cX9_keep 32 = .ok (.iastore, 1) := by decide +kernel
theorem dX9_keep_33 : decode cX9_keep 33 = .ok (.iinc 1 1, 3) := by decide +kernel
theorem dX9_keep_36 : decode cX9_keep 36 = .ok (.goto (-26), 3) := by decide +kernel
theorem dX9_keep_39 : decode cX9_keep 39 = .ok (.iconst 0, 1) := by decide +kernel
theorem dX9_keep_40 : decode cX9_keep 40 = .ok (.istore_n 1, 1) := by decide +kernel
theorem dX9_keep_41 : decode cX9_keep 41 = .ok (.iload_n 1, 1) := by decide +kernel
theorem dX9_keep_42 : decode cX9_keep 42 = .ok (.iconst 4, 1) := by decide +kernel
theorem dX9_keep_43 : decode cX9_keep 43 = .ok (.if_icmp .ge 23, 3) := by decide +kernel
theorem dX9_keep_46 : decode cX9_keep 46 = .ok (.aload_n 0, 1) := by decide +kernel
theorem dX9_keep_47 : decode cX9_keep 47 = .ok (.getfield 16, 3) := by decide +kernel
theorem dX9_keep_50 : decode cX9_keep 50 = .ok (.iload_n 1, 1) := by decide +kernel
theorem dX9_keep_51 : decode cX9_keep 51 = .ok (.aload_n 0, 1) := by decide +kernel
theorem dX9_keep_52 : decode cX9_keep 52 = .ok (.getfield 16, 3) := by decide +kernel
theorem dX9_keep_55 : decode cX9_keep 55 = .ok (.iload_n 1, 1) := by decide +kernel
theorem dX9_keep_56 : decode cX9_keep 56 = .ok (.iconst 1, 1) := by decide +kernel
theorem dX9_keep_57 : decode cX9_keep 57 = .ok (.iadd, 1) := by decide +kernel
theorem dX9_keep_58 : decode cX9_keep 58 = .ok (.faload, 1) := by decide +kernel
theorem dX9_keep_59 : decode cX9_keep 59 = .ok (.fastore, 1) := by decide +kernel
theorem dX9_keep_60 : decode cX9_keep 60 = .ok (.iinc 1 1, 3) := by decide +kernel
theorem dX9_keep_63 : decode cX9_keep 63 = .ok (.goto (-22), 3) := by decide +kernel
theorem dX9_keep_66 : decode cX9_keep 66 = .ok (.aload_n 0, 1) := by decide +kernel
theorem dX9_keep_67 : decode cX9_keep 67 = .ok (.dup, 1) := by decide +kernel
theorem dX9_keep_68 : decode cX9_keep 68 = .ok (.getfield 40, 3) := by decide +kernel
theorem dX9_keep_71 : decode cX9_keep 71 = .ok (.iconst 1, 1) := by decide +kernel
theorem dX9_keep_72 : decode cX9_keep 72 = .ok (.isub, 1) := by decide +kernel
theorem dX9_keep_73 : decode cX9_keep 73 = .ok (.putfield 40, 3) := by decide +kernel
theorem dX9_keep_76 : decode cX9_keep 76 = .ok (.iconst 0, 1) := by decide +kernel
theorem dX9_keep_77 : decode cX9_keep 77 = .ok (.istore_n 1, 1) := by decide +kernel
theorem dX9_keep_78 : decode cX9_keep 78 = .ok (.iload_n 1, 1) := by decide +kernel
theorem dX9_keep_79 : decode cX9_keep 79 = .ok (.sipush 424, 3) := by decide +kernel
theorem dX9_keep_82 : decode cX9_keep 82 = .ok (.if_icmp .ge 30, 3) := by decide +kernel
theorem dX9_keep_85 : decode cX9_keep 85 = .ok (.aload_n 0, 1) := by decide +kernel
theorem dX9_keep_86 : decode cX9_keep 86 = .ok (.getfield 13, 3) := by decide +kernel
theorem dX9_keep_89 : decode cX9_keep 89 = .ok (.sipush 424, 3) := by decide +kernel
theorem dX9_keep_92 : decode cX9_keep 92 = .ok (.aload_n 0, 1) := by decide +kernel
theorem dX9_keep_93 : decode cX9_keep 93 = .ok (.getfield 40, 3) := by decide +kernel
theorem dX9_keep_96 : decode cX9_keep 96 = .ok (.imul, 1) := by decide +kernel
theorem dX9_keep_97 : decode cX9_keep 97 = .ok (.iload_n 1, 1) := by decide +kernel
theorem dX9_keep_98 : decode cX9_keep 98 = .ok (.iadd, 1) := by decide +kernel
theorem dX9_keep_99 : decode cX9_keep 99 = .ok (.aload_n 0, 1) := by decide +kernel
theorem dX9_keep_100 : decode cX9_keep 100 = .ok (.getfield 7, 3) := by decide +kernel
theorem dX9_keep_103 : decode cX9_keep 103 = .ok (.iload_n 1, 1) := by decide +kernel
theorem dX9_keep_104 : decode cX9_keep 104 = .ok (.iaload, 1) := by decide +kernel
theorem dX9_keep_105 : decode cX9_keep 105 = .ok (.iastore, 1) := by decide +kernel
theorem dX9_keep_106 : decode cX9_keep 106 = .ok (.iinc 1 1, 3) := by decide +kernel
theorem dX9_keep_109 : decode cX9_keep 109 = .ok (.goto (-31), 3) := by decide +kernel
theorem dX9_keep_112 : decode cX9_keep 112 = .ok (.aload_n 0, 1) := by decide +kernel
theorem dX9_keep_113 : decode cX9_keep 113 = .ok (.getfield 16, 3) := by decide +kernel
theorem dX9_keep_116 : decode cX9_keep 116 = .ok (.aload_n 0, 1) := by decide +kernel
theorem dX9_keep_117 : decode cX9_keep 117 = .ok (.getfield 40, 3) := by decide +kernel
theorem dX9_keep_120 : decode cX9_keep 120 = .ok (.aload_n 0, 1) := by decide +kernel
theorem dX9_keep_121 : decode cX9_keep 121 = .ok (.getfield 43, 3) := by decide +kernel
theorem dX9_keep_124 : decode cX9_keep 124 = .ok (.fastore, 1) := by decide +kernel
theorem dX9_keep_125 : decode cX9_keep 125 = .ok (.aload_n 0, 1) := by decide +kernel
theorem dX9_keep_126 : decode cX9_keep 126 = .ok (.dup, 1) := by decide +kernel
theorem dX9_keep_127 : decode cX9_keep 127 = .ok (.getfield 40, 3) := by decide +kernel
theorem dX9_keep_130 : decode cX9_keep 130 = .ok (.iconst 1, 1) := by decide +kernel
theorem dX9_keep_131 : decode cX9_keep 131 = .ok (.iadd, 1) := by decide +kernel
theorem dX9_keep_132 : decode cX9_keep 132 = .ok (.putfield 40, 3) := by decide +kernel
theorem dX9_keep_135 : decode cX9_keep 135 = .ok (.return_, 1) := by decide +kernel
theorem dX9_isHost_0 : decode cX9_isHost 0 = .ok (.iload_n 1, 1) := by decide +kernel
theorem dX9_isHost_1 : decode cX9_isHost 1 = .ok (.i2l, 1) := by decide +kernel
theorem dX9_isHost_2 : decode cX9_isHost 2 = .ok (.lconst 0, 1) := by decide +kernel
theorem dX9_isHost_3 : decode cX9_isHost 3 = .ok (.aload_n 0, 1) := by decide +kernel
theorem dX9_isHost_4 : decode cX9_isHost 4 = .ok (.getfield 7, 3) := by decide +kernel
theorem dX9_isHost_7 : decode cX9_isHost 7 = .ok (.iconst 0, 1) := by decide +kernel
theorem dX9_isHost_8 : decode cX9_isHost 8 = .ok (.iaload, 1) := by decide +kernel
theorem dX9_isHost_9 : decode cX9_isHost 9 = .ok (.iconst 1, 1) := by decide +kernel
theorem dX9_isHost_10 : decode cX9_isHost 10 = .ok (.isub, 1) := by decide +kernel
theorem dX9_isHost_11 : decode cX9_isHost 11 = .ok (.i2l, 1) := by decide +kernel
theorem dX9_isHost_12 : decode cX9_isHost 12 = .ok (.invokestatic 47, 3) := by decide +kernel
theorem dX9_isHost_15 : decode cX9_isHost 15 = .ok (.ireturn, 1) := by decide +kernel
theorem dX9_isAwake_0 : decode cX9_isAwake 0 = .ok (.aload_n 0, 1) := by decide +kernel
theorem dX9_isAwake_1 : decode cX9_isAwake 1 = .ok (.getfield 7, 3) := by decide +kernel
theorem dX9_isAwake_4 : decode cX9_isAwake 4 = .ok (.bipush 10, 2) := by decide +kernel
theorem dX9_isAwake_6 : decode cX9_isAwake 6 = .ok (.iconst 4, 1) := by decide +kernel
theorem dX9_isAwake_7 : decode cX9_isAwake 7 = .ok (.iload_n 1, 1) := by decide +kernel
theorem dX9_isAwake_8 : decode cX9_isAwake 8 = .ok (.imul, 1) := by decide +kernel
theorem dX9_isAwake_9 : decode cX9_isAwake 9 = .ok (.iadd, 1) := by decide +kernel
theorem dX9_isAwake_10 : decode cX9_isAwake 10 = .ok (.iaload, 1) := by decide +kernel
theorem dX9_isAwake_11 : decode cX9_isAwake 11 = .ok (.iconst 1, 1) := by decide +kernel
theorem dX9_isAwake_12 : decode cX9_isAwake 12 = .ok (.if_icmp .ne 7, 3) := by decide +kernel
theorem dX9_isAwake_15 : decode cX9_isAwake 15 = .ok (.iconst 1, 1) := by decide +kernel
theorem dX9_isAwake_16 : decode cX9_isAwake 16 = .ok (.goto 4, 3) := by decide +kernel
theorem dX9_isAwake_19 : decode cX9_isAwake 19 = .ok (.iconst 0, 1) := by decide +kernel
theorem dX9_isAwake_20 : decode cX9_isAwake 20 = .ok (.ireturn, 1) := by decide +kernel
theorem dX9_proxy_0 : decode cX9_proxy 0 = .ok (.aload_n 0, 1) := by decide +kernel
theorem dX9_proxy_1 : decode cX9_proxy 1 = .ok (.getfield 7, 3) := by decide +kernel
theorem dX9_proxy_4 : decode cX9_proxy 4 = .ok (.bipush 10, 2) := by decide +kernel
theorem dX9_proxy_6 : decode cX9_proxy 6 = .ok (.iconst 4, 1) := by decide +kernel
theorem dX9_proxy_7 : decode cX9_proxy 7 = .ok (.iload_n 1, 1) := by decide +kernel
theorem dX9_proxy_8 : decode cX9_proxy 8 = .ok (.imul, 1) := by decide +kernel
theorem dX9_proxy_9 : decode cX9_proxy 9 = .ok (.iadd, 1) := by decide +kernel
theorem dX9_proxy_10 : decode cX9_proxy 10 = .ok (.iconst 1, 1) := by decide +kernel
theorem dX9_proxy_11 : decode cX9_proxy 11 = .ok (.iadd, 1) := by decide +kernel
theorem dX9_proxy_12 : decode cX9_proxy 12 = .ok (.iaload, 1) := by decide +kernel
theorem dX9_proxy_13 : decode cX9_proxy 13 = .ok (.ireturn, 1) := by decide +kernel
theorem dX9_records_0 : decode cX9_records 0 = .ok (.aload_n 0, 1) := by decide +kernel
theorem dX9_records_1 : decode cX9_records 1 = .ok (.getfield 7, 3) := by decide +kernel
theorem dX9_records_4 : decode cX9_records 4 = .ok (.bipush 10, 2) := by decide +kernel
theorem dX9_records_6 : decode cX9_records 6 = .ok (.iconst 4, 1) := by decide +kernel
theorem dX9_records_7 : decode cX9_records 7 = .ok (.iload_n 1, 1) := by decide +kernel
theorem dX9_records_8 : decode cX9_records 8 = .ok (.imul, 1) := by decide +kernel
theorem dX9_records_9 : decode cX9_records 9 = .ok (.iadd, 1) := by decide +kernel
theorem dX9_records_10 : decode cX9_records 10 = .ok (.iconst 2, 1) := by decide +kernel
theorem dX9_records_11 : decode cX9_records 11 = .ok (.iadd, 1) := by decide +kernel
theorem dX9_records_12 : decode cX9_records 12 = .ok (.iaload, 1) := by decide +kernel
theorem dX9_records_13 : decode cX9_records 13 = .ok (.ireturn, 1) := by decide +kernel
theorem dX9_entries_0 : decode cX9_entries 0 = .ok (.aload_n 0, 1) := by decide +kernel
theorem dX9_entries_1 : decode cX9_entries 1 = .ok (.getfield 7, 3) := by decide +kernel
theorem dX9_entries_4 : decode cX9_entries 4 = .ok (.bipush 10, 2) := by decide +kernel
theorem dX9_entries_6 : decode cX9_entries 6 = .ok (.iconst 4, 1) := by decide +kernel
theorem dX9_entries_7 : decode cX9_entries 7 = .ok (.iload_n 1, 1) := by decide +kernel
theorem dX9_entries_8 : decode cX9_entries 8 = .ok (.imul, 1) := by decide +kernel
theorem dX9_entries_9 : decode cX9_entries 9 = .ok (.iadd, 1) := by decide +kernel
theorem dX9_entries_10 : decode cX9_entries 10 = .ok (.iconst 3, 1) := by decide +kernel
theorem dX9_entries_11 : decode cX9_entries 11 = .ok (.iadd, 1) := by decide +kernel
theorem dX9_entries_12 : decode cX9_entries 12 = .ok (.iaload, 1) := by decide +kernel
theorem dX9_entries_13 : decode cX9_entries 13 = .ok (.ireturn, 1) := by decide +kernel
theorem dX9_at_0 : decode cX9_at 0 = .ok (.bipush 34, 2) := by decide +kernel
theorem dX9_at_2 : decode cX9_at 2 = .ok (.bipush 7, 2) := by decide +kernel
theorem dX9_at_4 : decode cX9_at 4 = .ok (.iconst 5, 1) := by decide +kernel
theorem dX9_at_5 : decode cX9_at 5 = .ok (.iload_n 0, 1) := by decide +kernel
theorem dX9_at_6 : decode cX9_at 6 = .ok (.imul, 1) := by decide +kernel
theorem dX9_at_7 : decode cX9_at 7 = .ok (.iload_n 1, 1) := by decide +kernel
theorem dX9_at_8 : decode cX9_at 8 = .ok (.iadd, 1) := by decide +kernel
theorem dX9_at_9 : decode cX9_at 9 = .ok (.imul, 1) := by decide +kernel
theorem dX9_at_10 : decode cX9_at 10 = .ok (.iadd, 1) := by decide +kernel
theorem dX9_at_11 : decode cX9_at 11 = .ok (.ireturn, 1) := by decide +kernel
theorem dX9_kept_0 : decode cX9_kept 0 = .ok (.sipush 244, 3) := by decide +kernel
theorem dX9_kept_3 : decode cX9_kept 3 = .ok (.iconst 5, 1) := by decide +kernel
theorem dX9_kept_4 : decode cX9_kept 4 = .ok (.bipush 6, 2) := by decide +kernel
theorem dX9_kept_6 : decode cX9_kept 6 = .ok (.iload_n 0, 1) := by decide +kernel
theorem dX9_kept_7 : decode cX9_kept 7 = .ok (.imul, 1) := by decide +kernel
theorem dX9_kept_8 : decode cX9_kept 8 = .ok (.iload_n 1, 1) := by decide +kernel
theorem dX9_kept_9 : decode cX9_kept 9 = .ok (.iadd, 1) := by decide +kernel
theorem dX9_kept_10 : decode cX9_kept 10 = .ok (.imul, 1) := by decide +kernel
theorem dX9_kept_11 : decode cX9_kept 11 = .ok (.iadd, 1) := by decide +kernel
theorem dX9_kept_12 : decode cX9_kept 12 = .ok (.ireturn, 1) := by decide +kernel
theorem dX9_areOne_0 : decode cX9_areOne 0 = .ok (.aload_n 0, 1) := by decide +kernel
theorem dX9_areOne_1 : decode cX9_areOne 1 = .ok (.getfield 7, 3) := by decide +kernel
theorem dX9_areOne_4 : decode cX9_areOne 4 = .ok (.iload_n 1, 1) := by decide +kernel
theorem dX9_areOne_5 : decode cX9_areOne 5 = .ok (.iconst 0, 1) := by decide +kernel
theorem dX9_areOne_6 : decode cX9_areOne 6 = .ok (.iadd, 1) := by decide +kernel
theorem dX9_areOne_7 : decode cX9_areOne 7 = .ok (.iaload, 1) := by decide +kernel
theorem dX9_areOne_8 : decode cX9_areOne 8 = .ok (.aload_n 0, 1) := by decide +kernel
theorem dX9_areOne_9 : decode cX9_areOne 9 = .ok (.getfield 7, 3) := by decide +kernel
theorem dX9_areOne_12 : decode cX9_areOne 12 = .ok (.iload_n 2, 1) := by decide +kernel
theorem dX9_areOne_13 : decode cX9_areOne 13 = .ok (.iconst 0, 1) := by decide +kernel
theorem dX9_areOne_14 : decode cX9_areOne 14 = .ok (.iadd, 1) := by decide +kernel
theorem dX9_areOne_15 : decode cX9_areOne 15 = .ok (.iaload, 1) := by decide +kernel
theorem dX9_areOne_16 : decode cX9_areOne 16 = .ok (.if_icmp .ne 26, 3) := by decide +kernel
theorem dX9_areOne_19 : decode cX9_areOne 19 = .ok (.aload_n 0, 1) := by decide +kernel
theorem dX9_areOne_20 : decode cX9_areOne 20 = .ok (.getfield 7, 3) := by decide +kernel
theorem dX9_areOne_23 : decode cX9_areOne 23 = .ok (.iload_n 1, 1) := by decide +kernel
theorem dX9_areOne_24 : decode cX9_areOne 24 = .ok (.iconst 1, 1) := by decide +kernel
theorem dX9_areOne_25 : decode cX9_areOne 25 = .ok (.iadd, 1) := by decide +kernel
theorem dX9_areOne_26 : decode cX9_areOne 26 = .ok (.iaload, 1) := by decide +kernel
theorem dX9_areOne_27 : decode cX9_areOne 27 = .ok (.aload_n 0, 1) := by decide +kernel
theorem dX9_areOne_28 : decode cX9_areOne 28 = .ok (.getfield 7, 3) := by decide +kernel
theorem dX9_areOne_31 : decode cX9_areOne 31 = .ok (.iload_n 2, 1) := by decide +kernel
theorem dX9_areOne_32 : decode cX9_areOne 32 = .ok (.iconst 1, 1) := by decide +kernel
theorem dX9_areOne_33 : decode cX9_areOne 33 = .ok (.iadd, 1) := by decide +kernel
theorem dX9_areOne_34 : decode cX9_areOne 34 = .ok (.iaload, 1) := by decide +kernel
theorem dX9_areOne_35 : decode cX9_areOne 35 = .ok (.if_icmp .ne 7, 3) := by decide +kernel
theorem dX9_areOne_38 : decode cX9_areOne 38 = .ok (.iconst 1, 1) := by decide +kernel
theorem dX9_areOne_39 : decode cX9_areOne 39 = .ok (.goto 4, 3) := by decide +kernel
theorem dX9_areOne_42 : decode cX9_areOne 42 = .ok (.iconst 0, 1) := by decide +kernel
theorem dX9_areOne_43 : decode cX9_areOne 43 = .ok (.ireturn, 1) := by decide +kernel
theorem dX9_areSame_0 : decode cX9_areSame 0 = .ok (.aload_n 0, 1) := by decide +kernel
theorem dX9_areSame_1 : decode cX9_areSame 1 = .ok (.iload_n 1, 1) := by decide +kernel
theorem dX9_areSame_2 : decode cX9_areSame 2 = .ok (.iload_n 2, 1) := by decide +kernel
theorem dX9_areSame_3 : decode cX9_areSame 3 = .ok (.invokevirtual 51, 3) := by decide +kernel
theorem dX9_areSame_6 : decode cX9_areSame 6 = .ok (.ifCond .eq 26, 3) := by decide +kernel
theorem dX9_areSame_9 : decode cX9_areSame 9 = .ok (.aload_n 0, 1) := by decide +kernel
theorem dX9_areSame_10 : decode cX9_areSame 10 = .ok (.getfield 7, 3) := by decide +kernel
theorem dX9_areSame_13 : decode cX9_areSame 13 = .ok (.iload_n 1, 1) := by decide +kernel
theorem dX9_areSame_14 : decode cX9_areSame 14 = .ok (.iconst 2, 1) := by decide +kernel
theorem dX9_areSame_15 : decode cX9_areSame 15 = .ok (.iadd, 1) := by decide +kernel
theorem dX9_areSame_16 : decode cX9_areSame 16 = .ok (.iaload, 1) := by decide +kernel
theorem dX9_areSame_17 : decode cX9_areSame 17 = .ok (.aload_n 0, 1) := by decide +kernel
theorem dX9_areSame_18 : decode cX9_areSame 18 = .ok (.getfield 7, 3) := by decide +kernel
theorem dX9_areSame_21 : decode cX9_areSame 21 = .ok (.iload_n 2, 1) := by decide +kernel
theorem dX9_areSame_22 : decode cX9_areSame 22 = .ok (.iconst 2, 1) := by decide +kernel
theorem dX9_areSame_23 : decode cX9_areSame 23 = .ok (.iadd, 1) := by decide +kernel
theorem dX9_areSame_24 : decode cX9_areSame 24 = .ok (.iaload, 1) := by decide +kernel
theorem dX9_areSame_25 : decode cX9_areSame 25 = .ok (.if_icmp .ne 7, 3) := by decide +kernel
theorem dX9_areSame_28 : decode cX9_areSame 28 = .ok (.iconst 1, 1) := by decide +kernel
theorem dX9_areSame_29 : decode cX9_areSame 29 = .ok (.goto 4, 3) := by decide +kernel
theorem dX9_areSame_32 : decode cX9_areSame 32 = .ok (.iconst 0, 1) := by decide +kernel
theorem dX9_areSame_33 : decode cX9_areSame 33 = .ok (.ireturn, 1) := by decide +kernel
theorem dX9_isDefended_0 : decode cX9_isDefended 0 = .ok (.iload_n 1, 1) := by decide +kernel
theorem dX9_isDefended_1 : decode cX9_isDefended 1 = .ok (.iload_n 2, 1) := by decide +kernel
theorem dX9_isDefended_2 : decode cX9_isDefended 2 = .ok (.invokestatic 55, 3) := by decide +kernel
theorem dX9_isDefended_5 : decode cX9_isDefended 5 = .ok (.istore_n 3, 1) := by decide +kernel
theorem dX9_isDefended_6 : decode cX9_isDefended 6 = .ok (.aload_n 0, 1) := by decide +kernel
theorem dX9_isDefended_7 : decode cX9_isDefended 7 = .ok (.iload_n 1, 1) := by decide +kernel
theorem dX9_isDefended_8 : decode cX9_isDefended 8 = .ok (.invokevirtual 59, 3) := by decide +kernel
theorem dX9_isDefended_11 : decode cX9_isDefended 11 = .ok (.ifCond .ne 24, 3) := by decide +kernel
theorem dX9_isDefended_14 : decode cX9_isDefended 14 = .ok (.aload_n 0, 1) := by decide +kernel
theorem dX9_isDefended_15 : decode cX9_isDefended 15 = .ok (.iload_n 1, 1) := by decide +kernel
theorem dX9_isDefended_16 : decode cX9_isDefended 16 = .ok (.invokevirtual 63, 3) := by decide +kernel
theorem dX9_isDefended_19 : decode cX9_isDefended 19 = .ok (.iconst (-1), 1) := by decide +kernel
theorem dX9_isDefended_20 : decode cX9_isDefended 20 = .ok (.if_icmp .eq 19, 3) := by decide +kernel
theorem dX9_isDefended_23 : decode cX9_isDefended 23 = .ok (.aload_n 0, 1) := by decide +kernel
theorem dX9_isDefended_24 : decode cX9_isDefended 24 = .ok (.aload_n 0, 1) := by decide +kernel
theorem dX9_isDefended_25 : decode cX9_isDefended 25 = .ok (.iload_n 1, 1) := by decide +kernel
theorem dX9_isDefended_26 : decode cX9_isDefended 26 = .ok (.invokevirtual 63, 3) := by decide +kernel
theorem dX9_isDefended_29 : decode cX9_isDefended 29 = .ok (.invokevirtual 59, 3) := by decide +kernel
theorem dX9_isDefended_32 : decode cX9_isDefended 32 = .ok (.ifCond .eq 7, 3) := by decide +kernel
theorem dX9_isDefended_35 : decode cX9_isDefended 35 = .ok (.iconst 1, 1) := by decide +kernel
theorem dX9_isDefended_36 : decode cX9_isDefended 36 = .ok (.goto 4, 3) := by decide +kernel
theorem dX9_isDefended_39 : decode cX9_isDefended 39 = .ok (.iconst 0, 1) := by decide +kernel
theorem dX9_isDefended_40 : decode cX9_isDefended 40 = .ok (.istore 4, 2) := by decide +kernel
theorem dX9_isDefended_42 : decode cX9_isDefended 42 = .ok (.aload_n 0, 1) := by decide +kernel
theorem dX9_isDefended_43 : decode cX9_isDefended 43 = .ok (.getfield 7, 3) := by decide +kernel
theorem dX9_isDefended_46 : decode cX9_isDefended 46 = .ok (.iload_n 3, 1) := by decide +kernel
theorem dX9_isDefended_47 : decode cX9_isDefended 47 = .ok (.iconst 4, 1) := by decide +kernel
theorem dX9_isDefended_48 : decode cX9_isDefended 48 = .ok (.iadd, 1) := by decide +kernel
theorem dX9_isDefended_49 : decode cX9_isDefended 49 = .ok (.iaload, 1) := by decide +kernel
theorem dX9_isDefended_50 : decode cX9_isDefended 50 = .ok (.iconst 3, 1) := by decide +kernel
