theorem dX0_init_0 : decode cX0_init 0 = .ok (.aload_n 0, 1) := by decide +kernel
theorem dX0_init_1 : decode cX0_init 1 = .ok (.invokespecial 1, 3) := by decide +kernel
theorem dX0_init_4 : decode cX0_init 4 = .ok (.aload_n 0, 1) := by decide +kernel
theorem dX0_init_5 : decode cX0_init 5 = .ok (.lconst 0, 1) := by decide +kernel
theorem dX0_init_6 : decode cX0_init 6 = .ok (.putfield 7, 3) := by decide +kernel
theorem dX0_init_9 : decode cX0_init 9 = .ok (.return_, 1) := by decide +kernel
theorem dX0_next_0 : decode cX0_next 0 = .ok (.aload_n 0, 1) := by decide +kernel
theorem dX0_next_1 : decode cX0_next 1 = .ok (.ldc2_w 13, 3) := by decide +kernel
theorem dX0_next_4 : decode cX0_next 4 = .ok (.aload_n 0, 1) := by decide +kernel
theorem dX0_next_5 : decode cX0_next 5 = .ok (.getfield 7, 3) := by decide +kernel
theorem dX0_next_8 : decode cX0_next 8 = .ok (.lmul, 1) := by decide +kernel
theorem dX0_next_9 : decode cX0_next 9 = .ok (.ldc2_w 15, 3) := by decide +kernel
theorem dX0_next_12 : decode cX0_next 12 = .ok (.ladd, 1) := by decide +kernel
theorem dX0_next_13 : decode cX0_next 13 = .ok (.ldc2_w 17, 3) := by decide +kernel
theorem dX0_next_16 : decode cX0_next 16 = .ok (.lrem, 1) := by decide +kernel
theorem dX0_next_17 : decode cX0_next 17 = .ok (.putfield 7, 3) := by decide +kernel
theorem dX0_next_20 : decode cX0_next 20 = .ok (.iload_n 1, 1) := by decide +kernel
theorem dX0_next_21 : decode cX0_next 21 = .ok (.ifCond .le 18, 3) := by decide +kernel
theorem dX0_next_24 : decode cX0_next 24 = .ok (.aload_n 0, 1) := by decide +kernel
theorem dX0_next_25 : decode cX0_next 25 = .ok (.getfield 7, 3) := by decide +kernel
theorem dX0_next_28 : decode cX0_next 28 = .ok (.ldc2_w 19, 3) := by decide +kernel
theorem dX0_next_31 : decode cX0_next 31 = .ok (.ldiv, 1) := by decide +kernel
theorem dX0_next_32 : decode cX0_next 32 = .ok (.iload_n 1, 1) := by decide +kernel
theorem dX0_next_33 : decode cX0_next 33 = .ok (.i2l, 1) := by decide +kernel
theorem dX0_next_34 : decode cX0_next 34 = .ok (.lrem, 1) := by decide +kernel
theorem dX0_next_35 : decode cX0_next 35 = .ok (.l2i, 1) := by decide +kernel
theorem dX0_next_36 : decode cX0_next 36 = .ok (.goto 4, 3) := by decide +kernel
theorem dX0_next_39 : decode cX0_next 39 = .ok (.iconst 0, 1) := by decide +kernel
theorem dX0_next_40 : decode cX0_next 40 = .ok (.ireturn, 1) := by decide +kernel
theorem dX1_init_0 : decode cX1_init 0 = .ok (.aload_n 0, 1) := by decide +kernel
theorem dX1_init_1 : decode cX1_init 1 = .ok (.invokespecial 3, 3) := by decide +kernel
theorem dX1_init_4 : decode cX1_init 4 = .ok (.aload_n 0, 1) := by decide +kernel
theorem dX1_init_5 : decode cX1_init 5 = .ok (.bipush 6, 2) := by decide +kernel
theorem dX1_init_7 : decode cX1_init 7 = .ok (.newarray .int, 2) := by decide +kernel
theorem dX1_init_9 : decode cX1_init 9 = .ok (.putfield 9, 3) := by decide +kernel
theorem dX1_init_12 : decode cX1_init 12 = .ok (.aload_n 0, 1) := by decide +kernel
theorem dX1_init_13 : decode cX1_init 13 = .ok (.iconst 0, 1) := by decide +kernel
theorem dX1_init_14 : decode cX1_init 14 = .ok (.putfield 15, 3) := by decide +kernel
theorem dX1_init_17 : decode cX1_init 17 = .ok (.aload_n 0, 1) := by decide +kernel
theorem dX1_init_18 : decode cX1_init 18 = .ok (.iconst 0, 1) := by decide +kernel
theorem dX1_init_19 : decode cX1_init 19 = .ok (.putfield 19, 3) := by decide +kernel
theorem dX1_init_22 : decode cX1_init 22 = .ok (.return_, 1) := by decide +kernel
theorem dX1_spread_0 : decode cX1_spread 0 = .ok (.aload_n 0, 1) := by decide +kernel
theorem dX1_spread_1 : decode cX1_spread 1 = .ok (.getfield 9, 3) := by decide +kernel
theorem dX1_spread_4 : decode cX1_spread 4 = .ok (.iconst (-1), 1) := by decide +kernel
theorem dX1_spread_5 : decode cX1_spread 5 = .ok (.invokestatic 22, 3) := by decide +kernel
theorem dX1_spread_8 : decode cX1_spread 8 = .ok (.aload_n 2, 1) := by decide +kernel
theorem dX1_spread_9 : decode cX1_spread 9 = .ok (.getfield 28, 3) := by decide +kernel
theorem dX1_spread_12 : decode cX1_spread 12 = .ok (.iload_n 3, 1) := by decide +kernel
theorem dX1_spread_13 : decode cX1_spread 13 = .ok (.iaload, 1) := by decide +kernel
theorem dX1_spread_14 : decode cX1_spread 14 = .ok (.iconst 3, 1) := by decide +kernel
theorem dX1_spread_15 : decode cX1_spread 15 = .ok (.if_icmp .ne 5, 3) := by decide +kernel
theorem dX1_spread_18 : decode cX1_spread 18 = .ok (.iconst 0, 1) := by decide +kernel
theorem dX1_spread_19 : decode cX1_spread 19 = .ok (.ireturn, 1) := by decide +kernel
theorem dX1_spread_20 : decode cX1_spread 20 = .ok (.aload_n 0, 1) := by decide +kernel
theorem dX1_spread_21 : decode cX1_spread 21 = .ok (.getfield 9, 3) := by decide +kernel
theorem dX1_spread_24 : decode cX1_spread 24 = .ok (.iload_n 3, 1) := by decide +kernel
theorem dX1_spread_25 : decode cX1_spread 25 = .ok (.iconst 0, 1) := by decide +kernel
theorem dX1_spread_26 : decode cX1_spread 26 = .ok (.iastore, 1) := by decide +kernel
theorem dX1_spread_27 : decode cX1_spread 27 = .ok (.aload_n 0, 1) := by decide +kernel
theorem dX1_spread_28 : decode cX1_spread 28 = .ok (.iconst 1, 1) := by decide +kernel
theorem dX1_spread_29 : decode cX1_spread 29 = .ok (.iload_n 3, 1) := by decide +kernel
theorem dX1_spread_30 : decode cX1_spread 30 = .ok (.ishl, 1) := by decide +kernel
theorem dX1_spread_31 : decode cX1_spread 31 = .ok (.putfield 15, 3) := by decide +kernel
theorem dX1_spread_34 : decode cX1_spread 34 = .ok (.aload_n 0, 1) := by decide +kernel
theorem dX1_spread_35 : decode cX1_spread 35 = .ok (.iconst 1, 1) := by decide +kernel
theorem dX1_spread_36 : decode cX1_spread 36 = .ok (.iload_n 3, 1) := by decide +kernel
theorem dX1_spread_37 : decode cX1_spread 37 = .ok (.ishl, 1) := by decide +kernel
theorem dX1_spread_38 : decode cX1_spread 38 = .ok (.putfield 19, 3) := by decide +kernel
theorem dX1_spread_41 : decode cX1_spread 41 = .ok (.iconst 0, 1) := by decide +kernel
theorem dX1_spread_42 : decode cX1_spread 42 = .ok (.istore 4, 2) := by decide +kernel
theorem dX1_spread_44 : decode cX1_spread 44 = .ok (.iload 4, 2) := by decide +kernel
theorem dX1_spread_46 : decode cX1_spread 46 = .ok (.aload_n 2, 1) := by decide +kernel
theorem dX1_spread_47 : decode cX1_spread 47 = .ok (.getfield 33, 3) := by decide +kernel
theorem dX1_spread_50 : decode cX1_spread 50 = .ok (.if_icmp .ge 49, 3) := by decide +kernel
theorem dX1_spread_53 : decode cX1_spread 53 = .ok (.aload_n 0, 1) := by decide +kernel
theorem dX1_spread_54 : decode cX1_spread 54 = .ok (.getfield 19, 3) := by decide +kernel
theorem dX1_spread_57 : decode cX1_spread 57 = .ok (.ifCond .eq 42, 3) := by decide +kernel
theorem dX1_spread_60 : decode cX1_spread 60 = .ok (.aload_n 0, 1) := by decide +kernel
theorem dX1_spread_61 : decode cX1_spread 61 = .ok (.aload_n 2, 1) := by decide +kernel
theorem dX1_spread_62 : decode cX1_spread 62 = .ok (.getfield 33, 3) := by decide +kernel
theorem dX1_spread_65 : decode cX1_spread 65 = .ok (.invokevirtual 36, 3) := by decide +kernel
theorem dX1_spread_68 : decode cX1_spread 68 = .ok (.istore 5, 2) := by decide +kernel
theorem dX1_spread_70 : decode cX1_spread 70 = .ok (.aload_n 0, 1) := by decide +kernel
theorem dX1_spread_71 : decode cX1_spread 71 = .ok (.dup, 1) := by decide +kernel
theorem dX1_spread_72 : decode cX1_spread 72 = .ok (.getfield 19, 3) := by decide +kernel
theorem dX1_spread_75 : decode cX1_spread 75 = .ok (.iconst 1, 1) := by decide +kernel
theorem dX1_spread_76 : decode cX1_spread 76 = .ok (.iload 5, 2) := by decide +kernel
theorem dX1_spread_78 : decode cX1_spread 78 = .ok (.ishl, 1) := by decide +kernel
theorem dX1_spread_79 : decode cX1_spread 79 = .ok (.iconst (-1), 1) := by decide +kernel
theorem dX1_spread_80 : decode cX1_spread 80 = .ok (.ixor, 1) := by decide +kernel
theorem dX1_spread_81 : decode cX1_spread 81 = .ok (.iand, 1) := by decide +kernel
theorem dX1_spread_82 : decode cX1_spread 82 = .ok (.putfield 19, 3) := by decide +kernel
theorem dX1_spread_85 : decode cX1_spread 85 = .ok (.aload_n 0, 1) := by decide +kernel
theorem dX1_spread_86 : decode cX1_spread 86 = .ok (.aload_n 1, 1) := by decide +kernel
theorem dX1_spread_87 : decode cX1_spread 87 = .ok (.aload_n 2, 1) := by decide +kernel
theorem dX1_spread_88 : decode cX1_spread 88 = .ok (.iload 5, 2) := by decide +kernel
theorem dX1_spread_90 : decode cX1_spread 90 = .ok (.invokevirtual 40, 3) := by decide +kernel
theorem dX1_spread_93 : decode cX1_spread 93 = .ok (.iinc 4 1, 3) := by decide +kernel
theorem dX1_spread_96 : decode cX1_spread 96 = .ok (.goto (-52), 3) := by decide +kernel
theorem dX1_spread_99 : decode cX1_spread 99 = .ok (.aload_n 0, 1) := by decide +kernel
theorem dX1_spread_100 : decode cX1_spread 100 = .ok (.getfield 15, 3) := by decide +kernel
theorem dX1_spread_103 : decode cX1_spread 103 = .ok (.ireturn, 1) := by decide +kernel
theorem dX1_earliestWaiting_0 : decode cX1_earliestWaiting 0 = .ok (.iconst 0, 1) := by decide +kernel
theorem dX1_earliestWaiting_1 : decode cX1_earliestWaiting 1 = .ok (.istore_n 2, 1) := by decide +kernel
theorem dX1_earliestWaiting_2 : decode cX1_earliestWaiting 2 = .ok (.iconst 0, 1) := by decide +kernel
theorem dX1_earliestWaiting_3 : decode cX1_earliestWaiting 3 = .ok (.istore_n 3, 1) := by decide +kernel
theorem dX1_earliestWaiting_4 : decode cX1_earliestWaiting 4 = .ok (.iconst 0, 1) := by decide +kernel
theorem dX1_earliestWaiting_5 : decode cX1_earliestWaiting 5 = .ok (.istore 4, 2) := by decide +kernel
theorem dX1_earliestWaiting_7 : decode cX1_earliestWaiting 7 = .ok (.iload 4, 2) := by decide +kernel
theorem dX1_earliestWaiting_9 : decode cX1_earliestWaiting 9 = .ok (.iload_n 1, 1) := by decide +kernel
theorem dX1_earliestWaiting_10 : decode cX1_earliestWaiting 10 = .ok (.if_icmp .ge 46, 3) := by decide +kernel
theorem dX1_earliestWaiting_13 : decode cX1_earliestWaiting 13 = .ok (.aload_n 0, 1) := by decide +kernel
theorem dX1_earliestWaiting_14 : decode cX1_earliestWaiting 14 = .ok (.getfield 19, 3) := by decide +kernel
theorem dX1_earliestWaiting_17 : decode cX1_earliestWaiting 17 = .ok (.iload 4, 2) := by decide +kernel
theorem dX1_earliestWaiting_19 : decode cX1_earliestWaiting 19 = .ok (.invokestatic 44, 3) := by decide +kernel
theorem dX1_earliestWaiting_22 : decode cX1_earliestWaiting 22 = .ok (.ifCond .eq 28, 3) := by decide +kernel
theorem dX1_earliestWaiting_25 : decode cX1_earliestWaiting 25 = .ok (.iload_n 3, 1) := by decide +kernel
theorem dX1_earliestWaiting_26 : decode cX1_earliestWaiting 26 = .ok (.ifCond .eq 19, 3) := by decide +kernel
theorem dX1_earliestWaiting_29 : decode cX1_earliestWaiting 29 = .ok (.aload_n 0, 1) := by decide +kernel
theorem dX1_earliestWaiting_30 : decode cX1_earliestWaiting 30 = .ok (.getfield 9, 3) := by decide +kernel
theorem dX1_earliestWaiting_33 : decode cX1_earliestWaiting 33 = .ok (.iload 4, 2) := by decide +kernel
theorem dX1_earliestWaiting_35 : decode cX1_earliestWaiting 35 = .ok (.iaload, 1) := by decide +kernel
theorem dX1_earliestWaiting_36 : decode cX1_earliestWaiting 36 = .ok (.aload_n 0, 1) := by decide +kernel
theorem dX1_earliestWaiting_37 : decode cX1_earliestWaiting 37 = .ok (.getfield 9, 3) := by decide +kernel
theorem dX1_earliestWaiting_40 : decode cX1_earliestWaiting 40 = .ok (.iload_n 2, 1) := by decide +kernel
theorem dX1_earliestWaiting_41 : decode cX1_earliestWaiting 41 = .ok (.iaload, 1) := by decide +kernel
theorem dX1_earliestWaiting_42 : decode cX1_earliestWaiting 42 = .ok (.if_icmp .ge 8, 3) := by decide +kernel
theorem dX1_earliestWaiting_45 : decode cX1_earliestWaiting 45 = .ok (.iload 4, 2) := by decide +kernel
theorem dX1_earliestWaiting_47 : decode cX1_earliestWaiting 47 = .ok (.istore_n 2, 1) := by decide +kernel
theorem dX1_earliestWaiting_48 : decode cX1_earliestWaiting 48 = .ok (.iconst 1, 1) := by decide +kernel
theorem dX1_earliestWaiting_49 : decode cX1_earliestWaiting 49 = .ok (.istore_n 3, 1) := by decide +kernel
theorem dX1_earliestWaiting_50 : decode cX1_earliestWaiting 50 = .ok (.iinc 4 1, 3) := by decide +kernel
theorem dX1_earliestWaiting_53 : decode cX1_earliestWaiting 53 = .ok (.goto (-46), 3) := by decide +kernel
theorem dX1_earliestWaiting_56 : decode cX1_earliestWaiting 56 = .ok (.iload_n 2, 1) := by decide +kernel
theorem dX1_earliestWaiting_57 : decode cX1_earliestWaiting 57 = .ok (.ireturn, 1) := by decide +kernel
theorem dX1_utter_0 : decode cX1_utter 0 = .ok (.aload_n 2, 1) := by decide +kernel
theorem dX1_utter_1 : decode cX1_utter 1 = .ok (.getfield 48, 3) := by decide +kernel
theorem dX1_utter_4 : decode cX1_utter 4 = .ok (.iload_n 3, 1) := by decide +kernel
theorem dX1_utter_5 : decode cX1_utter 5 = .ok (.iaload, 1) := by decide +kernel
theorem dX1_utter_6 : decode cX1_utter 6 = .ok (.istore 4, 2) := by decide +kernel
theorem dX1_utter_8 : decode cX1_utter 8 = .ok (.aload_n 1, 1) := by decide +kernel
theorem dX1_utter_9 : decode cX1_utter 9 = .ok (.getfield 51, 3) := by decide +kernel
theorem dX1_utter_12 : decode cX1_utter 12 = .ok (.iload 4, 2) := by decide +kernel
theorem dX1_utter_14 : decode cX1_utter 14 = .ok (.iaload, 1) := by decide +kernel
theorem dX1_utter_15 : decode cX1_utter 15 = .ok (.istore 5, 2) := by decide +kernel
theorem dX1_utter_17 : decode cX1_utter 17 = .ok (.aload_n 2, 1) := by decide +kernel
theorem dX1_utter_18 : decode cX1_utter 18 = .ok (.getfield 28, 3) := by decide +kernel
theorem dX1_utter_21 : decode cX1_utter 21 = .ok (.iload_n 3, 1) := by decide +kernel
theorem dX1_utter_22 : decode cX1_utter 22 = .ok (.iaload, 1) := by decide +kernel
theorem dX1_utter_23 : decode cX1_utter 23 = .ok (.iconst 4, 1) := by decide +kernel
theorem dX1_utter_24 : decode cX1_utter 24 = .ok (.if_icmp .eq 15, 3) := by decide +kernel
theorem dX1_utter_27 : decode cX1_utter 27 = .ok (.aload_n 2, 1) := by decide +kernel
theorem dX1_utter_28 : decode cX1_utter 28 = .ok (.getfield 56, 3) := by decide +kernel
theorem dX1_utter_31 : decode cX1_utter 31 = .ok (.iload 5, 2) := by decide +kernel
theorem dX1_utter_33 : decode cX1_utter 33 = .ok (.invokestatic 44, 3) := by decide +kernel
theorem dX1_utter_36 : decode cX1_utter 36 = .ok (.ifCond .ne 7, 3) := by decide +kernel
theorem dX1_utter_39 : decode cX1_utter 39 = .ok (.iconst 1, 1) := by decide +kernel
theorem dX1_utter_40 : decode cX1_utter 40 = .ok (.goto 4, 3) := by decide +kernel
theorem dX1_utter_43 : decode cX1_utter 43 = .ok (.iconst 0, 1) := by decide +kernel
theorem dX1_utter_44 : decode cX1_utter 44 = .ok (.istore 6, 2) := by decide +kernel
theorem dX1_utter_46 : decode cX1_utter 46 = .ok (.iconst 0, 1) := by decide +kernel
theorem dX1_utter_47 : decode cX1_utter 47 = .ok (.istore 7, 2) := by decide +kernel
theorem dX1_utter_49 : decode cX1_utter 49 = .ok (.iload 7, 2) := by decide +kernel
theorem dX1_utter_51 : decode cX1_utter 51 = .ok (.aload_n 2, 1) := by decide +kernel
theorem dX1_utter_52 : decode cX1_utter 52 = .ok (.getfield 33, 3) := by decide +kernel
theorem dX1_utter_55 : decode cX1_utter 55 = .ok (.if_icmp .ge 89, 3) := by decide +kernel
theorem dX1_utter_58 : decode cX1_utter 58 = .ok (.aload_n 2, 1) := by decide +kernel
theorem dX1_utter_59 : decode cX1_utter 59 = .ok (.getfield 28, 3) := by decide +kernel
theorem dX1_utter_62 : decode cX1_utter 62 = .ok (.iload 7, 2) := by decide +kernel
theorem dX1_utter_64 : decode cX1_utter 64 = .ok (.iaload, 1) := by decide +kernel
theorem dX1_utter_65 : decode cX1_utter 65 = .ok (.iconst 1, 1) := by decide +kernel
theorem dX1_utter_66 : decode cX1_utter 66 = .ok (.if_icmp .ne 6, 3) := by decide +kernel
theorem dX1_utter_69 : decode cX1_utter 69 = .ok (.goto 69, 3) := by decide +kernel
theorem dX1_utter_72 : decode cX1_utter 72 = .ok (.aload_n 2, 1) := by decide +kernel
theorem dX1_utter_73 : decode cX1_utter 73 = .ok (.getfield 48, 3) := by decide +kernel
theorem dX1_utter_76 : decode cX1_utter 76 = .ok (.iload 7, 2) := by decide +kernel
theorem dX1_utter_78 : decode cX1_utter 78 = .ok (.iaload, 1) := by decide +kernel
theorem dX1_utter_79 : decode cX1_utter 79 = .ok (.iload 4, 2) := by decide +kernel
theorem dX1_utter_81 : decode cX1_utter 81 = .ok (.if_icmp .ne 19, 3) := by decide +kernel
theorem dX1_utter_84 : decode cX1_utter 84 = .ok (.aload_n 0, 1) := by decide +kernel
theorem dX1_utter_85 : decode cX1_utter 85 = .ok (.aload_n 2, 1) := by decide +kernel
theorem dX1_utter_86 : decode cX1_utter 86 = .ok (.iload 7, 2) := by decide +kernel
theorem dX1_utter_88 : decode cX1_utter 88 = .ok (.aload_n 0, 1) := by decide +kernel
theorem dX1_utter_89 : decode cX1_utter 89 = .ok (.getfield 9, 3) := by decide +kernel
theorem dX1_utter_92 : decode cX1_utter 92 = .ok (.iload_n 3, 1) := by decide +kernel
theorem dX1_utter_93 : decode cX1_utter 93 = .ok (.iaload, 1) := by decide +kernel
theorem dX1_utter_94 : decode cX1_utter 94 = .ok (.invokevirtual 59, 3) := by decide +kernel
theorem dX1_utter_97 : decode cX1_utter 97 = .ok (.goto 41, 3) := by decide +kernel
theorem dX1_utter_100 : decode cX1_utter 100 = .ok (.iload 6, 2) := by decide +kernel
theorem dX1_utter_102 : decode cX1_utter 102 = .ok (.ifCond .eq 36, 3) := by decide +kernel
theorem dX1_utter_105 : decode cX1_utter 105 = .ok (.aload_n 2, 1) := by decide +kernel
theorem dX1_utter_106 : decode cX1_utter 106 = .ok (.getfield 48, 3) := by decide +kernel
theorem dX1_utter_109 : decode cX1_utter 109 = .ok (.iload 7, 2) := by decide +kernel
theorem dX1_utter_111 : decode cX1_utter 111 = .ok (.iaload, 1) := by decide +kernel
theorem dX1_utter_112 : decode cX1_utter 112 = .ok (.iload 5, 2) := by decide +kernel
theorem dX1_utter_114 : decode cX1_utter 114 = .ok (.if_icmp .ne 24, 3) := by decide +kernel
theorem dX1_utter_117 : decode cX1_utter 117 = .ok (.aload_n 0, 1) := by decide +kernel
theorem dX1_utter_118 : decode cX1_utter 118 = .ok (.aload_n 2, 1) := by decide +kernel
theorem dX1_utter_119 : decode cX1_utter 119 = .ok (.iload 7, 2) := by decide +kernel
theorem dX1_utter_121 : decode cX1_utter 121 = .ok (.aload_n 0, 1) := by decide +kernel
theorem dX1_utter_122 : decode cX1_utter 122 = .ok (.getfield 9, 3) := by decide +kernel
theorem dX1_utter_125 : decode cX1_utter 125 = .ok (.iload_n 3, 1) := by decide +kernel
theorem dX1_utter_126 : decode cX1_utter 126 = .ok (.iaload, 1) := by decide +kernel
theorem dX1_utter_127 : decode cX1_utter 127 = .ok (.aload_n 1, 1) := by decide +kernel
theorem dX1_utter_128 : decode cX1_utter 128 = .ok (.getfield 63, 3) := by decide +kernel
theorem dX1_utter_131 : decode cX1_utter 131 = .ok (.iload 4, 2) := by decide +kernel
theorem dX1_utter_133 : decode cX1_utter 133 = .ok (.iaload, 1) := by decide +kernel
theorem dX1_utter_134 : decode cX1_utter 134 = .ok (.iadd, 1) := by decide +kernel
theorem dX1_utter_135 : decode cX1_utter 135 = .ok (.invokevirtual 59, 3) := by decide +kernel
theorem dX1_utter_138 : decode cX1_utter 138 = .ok (.iinc 7 1, 3) := by decide +kernel
theorem dX1_utter_141 : decode cX1_utter 141 = .ok (.goto (-92), 3) := by decide +kernel
theorem dX1_utter_144 : decode cX1_utter 144 = .ok (.return_, 1) := by decide +kernel
theorem dX1_reach_0 : decode cX1_reach 0 = .ok (.aload_n 0, 1) := by decide +kernel
theorem dX1_reach_1 : decode cX1_reach 1 = .ok (.getfield 15, 3) := by decide +kernel
theorem dX1_reach_4 : decode cX1_reach 4 = .ok (.iload_n 2, 1) := by decide +kernel
theorem dX1_reach_5 : decode cX1_reach 5 = .ok (.invokestatic 44, 3) := by decide +kernel
theorem dX1_reach_8 : decode cX1_reach 8 = .ok (.ifCond .eq 14, 3) := by decide +kernel
theorem dX1_reach_11 : decode cX1_reach 11 = .ok (.aload_n 0, 1) := by decide +kernel
theorem dX1_reach_12 : decode cX1_reach 12 = .ok (.getfield 9, 3) := by decide +kernel
theorem dX1_reach_15 : decode cX1_reach 15 = .ok (.iload_n 2, 1) := by decide +kernel
theorem dX1_reach_16 : decode cX1_reach 16 = .ok (.iaload, 1) := by decide +kernel
theorem dX1_reach_17 : decode cX1_reach 17 = .ok (.iload_n 3, 1) := by decide +kernel
theorem dX1_reach_18 : decode cX1_reach 18 = .ok (.if_icmp .gt 4, 3) := by decide +kernel
theorem dX1_reach_21 : decode cX1_reach 21 = .ok (.return_, 1) := by decide +kernel
theorem dX1_reach_22 : decode cX1_reach 22 = .ok (.aload_n 0, 1) := by decide +kernel
theorem dX1_reach_23 : decode cX1_reach 23 = .ok (.getfield 9, 3) := by decide +kernel
theorem dX1_reach_26 : decode cX1_reach 26 = .ok (.iload_n 2, 1) := by decide +kernel
theorem dX1_reach_27 : decode cX1_reach 27 = .ok (.iload_n 3, 1) := by decide +kernel
theorem dX1_reach_28 : decode cX1_reach 28 = .ok (.iastore, 1) := by decide +kernel
theorem dX1_reach_29 : decode cX1_reach 29 = .ok (.aload_n 0, 1) := by decide +kernel
theorem dX1_reach_30 : decode cX1_reach 30 = .ok (.dup, 1) := by decide +kernel
theorem dX1_reach_31 : decode cX1_reach 31 = .ok (.getfield 15, 3) := by decide +kernel
theorem dX1_reach_34 : decode cX1_reach 34 = .ok (.iconst 1, 1) := by decide +kernel
theorem dX1_reach_35 : decode cX1_reach 35 = .ok (.iload_n 2, 1) := by decide +kernel
theorem dX1_reach_36 : decode cX1_reach 36 = .ok (.ishl, 1) := by decide +kernel
theorem dX1_reach_37 : decode cX1_reach 37 = .ok (.ior, 1) := by decide +kernel
theorem dX1_reach_38 : decode cX1_reach 38 = .ok (.putfield 15, 3) := by decide +kernel
theorem dX1_reach_41 : decode cX1_reach 41 = .ok (.aload_n 1, 1) := by decide +kernel
theorem dX1_reach_42 : decode cX1_reach 42 = .ok (.getfield 28, 3) := by decide +kernel
theorem dX1_reach_45 : decode cX1_reach 45 = .ok (.iload_n 2, 1) := by decide +kernel
theorem dX1_reach_46 : decode cX1_reach 46 = .ok (.iaload, 1) := by decide +kernel
theorem dX1_reach_47 : decode cX1_reach 47 = .ok (.iconst 2, 1) := by decide +kernel
theorem dX1_reach_48 : decode cX1_reach 48 = .ok (.invokestatic 66, 3) := by decide +kernel
theorem dX1_reach_51 : decode cX1_reach 51 = .ok (.ifCond .eq 15, 3) := by decide +kernel
theorem dX1_reach_54 : decode cX1_reach 54 = .ok (.aload_n 0, 1) := by decide +kernel
theorem dX1_reach_55 : decode cX1_reach 55 = .ok (.dup, 1) := by decide +kernel
theorem dX1_reach_56 : decode cX1_reach 56 = .ok (.getfield 19, 3) := by decide +kernel
theorem dX1_reach_59 : decode cX1_reach 59 = .ok (.iconst 1, 1) := by decide +kernel
theorem dX1_reach_60 : decode cX1_reach 60 = .ok (.iload_n 2, 1) := by decide +kernel
theorem dX1_reach_61 : decode cX1_reach 61 = .ok (.ishl, 1) := by decide +kernel
theorem dX1_reach_62 : decode cX1_reach 62 = .ok (.ior, 1) := by decide +kernel
theorem dX1_reach_63 : decode cX1_reach 63 = .ok (.putfield 19, 3) := by decide +kernel
theorem dX1_reach_66 : decode cX1_reach 66 = .ok (.return_, 1) := by decide +kernel
theorem dX2_init_0 : decode cX2_init 0 = .ok (.aload_n 0, 1) := by decide +kernel
theorem dX2_init_1 : decode cX2_init 1 = .ok (.invokespecial 3, 3) := by decide +kernel
theorem dX2_init_4 : decode cX2_init 4 = .ok (.aload_n 0, 1) := by decide +kernel
theorem dX2_init_5 : decode cX2_init 5 = .ok (.bipush 8, 2) := by decide +kernel
theorem dX2_init_7 : decode cX2_init 7 = .ok (.newarray .int, 2) := by decide +kernel
theorem dX2_init_9 : decode cX2_init 9 = .ok (.putfield 9, 3) := by decide +kernel
theorem dX2_init_12 : decode cX2_init 12 = .ok (.aload_n 0, 1) := by decide +kernel
theorem dX2_init_13 : decode cX2_init 13 = .ok (.bipush 8, 2) := by decide +kernel
theorem dX2_init_15 : decode cX2_init 15 = .ok (.newarray .int, 2) := by decide +kernel
theorem dX2_init_17 : decode cX2_init 17 = .ok (.putfield 15, 3) := by decide +kernel
theorem dX2_init_20 : decode cX2_init 20 = .ok (.return_, 1) := by decide +kernel
theorem dX2_read_0 : decode cX2_read 0 = .ok (.iconst 0, 1) := by decide +kernel
theorem dX2_read_1 : decode cX2_read 1 = .ok (.istore_n 2, 1) := by decide +kernel
theorem dX2_read_2 : decode cX2_read 2 = .ok (.iload_n 2, 1) := by decide +kernel
theorem dX2_read_3 : decode cX2_read 3 = .ok (.bipush 8, 2) := by decide +kernel
theorem dX2_read_5 : decode cX2_read 5 = .ok (.if_icmp .ge 45, 3) := by decide +kernel
theorem dX2_read_8 : decode cX2_read 8 = .ok (.bipush 9, 2) := by decide +kernel
theorem dX2_read_10 : decode cX2_read 10 = .ok (.iload_n 2, 1) := by decide +kernel
theorem dX2_read_11 : decode cX2_read 11 = .ok (.iadd, 1) := by decide +kernel
theorem dX2_read_12 : decode cX2_read 12 = .ok (.aload_n 1, 1) := by decide +kernel
theorem dX2_read_13 : decode cX2_read 13 = .ok (.arraylength, 1) := by decide +kernel
theorem dX2_read_14 : decode cX2_read 14 = .ok (.if_icmp .ge 36, 3) := by decide +kernel
theorem dX2_read_17 : decode cX2_read 17 = .ok (.aload_n 0, 1) := by decide +kernel
theorem dX2_read_18 : decode cX2_read 18 = .ok (.getfield 9, 3) := by decide +kernel
theorem dX2_read_21 : decode cX2_read 21 = .ok (.iload_n 2, 1) := by decide +kernel
theorem dX2_read_22 : decode cX2_read 22 = .ok (.aload_n 1, 1) := by decide +kernel
theorem dX2_read_23 : decode cX2_read 23 = .ok (.iload_n 2, 1) := by decide +kernel
theorem dX2_read_24 : decode cX2_read 24 = .ok (.iaload, 1) := by decide +kernel
theorem dX2_read_25 : decode cX2_read 25 = .ok (.bipush 97, 2) := by decide +kernel
theorem dX2_read_27 : decode cX2_read 27 = .ok (.isub, 1) := by decide +kernel
theorem dX2_read_28 : decode cX2_read 28 = .ok (.iastore, 1) := by decide +kernel
theorem dX2_read_29 : decode cX2_read 29 = .ok (.aload_n 0, 1) := by decide +kernel
theorem dX2_read_30 : decode cX2_read 30 = .ok (.getfield 15, 3) := by decide +kernel
theorem dX2_read_33 : decode cX2_read 33 = .ok (.iload_n 2, 1) := by decide +kernel
theorem dX2_read_34 : decode cX2_read 34 = .ok (.aload_n 1, 1) := by decide +kernel
theorem dX2_read_35 : decode cX2_read 35 = .ok (.bipush 9, 2) := by decide +kernel
theorem dX2_read_37 : decode cX2_read 37 = .ok (.iload_n 2, 1) := by decide +kernel
theorem dX2_read_38 : decode cX2_read 38 = .ok (.iadd, 1) := by decide +kernel
theorem dX2_read_39 : decode cX2_read 39 = .ok (.iaload, 1) := by decide +kernel
theorem dX2_read_40 : decode cX2_read 40 = .ok (.bipush 48, 2) := by decide +kernel
theorem dX2_read_42 : decode cX2_read 42 = .ok (.isub, 1) := by decide +kernel
theorem dX2_read_43 : decode cX2_read 43 = .ok (.iastore, 1) := by decide +kernel
theorem dX2_read_44 : decode cX2_read 44 = .ok (.iinc 2 1, 3) := by decide +kernel
theorem dX2_read_47 : decode cX2_read 47 = .ok (.goto (-45), 3) := by decide +kernel
theorem dX2_read_50 : decode cX2_read 50 = .ok (.return_, 1) := by decide +kernel
theorem dX2_heardElsewhere_0 : decode cX2_heardElsewhere 0 = .ok (.iconst 0, 1) := by decide +kernel
theorem dX2_heardElsewhere_1 : decode cX2_heardElsewhere 1 = .ok (.istore_n 1, 1) := by decide +kernel
theorem dX2_heardElsewhere_2 : decode cX2_heardElsewhere 2 = .ok (.iconst 0, 1) := by decide +kernel
theorem dX2_heardElsewhere_3 : decode cX2_heardElsewhere 3 = .ok (.istore_n 2, 1) := by decide +kernel
theorem dX2_heardElsewhere_4 : decode cX2_heardElsewhere 4 = .ok (.iload_n 2, 1) := by decide +kernel
theorem dX2_heardElsewhere_5 : decode cX2_heardElsewhere 5 = .ok (.bipush 8, 2) := by decide +kernel
theorem dX2_heardElsewhere_7 : decode cX2_heardElsewhere 7 = .ok (.if_icmp .ge 22, 3) := by decide +kernel
theorem dX2_heardElsewhere_10 : decode cX2_heardElsewhere 10 = .ok (.aload_n 0, 1) := by decide +kernel
theorem dX2_heardElsewhere_11 : decode cX2_heardElsewhere 11 = .ok (.getfield 9, 3) := by decide +kernel
theorem dX2_heardElsewhere_14 : decode cX2_heardElsewhere 14 = .ok (.iload_n 2, 1) := by decide +kernel
theorem dX2_heardElsewhere_15 : decode cX2_heardElsewhere 15 = .ok (.iaload, 1) := by decide +kernel
theorem dX2_heardElsewhere_16 : decode cX2_heardElsewhere 16 = .ok (.iload_n 2, 1) := by decide +kernel
theorem dX2_heardElsewhere_17 : decode cX2_heardElsewhere 17 = .ok (.if_icmp .eq 6, 3) := by decide +kernel
theorem dX2_heardElsewhere_20 : decode cX2_heardElsewhere 20 = .ok (.iinc 1 1, 3) := by decide +kernel
theorem dX2_heardElsewhere_23 : decode cX2_heardElsewhere 23 = .ok (.iinc 2 1, 3) := by decide +kernel
theorem dX2_heardElsewhere_26 : decode cX2_heardElsewhere 26 = .ok (.goto (-22), 3) := by decide +kernel
theorem dX2_heardElsewhere_29 : decode cX2_heardElsewhere 29 = .ok (.iload_n 1, 1) := by decide +kernel
theorem dX2_heardElsewhere_30 : decode cX2_heardElsewhere 30 = .ok (.ireturn, 1) := by decide +kernel
theorem dX2_sources_0 : decode cX2_sources 0 = .ok (.iconst 0, 1) := by decide +kernel
theorem dX2_sources_1 : decode cX2_sources 1 = .ok (.istore_n 2, 1) := by decide +kernel
theorem dX2_sources_2 : decode cX2_sources 2 = .ok (.iconst 0, 1) := by decide +kernel
theorem dX2_sources_3 : decode cX2_sources 3 = .ok (.istore_n 3, 1) := by decide +kernel
theorem dX2_sources_4 : decode cX2_sources 4 = .ok (.iload_n 3, 1) := by decide +kernel
theorem dX2_sources_5 : decode cX2_sources 5 = .ok (.bipush 8, 2) := by decide +kernel
theorem dX2_sources_7 : decode cX2_sources 7 = .ok (.if_icmp .ge 25, 3) := by decide +kernel
theorem dX2_sources_10 : decode cX2_sources 10 = .ok (.aload_n 0, 1) := by decide +kernel
theorem dX2_sources_11 : decode cX2_sources 11 = .ok (.getfield 9, 3) := by decide +kernel
theorem dX2_sources_14 : decode cX2_sources 14 = .ok (.iload_n 3, 1) := by decide +kernel
theorem dX2_sources_15 : decode cX2_sources 15 = .ok (.iaload, 1) := by decide +kernel
theorem dX2_sources_16 : decode cX2_sources 16 = .ok (.iload_n 1, 1) := by decide +kernel
theorem dX2_sources_17 : decode cX2_sources 17 = .ok (.if_icmp .ne 9, 3) := by decide +kernel
theorem dX2_sources_20 : decode cX2_sources 20 = .ok (.iload_n 2, 1) := by decide +kernel
theorem dX2_sources_21 : decode cX2_sources 21 = .ok (.iconst 1, 1) := by decide +kernel
theorem dX2_sources_22 : decode cX2_sources 22 = .ok (.iload_n 3, 1) := by decide +kernel
theorem dX2_sources_23 : decode cX2_sources 23 = .ok (.ishl, 1) := by decide +kernel
theorem dX2_sources_24 : decode cX2_sources 24 = .ok (.ior, 1) := by decide +kernel
theorem dX2_sources_25 : decode cX2_sources 25 = .ok (.istore_n 2, 1) := by decide +kernel
theorem dX2_sources_26 : decode cX2_sources 26 = .ok (.iinc 3 1, 3) := by decide +kernel
theorem dX2_sources_29 : decode cX2_sources 29 = .ok (.goto (-25), 3) := by decide +kernel
theorem dX2_sources_32 : decode cX2_sources 32 = .ok (.iload_n 2, 1) := by decide +kernel
theorem dX2_sources_33 : decode cX2_sources 33 = .ok (.ireturn, 1) := by decide +kernel
theorem dX2_rent_0 : decode cX2_rent 0 = .ok (.aload_n 0, 1) := by decide +kernel
theorem dX2_rent_1 : decode cX2_rent 1 = .ok (.iload_n 1, 1) := by decide +kernel
theorem dX2_rent_2 : decode cX2_rent 2 = .ok (.invokevirtual 18, 3) := by decide +kernel
theorem dX2_rent_5 : decode cX2_rent 5 = .ok (.istore_n 2, 1) := by decide +kernel
theorem dX2_rent_6 : decode cX2_rent 6 = .ok (.iload_n 2, 1) := by decide +kernel
theorem dX2_rent_7 : decode cX2_rent 7 = .ok (.invokestatic 22, 3) := by decide +kernel
theorem dX2_rent_10 : decode cX2_rent 10 = .ok (.istore_n 3, 1) := by decide +kernel
theorem dX2_rent_11 : decode cX2_rent 11 = .ok (.iload_n 2, 1) := by decide +kernel
theorem dX2_rent_12 : decode cX2_rent 12 = .ok (.iload_n 1, 1) := by decide +kernel
theorem dX2_rent_13 : decode cX2_rent 13 = .ok (.invokestatic 27, 3) := by decide +kernel
theorem dX2_rent_16 : decode cX2_rent 16 = .ok (.ifCond .eq 9, 3) := by decide +kernel
theorem dX2_rent_19 : decode cX2_rent 19 = .ok (.iconst 2, 1) := by decide +kernel
theorem dX2_rent_20 : decode cX2_rent 20 = .ok (.iload_n 3, 1) := by decide +kernel
theorem dX2_rent_21 : decode cX2_rent 21 = .ok (.imul, 1) := by decide +kernel
theorem dX2_rent_22 : decode cX2_rent 22 = .ok (.goto 4, 3) := by decide +kernel
theorem dX2_rent_25 : decode cX2_rent 25 = .ok (.iload_n 3, 1) := by decide +kernel
theorem dX2_rent_26 : decode cX2_rent 26 = .ok (.ireturn, 1) := by decide +kernel
theorem dX3_init_0 : decode cX3_init 0 = .ok (.aload_n 0, 1) := by decide +kernel
theorem dX3_init_1 : decode cX3_init 1 = .ok (.invokespecial 3, 3) := by decide +kernel
theorem dX3_init_4 : decode cX3_init 4 = .ok (.aload_n 0, 1) := by decide +kernel
theorem dX3_init_5 : decode cX3_init 5 = .ok (.iconst 0, 1) := by decide +kernel
theorem dX3_init_6 : decode cX3_init 6 = .ok (.putfield 9, 3) := by decide +kernel
theorem dX3_init_9 : decode cX3_init 9 = .ok (.aload_n 0, 1) := by decide +kernel
theorem dX3_init_10 : decode cX3_init 10 = .ok (.bipush 6, 2) := by decide +kernel
theorem dX3_init_12 : decode cX3_init 12 = .ok (.newarray .int, 2) := by decide +kernel
theorem dX3_init_14 : decode cX3_init 14 = .ok (.putfield 15, 3) := by decide +kernel
theorem dX3_init_17 : decode cX3_init 17 = .ok (.aload_n 0, 1) := by decide +kernel
theorem dX3_init_18 : decode cX3_init 18 = .ok (.bipush 6, 2) := by decide +kernel
theorem dX3_init_20 : decode cX3_init 20 = .ok (.newarray .int, 2) := by decide +kernel
theorem dX3_init_22 : decode cX3_init 22 = .ok (.putfield 19, 3) := by decide +kernel
theorem dX3_init_25 : decode cX3_init 25 = .ok (.aload_n 0, 1) := by decide +kernel
theorem dX3_init_26 : decode cX3_init 26 = .ok (.bipush 6, 2) := by decide +kernel
theorem dX3_init_28 : decode cX3_init 28 = .ok (.newarray .int, 2) := by decide +kernel
theorem dX3_init_30 : decode cX3_init 30 = .ok (.putfield 22, 3) := by decide +kernel
theorem dX3_init_33 : decode cX3_init 33 = .ok (.aload_n 0, 1) := by decide +kernel
theorem dX3_init_34 : decode cX3_init 34 = .ok (.iconst 0, 1) := by decide +kernel
theorem dX3_init_35 : decode cX3_init 35 = .ok (.putfield 25, 3) := by decide +kernel
theorem dX3_init_38 : decode cX3_init 38 = .ok (.aload_n 0, 1) := by decide +kernel
theorem dX3_init_39 : decode cX3_init 39 = .ok (.iconst 0, 1) := by decide +kernel
theorem dX3_init_40 : decode cX3_init 40 = .ok (.putfield 28, 3) := by decide +kernel
theorem dX3_init_43 : decode cX3_init 43 = .ok (.aload_n 0, 1) := by decide +kernel
theorem dX3_init_44 : decode cX3_init 44 = .ok (.iconst 0, 1) := by decide +kernel
theorem dX3_init_45 : decode cX3_init 45 = .ok (.putfield 31, 3) := by decide +kernel
theorem dX3_init_48 : decode cX3_init 48 = .ok (.aload_n 0, 1) := by decide +kernel
theorem dX3_init_49 : decode cX3_init 49 = .ok (.iconst 0, 1) := by decide +kernel
theorem dX3_init_50 : decode cX3_init 50 = .ok (.putfield 34, 3) := by decide +kernel
theorem dX3_init_53 : decode cX3_init 53 = .ok (.aload_n 0, 1) := by decide +kernel
theorem dX3_init_54 : decode cX3_init 54 = .ok (.iconst 0, 1) := by decide +kernel
theorem dX3_init_55 : decode cX3_init 55 = .ok (.putfield 37, 3) := by decide +kernel
theorem dX3_init_58 : decode cX3_init 58 = .ok (.return_, 1) := by decide +kernel
theorem dX3_clear_0 : decode cX3_clear 0 = .ok (.aload_n 0, 1) := by decide +kernel
theorem dX3_clear_1 : decode cX3_clear 1 = .ok (.iconst 0, 1) := by decide +kernel
theorem dX3_clear_2 : decode cX3_clear 2 = .ok (.putfield 9, 3) := by decide +kernel
theorem dX3_clear_5 : decode cX3_clear 5 = .ok (.aload_n 0, 1) := by decide +kernel
theorem dX3_clear_6 : decode cX3_clear 6 = .ok (.iconst 0, 1) := by decide +kernel
theorem dX3_clear_7 : decode cX3_clear 7 = .ok (.putfield 25, 3) := by decide +kernel
theorem dX3_clear_10 : decode cX3_clear 10 = .ok (.aload_n 0, 1) := by decide +kernel
theorem dX3_clear_11 : decode cX3_clear 11 = .ok (.iconst 0, 1) := by decide +kernel
theorem dX3_clear_12 : decode cX3_clear 12 = .ok (.putfield 28, 3) := by decide +kernel
theorem dX3_clear_15 : decode cX3_clear 15 = .ok (.aload_n 0, 1) := by decide +kernel
theorem dX3_clear_16 : decode cX3_clear 16 = .ok (.invokevirtual 40, 3) := by decide +kernel
theorem dX3_clear_19 : decode cX3_clear 19 = .ok (.return_, 1) := by decide +kernel
theorem dX3_dropTrials_0 : decode cX3_dropTrials 0 = .ok (.aload_n 0, 1) := by decide +kernel
theorem dX3_dropTrials_1 : decode cX3_dropTrials 1 = .ok (.iconst 0, 1) := by decide +kernel
theorem dX3_dropTrials_2 : decode cX3_dropTrials 2 = .ok (.putfield 31, 3) := by decide +kernel
theorem dX3_dropTrials_5 : decode cX3_dropTrials 5 = .ok (.aload_n 0, 1) := by decide +kernel
theorem dX3_dropTrials_6 : decode cX3_dropTrials 6 = .ok (.iconst 0, 1) := by decide +kernel
theorem dX3_dropTrials_7 : decode cX3_dropTrials 7 = .ok (.putfield 34, 3) := by decide +kernel
theorem dX3_dropTrials_10 : decode cX3_dropTrials 10 = .ok (.aload_n 0, 1) := by decide +kernel
theorem dX3_dropTrials_11 : decode cX3_dropTrials 11 = .ok (.iconst 0, 1) := by decide +kernel
theorem dX3_dropTrials_12 : decode cX3_dropTrials 12 = .ok (.putfield 37, 3) := by decide +kernel
theorem dX3_dropTrials_15 : decode cX3_dropTrials 15 = .ok (.return_, 1) := by decide +kernel
theorem dX3_copyFrom_0 : decode cX3_copyFrom 0 = .ok (.aload_n 0, 1) := by decide +kernel
theorem dX3_copyFrom_1 : decode cX3_copyFrom 1 = .ok (.aload_n 1, 1) := by decide +kernel
theorem dX3_copyFrom_2 : decode cX3_copyFrom 2 = .ok (.getfield 9, 3) := by decide +kernel
theorem dX3_copyFrom_5 : decode cX3_copyFrom 5 = .ok (.putfield 9, 3) := by decide +kernel
theorem dX3_copyFrom_8 : decode cX3_copyFrom 8 = .ok (.iconst 0, 1) := by decide +kernel
theorem dX3_copyFrom_9 : decode cX3_copyFrom 9 = .ok (.istore_n 2, 1) := by decide +kernel
theorem dX3_copyFrom_10 : decode cX3_copyFrom 10 = .ok (.iload_n 2, 1) := by decide +kernel
theorem dX3_copyFrom_11 : decode cX3_copyFrom 11 = .ok (.aload_n 1, 1) := by decide +kernel
theorem dX3_copyFrom_12 : decode cX3_copyFrom 12 = .ok (.getfield 9, 3) := by decide +kernel
theorem dX3_copyFrom_15 : decode cX3_copyFrom 15 = .ok (.if_icmp .ge 45, 3) := by decide +kernel
theorem dX3_copyFrom_18 : decode cX3_copyFrom 18 = .ok (.aload_n 0, 1) := by decide +kernel
theorem dX3_copyFrom_19 : decode cX3_copyFrom 19 = .ok (.getfield 15, 3) := by decide +kernel
theorem dX3_copyFrom_22 : decode cX3_copyFrom 22 = .ok (.iload_n 2, 1) := by decide +kernel
theorem dX3_copyFrom_23 : decode cX3_copyFrom 23 = .ok (.aload_n 1, 1) := by decide +kernel
theorem dX3_copyFrom_24 : decode cX3_copyFrom 24 = .ok (.getfield 15, 3) := by decide +kernel
theorem dX3_copyFrom_27 : decode cX3_copyFrom 27 = .ok (.iload_n 2, 1) := by decide +kernel
theorem dX3_copyFrom_28 : decode cX3_copyFrom 28 = .ok (.iaload, 1) := by decide +kernel
theorem dX3_copyFrom_29 : decode cX3_copyFrom 29 = .ok (.iastore, 1) := by decide +kernel
theorem dX3_copyFrom_30 : decode cX3_copyFrom 30 = .ok (.aload_n 0, 1) := by decide +kernel
theorem dX3_copyFrom_31 : decode cX3_copyFrom 31 = .ok (.getfield 19, 3) := by decide +kernel
theorem dX3_copyFrom_34 : decode cX3_copyFrom 34 = .ok (.iload_n 2, 1) := by decide +kernel
theorem dX3_copyFrom_35 : decode cX3_copyFrom 35 = .ok (.aload_n 1, 1) := by decide +kernel
theorem dX3_copyFrom_36 : decode cX3_copyFrom 36 = .ok (.getfield 19, 3) := by decide +kernel
theorem dX3_copyFrom_39 : decode cX3_copyFrom 39 = .ok (.iload_n 2, 1) := by decide +kernel
theorem dX3_copyFrom_40 : decode cX3_copyFrom 40 = .ok (.iaload, 1) := by decide +kernel
theorem dX3_copyFrom_41 : decode cX3_copyFrom 41 = .ok (.iastore, 1) := by decide +kernel
theorem dX3_copyFrom_42 : decode cX3_copyFrom 42 = .ok (.aload_n 0, 1) := by decide +kernel
theorem dX3_copyFrom_43 : decode cX3_copyFrom 43 = .ok (.getfield 22, 3) := by decide +kernel
theorem dX3_copyFrom_46 : decode cX3_copyFrom 46 = .ok (.iload_n 2, 1) := by decide +kernel
theorem dX3_copyFrom_47 : decode cX3_copyFrom 47 = .ok (.aload_n 1, 1) := by decide +kernel
theorem dX3_copyFrom_48 : decode cX3_copyFrom 48 = .ok (.getfield 22, 3) := by decide +kernel
theorem dX3_copyFrom_51 : decode cX3_copyFrom 51 = .ok (.iload_n 2, 1) := by decide +kernel
theorem dX3_copyFrom_52 : decode cX3_copyFrom 52 = .ok (.iaload, 1) := by decide +kernel
theorem dX3_copyFrom_53 : decode cX3_copyFrom 53 = .ok (.iastore, 1) := by decide +kernel
theorem dX3_copyFrom_54 : decode cX3_copyFrom 54 = .ok (.iinc 2 1, 3) := by decide +kernel
theorem dX3_copyFrom_57 : decode cX3_copyFrom 57 = .ok (.goto (-47), 3) := by decide +kernel
theorem dX3_copyFrom_60 : decode cX3_copyFrom 60 = .ok (.aload_n 0, 1) := by decide +kernel
theorem dX3_copyFrom_61 : decode cX3_copyFrom 61 = .ok (.aload_n 1, 1) := by decide +kernel
theorem dX3_copyFrom_62 : decode cX3_copyFrom 62 = .ok (.getfield 25, 3) := by decide +kernel
theorem dX3_copyFrom_65 : decode cX3_copyFrom 65 = .ok (.putfield 25, 3) := by decide +kernel
theorem dX3_copyFrom_68 : decode cX3_copyFrom 68 = .ok (.aload_n 0, 1) := by decide +kernel
theorem dX3_copyFrom_69 : decode cX3_copyFrom 69 = .ok (.aload_n 1, 1) := by decide +kernel
theorem dX3_copyFrom_70 : decode cX3_copyFrom 70 = .ok (.getfield 28, 3) := by decide +kernel
theorem dX3_copyFrom_73 : decode cX3_copyFrom 73 = .ok (.putfield 28, 3) := by decide +kernel
theorem dX3_copyFrom_76 : decode cX3_copyFrom 76 = .ok (.aload_n 0, 1) := by decide +kernel
theorem dX3_copyFrom_77 : decode cX3_copyFrom 77 = .ok (.aload_n 1, 1) := by decide +kernel
theorem dX3_copyFrom_78 : decode cX3_copyFrom 78 = .ok (.getfield 31, 3) := by decide +kernel
theorem dX3_copyFrom_81 : decode cX3_copyFrom 81 = .ok (.putfield 31, 3) := by decide +kernel
theorem dX3_copyFrom_84 : decode cX3_copyFrom 84 = .ok (.aload_n 0, 1) := by decide +kernel
theorem dX3_copyFrom_85 : decode cX3_copyFrom 85 = .ok (.aload_n 1, 1) := by decide +kernel
theorem dX3_copyFrom_86 : decode cX3_copyFrom 86 = .ok (.getfield 34, 3) := by decide +kernel
theorem dX3_copyFrom_89 : decode cX3_copyFrom 89 = .ok (.putfield 34, 3) := by decide +kernel
theorem dX3_copyFrom_92 : decode cX3_copyFrom 92 = .ok (.aload_n 0, 1) := by decide +kernel
theorem dX3_copyFrom_93 : decode cX3_copyFrom 93 = .ok (.aload_n 1, 1) := by decide +kernel
theorem dX3_copyFrom_94 : decode cX3_copyFrom 94 = .ok (.getfield 37, 3) := by decide +kernel
theorem dX3_copyFrom_97 : decode cX3_copyFrom 97 = .ok (.putfield 37, 3) := by decide +kernel
theorem dX3_copyFrom_100 : decode cX3_copyFrom 100 = .ok (.return_, 1) := by decide +kernel
theorem dX3_enter_0 : decode cX3_enter 0 = .ok (.aload_n 0, 1) := by decide +kernel
theorem dX3_enter_1 : decode cX3_enter 1 = .ok (.getfield 9, 3) := by decide +kernel
theorem dX3_enter_4 : decode cX3_enter 4 = .ok (.istore_n 3, 1) := by decide +kernel
theorem dX3_enter_5 : decode cX3_enter 5 = .ok (.aload_n 0, 1) := by decide +kernel
theorem dX3_enter_6 : decode cX3_enter 6 = .ok (.getfield 15, 3) := by decide +kernel
theorem dX3_enter_9 : decode cX3_enter 9 = .ok (.iload_n 3, 1) := by decide +kernel
theorem dX3_enter_10 : decode cX3_enter 10 = .ok (.iload_n 1, 1) := by decide +kernel
theorem dX3_enter_11 : decode cX3_enter 11 = .ok (.iastore, 1) := by decide +kernel
theorem dX3_enter_12 : decode cX3_enter 12 = .ok (.aload_n 0, 1) := by decide +kernel
theorem dX3_enter_13 : decode cX3_enter 13 = .ok (.getfield 19, 3) := by decide +kernel
theorem dX3_enter_16 : decode cX3_enter 16 = .ok (.iload_n 3, 1) := by decide +kernel
theorem dX3_enter_17 : decode cX3_enter 17 = .ok (.iload_n 2, 1) := by decide +kernel
theorem dX3_enter_18 : decode cX3_enter 18 = .ok (.iastore, 1) := by decide +kernel
theorem dX3_enter_19 : decode cX3_enter 19 = .ok (.aload_n 0, 1) := by decide +kernel
theorem dX3_enter_20 : decode cX3_enter 20 = .ok (.getfield 22, 3) := by decide +kernel
theorem dX3_enter_23 : decode cX3_enter 23 = .ok (.iload_n 3, 1) := by decide +kernel
theorem dX3_enter_24 : decode cX3_enter 24 = .ok (.iconst 0, 1) := by decide +kernel
theorem dX3_enter_25 : decode cX3_enter 25 = .ok (.iastore, 1) := by decide +kernel
theorem dX3_enter_26 : decode cX3_enter 26 = .ok (.aload_n 0, 1) := by decide +kernel
theorem dX3_enter_27 : decode cX3_enter 27 = .ok (.dup, 1) := by decide +kernel
theorem dX3_enter_28 : decode cX3_enter 28 = .ok (.getfield 9, 3) := by decide +kernel
theorem dX3_enter_31 : decode cX3_enter 31 = .ok (.iconst 1, 1) := by decide +kernel
theorem dX3_enter_32 : decode cX3_enter 32 = .ok (.iadd, 1) := by decide +kernel
theorem dX3_enter_33 : decode cX3_enter 33 = .ok (.putfield 9, 3) := by decide +kernel
theorem dX3_enter_36 : decode cX3_enter 36 = .ok (.iload_n 3, 1) := by decide +kernel
theorem dX3_enter_37 : decode cX3_enter 37 = .ok (.ireturn, 1) := by decide +kernel
theorem dX3_peopleAt_0 : decode cX3_peopleAt 0 = .ok (.iconst 0, 1) := by decide +kernel
theorem dX3_peopleAt_1 : decode cX3_peopleAt 1 = .ok (.istore_n 2, 1) := by decide +kernel
theorem dX3_peopleAt_2 : decode cX3_peopleAt 2 = .ok (.iconst 0, 1) := by decide +kernel
theorem dX3_peopleAt_3 : decode cX3_peopleAt 3 = .ok (.istore_n 3, 1) := by decide +kernel
theorem dX3_peopleAt_4 : decode cX3_peopleAt 4 = .ok (.iload_n 3, 1) := by decide +kernel
theorem dX3_peopleAt_5 : decode cX3_peopleAt 5 = .ok (.aload_n 0, 1) := by decide +kernel
theorem dX3_peopleAt_6 : decode cX3_peopleAt 6 = .ok (.getfield 9, 3) := by decide +kernel
theorem dX3_peopleAt_9 : decode cX3_peopleAt 9 = .ok (.if_icmp .ge 25, 3) := by decide +kernel
theorem dX3_peopleAt_12 : decode cX3_peopleAt 12 = .ok (.aload_n 0, 1) := by decide +kernel
theorem dX3_peopleAt_13 : decode cX3_peopleAt 13 = .ok (.getfield 19, 3) := by decide +kernel
theorem dX3_peopleAt_16 : decode cX3_peopleAt 16 = .ok (.iload_n 3, 1) := by decide +kernel
theorem dX3_peopleAt_17 : decode cX3_peopleAt 17 = .ok (.iaload, 1) := by decide +kernel
theorem dX3_peopleAt_18 : decode cX3_peopleAt 18 = .ok (.iload_n 1, 1) := by decide +kernel
theorem dX3_peopleAt_19 : decode cX3_peopleAt 19 = .ok (.if_icmp .ne 9, 3) := by decide +kernel
theorem dX3_peopleAt_22 : decode cX3_peopleAt 22 = .ok (.iload_n 2, 1) := by decide +kernel
theorem dX3_peopleAt_23 : decode cX3_peopleAt 23 = .ok (.iconst 1, 1) := by decide +kernel
theorem dX3_peopleAt_24 : decode cX3_peopleAt 24 = .ok (.iload_n 3, 1) := by decide +kernel
theorem dX3_peopleAt_25 : decode cX3_peopleAt 25 = .ok (.ishl, 1) := by decide +kernel
theorem dX3_peopleAt_26 : decode cX3_peopleAt 26 = .ok (.ior, 1) := by decide +kernel
theorem dX3_peopleAt_27 : decode cX3_peopleAt 27 = .ok (.istore_n 2, 1) := by decide +kernel
theorem dX3_peopleAt_28 : decode cX3_peopleAt 28 = .ok (.iinc 3 1, 3) := by decide +kernel
theorem dX3_peopleAt_31 : decode cX3_peopleAt 31 = .ok (.goto (-27), 3) := by decide +kernel
theorem dX3_peopleAt_34 : decode cX3_peopleAt 34 = .ok (.iload_n 2, 1) := by decide +kernel
theorem dX3_peopleAt_35 : decode cX3_peopleAt 35 = .ok (.ireturn, 1) := by decide +kernel
theorem dX3_learn_0 : decode cX3_learn 0 = .ok (.iconst 0, 1) := by decide +kernel
theorem dX3_learn_1 : decode cX3_learn 1 = .ok (.istore_n 3, 1) := by decide +kernel
theorem dX3_learn_2 : decode cX3_learn 2 = .ok (.iconst 0, 1) := by decide +kernel
theorem dX3_learn_3 : decode cX3_learn 3 = .ok (.istore 4, 2) := by decide +kernel
theorem dX3_learn_5 : decode cX3_learn 5 = .ok (.iload 4, 2) := by decide +kernel
theorem dX3_learn_7 : decode cX3_learn 7 = .ok (.aload_n 0, 1) := by decide +kernel
theorem dX3_learn_8 : decode cX3_learn 8 = .ok (.getfield 9, 3) := by decide +kernel
theorem dX3_learn_11 : decode cX3_learn 11 = .ok (.if_icmp .ge 48, 3) := by decide +kernel
theorem dX3_learn_14 : decode cX3_learn 14 = .ok (.iload_n 1, 1) := by decide +kernel
theorem dX3_learn_15 : decode cX3_learn 15 = .ok (.iload 4, 2) := by decide +kernel
theorem dX3_learn_17 : decode cX3_learn 17 = .ok (.invokestatic 43, 3) := by decide +kernel
theorem dX3_learn_20 : decode cX3_learn 20 = .ok (.ifCond .eq 33, 3) := by decide +kernel
theorem dX3_learn_23 : decode cX3_learn 23 = .ok (.aload_n 0, 1) := by decide +kernel
theorem dX3_learn_24 : decode cX3_learn 24 = .ok (.getfield 22, 3) := by decide +kernel
theorem dX3_learn_27 : decode cX3_learn 27 = .ok (.iload 4, 2) := by decide +kernel
theorem dX3_learn_29 : decode cX3_learn 29 = .ok (.iaload, 1) := by decide +kernel
theorem dX3_learn_30 : decode cX3_learn 30 = .ok (.iload_n 2, 1) := by decide +kernel
theorem dX3_learn_31 : decode cX3_learn 31 = .ok (.invokestatic 43, 3) := by decide +kernel
theorem dX3_learn_34 : decode cX3_learn 34 = .ok (.ifCond .ne 19, 3) := by decide +kernel
theorem dX3_learn_37 : decode cX3_learn 37 = .ok (.aload_n 0, 1) := by decide +kernel
theorem dX3_learn_38 : decode cX3_learn 38 = .ok (.getfield 22, 3) := by decide +kernel
theorem dX3_learn_41 : decode cX3_learn 41 = .ok (.iload 4, 2) := by decide +kernel
theorem dX3_learn_43 : decode cX3_learn 43 = .ok (.dup2, 1) := by decide +kernel
theorem dX3_learn_44 : decode cX3_learn 44 = .ok (.iaload, 1) := by decide +kernel
theorem dX3_learn_45 : decode cX3_learn 45 = .ok (.iconst 1, 1) := by decide +kernel
theorem dX3_learn_46 : decode cX3_learn 46 = .ok (.iload_n 2, 1) := by decide +kernel
theorem dX3_learn_47 : decode cX3_learn 47 = .ok (.ishl, 1) := by decide +kernel
theorem dX3_learn_48 : decode cX3_learn 48 = .ok (.ior, 1) := by decide +kernel
theorem dX3_learn_49 : decode cX3_learn 49 = .ok (.iastore, 1) := by decide +kernel
theorem dX3_learn_50 : decode cX3_learn 50 = .ok (.iinc 3 1, 3) := by decide +kernel
theorem dX3_learn_53 : decode cX3_learn 53 = .ok (.iinc 4 1, 3) := by decide +kernel
theorem dX3_learn_56 : decode cX3_learn 56 = .ok (.goto (-51), 3) := by decide +kernel
theorem dX3_learn_59 : decode cX3_learn 59 = .ok (.iload_n 3, 1) := by decide +kernel
theorem dX3_learn_60 : decode cX3_learn 60 = .ok (.ireturn, 1) := by decide +kernel
theorem dX3_wordsKnown_0 : decode cX3_wordsKnown 0 = .ok (.iconst 0, 1) := by decide +kernel
theorem dX3_wordsKnown_1 : decode cX3_wordsKnown 1 = .ok (.istore_n 1, 1) := by decide +kernel
theorem dX3_wordsKnown_2 : decode cX3_wordsKnown 2 = .ok (.iconst 0, 1) := by decide +kernel
theorem dX3_wordsKnown_3 : decode cX3_wordsKnown 3 = .ok (.istore_n 2, 1) := by decide +kernel
theorem dX3_wordsKnown_4 : decode cX3_wordsKnown 4 = .ok (.iload_n 2, 1) := by decide +kernel
theorem dX3_wordsKnown_5 : decode cX3_wordsKnown 5 = .ok (.aload_n 0, 1) := by decide +kernel
theorem dX3_wordsKnown_6 : decode cX3_wordsKnown 6 = .ok (.getfield 9, 3) := by decide +kernel
theorem dX3_wordsKnown_9 : decode cX3_wordsKnown 9 = .ok (.if_icmp .ge 21, 3) := by decide +kernel
theorem dX3_wordsKnown_12 : decode cX3_wordsKnown 12 = .ok (.iload_n 1, 1) := by decide +kernel
theorem dX3_wordsKnown_13 : decode cX3_wordsKnown 13 = .ok (.aload_n 0, 1) := by decide +kernel
theorem dX3_wordsKnown_14 : decode cX3_wordsKnown 14 = .ok (.getfield 22, 3) := by decide +kernel
theorem dX3_wordsKnown_17 : decode cX3_wordsKnown 17 = .ok (.iload_n 2, 1) := by decide +kernel
theorem dX3_wordsKnown_18 : decode cX3_wordsKnown 18 = .ok (.iaload, 1) := by decide +kernel
theorem dX3_wordsKnown_19 : decode cX3_wordsKnown 19 = .ok (.invokestatic 47, 3) := by decide +kernel
theorem dX3_wordsKnown_22 : decode cX3_wordsKnown 22 = .ok (.iadd, 1) := by decide +kernel
theorem dX3_wordsKnown_23 : decode cX3_wordsKnown 23 = .ok (.istore_n 1, 1) := by decide +kernel
theorem dX3_wordsKnown_24 : decode cX3_wordsKnown 24 = .ok (.iinc 2 1, 3) := by decide +kernel
theorem dX3_wordsKnown_27 : decode cX3_wordsKnown 27 = .ok (.goto (-23), 3) := by decide +kernel
theorem dX3_wordsKnown_30 : decode cX3_wordsKnown 30 = .ok (.iload_n 1, 1) := by decide +kernel
theorem dX3_wordsKnown_31 : decode cX3_wordsKnown 31 = .ok (.ireturn, 1) := by decide +kernel
theorem dX3_agrees_0 : decode cX3_agrees 0 = .ok (.iload_n 1, 1) := by decide +kernel
theorem dX3_agrees_1 : decode cX3_agrees 1 = .ok (.aload_n 0, 1) := by decide +kernel
theorem dX3_agrees_2 : decode cX3_agrees 2 = .ok (.getfield 34, 3) := by decide +kernel
theorem dX3_agrees_5 : decode cX3_agrees 5 = .ok (.iand, 1) := by decide +kernel
theorem dX3_agrees_6 : decode cX3_agrees 6 = .ok (.aload_n 0, 1) := by decide +kernel
theorem dX3_agrees_7 : decode cX3_agrees 7 = .ok (.getfield 34, 3) := by decide +kernel
theorem dX3_agrees_10 : decode cX3_agrees 10 = .ok (.if_icmp .ne 16, 3) := by decide +kernel
theorem dX3_agrees_13 : decode cX3_agrees 13 = .ok (.iload_n 1, 1) := by decide +kernel
theorem dX3_agrees_14 : decode cX3_agrees 14 = .ok (.aload_n 0, 1) := by decide +kernel
theorem dX3_agrees_15 : decode cX3_agrees 15 = .ok (.getfield 37, 3) := by decide +kernel
theorem dX3_agrees_18 : decode cX3_agrees 18 = .ok (.iand, 1) := by decide +kernel
theorem dX3_agrees_19 : decode cX3_agrees 19 = .ok (.ifCond .ne 7, 3) := by decide +kernel
theorem dX3_agrees_22 : decode cX3_agrees 22 = .ok (.iconst 1, 1) := by decide +kernel
theorem dX3_agrees_23 : decode cX3_agrees 23 = .ok (.goto 4, 3) := by decide +kernel
theorem dX3_agrees_26 : decode cX3_agrees 26 = .ok (.iconst 0, 1) := by decide +kernel
theorem dX3_agrees_27 : decode cX3_agrees 27 = .ok (.ireturn, 1) := by decide +kernel
theorem dX4_init_0 : decode cX4_init 0 = .ok (.aload_n 0, 1) := by decide +kernel
theorem dX4_init_1 : decode cX4_init 1 = .ok (.invokespecial 3, 3) := by decide +kernel
theorem dX4_init_4 : decode cX4_init 4 = .ok (.aload_n 0, 1) := by decide +kernel
theorem dX4_init_5 : decode cX4_init 5 = .ok (.bipush 20, 2) := by decide +kernel
theorem dX4_init_7 : decode cX4_init 7 = .ok (.newarray .int, 2) := by decide +kernel
theorem dX4_init_9 : decode cX4_init 9 = .ok (.putfield 9, 3) := by decide +kernel
theorem dX4_init_12 : decode cX4_init 12 = .ok (.aload_n 0, 1) := by decide +kernel
theorem dX4_init_13 : decode cX4_init 13 = .ok (.iconst 0, 1) := by decide +kernel
theorem dX4_init_14 : decode cX4_init 14 = .ok (.putfield 13, 3) := by decide +kernel
theorem dX4_init_17 : decode cX4_init 17 = .ok (.aload_n 0, 1) := by decide +kernel
theorem dX4_init_18 : decode cX4_init 18 = .ok (.new 17, 3) := by decide +kernel
theorem dX4_init_21 : decode cX4_init 21 = .ok (.dup, 1) := by decide +kernel
theorem dX4_init_22 : decode cX4_init 22 = .ok (.invokespecial 19, 3) := by decide +kernel
theorem dX4_init_25 : decode cX4_init 25 = .ok (.putfield 20, 3) := by decide +kernel
theorem dX4_init_28 : decode cX4_init 28 = .ok (.aload_n 0, 1) := by decide +kernel
theorem dX4_init_29 : decode cX4_init 29 = .ok (.new 24, 3) := by decide +kernel
theorem dX4_init_32 : decode cX4_init 32 = .ok (.dup, 1) := by decide +kernel
theorem dX4_init_33 : decode cX4_init 33 = .ok (.invokespecial 26, 3) := by decide +kernel
theorem dX4_init_36 : decode cX4_init 36 = .ok (.putfield 27, 3) := by decide +kernel
theorem dX4_init_39 : decode cX4_init 39 = .ok (.aload_n 0, 1) := by decide +kernel
theorem dX4_init_40 : decode cX4_init 40 = .ok (.new 24, 3) := by decide +kernel
theorem dX4_init_43 : decode cX4_init 43 = .ok (.dup, 1) := by decide +kernel
theorem dX4_init_44 : decode cX4_init 44 = .ok (.invokespecial 26, 3) := by decide +kernel
theorem dX4_init_47 : decode cX4_init 47 = .ok (.putfield 31, 3) := by decide +kernel
theorem dX4_init_50 : decode cX4_init 50 = .ok (.aload_n 0, 1) := by decide +kernel
theorem dX4_init_51 : decode cX4_init 51 = .ok (.new 24, 3) := by decide +kernel
theorem dX4_init_54 : decode cX4_init 54 = .ok (.dup, 1) := by decide +kernel
theorem dX4_init_55 : decode cX4_init 55 = .ok (.invokespecial 26, 3) := by decide +kernel
theorem dX4_init_58 : decode cX4_init 58 = .ok (.putfield 34, 3) := by decide +kernel
theorem dX4_init_61 : decode cX4_init 61 = .ok (.aload_n 0, 1) := by decide +kernel
theorem dX4_init_62 : decode cX4_init 62 = .ok (.new 37, 3) := by decide +kernel
theorem dX4_init_65 : decode cX4_init 65 = .ok (.dup, 1) := by decide +kernel
theorem dX4_init_66 : decode cX4_init 66 = .ok (.invokespecial 39, 3) := by decide +kernel
theorem dX4_init_69 : decode cX4_init 69 = .ok (.putfield 40, 3) := by decide +kernel
theorem dX4_init_72 : decode cX4_init 72 = .ok (.aload_n 0, 1) := by decide +kernel
theorem dX4_init_73 : decode cX4_init 73 = .ok (.new 44, 3) := by decide +kernel
theorem dX4_init_76 : decode cX4_init 76 = .ok (.dup, 1) := by decide +kernel
theorem dX4_init_77 : decode cX4_init 77 = .ok (.invokespecial 46, 3) := by decide +kernel
theorem dX4_init_80 : decode cX4_init 80 = .ok (.putfield 47, 3) := by decide +kernel
theorem dX4_init_83 : decode cX4_init 83 = .ok (.aload_n 0, 1) := by decide +kernel
theorem dX4_init_84 : decode cX4_init 84 = .ok (.bipush 6, 2) := by decide +kernel
theorem dX4_init_86 : decode cX4_init 86 = .ok (.newarray .int, 2) := by decide +kernel
theorem dX4_init_88 : decode cX4_init 88 = .ok (.putfield 51, 3) := by decide +kernel
theorem dX4_init_91 : decode cX4_init 91 = .ok (.aload_n 0, 1) := by decide +kernel
theorem dX4_init_92 : decode cX4_init 92 = .ok (.iconst 0, 1) := by decide +kernel
theorem dX4_init_93 : decode cX4_init 93 = .ok (.putfield 54, 3) := by decide +kernel
theorem dX4_init_96 : decode cX4_init 96 = .ok (.aload_n 0, 1) := by decide +kernel
theorem dX4_init_97 : decode cX4_init 97 = .ok (.iconst 0, 1) := by decide +kernel
theorem dX4_init_98 : decode cX4_init 98 = .ok (.putfield 58, 3) := by decide +kernel
theorem dX4_init_101 : decode cX4_init 101 = .ok (.aload_n 0, 1) := by decide +kernel
theorem dX4_init_102 : decode cX4_init 102 = .ok (.iconst 0, 1) := by decide +kernel
theorem dX4_init_103 : decode cX4_init 103 = .ok (.putfield 61, 3) := by decide +kernel
theorem dX4_init_106 : decode cX4_init 106 = .ok (.return_, 1) := by decide +kernel
theorem dX4_letter_0 : decode cX4_letter 0 = .ok (.iload_n 1, 1) := by decide +kernel
theorem dX4_letter_1 : decode cX4_letter 1 = .ok (.iconst 1, 1) := by decide +kernel
theorem dX4_letter_2 : decode cX4_letter 2 = .ok (.if_icmp .lt 9, 3) := by decide +kernel
theorem dX4_letter_5 : decode cX4_letter 5 = .ok (.iload_n 1, 1) := by decide +kernel
theorem dX4_letter_6 : decode cX4_letter 6 = .ok (.bipush 126, 2) := by decide +kernel
theorem dX4_letter_8 : decode cX4_letter 8 = .ok (.if_icmp .le 6, 3) := by decide +kernel
theorem dX4_letter_11 : decode cX4_letter 11 = .ok (.bipush (-102), 2) := by decide +kernel
theorem dX4_letter_13 : decode cX4_letter 13 = .ok (.ireturn, 1) := by decide +kernel
theorem dX4_letter_14 : decode cX4_letter 14 = .ok (.aload_n 0, 1) := by decide +kernel
theorem dX4_letter_15 : decode cX4_letter 15 = .ok (.getfield 13, 3) := by decide +kernel
theorem dX4_letter_18 : decode cX4_letter 18 = .ok (.bipush 20, 2) := by decide +kernel
theorem dX4_letter_20 : decode cX4_letter 20 = .ok (.if_icmp .lt 6, 3) := by decide +kernel
theorem dX4_letter_23 : decode cX4_letter 23 = .ok (.bipush (-104), 2) := by decide +kernel
theorem dX4_letter_25 : decode cX4_letter 25 = .ok (.ireturn, 1) := by decide +kernel
theorem dX4_letter_26 : decode cX4_letter 26 = .ok (.aload_n 0, 1) := by decide +kernel
theorem dX4_letter_27 : decode cX4_letter 27 = .ok (.getfield 9, 3) := by decide +kernel
theorem dX4_letter_30 : decode cX4_letter 30 = .ok (.aload_n 0, 1) := by decide +kernel
theorem dX4_letter_31 : decode cX4_letter 31 = .ok (.getfield 13, 3) := by decide +kernel
theorem dX4_letter_34 : decode cX4_letter 34 = .ok (.iload_n 1, 1) := by decide +kernel
theorem dX4_letter_35 : decode cX4_letter 35 = .ok (.iastore, 1) := by decide +kernel
theorem dX4_letter_36 : decode cX4_letter 36 = .ok (.aload_n 0, 1) := by decide +kernel
theorem dX4_letter_37 : decode cX4_letter 37 = .ok (.dup, 1) := by decide +kernel
theorem dX4_letter_38 : decode cX4_letter 38 = .ok (.getfield 13, 3) := by decide +kernel
theorem dX4_letter_41 : decode cX4_letter 41 = .ok (.iconst 1, 1) := by decide +kernel
theorem dX4_letter_42 : decode cX4_letter 42 = .ok (.iadd, 1) := by decide +kernel
theorem dX4_letter_43 : decode cX4_letter 43 = .ok (.putfield 13, 3) := by decide +kernel
theorem dX4_letter_46 : decode cX4_letter 46 = .ok (.aload_n 0, 1) := by decide +kernel
theorem dX4_letter_47 : decode cX4_letter 47 = .ok (.getfield 13, 3) := by decide +kernel
theorem dX4_letter_50 : decode cX4_letter 50 = .ok (.ireturn, 1) := by decide +kernel
theorem dX4_blank_0 : decode cX4_blank 0 = .ok (.aload_n 0, 1) := by decide +kernel
theorem dX4_blank_1 : decode cX4_blank 1 = .ok (.getfield 13, 3) := by decide +kernel
theorem dX4_blank_4 : decode cX4_blank 4 = .ok (.istore_n 1, 1) := by decide +kernel
theorem dX4_blank_5 : decode cX4_blank 5 = .ok (.aload_n 0, 1) := by decide +kernel
theorem dX4_blank_6 : decode cX4_blank 6 = .ok (.iconst 0, 1) := by decide +kernel
theorem dX4_blank_7 : decode cX4_blank 7 = .ok (.putfield 13, 3) := by decide +kernel
theorem dX4_blank_10 : decode cX4_blank 10 = .ok (.iload_n 1, 1) := by decide +kernel
theorem dX4_blank_11 : decode cX4_blank 11 = .ok (.ireturn, 1) := by decide +kernel
theorem dX4_fault_0 : decode cX4_fault 0 = .ok (.iconst 0, 1) := by decide +kernel
theorem dX4_fault_1 : decode cX4_fault 1 = .ok (.istore_n 1, 1) := by decide +kernel
theorem dX4_fault_2 : decode cX4_fault 2 = .ok (.iload_n 1, 1) := by decide +kernel
theorem dX4_fault_3 : decode cX4_fault 3 = .ok (.aload_n 0, 1) := by decide +kernel
theorem dX4_fault_4 : decode cX4_fault 4 = .ok (.getfield 13, 3) := by decide +kernel
theorem dX4_fault_7 : decode cX4_fault 7 = .ok (.if_icmp .ge 24, 3) := by decide +kernel
theorem dX4_fault_10 : decode cX4_fault 10 = .ok (.iload_n 1, 1) := by decide +kernel
theorem dX4_fault_11 : decode cX4_fault 11 = .ok (.aload_n 0, 1) := by decide +kernel
theorem dX4_fault_12 : decode cX4_fault 12 = .ok (.getfield 9, 3) := by decide +kernel
theorem dX4_fault_15 : decode cX4_fault 15 = .ok (.iload_n 1, 1) := by decide +kernel
theorem dX4_fault_16 : decode cX4_fault 16 = .ok (.iaload, 1) := by decide +kernel
theorem dX4_fault_17 : decode cX4_fault 17 = .ok (.invokestatic 64, 3) := by decide +kernel
theorem dX4_fault_20 : decode cX4_fault 20 = .ok (.ifCond .ne 5, 3) := by decide +kernel
theorem dX4_fault_23 : decode cX4_fault 23 = .ok (.iload_n 1, 1) := by decide +kernel
theorem dX4_fault_24 : decode cX4_fault 24 = .ok (.ireturn, 1) := by decide +kernel
theorem dX4_fault_25 : decode cX4_fault 25 = .ok (.iinc 1 1, 3) := by decide +kernel
theorem dX4_fault_28 : decode cX4_fault 28 = .ok (.goto (-26), 3) := by decide +kernel
theorem dX4_fault_31 : decode cX4_fault 31 = .ok (.aload_n 0, 1) := by decide +kernel
theorem dX4_fault_32 : decode cX4_fault 32 = .ok (.getfield 13, 3) := by decide +kernel
theorem dX4_fault_35 : decode cX4_fault 35 = .ok (.ireturn, 1) := by decide +kernel
theorem dX4_dome_0 : decode cX4_dome 0 = .ok (.aload_n 0, 1) := by decide +kernel
theorem dX4_dome_1 : decode cX4_dome 1 = .ok (.getfield 13, 3) := by decide +kernel
theorem dX4_dome_4 : decode cX4_dome 4 = .ok (.bipush 17, 2) := by decide +kernel
theorem dX4_dome_6 : decode cX4_dome 6 = .ok (.if_icmp .ne 12, 3) := by decide +kernel
theorem dX4_dome_9 : decode cX4_dome 9 = .ok (.aload_n 0, 1) := by decide +kernel
theorem dX4_dome_10 : decode cX4_dome 10 = .ok (.invokevirtual 68, 3) := by decide +kernel
theorem dX4_dome_13 : decode cX4_dome 13 = .ok (.bipush 17, 2) := by decide +kernel
theorem dX4_dome_15 : decode cX4_dome 15 = .ok (.if_icmp .eq 6, 3) := by decide +kernel
theorem dX4_dome_18 : decode cX4_dome 18 = .ok (.bipush (-103), 2) := by decide +kernel
theorem dX4_dome_20 : decode cX4_dome 20 = .ok (.ireturn, 1) := by decide +kernel
theorem dX4_dome_21 : decode cX4_dome 21 = .ok (.aload_n 0, 1) := by decide +kernel
theorem dX4_dome_22 : decode cX4_dome 22 = .ok (.getfield 20, 3) := by decide +kernel
theorem dX4_dome_25 : decode cX4_dome 25 = .ok (.aload_n 0, 1) := by decide +kernel
theorem dX4_dome_26 : decode cX4_dome 26 = .ok (.getfield 9, 3) := by decide +kernel
theorem dX4_dome_29 : decode cX4_dome 29 = .ok (.invokevirtual 72, 3) := by decide +kernel
theorem dX4_dome_32 : decode cX4_dome 32 = .ok (.aload_n 0, 1) := by decide +kernel
theorem dX4_dome_33 : decode cX4_dome 33 = .ok (.getfield 27, 3) := by decide +kernel
theorem dX4_dome_36 : decode cX4_dome 36 = .ok (.invokevirtual 76, 3) := by decide +kernel
theorem dX4_dome_39 : decode cX4_dome 39 = .ok (.aload_n 0, 1) := by decide +kernel
theorem dX4_dome_40 : decode cX4_dome 40 = .ok (.iconst 0, 1) := by decide +kernel
theorem dX4_dome_41 : decode cX4_dome 41 = .ok (.putfield 54, 3) := by decide +kernel
theorem dX4_dome_44 : decode cX4_dome 44 = .ok (.aload_n 0, 1) := by decide +kernel
theorem dX4_dome_45 : decode cX4_dome 45 = .ok (.dup, 1) := by decide +kernel
theorem dX4_dome_46 : decode cX4_dome 46 = .ok (.getfield 58, 3) := by decide +kernel
theorem dX4_dome_49 : decode cX4_dome 49 = .ok (.iconst 1, 1) := by decide +kernel
theorem dX4_dome_50 : decode cX4_dome 50 = .ok (.iadd, 1) := by decide +kernel
theorem dX4_dome_51 : decode cX4_dome 51 = .ok (.putfield 58, 3) := by decide +kernel
theorem dX4_dome_54 : decode cX4_dome 54 = .ok (.aload_n 0, 1) := by decide +kernel
theorem dX4_dome_55 : decode cX4_dome 55 = .ok (.iconst 0, 1) := by decide +kernel
theorem dX4_dome_56 : decode cX4_dome 56 = .ok (.putfield 13, 3) := by decide +kernel
theorem dX4_dome_59 : decode cX4_dome 59 = .ok (.aload_n 0, 1) := by decide +kernel
theorem dX4_dome_60 : decode cX4_dome 60 = .ok (.getfield 20, 3) := by decide +kernel
theorem dX4_dome_63 : decode cX4_dome 63 = .ok (.invokevirtual 79, 3) := by decide +kernel
theorem dX4_dome_66 : decode cX4_dome 66 = .ok (.ireturn, 1) := by decide +kernel
theorem dX4_place_0 : decode cX4_place 0 = .ok (.aload_n 0, 1) := by decide +kernel
theorem dX4_place_1 : decode cX4_place 1 = .ok (.iload_n 1, 1) := by decide +kernel
theorem dX4_place_2 : decode cX4_place 2 = .ok (.invokevirtual 82, 3) := by decide +kernel
theorem dX4_place_5 : decode cX4_place 5 = .ok (.ifCond .ne 6, 3) := by decide +kernel
theorem dX4_place_8 : decode cX4_place 8 = .ok (.bipush (-101), 2) := by decide +kernel
theorem dX4_place_10 : decode cX4_place 10 = .ok (.ireturn, 1) := by decide +kernel
theorem dX4_place_11 : decode cX4_place 11 = .ok (.iload_n 2, 1) := by decide +kernel
theorem dX4_place_12 : decode cX4_place 12 = .ok (.tableswitch 107 0 5 #[40, 50, 60, 80, 89, 98], 40) := by decide +kernel
theorem dX4_place_52 : decode cX4_place 52 = .ok (.aload_n 0, 1) := by decide +kernel
theorem dX4_place_53 : decode cX4_place 53 = .ok (.getfield 20, 3) := by decide +kernel
theorem dX4_place_56 : decode cX4_place 56 = .ok (.getfield 86, 3) := by decide +kernel
theorem dX4_place_59 : decode cX4_place 59 = .ok (.iload_n 1, 1) := by decide +kernel
theorem dX4_place_60 : decode cX4_place 60 = .ok (.iaload, 1) := by decide +kernel
theorem dX4_place_61 : decode cX4_place 61 = .ok (.ireturn, 1) := by decide +kernel
theorem dX4_place_62 : decode cX4_place 62 = .ok (.aload_n 0, 1) := by decide +kernel
theorem dX4_place_63 : decode cX4_place 63 = .ok (.getfield 20, 3) := by decide +kernel
theorem dX4_place_66 : decode cX4_place 66 = .ok (.getfield 89, 3) := by decide +kernel
theorem dX4_place_69 : decode cX4_place 69 = .ok (.iload_n 1, 1) := by decide +kernel
theorem dX4_place_70 : decode cX4_place 70 = .ok (.iaload, 1) := by decide +kernel
theorem dX4_place_71 : decode cX4_place 71 = .ok (.ireturn, 1) := by decide +kernel
theorem dX4_place_72 : decode cX4_place 72 = .ok (.aload_n 0, 1) := by decide +kernel
theorem dX4_place_73 : decode cX4_place 73 = .ok (.getfield 27, 3) := by decide +kernel
theorem dX4_place_76 : decode cX4_place 76 = .ok (.getfield 92, 3) := by decide +kernel
theorem dX4_place_79 : decode cX4_place 79 = .ok (.iload_n 1, 1) := by decide +kernel
theorem dX4_place_80 : decode cX4_place 80 = .ok (.invokestatic 95, 3) := by decide +kernel
theorem dX4_place_83 : decode cX4_place 83 = .ok (.ifCond .eq 7, 3) := by decide +kernel
theorem dX4_place_86 : decode cX4_place 86 = .ok (.iconst 1, 1) := by decide +kernel
theorem dX4_place_87 : decode cX4_place 87 = .ok (.goto 4, 3) := by decide +kernel
theorem dX4_place_90 : decode cX4_place 90 = .ok (.iconst 0, 1) := by decide +kernel
theorem dX4_place_91 : decode cX4_place 91 = .ok (.ireturn, 1) := by decide +kernel
theorem dX4_place_92 : decode cX4_place 92 = .ok (.aload_n 0, 1) := by decide +kernel
theorem dX4_place_93 : decode cX4_place 93 = .ok (.getfield 27, 3) := by decide +kernel
theorem dX4_place_96 : decode cX4_place 96 = .ok (.iload_n 1, 1) := by decide +kernel
theorem dX4_place_97 : decode cX4_place 97 = .ok (.invokevirtual 98, 3) := by decide +kernel
theorem dX4_place_100 : decode cX4_place 100 = .ok (.ireturn, 1) := by decide +kernel
theorem dX4_place_101 : decode cX4_place 101 = .ok (.aload_n 0, 1) := by decide +kernel
theorem dX4_place_102 : decode cX4_place 102 = .ok (.getfield 20, 3) := by decide +kernel
theorem dX4_place_105 : decode cX4_place 105 = .ok (.iload_n 1, 1) := by decide +kernel
theorem dX4_place_106 : decode cX4_place 106 = .ok (.invokevirtual 102, 3) := by decide +kernel
theorem dX4_place_109 : decode cX4_place 109 = .ok (.ireturn, 1) := by decide +kernel
theorem dX4_place_110 : decode cX4_place 110 = .ok (.aload_n 0, 1) := by decide +kernel
theorem dX4_place_111 : decode cX4_place 111 = .ok (.getfield 20, 3) := by decide +kernel
theorem dX4_place_114 : decode cX4_place 114 = .ok (.iload_n 1, 1) := by decide +kernel
theorem dX4_place_115 : decode cX4_place 115 = .ok (.invokevirtual 105, 3) := by decide +kernel
theorem dX4_place_118 : decode cX4_place 118 = .ok (.ireturn, 1) := by decide +kernel
theorem dX4_place_119 : decode cX4_place 119 = .ok (.bipush (-102), 2) := by decide +kernel
theorem dX4_place_121 : decode cX4_place 121 = .ok (.ireturn, 1) := by decide +kernel
theorem dX4_cloth_0 : decode cX4_cloth 0 = .ok (.aload_n 0, 1) := by decide +kernel
theorem dX4_cloth_1 : decode cX4_cloth 1 = .ok (.iload_n 1, 1) := by decide +kernel
theorem dX4_cloth_2 : decode cX4_cloth 2 = .ok (.invokevirtual 82, 3) := by decide +kernel
theorem dX4_cloth_5 : decode cX4_cloth 5 = .ok (.ifCond .ne 6, 3) := by decide +kernel
theorem dX4_cloth_8 : decode cX4_cloth 8 = .ok (.bipush (-101), 2) := by decide +kernel
theorem dX4_cloth_10 : decode cX4_cloth 10 = .ok (.ireturn, 1) := by decide +kernel
theorem dX4_cloth_11 : decode cX4_cloth 11 = .ok (.aload_n 0, 1) := by decide +kernel
theorem dX4_cloth_12 : decode cX4_cloth 12 = .ok (.getfield 27, 3) := by decide +kernel
theorem dX4_cloth_15 : decode cX4_cloth 15 = .ok (.getfield 92, 3) := by decide +kernel
theorem dX4_cloth_18 : decode cX4_cloth 18 = .ok (.iload_n 1, 1) := by decide +kernel
theorem dX4_cloth_19 : decode cX4_cloth 19 = .ok (.invokestatic 95, 3) := by decide +kernel
theorem dX4_cloth_22 : decode cX4_cloth 22 = .ok (.ifCond .eq 7, 3) := by decide +kernel
theorem dX4_cloth_25 : decode cX4_cloth 25 = .ok (.iconst 1, 1) := by decide +kernel
theorem dX4_cloth_26 : decode cX4_cloth 26 = .ok (.goto 4, 3) := by decide +kernel
theorem dX4_cloth_29 : decode cX4_cloth 29 = .ok (.iconst 0, 1) := by decide +kernel
theorem dX4_cloth_30 : decode cX4_cloth 30 = .ok (.istore_n 3, 1) := by decide +kernel
theorem dX4_cloth_31 : decode cX4_cloth 31 = .ok (.aload_n 0, 1) := by decide +kernel
theorem dX4_cloth_32 : decode cX4_cloth 32 = .ok (.getfield 27, 3) := by decide +kernel
theorem dX4_cloth_35 : decode cX4_cloth 35 = .ok (.iload_n 2, 1) := by decide +kernel
theorem dX4_cloth_36 : decode cX4_cloth 36 = .ok (.ifCond .eq 17, 3) := by decide +kernel
theorem dX4_cloth_39 : decode cX4_cloth 39 = .ok (.aload_n 0, 1) := by decide +kernel
theorem dX4_cloth_40 : decode cX4_cloth 40 = .ok (.getfield 27, 3) := by decide +kernel
theorem dX4_cloth_43 : decode cX4_cloth 43 = .ok (.getfield 92, 3) := by decide +kernel
theorem dX4_cloth_46 : decode cX4_cloth 46 = .ok (.iconst 1, 1) := by decide +kernel
theorem dX4_cloth_47 : decode cX4_cloth 47 = .ok (.iload_n 1, 1) := by decide +kernel
theorem dX4_cloth_48 : decode cX4_cloth 48 = .ok (.ishl, 1) := by decide +kernel
theorem dX4_cloth_49 : decode cX4_cloth 49 = .ok (.ior, 1) := by decide +kernel
theorem dX4_cloth_50 : decode cX4_cloth 50 = .ok (.goto 16, 3) := by decide +kernel
theorem dX4_cloth_53 : decode cX4_cloth 53 = .ok (.aload_n 0, 1) := by decide +kernel
theorem dX4_cloth_54 : decode cX4_cloth 54 = .ok (.getfield 27, 3) := by decide +kernel
theorem dX4_cloth_57 : decode cX4_cloth 57 = .ok (.getfield 92, 3) := by decide +kernel
theorem dX4_cloth_60 : decode cX4_cloth 60 = .ok (.iconst 1, 1) := by decide +kernel
theorem dX4_cloth_61 : decode cX4_cloth 61 = .ok (.iload_n 1, 1) := by decide +kernel
theorem dX4_cloth_62 : decode cX4_cloth 62 = .ok (.ishl, 1) := by decide +kernel
theorem dX4_cloth_63 : decode cX4_cloth 63 = .ok (.iconst (-1), 1) := by decide +kernel
theorem dX4_cloth_64 : decode cX4_cloth 64 = .ok (.ixor, 1) := by decide +kernel
theorem dX4_cloth_65 : decode cX4_cloth 65 = .ok (.iand, 1) := by decide +kernel
theorem dX4_cloth_66 : decode cX4_cloth 66 = .ok (.putfield 92, 3) := by decide +kernel
theorem dX4_cloth_69 : decode cX4_cloth 69 = .ok (.iload_n 3, 1) := by decide +kernel
theorem dX4_cloth_70 : decode cX4_cloth 70 = .ok (.ireturn, 1) := by decide +kernel
theorem dX4_person_0 : decode cX4_person 0 = .ok (.iload_n 1, 1) := by decide +kernel
theorem dX4_person_1 : decode cX4_person 1 = .ok (.invokestatic 108, 3) := by decide +kernel
theorem dX4_person_4 : decode cX4_person 4 = .ok (.ifCond .ne 6, 3) := by decide +kernel
theorem dX4_person_7 : decode cX4_person 7 = .ok (.bipush (-102), 2) := by decide +kernel
theorem dX4_person_9 : decode cX4_person 9 = .ok (.ireturn, 1) := by decide +kernel
theorem dX4_person_10 : decode cX4_person 10 = .ok (.aload_n 0, 1) := by decide +kernel
theorem dX4_person_11 : decode cX4_person 11 = .ok (.iload_n 2, 1) := by decide +kernel
theorem dX4_person_12 : decode cX4_person 12 = .ok (.invokevirtual 82, 3) := by decide +kernel
theorem dX4_person_15 : decode cX4_person 15 = .ok (.ifCond .ne 6, 3) := by decide +kernel
theorem dX4_person_18 : decode cX4_person 18 = .ok (.bipush (-101), 2) := by decide +kernel
theorem dX4_person_20 : decode cX4_person 20 = .ok (.ireturn, 1) := by decide +kernel
theorem dX4_person_21 : decode cX4_person 21 = .ok (.aload_n 0, 1) := by decide +kernel
theorem dX4_person_22 : decode cX4_person 22 = .ok (.getfield 27, 3) := by decide +kernel
theorem dX4_person_25 : decode cX4_person 25 = .ok (.getfield 111, 3) := by decide +kernel
theorem dX4_person_28 : decode cX4_person 28 = .ok (.bipush 6, 2) := by decide +kernel
theorem dX4_person_30 : decode cX4_person 30 = .ok (.if_icmp .lt 6, 3) := by decide +kernel
theorem dX4_person_33 : decode cX4_person 33 = .ok (.bipush (-104), 2) := by decide +kernel
theorem dX4_person_35 : decode cX4_person 35 = .ok (.ireturn, 1) := by decide +kernel
theorem dX4_person_36 : decode cX4_person 36 = .ok (.aload_n 0, 1) := by decide +kernel
theorem dX4_person_37 : decode cX4_person 37 = .ok (.getfield 27, 3) := by decide +kernel
theorem dX4_person_40 : decode cX4_person 40 = .ok (.iload_n 1, 1) := by decide +kernel
theorem dX4_person_41 : decode cX4_person 41 = .ok (.iload_n 2, 1) := by decide +kernel
theorem dX4_person_42 : decode cX4_person 42 = .ok (.invokevirtual 114, 3) := by decide +kernel
theorem dX4_person_45 : decode cX4_person 45 = .ok (.ireturn, 1) := by decide +kernel
theorem dX4_about_0 : decode cX4_about 0 = .ok (.aload_n 0, 1) := by decide +kernel
theorem dX4_about_1 : decode cX4_about 1 = .ok (.iload_n 1, 1) := by decide +kernel
theorem dX4_about_2 : decode cX4_about 2 = .ok (.invokevirtual 118, 3) := by decide +kernel
theorem dX4_about_5 : decode cX4_about 5 = .ok (.ifCond .ne 6, 3) := by decide +kernel
theorem dX4_about_8 : decode cX4_about 8 = .ok (.bipush (-101), 2) := by decide +kernel
theorem dX4_about_10 : decode cX4_about 10 = .ok (.ireturn, 1) := by decide +kernel
theorem dX4_about_11 : decode cX4_about 11 = .ok (.iload_n 2, 1) := by decide +kernel
theorem dX4_about_12 : decode cX4_about 12 = .ok (.tableswitch 79 0 3 #[32, 42, 52, 62], 32) := by decide +kernel
theorem dX4_about_44 : decode cX4_about 44 = .ok (.aload_n 0, 1) := by decide +kernel
theorem dX4_about_45 : decode cX4_about 45 = .ok (.getfield 27, 3) := by decide +kernel
theorem dX4_about_48 : decode cX4_about 48 = .ok (.getfield 121, 3) := by decide +kernel
theorem dX4_about_51 : decode cX4_about 51 = .ok (.iload_n 1, 1) := by decide +kernel
theorem dX4_about_52 : decode cX4_about 52 = .ok (.iaload, 1) := by decide +kernel
theorem dX4_about_53 : decode cX4_about 53 = .ok (.ireturn, 1) := by decide +kernel
theorem dX4_about_54 : decode cX4_about 54 = .ok (.aload_n 0, 1) := by decide +kernel
theorem dX4_about_55 : decode cX4_about 55 = .ok (.getfield 27, 3) := by decide +kernel
theorem dX4_about_58 : decode cX4_about 58 = .ok (.getfield 124, 3) := by decide +kernel
theorem dX4_about_61 : decode cX4_about 61 = .ok (.iload_n 1, 1) := by decide +kernel
theorem dX4_about_62 : decode cX4_about 62 = .ok (.iaload, 1) := by decide +kernel
theorem dX4_about_63 : decode cX4_about 63 = .ok (.ireturn, 1) := by decide +kernel
theorem dX4_about_64 : decode cX4_about 64 = .ok (.aload_n 0, 1) := by decide +kernel
theorem dX4_about_65 : decode cX4_about 65 = .ok (.getfield 27, 3) := by decide +kernel
theorem dX4_about_68 : decode cX4_about 68 = .ok (.getfield 127, 3) := by decide +kernel
theorem dX4_about_71 : decode cX4_about 71 = .ok (.iload_n 1, 1) := by decide +kernel
theorem dX4_about_72 : decode cX4_about 72 = .ok (.iaload, 1) := by decide +kernel
theorem dX4_about_73 : decode cX4_about 73 = .ok (.ireturn, 1) := by decide +kernel
theorem dX4_about_74 : decode cX4_about 74 = .ok (.aload_n 0, 1) := by decide +kernel
theorem dX4_about_75 : decode cX4_about 75 = .ok (.getfield 40, 3) := by decide +kernel
theorem dX4_about_78 : decode cX4_about 78 = .ok (.aload_n 0, 1) := by decide +kernel
theorem dX4_about_79 : decode cX4_about 79 = .ok (.getfield 20, 3) := by decide +kernel
theorem dX4_about_82 : decode cX4_about 82 = .ok (.aload_n 0, 1) := by decide +kernel
theorem dX4_about_83 : decode cX4_about 83 = .ok (.getfield 27, 3) := by decide +kernel
theorem dX4_about_86 : decode cX4_about 86 = .ok (.iload_n 1, 1) := by decide +kernel
theorem dX4_about_87 : decode cX4_about 87 = .ok (.invokevirtual 130, 3) := by decide +kernel
theorem dX4_about_90 : decode cX4_about 90 = .ok (.ireturn, 1) := by decide +kernel
theorem dX4_about_91 : decode cX4_about 91 = .ok (.bipush (-102), 2) := by decide +kernel
theorem dX4_about_93 : decode cX4_about 93 = .ok (.ireturn, 1) := by decide +kernel
theorem dX4_as_0 : decode cX4_as 0 = .ok (.aload_n 0, 1) := by decide +kernel
theorem dX4_as_1 : decode cX4_as 1 = .ok (.iload_n 1, 1) := by decide +kernel
theorem dX4_as_2 : decode cX4_as 2 = .ok (.invokevirtual 118, 3) := by decide +kernel
theorem dX4_as_5 : decode cX4_as 5 = .ok (.ifCond .ne 6, 3) := by decide +kernel
theorem dX4_as_8 : decode cX4_as 8 = .ok (.bipush (-101), 2) := by decide +kernel
theorem dX4_as_10 : decode cX4_as 10 = .ok (.ireturn, 1) := by decide +kernel
theorem dX4_as_11 : decode cX4_as 11 = .ok (.iload_n 2, 1) := by decide +kernel
theorem dX4_as_12 : decode cX4_as 12 = .ok (.invokestatic 108, 3) := by decide +kernel
theorem dX4_as_15 : decode cX4_as 15 = .ok (.ifCond .ne 6, 3) := by decide +kernel
theorem dX4_as_18 : decode cX4_as 18 = .ok (.bipush (-102), 2) := by decide +kernel
theorem dX4_as_20 : decode cX4_as 20 = .ok (.ireturn, 1) := by decide +kernel
theorem dX4_as_21 : decode cX4_as 21 = .ok (.aload_n 0, 1) := by decide +kernel
theorem dX4_as_22 : decode cX4_as 22 = .ok (.getfield 27, 3) := by decide +kernel
theorem dX4_as_25 : decode cX4_as 25 = .ok (.getfield 121, 3) := by decide +kernel
theorem dX4_as_28 : decode cX4_as 28 = .ok (.iload_n 1, 1) := by decide +kernel
theorem dX4_as_29 : decode cX4_as 29 = .ok (.iaload, 1) := by decide +kernel
theorem dX4_as_30 : decode cX4_as 30 = .ok (.iload_n 2, 1) := by decide +kernel
theorem dX4_as_31 : decode cX4_as 31 = .ok (.invokestatic 134, 3) := by decide +kernel
theorem dX4_as_34 : decode cX4_as 34 = .ok (.ifCond .eq 7, 3) := by decide +kernel
theorem dX4_as_37 : decode cX4_as 37 = .ok (.iload_n 1, 1) := by decide +kernel
theorem dX4_as_38 : decode cX4_as 38 = .ok (.goto 4, 3) := by decide +kernel
theorem dX4_as_41 : decode cX4_as 41 = .ok (.iconst (-1), 1) := by decide +kernel
theorem dX4_as_42 : decode cX4_as 42 = .ok (.ireturn, 1) := by decide +kernel
theorem dX4_move_0 : decode cX4_move 0 = .ok (.aload_n 0, 1) := by decide +kernel
theorem dX4_move_1 : decode cX4_move 1 = .ok (.iload_n 1, 1) := by decide +kernel
theorem dX4_move_2 : decode cX4_move 2 = .ok (.invokevirtual 118, 3) := by decide +kernel
theorem dX4_move_5 : decode cX4_move 5 = .ok (.ifCond .eq 11, 3) := by decide +kernel
theorem dX4_move_8 : decode cX4_move 8 = .ok (.aload_n 0, 1) := by decide +kernel
theorem dX4_move_9 : decode cX4_move 9 = .ok (.iload_n 2, 1) := by decide +kernel
theorem dX4_move_10 : decode cX4_move 10 = .ok (.invokevirtual 82, 3) := by decide +kernel
theorem dX4_move_13 : decode cX4_move 13 = .ok (.ifCond .ne 6, 3) := by decide +kernel
theorem dX4_move_16 : decode cX4_move 16 = .ok (.bipush (-101), 2) := by decide +kernel
theorem dX4_move_18 : decode cX4_move 18 = .ok (.ireturn, 1) := by decide +kernel
theorem dX4_move_19 : decode cX4_move 19 = .ok (.aload_n 0, 1) := by decide +kernel
theorem dX4_move_20 : decode cX4_move 20 = .ok (.getfield 27, 3) := by decide +kernel
theorem dX4_move_23 : decode cX4_move 23 = .ok (.getfield 124, 3) := by decide +kernel
theorem dX4_move_26 : decode cX4_move 26 = .ok (.iload_n 1, 1) := by decide +kernel
theorem dX4_move_27 : decode cX4_move 27 = .ok (.iaload, 1) := by decide +kernel
theorem dX4_move_28 : decode cX4_move 28 = .ok (.istore_n 3, 1) := by decide +kernel
theorem dX4_move_29 : decode cX4_move 29 = .ok (.aload_n 0, 1) := by decide +kernel
theorem dX4_move_30 : decode cX4_move 30 = .ok (.getfield 27, 3) := by decide +kernel
theorem dX4_move_33 : decode cX4_move 33 = .ok (.getfield 124, 3) := by decide +kernel
theorem dX4_move_36 : decode cX4_move 36 = .ok (.iload_n 1, 1) := by decide +kernel
theorem dX4_move_37 : decode cX4_move 37 = .ok (.iload_n 2, 1) := by decide +kernel
theorem dX4_move_38 : decode cX4_move 38 = .ok (.iastore, 1) := by decide +kernel
theorem dX4_move_39 : decode cX4_move 39 = .ok (.iload_n 3, 1) := by decide +kernel
theorem dX4_move_40 : decode cX4_move 40 = .ok (.ireturn, 1) := by decide +kernel
theorem dX4_say_0 : decode cX4_say 0 = .ok (.aload_n 0, 1) := by decide +kernel
theorem dX4_say_1 : decode cX4_say 1 = .ok (.iload_n 1, 1) := by decide +kernel
theorem dX4_say_2 : decode cX4_say 2 = .ok (.invokevirtual 118, 3) := by decide +kernel
theorem dX4_say_5 : decode cX4_say 5 = .ok (.ifCond .ne 6, 3) := by decide +kernel
theorem dX4_say_8 : decode cX4_say 8 = .ok (.bipush (-101), 2) := by decide +kernel
theorem dX4_say_10 : decode cX4_say 10 = .ok (.ireturn, 1) := by decide +kernel
theorem dX4_say_11 : decode cX4_say 11 = .ok (.iload_n 2, 1) := by decide +kernel
theorem dX4_say_12 : decode cX4_say 12 = .ok (.ifCond .lt 9, 3) := by decide +kernel
theorem dX4_say_15 : decode cX4_say 15 = .ok (.iload_n 2, 1) := by decide +kernel
theorem dX4_say_16 : decode cX4_say 16 = .ok (.bipush 10, 2) := by decide +kernel
theorem dX4_say_18 : decode cX4_say 18 = .ok (.if_icmp .lt 6, 3) := by decide +kernel
theorem dX4_say_21 : decode cX4_say 21 = .ok (.bipush (-102), 2) := by decide +kernel
theorem dX4_say_23 : decode cX4_say 23 = .ok (.ireturn, 1) := by decide +kernel
theorem dX4_say_24 : decode cX4_say 24 = .ok (.aload_n 0, 1) := by decide +kernel
theorem dX4_say_25 : decode cX4_say 25 = .ok (.getfield 27, 3) := by decide +kernel
theorem dX4_say_28 : decode cX4_say 28 = .ok (.getfield 121, 3) := by decide +kernel
theorem dX4_say_31 : decode cX4_say 31 = .ok (.iload_n 1, 1) := by decide +kernel
theorem dX4_say_32 : decode cX4_say 32 = .ok (.iaload, 1) := by decide +kernel
theorem dX4_say_33 : decode cX4_say 33 = .ok (.iconst 3, 1) := by decide +kernel
theorem dX4_say_34 : decode cX4_say 34 = .ok (.if_icmp .ne 6, 3) := by decide +kernel
theorem dX4_say_37 : decode cX4_say 37 = .ok (.bipush (-103), 2) := by decide +kernel
theorem dX4_say_39 : decode cX4_say 39 = .ok (.ireturn, 1) := by decide +kernel
theorem dX4_say_40 : decode cX4_say 40 = .ok (.aload_n 0, 1) := by decide +kernel
theorem dX4_say_41 : decode cX4_say 41 = .ok (.getfield 27, 3) := by decide +kernel
theorem dX4_say_44 : decode cX4_say 44 = .ok (.dup, 1) := by decide +kernel
theorem dX4_say_45 : decode cX4_say 45 = .ok (.getfield 137, 3) := by decide +kernel
theorem dX4_say_48 : decode cX4_say 48 = .ok (.iconst 1, 1) := by decide +kernel
theorem dX4_say_49 : decode cX4_say 49 = .ok (.iadd, 1) := by decide +kernel
theorem dX4_say_50 : decode cX4_say 50 = .ok (.putfield 137, 3) := by decide +kernel
theorem dX4_say_53 : decode cX4_say 53 = .ok (.aload_n 0, 1) := by decide +kernel
theorem dX4_say_54 : decode cX4_say 54 = .ok (.aload_n 0, 1) := by decide +kernel
theorem dX4_say_55 : decode cX4_say 55 = .ok (.getfield 27, 3) := by decide +kernel
theorem dX4_say_58 : decode cX4_say 58 = .ok (.iload_n 1, 1) := by decide +kernel
theorem dX4_say_59 : decode cX4_say 59 = .ok (.iload_n 2, 1) := by decide +kernel
theorem dX4_say_60 : decode cX4_say 60 = .ok (.invokevirtual 140, 3) := by decide +kernel
theorem dX4_say_63 : decode cX4_say 63 = .ok (.ireturn, 1) := by decide +kernel
theorem dX4_hears_0 : decode cX4_hears 0 = .ok (.aload_n 0, 1) := by decide +kernel
theorem dX4_hears_1 : decode cX4_hears 1 = .ok (.iload_n 1, 1) := by decide +kernel
theorem dX4_hears_2 : decode cX4_hears 2 = .ok (.invokevirtual 118, 3) := by decide +kernel
theorem dX4_hears_5 : decode cX4_hears 5 = .ok (.ifCond .eq 11, 3) := by decide +kernel
theorem dX4_hears_8 : decode cX4_hears 8 = .ok (.aload_n 0, 1) := by decide +kernel
theorem dX4_hears_9 : decode cX4_hears 9 = .ok (.iload_n 2, 1) := by decide +kernel
theorem dX4_hears_10 : decode cX4_hears 10 = .ok (.invokevirtual 118, 3) := by decide +kernel
theorem dX4_hears_13 : decode cX4_hears 13 = .ok (.ifCond .ne 6, 3) := by decide +kernel
theorem dX4_hears_16 : decode cX4_hears 16 = .ok (.bipush (-101), 2) := by decide +kernel
theorem dX4_hears_18 : decode cX4_hears 18 = .ok (.ireturn, 1) := by decide +kernel
theorem dX4_hears_19 : decode cX4_hears 19 = .ok (.aload_n 0, 1) := by decide +kernel
theorem dX4_hears_20 : decode cX4_hears 20 = .ok (.getfield 40, 3) := by decide +kernel
theorem dX4_hears_23 : decode cX4_hears 23 = .ok (.aload_n 0, 1) := by decide +kernel
theorem dX4_hears_24 : decode cX4_hears 24 = .ok (.getfield 20, 3) := by decide +kernel
theorem dX4_hears_27 : decode cX4_hears 27 = .ok (.aload_n 0, 1) := by decide +kernel
theorem dX4_hears_28 : decode cX4_hears 28 = .ok (.getfield 27, 3) := by decide +kernel
theorem dX4_hears_31 : decode cX4_hears 31 = .ok (.iload_n 1, 1) := by decide +kernel
theorem dX4_hears_32 : decode cX4_hears 32 = .ok (.invokevirtual 130, 3) := by decide +kernel
theorem dX4_hears_35 : decode cX4_hears 35 = .ok (.pop, 1) := by decide +kernel
theorem dX4_hears_36 : decode cX4_hears 36 = .ok (.aload_n 0, 1) := by decide +kernel
theorem dX4_hears_37 : decode cX4_hears 37 = .ok (.getfield 40, 3) := by decide +kernel
theorem dX4_hears_40 : decode cX4_hears 40 = .ok (.getfield 144, 3) := by decide +kernel
theorem dX4_hears_43 : decode cX4_hears 43 = .ok (.iload_n 2, 1) := by decide +kernel
theorem dX4_hears_44 : decode cX4_hears 44 = .ok (.iaload, 1) := by decide +kernel
theorem dX4_hears_45 : decode cX4_hears 45 = .ok (.ireturn, 1) := by decide +kernel
theorem dX4_screens_0 : decode cX4_screens 0 = .ok (.aload_n 0, 1) := by decide +kernel
theorem dX4_screens_1 : decode cX4_screens 1 = .ok (.iload_n 1, 1) := by decide +kernel
theorem dX4_screens_2 : decode cX4_screens 2 = .ok (.iload_n 2, 1) := by decide +kernel
theorem dX4_screens_3 : decode cX4_screens 3 = .ok (.invokevirtual 147, 3) := by decide +kernel
theorem dX4_screens_6 : decode cX4_screens 6 = .ok (.ifCond .ne 6, 3) := by decide +kernel
theorem dX4_screens_9 : decode cX4_screens 9 = .ok (.bipush (-101), 2) := by decide +kernel
theorem dX4_screens_11 : decode cX4_screens 11 = .ok (.ireturn, 1) := by decide +kernel
theorem dX4_screens_12 : decode cX4_screens 12 = .ok (.iload_n 3, 1) := by decide +kernel
theorem dX4_screens_13 : decode cX4_screens 13 = .ok (.ifCond .lt 8, 3) := by decide +kernel
theorem dX4_screens_16 : decode cX4_screens 16 = .ok (.iload_n 3, 1) := by decide +kernel
theorem dX4_screens_17 : decode cX4_screens 17 = .ok (.iconst 1, 1) := by decide +kernel
theorem dX4_screens_18 : decode cX4_screens 18 = .ok (.if_icmp .le 6, 3) := by decide +kernel
theorem dX4_screens_21 : decode cX4_screens 21 = .ok (.bipush (-102), 2) := by decide +kernel
theorem dX4_screens_23 : decode cX4_screens 23 = .ok (.ireturn, 1) := by decide +kernel
theorem dX4_screens_24 : decode cX4_screens 24 = .ok (.aload_n 0, 1) := by decide +kernel
theorem dX4_screens_25 : decode cX4_screens 25 = .ok (.getfield 61, 3) := by decide +kernel
theorem dX4_screens_28 : decode cX4_screens 28 = .ok (.bipush 20, 2) := by decide +kernel
theorem dX4_screens_30 : decode cX4_screens 30 = .ok (.if_icmp .lt 6, 3) := by decide +kernel
theorem dX4_screens_33 : decode cX4_screens 33 = .ok (.bipush (-103), 2) := by decide +kernel
theorem dX4_screens_35 : decode cX4_screens 35 = .ok (.ireturn, 1) := by decide +kernel
theorem dX4_screens_36 : decode cX4_screens 36 = .ok (.aload_n 0, 1) := by decide +kernel
theorem dX4_screens_37 : decode cX4_screens 37 = .ok (.dup, 1) := by decide +kernel
theorem dX4_screens_38 : decode cX4_screens 38 = .ok (.getfield 61, 3) := by decide +kernel
theorem dX4_screens_41 : decode cX4_screens 41 = .ok (.iconst 1, 1) := by decide +kernel
theorem dX4_screens_42 : decode cX4_screens 42 = .ok (.iadd, 1) := by decide +kernel
theorem dX4_screens_43 : decode cX4_screens 43 = .ok (.putfield 61, 3) := by decide +kernel
theorem dX4_screens_46 : decode cX4_screens 46 = .ok (.aload_n 0, 1) := by decide +kernel
theorem dX4_screens_47 : decode cX4_screens 47 = .ok (.iload_n 1, 1) := by decide +kernel
theorem dX4_screens_48 : decode cX4_screens 48 = .ok (.iload_n 2, 1) := by decide +kernel
theorem dX4_screens_49 : decode cX4_screens 49 = .ok (.invokevirtual 150, 3) := by decide +kernel
theorem dX4_screens_52 : decode cX4_screens 52 = .ok (.istore 4, 2) := by decide +kernel
theorem dX4_screens_54 : decode cX4_screens 54 = .ok (.iload 4, 2) := by decide +kernel
theorem dX4_screens_56 : decode cX4_screens 56 = .ok (.iconst (-1), 1) := by decide +kernel
theorem dX4_screens_57 : decode cX4_screens 57 = .ok (.if_icmp .eq 8, 3) := by decide +kernel
theorem dX4_screens_60 : decode cX4_screens 60 = .ok (.iload_n 3, 1) := by decide +kernel
theorem dX4_screens_61 : decode cX4_screens 61 = .ok (.iconst 1, 1) := by decide +kernel
theorem dX4_screens_62 : decode cX4_screens 62 = .ok (.if_icmp .ne 8, 3) := by decide +kernel
theorem dX4_screens_65 : decode cX4_screens 65 = .ok (.iload 4, 2) := by decide +kernel
theorem dX4_screens_67 : decode cX4_screens 67 = .ok (.goto 8, 3) := by decide +kernel
theorem dX4_screens_70 : decode cX4_screens 70 = .ok (.iload 4, 2) := by decide +kernel
theorem dX4_screens_72 : decode cX4_screens 72 = .ok (.invokestatic 153, 3) := by decide +kernel
theorem dX4_screens_75 : decode cX4_screens 75 = .ok (.ireturn, 1) := by decide +kernel
theorem dX4_stand_0 : decode cX4_stand 0 = .ok (.aload_n 0, 1) := by decide +kernel
theorem dX4_stand_1 : decode cX4_stand 1 = .ok (.iload_n 1, 1) := by decide +kernel
theorem dX4_stand_2 : decode cX4_stand 2 = .ok (.iload_n 2, 1) := by decide +kernel
theorem dX4_stand_3 : decode cX4_stand 3 = .ok (.invokevirtual 147, 3) := by decide +kernel
theorem dX4_stand_6 : decode cX4_stand 6 = .ok (.ifCond .ne 6, 3) := by decide +kernel
theorem dX4_stand_9 : decode cX4_stand 9 = .ok (.bipush (-101), 2) := by decide +kernel
theorem dX4_stand_11 : decode cX4_stand 11 = .ok (.ireturn, 1) := by decide +kernel
theorem dX4_stand_12 : decode cX4_stand 12 = .ok (.aload_n 0, 1) := by decide +kernel
theorem dX4_stand_13 : decode cX4_stand 13 = .ok (.getfield 34, 3) := by decide +kernel
theorem dX4_stand_16 : decode cX4_stand 16 = .ok (.aload_n 0, 1) := by decide +kernel
theorem dX4_stand_17 : decode cX4_stand 17 = .ok (.getfield 27, 3) := by decide +kernel
theorem dX4_stand_20 : decode cX4_stand 20 = .ok (.invokevirtual 158, 3) := by decide +kernel
theorem dX4_stand_23 : decode cX4_stand 23 = .ok (.iconst 0, 1) := by decide +kernel
theorem dX4_stand_24 : decode cX4_stand 24 = .ok (.istore_n 3, 1) := by decide +kernel
theorem dX4_stand_25 : decode cX4_stand 25 = .ok (.iload_n 3, 1) := by decide +kernel
theorem dX4_stand_26 : decode cX4_stand 26 = .ok (.bipush 64, 2) := by decide +kernel
theorem dX4_stand_28 : decode cX4_stand 28 = .ok (.if_icmp .ge 50, 3) := by decide +kernel
theorem dX4_stand_31 : decode cX4_stand 31 = .ok (.aload_n 0, 1) := by decide +kernel
theorem dX4_stand_32 : decode cX4_stand 32 = .ok (.getfield 34, 3) := by decide +kernel
theorem dX4_stand_35 : decode cX4_stand 35 = .ok (.getfield 124, 3) := by decide +kernel
theorem dX4_stand_38 : decode cX4_stand 38 = .ok (.iload_n 1, 1) := by decide +kernel
theorem dX4_stand_39 : decode cX4_stand 39 = .ok (.iload_n 3, 1) := by decide +kernel
theorem dX4_stand_40 : decode cX4_stand 40 = .ok (.bipush 8, 2) := by decide +kernel
theorem dX4_stand_42 : decode cX4_stand 42 = .ok (.idiv, 1) := by decide +kernel
theorem dX4_stand_43 : decode cX4_stand 43 = .ok (.iastore, 1) := by decide +kernel
theorem dX4_stand_44 : decode cX4_stand 44 = .ok (.aload_n 0, 1) := by decide +kernel
theorem dX4_stand_45 : decode cX4_stand 45 = .ok (.getfield 34, 3) := by decide +kernel
theorem dX4_stand_48 : decode cX4_stand 48 = .ok (.getfield 124, 3) := by decide +kernel
theorem dX4_stand_51 : decode cX4_stand 51 = .ok (.iload_n 2, 1) := by decide +kernel
theorem dX4_stand_52 : decode cX4_stand 52 = .ok (.iload_n 3, 1) := by decide +kernel
theorem dX4_stand_53 : decode cX4_stand 53 = .ok (.bipush 8, 2) := by decide +kernel
theorem dX4_stand_55 : decode cX4_stand 55 = .ok (.irem, 1) := by decide +kernel
theorem dX4_stand_56 : decode cX4_stand 56 = .ok (.iastore, 1) := by decide +kernel
theorem dX4_stand_57 : decode cX4_stand 57 = .ok (.aload_n 0, 1) := by decide +kernel
theorem dX4_stand_58 : decode cX4_stand 58 = .ok (.aload_n 0, 1) := by decide +kernel
theorem dX4_stand_59 : decode cX4_stand 59 = .ok (.getfield 34, 3) := by decide +kernel
theorem dX4_stand_62 : decode cX4_stand 62 = .ok (.iload_n 1, 1) := by decide +kernel
theorem dX4_stand_63 : decode cX4_stand 63 = .ok (.iload_n 2, 1) := by decide +kernel
theorem dX4_stand_64 : decode cX4_stand 64 = .ok (.invokevirtual 162, 3) := by decide +kernel
theorem dX4_stand_67 : decode cX4_stand 67 = .ok (.ifCond .eq 5, 3) := by decide +kernel
theorem dX4_stand_70 : decode cX4_stand 70 = .ok (.iload_n 3, 1) := by decide +kernel
theorem dX4_stand_71 : decode cX4_stand 71 = .ok (.ireturn, 1) := by decide +kernel
theorem dX4_stand_72 : decode cX4_stand 72 = .ok (.iinc 3 1, 3) := by decide +kernel
theorem dX4_stand_75 : decode cX4_stand 75 = .ok (.goto (-50), 3) := by decide +kernel
theorem dX4_stand_78 : decode cX4_stand 78 = .ok (.iconst (-1), 1) := by decide +kernel
theorem dX4_stand_79 : decode cX4_stand 79 = .ok (.ireturn, 1) := by decide +kernel
theorem dX4_trial_0 : decode cX4_trial 0 = .ok (.aload_n 0, 1) := by decide +kernel
theorem dX4_trial_1 : decode cX4_trial 1 = .ok (.iload_n 1, 1) := by decide +kernel
theorem dX4_trial_2 : decode cX4_trial 2 = .ok (.invokevirtual 118, 3) := by decide +kernel
theorem dX4_trial_5 : decode cX4_trial 5 = .ok (.ifCond .ne 6, 3) := by decide +kernel
theorem dX4_trial_8 : decode cX4_trial 8 = .ok (.bipush (-101), 2) := by decide +kernel
theorem dX4_trial_10 : decode cX4_trial 10 = .ok (.ireturn, 1) := by decide +kernel
theorem dX4_trial_11 : decode cX4_trial 11 = .ok (.aload_n 0, 1) := by decide +kernel
theorem dX4_trial_12 : decode cX4_trial 12 = .ok (.getfield 27, 3) := by decide +kernel
theorem dX4_trial_15 : decode cX4_trial 15 = .ok (.getfield 166, 3) := by decide +kernel
theorem dX4_trial_18 : decode cX4_trial 18 = .ok (.bipush 8, 2) := by decide +kernel
theorem dX4_trial_20 : decode cX4_trial 20 = .ok (.if_icmp .lt 6, 3) := by decide +kernel
theorem dX4_trial_23 : decode cX4_trial 23 = .ok (.bipush (-104), 2) := by decide +kernel
theorem dX4_trial_25 : decode cX4_trial 25 = .ok (.ireturn, 1) := by decide +kernel
theorem dX4_trial_26 : decode cX4_trial 26 = .ok (.iload_n 2, 1) := by decide +kernel
theorem dX4_trial_27 : decode cX4_trial 27 = .ok (.ifCond .eq 21, 3) := by decide +kernel
theorem dX4_trial_30 : decode cX4_trial 30 = .ok (.aload_n 0, 1) := by decide +kernel
theorem dX4_trial_31 : decode cX4_trial 31 = .ok (.getfield 27, 3) := by decide +kernel
theorem dX4_trial_34 : decode cX4_trial 34 = .ok (.dup, 1) := by decide +kernel
theorem dX4_trial_35 : decode cX4_trial 35 = .ok (.getfield 169, 3) := by decide +kernel
theorem dX4_trial_38 : decode cX4_trial 38 = .ok (.iconst 1, 1) := by decide +kernel
theorem dX4_trial_39 : decode cX4_trial 39 = .ok (.iload_n 1, 1) := by decide +kernel
theorem dX4_trial_40 : decode cX4_trial 40 = .ok (.ishl, 1) := by decide +kernel
theorem dX4_trial_41 : decode cX4_trial 41 = .ok (.ior, 1) := by decide +kernel
theorem dX4_trial_42 : decode cX4_trial 42 = .ok (.putfield 169, 3) := by decide +kernel
theorem dX4_trial_45 : decode cX4_trial 45 = .ok (.goto 18, 3) := by decide +kernel
theorem dX4_trial_48 : decode cX4_trial 48 = .ok (.aload_n 0, 1) := by decide +kernel
theorem dX4_trial_49 : decode cX4_trial 49 = .ok (.getfield 27, 3) := by decide +kernel
theorem dX4_trial_52 : decode cX4_trial 52 = .ok (.dup, 1) := by decide +kernel
theorem dX4_trial_53 : decode cX4_trial 53 = .ok (.getfield 172, 3) := by decide +kernel
theorem dX4_trial_56 : decode cX4_trial 56 = .ok (.iconst 1, 1) := by decide +kernel
theorem dX4_trial_57 : decode cX4_trial 57 = .ok (.iload_n 1, 1) := by decide +kernel
theorem dX4_trial_58 : decode cX4_trial 58 = .ok (.ishl, 1) := by decide +kernel
theorem dX4_trial_59 : decode cX4_trial 59 = .ok (.ior, 1) := by decide +kernel
theorem dX4_trial_60 : decode cX4_trial 60 = .ok (.putfield 172, 3) := by decide +kernel
theorem dX4_trial_63 : decode cX4_trial 63 = .ok (.aload_n 0, 1) := by decide +kernel
theorem dX4_trial_64 : decode cX4_trial 64 = .ok (.getfield 27, 3) := by decide +kernel
theorem dX4_trial_67 : decode cX4_trial 67 = .ok (.dup, 1) := by decide +kernel
theorem dX4_trial_68 : decode cX4_trial 68 = .ok (.getfield 166, 3) := by decide +kernel
theorem dX4_trial_71 : decode cX4_trial 71 = .ok (.iconst 1, 1) := by decide +kernel
theorem dX4_trial_72 : decode cX4_trial 72 = .ok (.iadd, 1) := by decide +kernel
theorem dX4_trial_73 : decode cX4_trial 73 = .ok (.putfield 166, 3) := by decide +kernel
theorem dX4_trial_76 : decode cX4_trial 76 = .ok (.aload_n 0, 1) := by decide +kernel
theorem dX4_trial_77 : decode cX4_trial 77 = .ok (.getfield 27, 3) := by decide +kernel
theorem dX4_trial_80 : decode cX4_trial 80 = .ok (.getfield 166, 3) := by decide +kernel
theorem dX4_trial_83 : decode cX4_trial 83 = .ok (.ireturn, 1) := by decide +kernel
theorem dX4_forget_0 : decode cX4_forget 0 = .ok (.aload_n 0, 1) := by decide +kernel
theorem dX4_forget_1 : decode cX4_forget 1 = .ok (.getfield 27, 3) := by decide +kernel
theorem dX4_forget_4 : decode cX4_forget 4 = .ok (.getfield 166, 3) := by decide +kernel
theorem dX4_forget_7 : decode cX4_forget 7 = .ok (.istore_n 1, 1) := by decide +kernel
theorem dX4_forget_8 : decode cX4_forget 8 = .ok (.aload_n 0, 1) := by decide +kernel
theorem dX4_forget_9 : decode cX4_forget 9 = .ok (.getfield 27, 3) := by decide +kernel
theorem dX4_forget_12 : decode cX4_forget 12 = .ok (.invokevirtual 175, 3) := by decide +kernel
theorem dX4_forget_15 : decode cX4_forget 15 = .ok (.iload_n 1, 1) := by decide +kernel
theorem dX4_forget_16 : decode cX4_forget 16 = .ok (.ireturn, 1) := by decide +kernel
theorem dX4_who_0 : decode cX4_who 0 = .ok (.aload_n 0, 1) := by decide +kernel
theorem dX4_who_1 : decode cX4_who 1 = .ok (.invokevirtual 178, 3) := by decide +kernel
theorem dX4_who_4 : decode cX4_who 4 = .ok (.ifCond .eq 10, 3) := by decide +kernel
theorem dX4_who_7 : decode cX4_who 7 = .ok (.aload_n 0, 1) := by decide +kernel
theorem dX4_who_8 : decode cX4_who 8 = .ok (.invokevirtual 182, 3) := by decide +kernel
theorem dX4_who_11 : decode cX4_who 11 = .ok (.goto 5, 3) := by decide +kernel
theorem dX4_who_14 : decode cX4_who 14 = .ok (.bipush (-103), 2) := by decide +kernel
theorem dX4_who_16 : decode cX4_who 16 = .ok (.ireturn, 1) := by decide +kernel
theorem dX4_ask_0 : decode cX4_ask 0 = .ok (.aload_n 0, 1) := by decide +kernel
theorem dX4_ask_1 : decode cX4_ask 1 = .ok (.invokevirtual 178, 3) := by decide +kernel
theorem dX4_ask_4 : decode cX4_ask 4 = .ok (.ifCond .eq 14, 3) := by decide +kernel
theorem dX4_ask_7 : decode cX4_ask 7 = .ok (.aload_n 0, 1) := by decide +kernel
theorem dX4_ask_8 : decode cX4_ask 8 = .ok (.aload_n 0, 1) := by decide +kernel
theorem dX4_ask_9 : decode cX4_ask 9 = .ok (.invokevirtual 182, 3) := by decide +kernel
theorem dX4_ask_12 : decode cX4_ask 12 = .ok (.invokevirtual 185, 3) := by decide +kernel
theorem dX4_ask_15 : decode cX4_ask 15 = .ok (.goto 5, 3) := by decide +kernel
theorem dX4_ask_18 : decode cX4_ask 18 = .ok (.bipush (-103), 2) := by decide +kernel
theorem dX4_ask_20 : decode cX4_ask 20 = .ok (.ireturn, 1) := by decide +kernel
theorem dX4_days_0 : decode cX4_days 0 = .ok (.iload_n 1, 1) := by decide +kernel
theorem dX4_days_1 : decode cX4_days 1 = .ok (.iconst 1, 1) := by decide +kernel
theorem dX4_days_2 : decode cX4_days 2 = .ok (.if_icmp .lt 22, 3) := by decide +kernel
theorem dX4_days_5 : decode cX4_days 5 = .ok (.iload_n 1, 1) := by decide +kernel
theorem dX4_days_6 : decode cX4_days 6 = .ok (.bipush 60, 2) := by decide +kernel
theorem dX4_days_8 : decode cX4_days 8 = .ok (.if_icmp .gt 16, 3) := by decide +kernel
theorem dX4_days_11 : decode cX4_days 11 = .ok (.iload_n 2, 1) := by decide +kernel
theorem dX4_days_12 : decode cX4_days 12 = .ok (.ifCond .lt 12, 3) := by decide +kernel
theorem dX4_days_15 : decode cX4_days 15 = .ok (.iload_n 3, 1) := by decide +kernel
theorem dX4_days_16 : decode cX4_days 16 = .ok (.ifCond .lt 8, 3) := by decide +kernel
theorem dX4_days_19 : decode cX4_days 19 = .ok (.iload_n 3, 1) := by decide +kernel
theorem dX4_days_20 : decode cX4_days 20 = .ok (.iconst 2, 1) := by decide +kernel
theorem dX4_days_21 : decode cX4_days 21 = .ok (.if_icmp .le 6, 3) := by decide +kernel
theorem dX4_days_24 : decode cX4_days 24 = .ok (.bipush (-102), 2) := by decide +kernel
theorem dX4_days_26 : decode cX4_days 26 = .ok (.ireturn, 1) := by decide +kernel
theorem dX4_days_27 : decode cX4_days 27 = .ok (.aload_n 0, 1) := by decide +kernel
theorem dX4_days_28 : decode cX4_days 28 = .ok (.getfield 27, 3) := by decide +kernel
theorem dX4_days_31 : decode cX4_days 31 = .ok (.getfield 111, 3) := by decide +kernel
theorem dX4_days_34 : decode cX4_days 34 = .ok (.ifCond .ne 6, 3) := by decide +kernel
theorem dX4_days_37 : decode cX4_days 37 = .ok (.bipush (-103), 2) := by decide +kernel
theorem dX4_days_39 : decode cX4_days 39 = .ok (.ireturn, 1) := by decide +kernel
theorem dX4_days_40 : decode cX4_days 40 = .ok (.aload_n 0, 1) := by decide +kernel
theorem dX4_days_41 : decode cX4_days 41 = .ok (.getfield 34, 3) := by decide +kernel
theorem dX4_days_44 : decode cX4_days 44 = .ok (.aload_n 0, 1) := by decide +kernel
theorem dX4_days_45 : decode cX4_days 45 = .ok (.getfield 27, 3) := by decide +kernel
theorem dX4_days_48 : decode cX4_days 48 = .ok (.invokevirtual 158, 3) := by decide +kernel
theorem dX4_days_51 : decode cX4_days 51 = .ok (.aload_n 0, 1) := by decide +kernel
theorem dX4_days_52 : decode cX4_days 52 = .ok (.getfield 47, 3) := by decide +kernel
theorem dX4_days_55 : decode cX4_days 55 = .ok (.iload_n 2, 1) := by decide +kernel
theorem dX4_days_56 : decode cX4_days 56 = .ok (.i2l, 1) := by decide +kernel
theorem dX4_days_57 : decode cX4_days 57 = .ok (.putfield 188, 3) := by decide +kernel
theorem dX4_days_60 : decode cX4_days 60 = .ok (.iconst 0, 1) := by decide +kernel
theorem dX4_days_61 : decode cX4_days 61 = .ok (.istore 4, 2) := by decide +kernel
theorem dX4_days_63 : decode cX4_days 63 = .ok (.iconst 0, 1) := by decide +kernel
theorem dX4_days_64 : decode cX4_days 64 = .ok (.istore 5, 2) := by decide +kernel
theorem dX4_days_66 : decode cX4_days 66 = .ok (.iload 5, 2) := by decide +kernel
theorem dX4_days_68 : decode cX4_days 68 = .ok (.iload_n 1, 1) := by decide +kernel
theorem dX4_days_69 : decode cX4_days 69 = .ok (.if_icmp .ge 18, 3) := by decide +kernel
theorem dX4_days_72 : decode cX4_days 72 = .ok (.iload 4, 2) := by decide +kernel
theorem dX4_days_74 : decode cX4_days 74 = .ok (.aload_n 0, 1) := by decide +kernel
theorem dX4_days_75 : decode cX4_days 75 = .ok (.invokevirtual 192, 3) := by decide +kernel
theorem dX4_days_78 : decode cX4_days 78 = .ok (.iadd, 1) := by decide +kernel
theorem dX4_days_79 : decode cX4_days 79 = .ok (.istore 4, 2) := by decide +kernel
theorem dX4_days_81 : decode cX4_days 81 = .ok (.iinc 5 1, 3) := by decide +kernel
theorem dX4_days_84 : decode cX4_days 84 = .ok (.goto (-18), 3) := by decide +kernel
theorem dX4_days_87 : decode cX4_days 87 = .ok (.iload_n 3, 1) := by decide +kernel
theorem dX4_days_88 : decode cX4_days 88 = .ok (.ifCond .ne 6, 3) := by decide +kernel
theorem dX4_days_91 : decode cX4_days 91 = .ok (.iload 4, 2) := by decide +kernel
theorem dX4_days_93 : decode cX4_days 93 = .ok (.ireturn, 1) := by decide +kernel
theorem dX4_days_94 : decode cX4_days 94 = .ok (.iload_n 3, 1) := by decide +kernel
theorem dX4_days_95 : decode cX4_days 95 = .ok (.iconst 1, 1) := by decide +kernel
theorem dX4_days_96 : decode cX4_days 96 = .ok (.if_icmp .ne 13, 3) := by decide +kernel
theorem dX4_days_99 : decode cX4_days 99 = .ok (.aload_n 0, 1) := by decide +kernel
theorem dX4_days_100 : decode cX4_days 100 = .ok (.getfield 34, 3) := by decide +kernel
theorem dX4_days_103 : decode cX4_days 103 = .ok (.invokevirtual 195, 3) := by decide +kernel
theorem dX4_days_106 : decode cX4_days 106 = .ok (.goto 11, 3) := by decide +kernel
theorem dX4_days_109 : decode cX4_days 109 = .ok (.aload_n 0, 1) := by decide +kernel
theorem dX4_days_110 : decode cX4_days 110 = .ok (.getfield 47, 3) := by decide +kernel
theorem dX4_days_113 : decode cX4_days 113 = .ok (.getfield 188, 3) := by decide +kernel
theorem dX4_days_116 : decode cX4_days 116 = .ok (.l2i, 1) := by decide +kernel
theorem dX4_days_117 : decode cX4_days 117 = .ok (.ireturn, 1) := by decide +kernel
theorem dX4_image_0 : decode cX4_image 0 = .ok (.aload_n 0, 1) := by decide +kernel
theorem dX4_image_1 : decode cX4_image 1 = .ok (.invokevirtual 178, 3) := by decide +kernel
theorem dX4_image_4 : decode cX4_image 4 = .ok (.ifCond .ne 6, 3) := by decide +kernel
theorem dX4_image_7 : decode cX4_image 7 = .ok (.bipush (-103), 2) := by decide +kernel
theorem dX4_image_9 : decode cX4_image 9 = .ok (.ireturn, 1) := by decide +kernel
theorem dX4_image_10 : decode cX4_image 10 = .ok (.aload_n 0, 1) := by decide +kernel
theorem dX4_image_11 : decode cX4_image 11 = .ok (.getfield 31, 3) := by decide +kernel
theorem dX4_image_14 : decode cX4_image 14 = .ok (.aload_n 0, 1) := by decide +kernel
theorem dX4_image_15 : decode cX4_image 15 = .ok (.getfield 27, 3) := by decide +kernel
theorem dX4_image_18 : decode cX4_image 18 = .ok (.invokevirtual 158, 3) := by decide +kernel
theorem dX4_image_21 : decode cX4_image 21 = .ok (.aload_n 0, 1) := by decide +kernel
theorem dX4_image_22 : decode cX4_image 22 = .ok (.iconst 1, 1) := by decide +kernel
theorem dX4_image_23 : decode cX4_image 23 = .ok (.putfield 54, 3) := by decide +kernel
theorem dX4_image_26 : decode cX4_image 26 = .ok (.aload_n 0, 1) := by decide +kernel
theorem dX4_image_27 : decode cX4_image 27 = .ok (.getfield 27, 3) := by decide +kernel
theorem dX4_image_30 : decode cX4_image 30 = .ok (.getfield 111, 3) := by decide +kernel
theorem dX4_image_33 : decode cX4_image 33 = .ok (.ireturn, 1) := by decide +kernel
theorem dX4_restore_0 : decode cX4_restore 0 = .ok (.aload_n 0, 1) := by decide +kernel
theorem dX4_restore_1 : decode cX4_restore 1 = .ok (.getfield 54, 3) := by decide +kernel
theorem dX4_restore_4 : decode cX4_restore 4 = .ok (.ifCond .ne 6, 3) := by decide +kernel
theorem dX4_restore_7 : decode cX4_restore 7 = .ok (.bipush (-103), 2) := by decide +kernel
theorem dX4_restore_9 : decode cX4_restore 9 = .ok (.ireturn, 1) := by decide +kernel
theorem dX4_restore_10 : decode cX4_restore 10 = .ok (.aload_n 0, 1) := by decide +kernel
theorem dX4_restore_11 : decode cX4_restore 11 = .ok (.getfield 27, 3) := by decide +kernel
theorem dX4_restore_14 : decode cX4_restore 14 = .ok (.aload_n 0, 1) := by decide +kernel
theorem dX4_restore_15 : decode cX4_restore 15 = .ok (.getfield 31, 3) := by decide +kernel
theorem dX4_restore_18 : decode cX4_restore 18 = .ok (.invokevirtual 158, 3) := by decide +kernel
theorem dX4_restore_21 : decode cX4_restore 21 = .ok (.aload_n 0, 1) := by decide +kernel
theorem dX4_restore_22 : decode cX4_restore 22 = .ok (.getfield 27, 3) := by decide +kernel
theorem dX4_restore_25 : decode cX4_restore 25 = .ok (.getfield 111, 3) := by decide +kernel
theorem dX4_restore_28 : decode cX4_restore 28 = .ok (.ireturn, 1) := by decide +kernel
theorem dX4_count_0 : decode cX4_count 0 = .ok (.iload_n 1, 1) := by decide +kernel
theorem dX4_count_1 : decode cX4_count 1 = .ok (.tableswitch 105 0 7 #[47, 55, 66, 74, 82, 90, 95, 100], 47) := by decide +kernel
theorem dX4_count_48 : decode cX4_count 48 = .ok (.aload_n 0, 1) := by decide +kernel
theorem dX4_count_49 : decode cX4_count 49 = .ok (.getfield 27, 3) := by decide +kernel
theorem dX4_count_52 : decode cX4_count 52 = .ok (.getfield 111, 3) := by decide +kernel
theorem dX4_count_55 : decode cX4_count 55 = .ok (.ireturn, 1) := by decide +kernel
theorem dX4_count_56 : decode cX4_count 56 = .ok (.aload_n 0, 1) := by decide +kernel
theorem dX4_count_57 : decode cX4_count 57 = .ok (.getfield 27, 3) := by decide +kernel
theorem dX4_count_60 : decode cX4_count 60 = .ok (.getfield 92, 3) := by decide +kernel
theorem dX4_count_63 : decode cX4_count 63 = .ok (.invokestatic 153, 3) := by decide +kernel
theorem dX4_count_66 : decode cX4_count 66 = .ok (.ireturn, 1) := by decide +kernel
theorem dX4_count_67 : decode cX4_count 67 = .ok (.aload_n 0, 1) := by decide +kernel
theorem dX4_count_68 : decode cX4_count 68 = .ok (.getfield 27, 3) := by decide +kernel
theorem dX4_count_71 : decode cX4_count 71 = .ok (.invokevirtual 195, 3) := by decide +kernel
theorem dX4_count_74 : decode cX4_count 74 = .ok (.ireturn, 1) := by decide +kernel
theorem dX4_count_75 : decode cX4_count 75 = .ok (.aload_n 0, 1) := by decide +kernel
theorem dX4_count_76 : decode cX4_count 76 = .ok (.getfield 27, 3) := by decide +kernel
theorem dX4_count_79 : decode cX4_count 79 = .ok (.getfield 137, 3) := by decide +kernel
theorem dX4_count_82 : decode cX4_count 82 = .ok (.ireturn, 1) := by decide +kernel
theorem dX4_count_83 : decode cX4_count 83 = .ok (.aload_n 0, 1) := by decide +kernel
theorem dX4_count_84 : decode cX4_count 84 = .ok (.getfield 27, 3) := by decide +kernel
theorem dX4_count_87 : decode cX4_count 87 = .ok (.getfield 166, 3) := by decide +kernel
theorem dX4_count_90 : decode cX4_count 90 = .ok (.ireturn, 1) := by decide +kernel
theorem dX4_count_91 : decode cX4_count 91 = .ok (.aload_n 0, 1) := by decide +kernel
theorem dX4_count_92 : decode cX4_count 92 = .ok (.getfield 13, 3) := by decide +kernel
theorem dX4_count_95 : decode cX4_count 95 = .ok (.ireturn, 1) := by decide +kernel
theorem dX4_count_96 : decode cX4_count 96 = .ok (.aload_n 0, 1) := by decide +kernel
theorem dX4_count_97 : decode cX4_count 97 = .ok (.getfield 58, 3) := by decide +kernel
theorem dX4_count_100 : decode cX4_count 100 = .ok (.ireturn, 1) := by decide +kernel
theorem dX4_count_101 : decode cX4_count 101 = .ok (.aload_n 0, 1) := by decide +kernel
theorem dX4_count_102 : decode cX4_count 102 = .ok (.getfield 61, 3) := by decide +kernel
theorem dX4_count_105 : decode cX4_count 105 = .ok (.ireturn, 1) := by decide +kernel
theorem dX4_count_106 : decode cX4_count 106 = .ok (.bipush (-102), 2) := by decide +kernel
theorem dX4_count_108 : decode cX4_count 108 = .ok (.ireturn, 1) := by decide +kernel
theorem dX4_digest_0 : decode cX4_digest 0 = .ok (.aload_n 0, 1) := by decide +kernel
theorem dX4_digest_1 : decode cX4_digest 1 = .ok (.ldc2_w 198, 3) := by decide +kernel
theorem dX4_digest_4 : decode cX4_digest 4 = .ok (.invokevirtual 200, 3) := by decide +kernel
theorem dX4_digest_7 : decode cX4_digest 7 = .ok (.lstore_n 1, 1) := by decide +kernel
theorem dX4_digest_8 : decode cX4_digest 8 = .ok (.iconst 0, 1) := by decide +kernel
theorem dX4_digest_9 : decode cX4_digest 9 = .ok (.istore_n 3, 1) := by decide +kernel
theorem dX4_digest_10 : decode cX4_digest 10 = .ok (.iload_n 3, 1) := by decide +kernel
theorem dX4_digest_11 : decode cX4_digest 11 = .ok (.aload_n 0, 1) := by decide +kernel
theorem dX4_digest_12 : decode cX4_digest 12 = .ok (.getfield 27, 3) := by decide +kernel
theorem dX4_digest_15 : decode cX4_digest 15 = .ok (.getfield 111, 3) := by decide +kernel
theorem dX4_digest_18 : decode cX4_digest 18 = .ok (.if_icmp .ge 16, 3) := by decide +kernel
theorem dX4_digest_21 : decode cX4_digest 21 = .ok (.aload_n 0, 1) := by decide +kernel
theorem dX4_digest_22 : decode cX4_digest 22 = .ok (.lload_n 1, 1) := by decide +kernel
theorem dX4_digest_23 : decode cX4_digest 23 = .ok (.iload_n 3, 1) := by decide +kernel
theorem dX4_digest_24 : decode cX4_digest 24 = .ok (.invokevirtual 204, 3) := by decide +kernel
theorem dX4_digest_27 : decode cX4_digest 27 = .ok (.lstore_n 1, 1) := by decide +kernel
theorem dX4_digest_28 : decode cX4_digest 28 = .ok (.iinc 3 1, 3) := by decide +kernel
theorem dX4_digest_31 : decode cX4_digest 31 = .ok (.goto (-21), 3) := by decide +kernel
theorem dX4_digest_34 : decode cX4_digest 34 = .ok (.aload_n 0, 1) := by decide +kernel
theorem dX4_digest_35 : decode cX4_digest 35 = .ok (.invokevirtual 178, 3) := by decide +kernel
theorem dX4_digest_38 : decode cX4_digest 38 = .ok (.ifCond .eq 26, 3) := by decide +kernel
theorem dX4_digest_41 : decode cX4_digest 41 = .ok (.aload_n 0, 1) := by decide +kernel
theorem dX4_digest_42 : decode cX4_digest 42 = .ok (.invokevirtual 182, 3) := by decide +kernel
theorem dX4_digest_45 : decode cX4_digest 45 = .ok (.istore_n 3, 1) := by decide +kernel
theorem dX4_digest_46 : decode cX4_digest 46 = .ok (.lload_n 1, 1) := by decide +kernel
theorem dX4_digest_47 : decode cX4_digest 47 = .ok (.iload_n 3, 1) := by decide +kernel
theorem dX4_digest_48 : decode cX4_digest 48 = .ok (.i2l, 1) := by decide +kernel
theorem dX4_digest_49 : decode cX4_digest 49 = .ok (.invokestatic 208, 3) := by decide +kernel
theorem dX4_digest_52 : decode cX4_digest 52 = .ok (.lstore_n 1, 1) := by decide +kernel
theorem dX4_digest_53 : decode cX4_digest 53 = .ok (.lload_n 1, 1) := by decide +kernel
theorem dX4_digest_54 : decode cX4_digest 54 = .ok (.aload_n 0, 1) := by decide +kernel
theorem dX4_digest_55 : decode cX4_digest 55 = .ok (.iload_n 3, 1) := by decide +kernel
theorem dX4_digest_56 : decode cX4_digest 56 = .ok (.invokevirtual 185, 3) := by decide +kernel
theorem dX4_digest_59 : decode cX4_digest 59 = .ok (.i2l, 1) := by decide +kernel
theorem dX4_digest_60 : decode cX4_digest 60 = .ok (.invokestatic 208, 3) := by decide +kernel
theorem dX4_digest_63 : decode cX4_digest 63 = .ok (.lstore_n 1, 1) := by decide +kernel
theorem dX4_digest_64 : decode cX4_digest 64 = .ok (.iconst 0, 1) := by decide +kernel
theorem dX4_digest_65 : decode cX4_digest 65 = .ok (.istore_n 3, 1) := by decide +kernel
theorem dX4_digest_66 : decode cX4_digest 66 = .ok (.iload_n 3, 1) := by decide +kernel
theorem dX4_digest_67 : decode cX4_digest 67 = .ok (.aload_n 0, 1) := by decide +kernel
theorem dX4_digest_68 : decode cX4_digest 68 = .ok (.getfield 13, 3) := by decide +kernel
theorem dX4_digest_71 : decode cX4_digest 71 = .ok (.if_icmp .ge 21, 3) := by decide +kernel
theorem dX4_digest_74 : decode cX4_digest 74 = .ok (.lload_n 1, 1) := by decide +kernel
theorem dX4_digest_75 : decode cX4_digest 75 = .ok (.aload_n 0, 1) := by decide +kernel
theorem dX4_digest_76 : decode cX4_digest 76 = .ok (.getfield 9, 3) := by decide +kernel
theorem dX4_digest_79 : decode cX4_digest 79 = .ok (.iload_n 3, 1) := by decide +kernel
theorem dX4_digest_80 : decode cX4_digest 80 = .ok (.iaload, 1) := by decide +kernel
theorem dX4_digest_81 : decode cX4_digest 81 = .ok (.i2l, 1) := by decide +kernel
theorem dX4_digest_82 : decode cX4_digest 82 = .ok (.invokestatic 208, 3) := by decide +kernel
theorem dX4_digest_85 : decode cX4_digest 85 = .ok (.lstore_n 1, 1) := by decide +kernel
theorem dX4_digest_86 : decode cX4_digest 86 = .ok (.iinc 3 1, 3) := by decide +kernel
theorem dX4_digest_89 : decode cX4_digest 89 = .ok (.goto (-23), 3) := by decide +kernel
theorem dX4_digest_92 : decode cX4_digest 92 = .ok (.iconst 0, 1) := by decide +kernel
theorem dX4_digest_93 : decode cX4_digest 93 = .ok (.istore_n 3, 1) := by decide +kernel
theorem dX4_digest_94 : decode cX4_digest 94 = .ok (.iload_n 3, 1) := by decide +kernel
theorem dX4_digest_95 : decode cX4_digest 95 = .ok (.bipush 8, 2) := by decide +kernel
theorem dX4_digest_97 : decode cX4_digest 97 = .ok (.if_icmp .ge 20, 3) := by decide +kernel
theorem dX4_digest_100 : decode cX4_digest 100 = .ok (.lload_n 1, 1) := by decide +kernel
theorem dX4_digest_101 : decode cX4_digest 101 = .ok (.aload_n 0, 1) := by decide +kernel
theorem dX4_digest_102 : decode cX4_digest 102 = .ok (.iload_n 3, 1) := by decide +kernel
theorem dX4_digest_103 : decode cX4_digest 103 = .ok (.invokevirtual 212, 3) := by decide +kernel
theorem dX4_digest_106 : decode cX4_digest 106 = .ok (.i2l, 1) := by decide +kernel
theorem dX4_digest_107 : decode cX4_digest 107 = .ok (.invokestatic 208, 3) := by decide +kernel
theorem dX4_digest_110 : decode cX4_digest 110 = .ok (.lstore_n 1, 1) := by decide +kernel
theorem dX4_digest_111 : decode cX4_digest 111 = .ok (.iinc 3 1, 3) := by decide +kernel
theorem dX4_digest_114 : decode cX4_digest 114 = .ok (.goto (-20), 3) := by decide +kernel
theorem dX4_digest_117 : decode cX4_digest 117 = .ok (.lload_n 1, 1) := by decide +kernel
theorem dX4_digest_118 : decode cX4_digest 118 = .ok (.lreturn, 1) := by decide +kernel
theorem dX4_hasDome_0 : decode cX4_hasDome 0 = .ok (.aload_n 0, 1) := by decide +kernel
theorem dX4_hasDome_1 : decode cX4_hasDome 1 = .ok (.getfield 58, 3) := by decide +kernel
theorem dX4_hasDome_4 : decode cX4_hasDome 4 = .ok (.ifCond .le 7, 3) := by decide +kernel
theorem dX4_hasDome_7 : decode cX4_hasDome 7 = .ok (.iconst 1, 1) := by decide +kernel
theorem dX4_hasDome_8 : decode cX4_hasDome 8 = .ok (.goto 4, 3) := by decide +kernel
theorem dX4_hasDome_11 : decode cX4_hasDome 11 = .ok (.iconst 0, 1) := by decide +kernel
theorem dX4_hasDome_12 : decode cX4_hasDome 12 = .ok (.ireturn, 1) := by decide +kernel
theorem dX4_isPlace_0 : decode cX4_isPlace 0 = .ok (.aload_n 0, 1) := by decide +kernel
theorem dX4_isPlace_1 : decode cX4_isPlace 1 = .ok (.invokevirtual 178, 3) := by decide +kernel
theorem dX4_isPlace_4 : decode cX4_isPlace 4 = .ok (.ifCond .eq 17, 3) := by decide +kernel
theorem dX4_isPlace_7 : decode cX4_isPlace 7 = .ok (.iload_n 1, 1) := by decide +kernel
theorem dX4_isPlace_8 : decode cX4_isPlace 8 = .ok (.ifCond .lt 13, 3) := by decide +kernel
theorem dX4_isPlace_11 : decode cX4_isPlace 11 = .ok (.iload_n 1, 1) := by decide +kernel
theorem dX4_isPlace_12 : decode cX4_isPlace 12 = .ok (.bipush 8, 2) := by decide +kernel
theorem dX4_isPlace_14 : decode cX4_isPlace 14 = .ok (.if_icmp .ge 7, 3) := by decide +kernel
theorem dX4_isPlace_17 : decode cX4_isPlace 17 = .ok (.iconst 1, 1) := by decide +kernel
theorem dX4_isPlace_18 : decode cX4_isPlace 18 = .ok (.goto 4, 3) := by decide +kernel
theorem dX4_isPlace_21 : decode cX4_isPlace 21 = .ok (.iconst 0, 1) := by decide +kernel
theorem dX4_isPlace_22 : decode cX4_isPlace 22 = .ok (.ireturn, 1) := by decide +kernel
theorem dX4_isPerson_0 : decode cX4_isPerson 0 = .ok (.iload_n 1, 1) := by decide +kernel
theorem dX4_isPerson_1 : decode cX4_isPerson 1 = .ok (.ifCond .lt 18, 3) := by decide +kernel
theorem dX4_isPerson_4 : decode cX4_isPerson 4 = .ok (.iload_n 1, 1) := by decide +kernel
theorem dX4_isPerson_5 : decode cX4_isPerson 5 = .ok (.aload_n 0, 1) := by decide +kernel
theorem dX4_isPerson_6 : decode cX4_isPerson 6 = .ok (.getfield 27, 3) := by decide +kernel
theorem dX4_isPerson_9 : decode cX4_isPerson 9 = .ok (.getfield 111, 3) := by decide +kernel
theorem dX4_isPerson_12 : decode cX4_isPerson 12 = .ok (.if_icmp .ge 7, 3) := by decide +kernel
theorem dX4_isPerson_15 : decode cX4_isPerson 15 = .ok (.iconst 1, 1) := by decide +kernel
theorem dX4_isPerson_16 : decode cX4_isPerson 16 = .ok (.goto 4, 3) := by decide +kernel
theorem dX4_isPerson_19 : decode cX4_isPerson 19 = .ok (.iconst 0, 1) := by decide +kernel
theorem dX4_isPerson_20 : decode cX4_isPerson 20 = .ok (.ireturn, 1) := by decide +kernel
theorem dX4_isPair_0 : decode cX4_isPair 0 = .ok (.aload_n 0, 1) := by decide +kernel
theorem dX4_isPair_1 : decode cX4_isPair 1 = .ok (.iload_n 1, 1) := by decide +kernel
theorem dX4_isPair_2 : decode cX4_isPair 2 = .ok (.invokevirtual 118, 3) := by decide +kernel
theorem dX4_isPair_5 : decode cX4_isPair 5 = .ok (.ifCond .eq 20, 3) := by decide +kernel
theorem dX4_isPair_8 : decode cX4_isPair 8 = .ok (.aload_n 0, 1) := by decide +kernel
theorem dX4_isPair_9 : decode cX4_isPair 9 = .ok (.iload_n 2, 1) := by decide +kernel
theorem dX4_isPair_10 : decode cX4_isPair 10 = .ok (.invokevirtual 118, 3) := by decide +kernel
theorem dX4_isPair_13 : decode cX4_isPair 13 = .ok (.ifCond .eq 12, 3) := by decide +kernel
theorem dX4_isPair_16 : decode cX4_isPair 16 = .ok (.iload_n 1, 1) := by decide +kernel
theorem dX4_isPair_17 : decode cX4_isPair 17 = .ok (.iload_n 2, 1) := by decide +kernel
theorem dX4_isPair_18 : decode cX4_isPair 18 = .ok (.if_icmp .eq 7, 3) := by decide +kernel
theorem dX4_isPair_21 : decode cX4_isPair 21 = .ok (.iconst 1, 1) := by decide +kernel
theorem dX4_isPair_22 : decode cX4_isPair 22 = .ok (.goto 4, 3) := by decide +kernel
theorem dX4_isPair_25 : decode cX4_isPair 25 = .ok (.iconst 0, 1) := by decide +kernel
theorem dX4_isPair_26 : decode cX4_isPair 26 = .ok (.ireturn, 1) := by decide +kernel
theorem dX4_isKind_0 : decode cX4_isKind 0 = .ok (.iload_n 0, 1) := by decide +kernel
theorem dX4_isKind_1 : decode cX4_isKind 1 = .ok (.ifCond .lt 12, 3) := by decide +kernel
theorem dX4_isKind_4 : decode cX4_isKind 4 = .ok (.iload_n 0, 1) := by decide +kernel
theorem dX4_isKind_5 : decode cX4_isKind 5 = .ok (.iconst 4, 1) := by decide +kernel
theorem dX4_isKind_6 : decode cX4_isKind 6 = .ok (.if_icmp .gt 7, 3) := by decide +kernel
theorem dX4_isKind_9 : decode cX4_isKind 9 = .ok (.iconst 1, 1) := by decide +kernel
theorem dX4_isKind_10 : decode cX4_isKind 10 = .ok (.goto 4, 3) := by decide +kernel
theorem dX4_isKind_13 : decode cX4_isKind 13 = .ok (.iconst 0, 1) := by decide +kernel
theorem dX4_isKind_14 : decode cX4_isKind 14 = .ok (.ireturn, 1) := by decide +kernel
theorem dX4_isOfKind_0 : decode cX4_isOfKind 0 = .ok (.iload_n 1, 1) := by decide +kernel
theorem dX4_isOfKind_1 : decode cX4_isOfKind 1 = .ok (.iload_n 0, 1) := by decide +kernel
theorem dX4_isOfKind_2 : decode cX4_isOfKind 2 = .ok (.if_icmp .eq 17, 3) := by decide +kernel
