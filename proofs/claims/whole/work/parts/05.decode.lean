theorem dX5_screens_9 : decode cX5_screens 9 = .ok (.iload_n 2, 1) := by decide +kernel
theorem dX5_screens_10 : decode cX5_screens 10 = .ok (.invokevirtual 110, 3) := by decide +kernel
theorem dX5_screens_13 : decode cX5_screens 13 = .ok (.ifCond .eq 8, 3) := by decide +kernel
theorem dX5_screens_16 : decode cX5_screens 16 = .ok (.iload_n 1, 1) := by decide +kernel
theorem dX5_screens_17 : decode cX5_screens 17 = .ok (.iload_n 2, 1) := by decide +kernel
theorem dX5_screens_18 : decode cX5_screens 18 = .ok (.if_icmp .ne 6, 3) := by decide +kernel
theorem dX5_screens_21 : decode cX5_screens 21 = .ok (.bipush (-101), 2) := by decide +kernel
theorem dX5_screens_23 : decode cX5_screens 23 = .ok (.ireturn, 1) := by decide +kernel
theorem dX5_screens_24 : decode cX5_screens 24 = .ok (.iload_n 3, 1) := by decide +kernel
theorem dX5_screens_25 : decode cX5_screens 25 = .ok (.i2l, 1) := by decide +kernel
theorem dX5_screens_26 : decode cX5_screens 26 = .ok (.lconst 0, 1) := by decide +kernel
theorem dX5_screens_27 : decode cX5_screens 27 = .ok (.lconst 1, 1) := by decide +kernel
theorem dX5_screens_28 : decode cX5_screens 28 = .ok (.invokestatic 43, 3) := by decide +kernel
theorem dX5_screens_31 : decode cX5_screens 31 = .ok (.ifCond .ne 6, 3) := by decide +kernel
theorem dX5_screens_34 : decode cX5_screens 34 = .ok (.bipush (-102), 2) := by decide +kernel
theorem dX5_screens_36 : decode cX5_screens 36 = .ok (.ireturn, 1) := by decide +kernel
theorem dX5_screens_37 : decode cX5_screens 37 = .ok (.aload_n 0, 1) := by decide +kernel
theorem dX5_screens_38 : decode cX5_screens 38 = .ok (.getfield 135, 3) := by decide +kernel
theorem dX5_screens_41 : decode cX5_screens 41 = .ok (.bipush 20, 2) := by decide +kernel
theorem dX5_screens_43 : decode cX5_screens 43 = .ok (.if_icmp .ne 6, 3) := by decide +kernel
theorem dX5_screens_46 : decode cX5_screens 46 = .ok (.bipush (-103), 2) := by decide +kernel
theorem dX5_screens_48 : decode cX5_screens 48 = .ok (.ireturn, 1) := by decide +kernel
theorem dX5_screens_49 : decode cX5_screens 49 = .ok (.aload_n 0, 1) := by decide +kernel
theorem dX5_screens_50 : decode cX5_screens 50 = .ok (.dup, 1) := by decide +kernel
theorem dX5_screens_51 : decode cX5_screens 51 = .ok (.getfield 135, 3) := by decide +kernel
theorem dX5_screens_54 : decode cX5_screens 54 = .ok (.iconst 1, 1) := by decide +kernel
theorem dX5_screens_55 : decode cX5_screens 55 = .ok (.iadd, 1) := by decide +kernel
theorem dX5_screens_56 : decode cX5_screens 56 = .ok (.putfield 135, 3) := by decide +kernel
theorem dX5_screens_59 : decode cX5_screens 59 = .ok (.aload_n 0, 1) := by decide +kernel
theorem dX5_screens_60 : decode cX5_screens 60 = .ok (.iload_n 1, 1) := by decide +kernel
theorem dX5_screens_61 : decode cX5_screens 61 = .ok (.iload_n 2, 1) := by decide +kernel
theorem dX5_screens_62 : decode cX5_screens 62 = .ok (.invokevirtual 138, 3) := by decide +kernel
theorem dX5_screens_65 : decode cX5_screens 65 = .ok (.istore 4, 2) := by decide +kernel
theorem dX5_screens_67 : decode cX5_screens 67 = .ok (.iload 4, 2) := by decide +kernel
theorem dX5_screens_69 : decode cX5_screens 69 = .ok (.iconst (-1), 1) := by decide +kernel
theorem dX5_screens_70 : decode cX5_screens 70 = .ok (.if_icmp .eq 8, 3) := by decide +kernel
theorem dX5_screens_73 : decode cX5_screens 73 = .ok (.iload_n 3, 1) := by decide +kernel
theorem dX5_screens_74 : decode cX5_screens 74 = .ok (.iconst 1, 1) := by decide +kernel
theorem dX5_screens_75 : decode cX5_screens 75 = .ok (.if_icmp .ne 8, 3) := by decide +kernel
theorem dX5_screens_78 : decode cX5_screens 78 = .ok (.iload 4, 2) := by decide +kernel
theorem dX5_screens_80 : decode cX5_screens 80 = .ok (.goto 8, 3) := by decide +kernel
theorem dX5_screens_83 : decode cX5_screens 83 = .ok (.iload 4, 2) := by decide +kernel
theorem dX5_screens_85 : decode cX5_screens 85 = .ok (.invokestatic 91, 3) := by decide +kernel
theorem dX5_screens_88 : decode cX5_screens 88 = .ok (.ireturn, 1) := by decide +kernel
theorem dX5_standOf_0 : decode cX5_standOf 0 = .ok (.aload_n 0, 1) := by decide +kernel
theorem dX5_standOf_1 : decode cX5_standOf 1 = .ok (.getfield 19, 3) := by decide +kernel
theorem dX5_standOf_4 : decode cX5_standOf 4 = .ok (.iconst 3, 1) := by decide +kernel
theorem dX5_standOf_5 : decode cX5_standOf 5 = .ok (.iload_n 1, 1) := by decide +kernel
theorem dX5_standOf_6 : decode cX5_standOf 6 = .ok (.imul, 1) := by decide +kernel
theorem dX5_standOf_7 : decode cX5_standOf 7 = .ok (.iconst 1, 1) := by decide +kernel
theorem dX5_standOf_8 : decode cX5_standOf 8 = .ok (.iadd, 1) := by decide +kernel
theorem dX5_standOf_9 : decode cX5_standOf 9 = .ok (.iaload, 1) := by decide +kernel
theorem dX5_standOf_10 : decode cX5_standOf 10 = .ok (.istore_n 3, 1) := by decide +kernel
theorem dX5_standOf_11 : decode cX5_standOf 11 = .ok (.aload_n 0, 1) := by decide +kernel
theorem dX5_standOf_12 : decode cX5_standOf 12 = .ok (.getfield 19, 3) := by decide +kernel
theorem dX5_standOf_15 : decode cX5_standOf 15 = .ok (.iconst 3, 1) := by decide +kernel
theorem dX5_standOf_16 : decode cX5_standOf 16 = .ok (.iload_n 2, 1) := by decide +kernel
theorem dX5_standOf_17 : decode cX5_standOf 17 = .ok (.imul, 1) := by decide +kernel
theorem dX5_standOf_18 : decode cX5_standOf 18 = .ok (.iconst 1, 1) := by decide +kernel
theorem dX5_standOf_19 : decode cX5_standOf 19 = .ok (.iadd, 1) := by decide +kernel
theorem dX5_standOf_20 : decode cX5_standOf 20 = .ok (.iaload, 1) := by decide +kernel
theorem dX5_standOf_21 : decode cX5_standOf 21 = .ok (.istore 4, 2) := by decide +kernel
theorem dX5_standOf_23 : decode cX5_standOf 23 = .ok (.iconst (-1), 1) := by decide +kernel
theorem dX5_standOf_24 : decode cX5_standOf 24 = .ok (.istore 5, 2) := by decide +kernel
theorem dX5_standOf_26 : decode cX5_standOf 26 = .ok (.iconst 1, 1) := by decide +kernel
theorem dX5_standOf_27 : decode cX5_standOf 27 = .ok (.iload_n 1, 1) := by decide +kernel
theorem dX5_standOf_28 : decode cX5_standOf 28 = .ok (.ishl, 1) := by decide +kernel
theorem dX5_standOf_29 : decode cX5_standOf 29 = .ok (.iconst 1, 1) := by decide +kernel
theorem dX5_standOf_30 : decode cX5_standOf 30 = .ok (.iload_n 2, 1) := by decide +kernel
theorem dX5_standOf_31 : decode cX5_standOf 31 = .ok (.ishl, 1) := by decide +kernel
theorem dX5_standOf_32 : decode cX5_standOf 32 = .ok (.ior, 1) := by decide +kernel
theorem dX5_standOf_33 : decode cX5_standOf 33 = .ok (.istore 6, 2) := by decide +kernel
theorem dX5_standOf_35 : decode cX5_standOf 35 = .ok (.bipush 63, 2) := by decide +kernel
theorem dX5_standOf_37 : decode cX5_standOf 37 = .ok (.istore 7, 2) := by decide +kernel
theorem dX5_standOf_39 : decode cX5_standOf 39 = .ok (.iload 7, 2) := by decide +kernel
theorem dX5_standOf_41 : decode cX5_standOf 41 = .ok (.ifCond .lt 88, 3) := by decide +kernel
theorem dX5_standOf_44 : decode cX5_standOf 44 = .ok (.aload_n 0, 1) := by decide +kernel
theorem dX5_standOf_45 : decode cX5_standOf 45 = .ok (.getfield 19, 3) := by decide +kernel
theorem dX5_standOf_48 : decode cX5_standOf 48 = .ok (.iconst 3, 1) := by decide +kernel
theorem dX5_standOf_49 : decode cX5_standOf 49 = .ok (.iload_n 1, 1) := by decide +kernel
theorem dX5_standOf_50 : decode cX5_standOf 50 = .ok (.imul, 1) := by decide +kernel
theorem dX5_standOf_51 : decode cX5_standOf 51 = .ok (.iconst 1, 1) := by decide +kernel
theorem dX5_standOf_52 : decode cX5_standOf 52 = .ok (.iadd, 1) := by decide +kernel
theorem dX5_standOf_53 : decode cX5_standOf 53 = .ok (.iload 7, 2) := by decide +kernel
theorem dX5_standOf_55 : decode cX5_standOf 55 = .ok (.bipush 8, 2) := by decide +kernel
theorem dX5_standOf_57 : decode cX5_standOf 57 = .ok (.idiv, 1) := by decide +kernel
theorem dX5_standOf_58 : decode cX5_standOf 58 = .ok (.iastore, 1) := by decide +kernel
theorem dX5_standOf_59 : decode cX5_standOf 59 = .ok (.aload_n 0, 1) := by decide +kernel
theorem dX5_standOf_60 : decode cX5_standOf 60 = .ok (.getfield 19, 3) := by decide +kernel
theorem dX5_standOf_63 : decode cX5_standOf 63 = .ok (.iconst 3, 1) := by decide +kernel
theorem dX5_standOf_64 : decode cX5_standOf 64 = .ok (.iload_n 2, 1) := by decide +kernel
theorem dX5_standOf_65 : decode cX5_standOf 65 = .ok (.imul, 1) := by decide +kernel
theorem dX5_standOf_66 : decode cX5_standOf 66 = .ok (.iconst 1, 1) := by decide +kernel
theorem dX5_standOf_67 : decode cX5_standOf 67 = .ok (.iadd, 1) := by decide +kernel
theorem dX5_standOf_68 : decode cX5_standOf 68 = .ok (.iload 7, 2) := by decide +kernel
theorem dX5_standOf_70 : decode cX5_standOf 70 = .ok (.bipush 8, 2) := by decide +kernel
theorem dX5_standOf_72 : decode cX5_standOf 72 = .ok (.irem, 1) := by decide +kernel
theorem dX5_standOf_73 : decode cX5_standOf 73 = .ok (.iastore, 1) := by decide +kernel
theorem dX5_standOf_74 : decode cX5_standOf 74 = .ok (.aload_n 0, 1) := by decide +kernel
theorem dX5_standOf_75 : decode cX5_standOf 75 = .ok (.iload_n 1, 1) := by decide +kernel
theorem dX5_standOf_76 : decode cX5_standOf 76 = .ok (.aload_n 0, 1) := by decide +kernel
theorem dX5_standOf_77 : decode cX5_standOf 77 = .ok (.getfield 70, 3) := by decide +kernel
theorem dX5_standOf_80 : decode cX5_standOf 80 = .ok (.invokevirtual 121, 3) := by decide +kernel
theorem dX5_standOf_83 : decode cX5_standOf 83 = .ok (.iload 6, 2) := by decide +kernel
theorem dX5_standOf_85 : decode cX5_standOf 85 = .ok (.if_icmp .ne 21, 3) := by decide +kernel
theorem dX5_standOf_88 : decode cX5_standOf 88 = .ok (.aload_n 0, 1) := by decide +kernel
theorem dX5_standOf_89 : decode cX5_standOf 89 = .ok (.iload_n 2, 1) := by decide +kernel
theorem dX5_standOf_90 : decode cX5_standOf 90 = .ok (.aload_n 0, 1) := by decide +kernel
theorem dX5_standOf_91 : decode cX5_standOf 91 = .ok (.getfield 70, 3) := by decide +kernel
theorem dX5_standOf_94 : decode cX5_standOf 94 = .ok (.invokevirtual 121, 3) := by decide +kernel
theorem dX5_standOf_97 : decode cX5_standOf 97 = .ok (.iload 6, 2) := by decide +kernel
theorem dX5_standOf_99 : decode cX5_standOf 99 = .ok (.if_icmp .ne 7, 3) := by decide +kernel
theorem dX5_standOf_102 : decode cX5_standOf 102 = .ok (.iconst 1, 1) := by decide +kernel
theorem dX5_standOf_103 : decode cX5_standOf 103 = .ok (.goto 4, 3) := by decide +kernel
theorem dX5_standOf_106 : decode cX5_standOf 106 = .ok (.iconst 0, 1) := by decide +kernel
theorem dX5_standOf_107 : decode cX5_standOf 107 = .ok (.istore 8, 2) := by decide +kernel
theorem dX5_standOf_109 : decode cX5_standOf 109 = .ok (.iload 8, 2) := by decide +kernel
theorem dX5_standOf_111 : decode cX5_standOf 111 = .ok (.ifCond .eq 8, 3) := by decide +kernel
theorem dX5_standOf_114 : decode cX5_standOf 114 = .ok (.iload 7, 2) := by decide +kernel
theorem dX5_standOf_116 : decode cX5_standOf 116 = .ok (.goto 5, 3) := by decide +kernel
theorem dX5_standOf_119 : decode cX5_standOf 119 = .ok (.iload 5, 2) := by decide +kernel
theorem dX5_standOf_121 : decode cX5_standOf 121 = .ok (.istore 5, 2) := by decide +kernel
theorem dX5_standOf_123 : decode cX5_standOf 123 = .ok (.iinc 7 (-1), 3) := by decide +kernel
theorem dX5_standOf_126 : decode cX5_standOf 126 = .ok (.goto (-87), 3) := by decide +kernel
theorem dX5_standOf_129 : decode cX5_standOf 129 = .ok (.aload_n 0, 1) := by decide +kernel
theorem dX5_standOf_130 : decode cX5_standOf 130 = .ok (.getfield 19, 3) := by decide +kernel
theorem dX5_standOf_133 : decode cX5_standOf 133 = .ok (.iconst 3, 1) := by decide +kernel
theorem dX5_standOf_134 : decode cX5_standOf 134 = .ok (.iload_n 1, 1) := by decide +kernel
theorem dX5_standOf_135 : decode cX5_standOf 135 = .ok (.imul, 1) := by decide +kernel
theorem dX5_standOf_136 : decode cX5_standOf 136 = .ok (.iconst 1, 1) := by decide +kernel
theorem dX5_standOf_137 : decode cX5_standOf 137 = .ok (.iadd, 1) := by decide +kernel
theorem dX5_standOf_138 : decode cX5_standOf 138 = .ok (.iload_n 3, 1) := by decide +kernel
theorem dX5_standOf_139 : decode cX5_standOf 139 = .ok (.iastore, 1) := by decide +kernel
theorem dX5_standOf_140 : decode cX5_standOf 140 = .ok (.aload_n 0, 1) := by decide +kernel
theorem dX5_standOf_141 : decode cX5_standOf 141 = .ok (.getfield 19, 3) := by decide +kernel
theorem dX5_standOf_144 : decode cX5_standOf 144 = .ok (.iconst 3, 1) := by decide +kernel
theorem dX5_standOf_145 : decode cX5_standOf 145 = .ok (.iload_n 2, 1) := by decide +kernel
theorem dX5_standOf_146 : decode cX5_standOf 146 = .ok (.imul, 1) := by decide +kernel
theorem dX5_standOf_147 : decode cX5_standOf 147 = .ok (.iconst 1, 1) := by decide +kernel
theorem dX5_standOf_148 : decode cX5_standOf 148 = .ok (.iadd, 1) := by decide +kernel
theorem dX5_standOf_149 : decode cX5_standOf 149 = .ok (.iload 4, 2) := by decide +kernel
theorem dX5_standOf_151 : decode cX5_standOf 151 = .ok (.iastore, 1) := by decide +kernel
theorem dX5_standOf_152 : decode cX5_standOf 152 = .ok (.iload 5, 2) := by decide +kernel
theorem dX5_standOf_154 : decode cX5_standOf 154 = .ok (.ireturn, 1) := by decide +kernel
theorem dX5_stand_0 : decode cX5_stand 0 = .ok (.aload_n 0, 1) := by decide +kernel
theorem dX5_stand_1 : decode cX5_stand 1 = .ok (.iload_n 1, 1) := by decide +kernel
theorem dX5_stand_2 : decode cX5_stand 2 = .ok (.invokevirtual 110, 3) := by decide +kernel
theorem dX5_stand_5 : decode cX5_stand 5 = .ok (.ifCond .eq 25, 3) := by decide +kernel
theorem dX5_stand_8 : decode cX5_stand 8 = .ok (.aload_n 0, 1) := by decide +kernel
theorem dX5_stand_9 : decode cX5_stand 9 = .ok (.iload_n 2, 1) := by decide +kernel
theorem dX5_stand_10 : decode cX5_stand 10 = .ok (.invokevirtual 110, 3) := by decide +kernel
theorem dX5_stand_13 : decode cX5_stand 13 = .ok (.ifCond .eq 17, 3) := by decide +kernel
theorem dX5_stand_16 : decode cX5_stand 16 = .ok (.iload_n 1, 1) := by decide +kernel
theorem dX5_stand_17 : decode cX5_stand 17 = .ok (.iload_n 2, 1) := by decide +kernel
theorem dX5_stand_18 : decode cX5_stand 18 = .ok (.if_icmp .eq 12, 3) := by decide +kernel
theorem dX5_stand_21 : decode cX5_stand 21 = .ok (.aload_n 0, 1) := by decide +kernel
theorem dX5_stand_22 : decode cX5_stand 22 = .ok (.iload_n 1, 1) := by decide +kernel
theorem dX5_stand_23 : decode cX5_stand 23 = .ok (.iload_n 2, 1) := by decide +kernel
theorem dX5_stand_24 : decode cX5_stand 24 = .ok (.invokevirtual 141, 3) := by decide +kernel
theorem dX5_stand_27 : decode cX5_stand 27 = .ok (.goto 5, 3) := by decide +kernel
theorem dX5_stand_30 : decode cX5_stand 30 = .ok (.bipush (-101), 2) := by decide +kernel
theorem dX5_stand_32 : decode cX5_stand 32 = .ok (.ireturn, 1) := by decide +kernel
theorem dX5_trial_0 : decode cX5_trial 0 = .ok (.aload_n 0, 1) := by decide +kernel
theorem dX5_trial_1 : decode cX5_trial 1 = .ok (.iload_n 1, 1) := by decide +kernel
theorem dX5_trial_2 : decode cX5_trial 2 = .ok (.invokevirtual 110, 3) := by decide +kernel
theorem dX5_trial_5 : decode cX5_trial 5 = .ok (.ifCond .ne 6, 3) := by decide +kernel
theorem dX5_trial_8 : decode cX5_trial 8 = .ok (.bipush (-101), 2) := by decide +kernel
theorem dX5_trial_10 : decode cX5_trial 10 = .ok (.ireturn, 1) := by decide +kernel
theorem dX5_trial_11 : decode cX5_trial 11 = .ok (.aload_n 0, 1) := by decide +kernel
theorem dX5_trial_12 : decode cX5_trial 12 = .ok (.getfield 79, 3) := by decide +kernel
theorem dX5_trial_15 : decode cX5_trial 15 = .ok (.bipush 8, 2) := by decide +kernel
theorem dX5_trial_17 : decode cX5_trial 17 = .ok (.if_icmp .ne 6, 3) := by decide +kernel
theorem dX5_trial_20 : decode cX5_trial 20 = .ok (.bipush (-104), 2) := by decide +kernel
theorem dX5_trial_22 : decode cX5_trial 22 = .ok (.ireturn, 1) := by decide +kernel
theorem dX5_trial_23 : decode cX5_trial 23 = .ok (.aload_n 0, 1) := by decide +kernel
theorem dX5_trial_24 : decode cX5_trial 24 = .ok (.getfield 25, 3) := by decide +kernel
theorem dX5_trial_27 : decode cX5_trial 27 = .ok (.iconst 2, 1) := by decide +kernel
theorem dX5_trial_28 : decode cX5_trial 28 = .ok (.aload_n 0, 1) := by decide +kernel
theorem dX5_trial_29 : decode cX5_trial 29 = .ok (.getfield 79, 3) := by decide +kernel
theorem dX5_trial_32 : decode cX5_trial 32 = .ok (.imul, 1) := by decide +kernel
theorem dX5_trial_33 : decode cX5_trial 33 = .ok (.iload_n 1, 1) := by decide +kernel
theorem dX5_trial_34 : decode cX5_trial 34 = .ok (.iastore, 1) := by decide +kernel
theorem dX5_trial_35 : decode cX5_trial 35 = .ok (.aload_n 0, 1) := by decide +kernel
theorem dX5_trial_36 : decode cX5_trial 36 = .ok (.getfield 25, 3) := by decide +kernel
theorem dX5_trial_39 : decode cX5_trial 39 = .ok (.iconst 2, 1) := by decide +kernel
theorem dX5_trial_40 : decode cX5_trial 40 = .ok (.aload_n 0, 1) := by decide +kernel
theorem dX5_trial_41 : decode cX5_trial 41 = .ok (.getfield 79, 3) := by decide +kernel
theorem dX5_trial_44 : decode cX5_trial 44 = .ok (.imul, 1) := by decide +kernel
theorem dX5_trial_45 : decode cX5_trial 45 = .ok (.iconst 1, 1) := by decide +kernel
theorem dX5_trial_46 : decode cX5_trial 46 = .ok (.iadd, 1) := by decide +kernel
theorem dX5_trial_47 : decode cX5_trial 47 = .ok (.iload_n 2, 1) := by decide +kernel
theorem dX5_trial_48 : decode cX5_trial 48 = .ok (.ifCond .eq 7, 3) := by decide +kernel
theorem dX5_trial_51 : decode cX5_trial 51 = .ok (.iconst 1, 1) := by decide +kernel
theorem dX5_trial_52 : decode cX5_trial 52 = .ok (.goto 4, 3) := by decide +kernel
theorem dX5_trial_55 : decode cX5_trial 55 = .ok (.iconst 0, 1) := by decide +kernel
theorem dX5_trial_56 : decode cX5_trial 56 = .ok (.iastore, 1) := by decide +kernel
theorem dX5_trial_57 : decode cX5_trial 57 = .ok (.aload_n 0, 1) := by decide +kernel
theorem dX5_trial_58 : decode cX5_trial 58 = .ok (.dup, 1) := by decide +kernel
theorem dX5_trial_59 : decode cX5_trial 59 = .ok (.getfield 79, 3) := by decide +kernel
theorem dX5_trial_62 : decode cX5_trial 62 = .ok (.iconst 1, 1) := by decide +kernel
theorem dX5_trial_63 : decode cX5_trial 63 = .ok (.iadd, 1) := by decide +kernel
theorem dX5_trial_64 : decode cX5_trial 64 = .ok (.putfield 79, 3) := by decide +kernel
theorem dX5_trial_67 : decode cX5_trial 67 = .ok (.aload_n 0, 1) := by decide +kernel
theorem dX5_trial_68 : decode cX5_trial 68 = .ok (.getfield 79, 3) := by decide +kernel
theorem dX5_trial_71 : decode cX5_trial 71 = .ok (.ireturn, 1) := by decide +kernel
theorem dX5_forget_0 : decode cX5_forget 0 = .ok (.aload_n 0, 1) := by decide +kernel
theorem dX5_forget_1 : decode cX5_forget 1 = .ok (.getfield 79, 3) := by decide +kernel
theorem dX5_forget_4 : decode cX5_forget 4 = .ok (.istore_n 1, 1) := by decide +kernel
theorem dX5_forget_5 : decode cX5_forget 5 = .ok (.aload_n 0, 1) := by decide +kernel
theorem dX5_forget_6 : decode cX5_forget 6 = .ok (.iconst 0, 1) := by decide +kernel
theorem dX5_forget_7 : decode cX5_forget 7 = .ok (.putfield 79, 3) := by decide +kernel
theorem dX5_forget_10 : decode cX5_forget 10 = .ok (.iload_n 1, 1) := by decide +kernel
theorem dX5_forget_11 : decode cX5_forget 11 = .ok (.ireturn, 1) := by decide +kernel
theorem dX5_whoBits_0 : decode cX5_whoBits 0 = .ok (.iconst 0, 1) := by decide +kernel
theorem dX5_whoBits_1 : decode cX5_whoBits 1 = .ok (.istore_n 1, 1) := by decide +kernel
theorem dX5_whoBits_2 : decode cX5_whoBits 2 = .ok (.iconst 0, 1) := by decide +kernel
theorem dX5_whoBits_3 : decode cX5_whoBits 3 = .ok (.istore_n 2, 1) := by decide +kernel
theorem dX5_whoBits_4 : decode cX5_whoBits 4 = .ok (.iload_n 2, 1) := by decide +kernel
theorem dX5_whoBits_5 : decode cX5_whoBits 5 = .ok (.aload_n 0, 1) := by decide +kernel
theorem dX5_whoBits_6 : decode cX5_whoBits 6 = .ok (.getfield 76, 3) := by decide +kernel
theorem dX5_whoBits_9 : decode cX5_whoBits 9 = .ok (.if_icmp .ge 110, 3) := by decide +kernel
theorem dX5_whoBits_12 : decode cX5_whoBits 12 = .ok (.aload_n 0, 1) := by decide +kernel
theorem dX5_whoBits_13 : decode cX5_whoBits 13 = .ok (.iload_n 2, 1) := by decide +kernel
theorem dX5_whoBits_14 : decode cX5_whoBits 14 = .ok (.aload_n 0, 1) := by decide +kernel
theorem dX5_whoBits_15 : decode cX5_whoBits 15 = .ok (.getfield 70, 3) := by decide +kernel
theorem dX5_whoBits_18 : decode cX5_whoBits 18 = .ok (.invokevirtual 121, 3) := by decide +kernel
theorem dX5_whoBits_21 : decode cX5_whoBits 21 = .ok (.istore_n 3, 1) := by decide +kernel
theorem dX5_whoBits_22 : decode cX5_whoBits 22 = .ok (.aload_n 0, 1) := by decide +kernel
theorem dX5_whoBits_23 : decode cX5_whoBits 23 = .ok (.getfield 19, 3) := by decide +kernel
theorem dX5_whoBits_26 : decode cX5_whoBits 26 = .ok (.iconst 3, 1) := by decide +kernel
theorem dX5_whoBits_27 : decode cX5_whoBits 27 = .ok (.iload_n 2, 1) := by decide +kernel
theorem dX5_whoBits_28 : decode cX5_whoBits 28 = .ok (.imul, 1) := by decide +kernel
theorem dX5_whoBits_29 : decode cX5_whoBits 29 = .ok (.iaload, 1) := by decide +kernel
theorem dX5_whoBits_30 : decode cX5_whoBits 30 = .ok (.iconst 3, 1) := by decide +kernel
theorem dX5_whoBits_31 : decode cX5_whoBits 31 = .ok (.if_icmp .eq 7, 3) := by decide +kernel
theorem dX5_whoBits_34 : decode cX5_whoBits 34 = .ok (.iconst 1, 1) := by decide +kernel
theorem dX5_whoBits_35 : decode cX5_whoBits 35 = .ok (.goto 4, 3) := by decide +kernel
theorem dX5_whoBits_38 : decode cX5_whoBits 38 = .ok (.iconst 0, 1) := by decide +kernel
theorem dX5_whoBits_39 : decode cX5_whoBits 39 = .ok (.istore 4, 2) := by decide +kernel
theorem dX5_whoBits_41 : decode cX5_whoBits 41 = .ok (.iconst 0, 1) := by decide +kernel
theorem dX5_whoBits_42 : decode cX5_whoBits 42 = .ok (.istore 5, 2) := by decide +kernel
theorem dX5_whoBits_44 : decode cX5_whoBits 44 = .ok (.iload 5, 2) := by decide +kernel
theorem dX5_whoBits_46 : decode cX5_whoBits 46 = .ok (.aload_n 0, 1) := by decide +kernel
theorem dX5_whoBits_47 : decode cX5_whoBits 47 = .ok (.getfield 79, 3) := by decide +kernel
theorem dX5_whoBits_50 : decode cX5_whoBits 50 = .ok (.if_icmp .ge 48, 3) := by decide +kernel
theorem dX5_whoBits_53 : decode cX5_whoBits 53 = .ok (.iload 4, 2) := by decide +kernel
theorem dX5_whoBits_55 : decode cX5_whoBits 55 = .ok (.ifCond .eq 34, 3) := by decide +kernel
theorem dX5_whoBits_58 : decode cX5_whoBits 58 = .ok (.iload_n 3, 1) := by decide +kernel
theorem dX5_whoBits_59 : decode cX5_whoBits 59 = .ok (.aload_n 0, 1) := by decide +kernel
theorem dX5_whoBits_60 : decode cX5_whoBits 60 = .ok (.getfield 25, 3) := by decide +kernel
theorem dX5_whoBits_63 : decode cX5_whoBits 63 = .ok (.iconst 2, 1) := by decide +kernel
theorem dX5_whoBits_64 : decode cX5_whoBits 64 = .ok (.iload 5, 2) := by decide +kernel
theorem dX5_whoBits_66 : decode cX5_whoBits 66 = .ok (.imul, 1) := by decide +kernel
theorem dX5_whoBits_67 : decode cX5_whoBits 67 = .ok (.iaload, 1) := by decide +kernel
theorem dX5_whoBits_68 : decode cX5_whoBits 68 = .ok (.ishr, 1) := by decide +kernel
theorem dX5_whoBits_69 : decode cX5_whoBits 69 = .ok (.iconst 1, 1) := by decide +kernel
theorem dX5_whoBits_70 : decode cX5_whoBits 70 = .ok (.iand, 1) := by decide +kernel
theorem dX5_whoBits_71 : decode cX5_whoBits 71 = .ok (.aload_n 0, 1) := by decide +kernel
theorem dX5_whoBits_72 : decode cX5_whoBits 72 = .ok (.getfield 25, 3) := by decide +kernel
theorem dX5_whoBits_75 : decode cX5_whoBits 75 = .ok (.iconst 2, 1) := by decide +kernel
theorem dX5_whoBits_76 : decode cX5_whoBits 76 = .ok (.iload 5, 2) := by decide +kernel
theorem dX5_whoBits_78 : decode cX5_whoBits 78 = .ok (.imul, 1) := by decide +kernel
theorem dX5_whoBits_79 : decode cX5_whoBits 79 = .ok (.iconst 1, 1) := by decide +kernel
theorem dX5_whoBits_80 : decode cX5_whoBits 80 = .ok (.iadd, 1) := by decide +kernel
theorem dX5_whoBits_81 : decode cX5_whoBits 81 = .ok (.iaload, 1) := by decide +kernel
theorem dX5_whoBits_82 : decode cX5_whoBits 82 = .ok (.if_icmp .ne 7, 3) := by decide +kernel
theorem dX5_whoBits_85 : decode cX5_whoBits 85 = .ok (.iconst 1, 1) := by decide +kernel
theorem dX5_whoBits_86 : decode cX5_whoBits 86 = .ok (.goto 4, 3) := by decide +kernel
theorem dX5_whoBits_89 : decode cX5_whoBits 89 = .ok (.iconst 0, 1) := by decide +kernel
theorem dX5_whoBits_90 : decode cX5_whoBits 90 = .ok (.istore 4, 2) := by decide +kernel
theorem dX5_whoBits_92 : decode cX5_whoBits 92 = .ok (.iinc 5 1, 3) := by decide +kernel
theorem dX5_whoBits_95 : decode cX5_whoBits 95 = .ok (.goto (-51), 3) := by decide +kernel
theorem dX5_whoBits_98 : decode cX5_whoBits 98 = .ok (.iload_n 1, 1) := by decide +kernel
theorem dX5_whoBits_99 : decode cX5_whoBits 99 = .ok (.iload 4, 2) := by decide +kernel
theorem dX5_whoBits_101 : decode cX5_whoBits 101 = .ok (.ifCond .eq 9, 3) := by decide +kernel
theorem dX5_whoBits_104 : decode cX5_whoBits 104 = .ok (.iconst 1, 1) := by decide +kernel
theorem dX5_whoBits_105 : decode cX5_whoBits 105 = .ok (.iload_n 2, 1) := by decide +kernel
theorem dX5_whoBits_106 : decode cX5_whoBits 106 = .ok (.ishl, 1) := by decide +kernel
theorem dX5_whoBits_107 : decode cX5_whoBits 107 = .ok (.goto 4, 3) := by decide +kernel
theorem dX5_whoBits_110 : decode cX5_whoBits 110 = .ok (.iconst 0, 1) := by decide +kernel
theorem dX5_whoBits_111 : decode cX5_whoBits 111 = .ok (.ior, 1) := by decide +kernel
theorem dX5_whoBits_112 : decode cX5_whoBits 112 = .ok (.istore_n 1, 1) := by decide +kernel
theorem dX5_whoBits_113 : decode cX5_whoBits 113 = .ok (.iinc 2 1, 3) := by decide +kernel
theorem dX5_whoBits_116 : decode cX5_whoBits 116 = .ok (.goto (-112), 3) := by decide +kernel
theorem dX5_whoBits_119 : decode cX5_whoBits 119 = .ok (.iload_n 1, 1) := by decide +kernel
theorem dX5_whoBits_120 : decode cX5_whoBits 120 = .ok (.ireturn, 1) := by decide +kernel
theorem dX5_who_0 : decode cX5_who 0 = .ok (.aload_n 0, 1) := by decide +kernel
theorem dX5_who_1 : decode cX5_who 1 = .ok (.getfield 66, 3) := by decide +kernel
theorem dX5_who_4 : decode cX5_who 4 = .ok (.ifCond .eq 10, 3) := by decide +kernel
theorem dX5_who_7 : decode cX5_who 7 = .ok (.aload_n 0, 1) := by decide +kernel
theorem dX5_who_8 : decode cX5_who 8 = .ok (.invokevirtual 144, 3) := by decide +kernel
theorem dX5_who_11 : decode cX5_who 11 = .ok (.goto 5, 3) := by decide +kernel
theorem dX5_who_14 : decode cX5_who 14 = .ok (.bipush (-103), 2) := by decide +kernel
theorem dX5_who_16 : decode cX5_who 16 = .ok (.ireturn, 1) := by decide +kernel
theorem dX5_askOf_0 : decode cX5_askOf 0 = .ok (.aload_n 0, 1) := by decide +kernel
theorem dX5_askOf_1 : decode cX5_askOf 1 = .ok (.invokevirtual 144, 3) := by decide +kernel
theorem dX5_askOf_4 : decode cX5_askOf 4 = .ok (.istore_n 1, 1) := by decide +kernel
theorem dX5_askOf_5 : decode cX5_askOf 5 = .ok (.iconst (-1), 1) := by decide +kernel
theorem dX5_askOf_6 : decode cX5_askOf 6 = .ok (.istore_n 2, 1) := by decide +kernel
theorem dX5_askOf_7 : decode cX5_askOf 7 = .ok (.bipush 7, 2) := by decide +kernel
theorem dX5_askOf_9 : decode cX5_askOf 9 = .ok (.istore_n 3, 1) := by decide +kernel
theorem dX5_askOf_10 : decode cX5_askOf 10 = .ok (.iconst 0, 1) := by decide +kernel
theorem dX5_askOf_11 : decode cX5_askOf 11 = .ok (.istore 4, 2) := by decide +kernel
theorem dX5_askOf_13 : decode cX5_askOf 13 = .ok (.iload 4, 2) := by decide +kernel
theorem dX5_askOf_15 : decode cX5_askOf 15 = .ok (.aload_n 0, 1) := by decide +kernel
theorem dX5_askOf_16 : decode cX5_askOf 16 = .ok (.getfield 76, 3) := by decide +kernel
theorem dX5_askOf_19 : decode cX5_askOf 19 = .ok (.if_icmp .ge 136, 3) := by decide +kernel
theorem dX5_askOf_22 : decode cX5_askOf 22 = .ok (.iload_n 1, 1) := by decide +kernel
theorem dX5_askOf_23 : decode cX5_askOf 23 = .ok (.ifCond .eq 132, 3) := by decide +kernel
theorem dX5_askOf_26 : decode cX5_askOf 26 = .ok (.iconst 0, 1) := by decide +kernel
theorem dX5_askOf_27 : decode cX5_askOf 27 = .ok (.istore 5, 2) := by decide +kernel
theorem dX5_askOf_29 : decode cX5_askOf 29 = .ok (.iconst 0, 1) := by decide +kernel
theorem dX5_askOf_30 : decode cX5_askOf 30 = .ok (.istore 6, 2) := by decide +kernel
theorem dX5_askOf_32 : decode cX5_askOf 32 = .ok (.iload 6, 2) := by decide +kernel
theorem dX5_askOf_34 : decode cX5_askOf 34 = .ok (.aload_n 0, 1) := by decide +kernel
theorem dX5_askOf_35 : decode cX5_askOf 35 = .ok (.getfield 76, 3) := by decide +kernel
theorem dX5_askOf_38 : decode cX5_askOf 38 = .ok (.if_icmp .ge 60, 3) := by decide +kernel
theorem dX5_askOf_41 : decode cX5_askOf 41 = .ok (.aload_n 0, 1) := by decide +kernel
theorem dX5_askOf_42 : decode cX5_askOf 42 = .ok (.iload 6, 2) := by decide +kernel
theorem dX5_askOf_44 : decode cX5_askOf 44 = .ok (.aload_n 0, 1) := by decide +kernel
theorem dX5_askOf_45 : decode cX5_askOf 45 = .ok (.getfield 70, 3) := by decide +kernel
theorem dX5_askOf_48 : decode cX5_askOf 48 = .ok (.invokevirtual 121, 3) := by decide +kernel
theorem dX5_askOf_51 : decode cX5_askOf 51 = .ok (.iload 4, 2) := by decide +kernel
theorem dX5_askOf_53 : decode cX5_askOf 53 = .ok (.ishr, 1) := by decide +kernel
theorem dX5_askOf_54 : decode cX5_askOf 54 = .ok (.iconst 1, 1) := by decide +kernel
theorem dX5_askOf_55 : decode cX5_askOf 55 = .ok (.iand, 1) := by decide +kernel
theorem dX5_askOf_56 : decode cX5_askOf 56 = .ok (.iconst 1, 1) := by decide +kernel
theorem dX5_askOf_57 : decode cX5_askOf 57 = .ok (.if_icmp .ne 7, 3) := by decide +kernel
theorem dX5_askOf_60 : decode cX5_askOf 60 = .ok (.iconst 1, 1) := by decide +kernel
theorem dX5_askOf_61 : decode cX5_askOf 61 = .ok (.goto 4, 3) := by decide +kernel
theorem dX5_askOf_64 : decode cX5_askOf 64 = .ok (.iconst 0, 1) := by decide +kernel
theorem dX5_askOf_65 : decode cX5_askOf 65 = .ok (.istore 7, 2) := by decide +kernel
theorem dX5_askOf_67 : decode cX5_askOf 67 = .ok (.iload 5, 2) := by decide +kernel
theorem dX5_askOf_69 : decode cX5_askOf 69 = .ok (.iload_n 1, 1) := by decide +kernel
theorem dX5_askOf_70 : decode cX5_askOf 70 = .ok (.iload 6, 2) := by decide +kernel
theorem dX5_askOf_72 : decode cX5_askOf 72 = .ok (.ishr, 1) := by decide +kernel
theorem dX5_askOf_73 : decode cX5_askOf 73 = .ok (.iconst 1, 1) := by decide +kernel
theorem dX5_askOf_74 : decode cX5_askOf 74 = .ok (.iand, 1) := by decide +kernel
theorem dX5_askOf_75 : decode cX5_askOf 75 = .ok (.iconst 1, 1) := by decide +kernel
theorem dX5_askOf_76 : decode cX5_askOf 76 = .ok (.if_icmp .ne 12, 3) := by decide +kernel
theorem dX5_askOf_79 : decode cX5_askOf 79 = .ok (.iload 7, 2) := by decide +kernel
theorem dX5_askOf_81 : decode cX5_askOf 81 = .ok (.ifCond .eq 7, 3) := by decide +kernel
theorem dX5_askOf_84 : decode cX5_askOf 84 = .ok (.iconst 1, 1) := by decide +kernel
theorem dX5_askOf_85 : decode cX5_askOf 85 = .ok (.goto 4, 3) := by decide +kernel
theorem dX5_askOf_88 : decode cX5_askOf 88 = .ok (.iconst 0, 1) := by decide +kernel
theorem dX5_askOf_89 : decode cX5_askOf 89 = .ok (.iadd, 1) := by decide +kernel
theorem dX5_askOf_90 : decode cX5_askOf 90 = .ok (.istore 5, 2) := by decide +kernel
theorem dX5_askOf_92 : decode cX5_askOf 92 = .ok (.iinc 6 1, 3) := by decide +kernel
theorem dX5_askOf_95 : decode cX5_askOf 95 = .ok (.goto (-63), 3) := by decide +kernel
theorem dX5_askOf_98 : decode cX5_askOf 98 = .ok (.iload_n 1, 1) := by decide +kernel
theorem dX5_askOf_99 : decode cX5_askOf 99 = .ok (.invokestatic 91, 3) := by decide +kernel
theorem dX5_askOf_102 : decode cX5_askOf 102 = .ok (.iload 5, 2) := by decide +kernel
theorem dX5_askOf_104 : decode cX5_askOf 104 = .ok (.isub, 1) := by decide +kernel
theorem dX5_askOf_105 : decode cX5_askOf 105 = .ok (.istore 6, 2) := by decide +kernel
theorem dX5_askOf_107 : decode cX5_askOf 107 = .ok (.iload 5, 2) := by decide +kernel
theorem dX5_askOf_109 : decode cX5_askOf 109 = .ok (.iload 6, 2) := by decide +kernel
theorem dX5_askOf_111 : decode cX5_askOf 111 = .ok (.if_icmp .le 8, 3) := by decide +kernel
theorem dX5_askOf_114 : decode cX5_askOf 114 = .ok (.iload 5, 2) := by decide +kernel
theorem dX5_askOf_116 : decode cX5_askOf 116 = .ok (.goto 5, 3) := by decide +kernel
theorem dX5_askOf_119 : decode cX5_askOf 119 = .ok (.iload 6, 2) := by decide +kernel
theorem dX5_askOf_121 : decode cX5_askOf 121 = .ok (.istore 7, 2) := by decide +kernel
theorem dX5_askOf_123 : decode cX5_askOf 123 = .ok (.iload 7, 2) := by decide +kernel
theorem dX5_askOf_125 : decode cX5_askOf 125 = .ok (.iload_n 3, 1) := by decide +kernel
theorem dX5_askOf_126 : decode cX5_askOf 126 = .ok (.if_icmp .ge 8, 3) := by decide +kernel
theorem dX5_askOf_129 : decode cX5_askOf 129 = .ok (.iload 4, 2) := by decide +kernel
theorem dX5_askOf_131 : decode cX5_askOf 131 = .ok (.goto 4, 3) := by decide +kernel
theorem dX5_askOf_134 : decode cX5_askOf 134 = .ok (.iload_n 2, 1) := by decide +kernel
theorem dX5_askOf_135 : decode cX5_askOf 135 = .ok (.istore_n 2, 1) := by decide +kernel
theorem dX5_askOf_136 : decode cX5_askOf 136 = .ok (.iload 7, 2) := by decide +kernel
theorem dX5_askOf_138 : decode cX5_askOf 138 = .ok (.iload_n 3, 1) := by decide +kernel
theorem dX5_askOf_139 : decode cX5_askOf 139 = .ok (.if_icmp .ge 8, 3) := by decide +kernel
theorem dX5_askOf_142 : decode cX5_askOf 142 = .ok (.iload 7, 2) := by decide +kernel
theorem dX5_askOf_144 : decode cX5_askOf 144 = .ok (.goto 4, 3) := by decide +kernel
theorem dX5_askOf_147 : decode cX5_askOf 147 = .ok (.iload_n 3, 1) := by decide +kernel
theorem dX5_askOf_148 : decode cX5_askOf 148 = .ok (.istore_n 3, 1) := by decide +kernel
theorem dX5_askOf_149 : decode cX5_askOf 149 = .ok (.iinc 4 1, 3) := by decide +kernel
theorem dX5_askOf_152 : decode cX5_askOf 152 = .ok (.goto (-139), 3) := by decide +kernel
theorem dX5_askOf_155 : decode cX5_askOf 155 = .ok (.iload_n 2, 1) := by decide +kernel
theorem dX5_askOf_156 : decode cX5_askOf 156 = .ok (.ireturn, 1) := by decide +kernel
theorem dX5_ask_0 : decode cX5_ask 0 = .ok (.aload_n 0, 1) := by decide +kernel
theorem dX5_ask_1 : decode cX5_ask 1 = .ok (.getfield 66, 3) := by decide +kernel
theorem dX5_ask_4 : decode cX5_ask 4 = .ok (.ifCond .eq 10, 3) := by decide +kernel
theorem dX5_ask_7 : decode cX5_ask 7 = .ok (.aload_n 0, 1) := by decide +kernel
theorem dX5_ask_8 : decode cX5_ask 8 = .ok (.invokevirtual 147, 3) := by decide +kernel
theorem dX5_ask_11 : decode cX5_ask 11 = .ok (.goto 5, 3) := by decide +kernel
theorem dX5_ask_14 : decode cX5_ask 14 = .ok (.bipush (-103), 2) := by decide +kernel
theorem dX5_ask_16 : decode cX5_ask 16 = .ok (.ireturn, 1) := by decide +kernel
theorem dX5_draw_0 : decode cX5_draw 0 = .ok (.aload_n 0, 1) := by decide +kernel
theorem dX5_draw_1 : decode cX5_draw 1 = .ok (.ldc2_w 150, 3) := by decide +kernel
theorem dX5_draw_4 : decode cX5_draw 4 = .ok (.aload_n 0, 1) := by decide +kernel
theorem dX5_draw_5 : decode cX5_draw 5 = .ok (.getfield 152, 3) := by decide +kernel
theorem dX5_draw_8 : decode cX5_draw 8 = .ok (.i2l, 1) := by decide +kernel
theorem dX5_draw_9 : decode cX5_draw 9 = .ok (.lmul, 1) := by decide +kernel
theorem dX5_draw_10 : decode cX5_draw 10 = .ok (.ldc2_w 155, 3) := by decide +kernel
theorem dX5_draw_13 : decode cX5_draw 13 = .ok (.ladd, 1) := by decide +kernel
theorem dX5_draw_14 : decode cX5_draw 14 = .ok (.ldc2_w 157, 3) := by decide +kernel
theorem dX5_draw_17 : decode cX5_draw 17 = .ok (.land, 1) := by decide +kernel
theorem dX5_draw_18 : decode cX5_draw 18 = .ok (.l2i, 1) := by decide +kernel
theorem dX5_draw_19 : decode cX5_draw 19 = .ok (.putfield 152, 3) := by decide +kernel
theorem dX5_draw_22 : decode cX5_draw 22 = .ok (.aload_n 0, 1) := by decide +kernel
theorem dX5_draw_23 : decode cX5_draw 23 = .ok (.getfield 152, 3) := by decide +kernel
theorem dX5_draw_26 : decode cX5_draw 26 = .ok (.ldc 159, 2) := by decide +kernel
theorem dX5_draw_28 : decode cX5_draw 28 = .ok (.idiv, 1) := by decide +kernel
theorem dX5_draw_29 : decode cX5_draw 29 = .ok (.iload_n 1, 1) := by decide +kernel
theorem dX5_draw_30 : decode cX5_draw 30 = .ok (.irem, 1) := by decide +kernel
theorem dX5_draw_31 : decode cX5_draw 31 = .ok (.ireturn, 1) := by decide +kernel
theorem dX5_knownAll_0 : decode cX5_knownAll 0 = .ok (.iconst 0, 1) := by decide +kernel
theorem dX5_knownAll_1 : decode cX5_knownAll 1 = .ok (.istore_n 1, 1) := by decide +kernel
theorem dX5_knownAll_2 : decode cX5_knownAll 2 = .ok (.iconst 0, 1) := by decide +kernel
theorem dX5_knownAll_3 : decode cX5_knownAll 3 = .ok (.istore_n 2, 1) := by decide +kernel
theorem dX5_knownAll_4 : decode cX5_knownAll 4 = .ok (.iload_n 2, 1) := by decide +kernel
theorem dX5_knownAll_5 : decode cX5_knownAll 5 = .ok (.aload_n 0, 1) := by decide +kernel
theorem dX5_knownAll_6 : decode cX5_knownAll 6 = .ok (.getfield 76, 3) := by decide +kernel
theorem dX5_knownAll_9 : decode cX5_knownAll 9 = .ok (.if_icmp .ge 25, 3) := by decide +kernel
theorem dX5_knownAll_12 : decode cX5_knownAll 12 = .ok (.iload_n 1, 1) := by decide +kernel
theorem dX5_knownAll_13 : decode cX5_knownAll 13 = .ok (.aload_n 0, 1) := by decide +kernel
theorem dX5_knownAll_14 : decode cX5_knownAll 14 = .ok (.getfield 19, 3) := by decide +kernel
theorem dX5_knownAll_17 : decode cX5_knownAll 17 = .ok (.iconst 3, 1) := by decide +kernel
theorem dX5_knownAll_18 : decode cX5_knownAll 18 = .ok (.iload_n 2, 1) := by decide +kernel
theorem dX5_knownAll_19 : decode cX5_knownAll 19 = .ok (.imul, 1) := by decide +kernel
theorem dX5_knownAll_20 : decode cX5_knownAll 20 = .ok (.iconst 2, 1) := by decide +kernel
theorem dX5_knownAll_21 : decode cX5_knownAll 21 = .ok (.iadd, 1) := by decide +kernel
theorem dX5_knownAll_22 : decode cX5_knownAll 22 = .ok (.iaload, 1) := by decide +kernel
theorem dX5_knownAll_23 : decode cX5_knownAll 23 = .ok (.invokestatic 91, 3) := by decide +kernel
theorem dX5_knownAll_26 : decode cX5_knownAll 26 = .ok (.iadd, 1) := by decide +kernel
theorem dX5_knownAll_27 : decode cX5_knownAll 27 = .ok (.istore_n 1, 1) := by decide +kernel
theorem dX5_knownAll_28 : decode cX5_knownAll 28 = .ok (.iinc 2 1, 3) := by decide +kernel
theorem dX5_knownAll_31 : decode cX5_knownAll 31 = .ok (.goto (-27), 3) := by decide +kernel
theorem dX5_knownAll_34 : decode cX5_knownAll 34 = .ok (.iload_n 1, 1) := by decide +kernel
theorem dX5_knownAll_35 : decode cX5_knownAll 35 = .ok (.ireturn, 1) := by decide +kernel
theorem dX5_days_0 : decode cX5_days 0 = .ok (.iload_n 1, 1) := by decide +kernel
theorem dX5_days_1 : decode cX5_days 1 = .ok (.i2l, 1) := by decide +kernel
theorem dX5_days_2 : decode cX5_days 2 = .ok (.lconst 1, 1) := by decide +kernel
theorem dX5_days_3 : decode cX5_days 3 = .ok (.ldc2_w 160, 3) := by decide +kernel
theorem dX5_days_6 : decode cX5_days 6 = .ok (.invokestatic 43, 3) := by decide +kernel
theorem dX5_days_9 : decode cX5_days 9 = .ok (.ifCond .eq 19, 3) := by decide +kernel
theorem dX5_days_12 : decode cX5_days 12 = .ok (.iload_n 2, 1) := by decide +kernel
theorem dX5_days_13 : decode cX5_days 13 = .ok (.ifCond .lt 15, 3) := by decide +kernel
theorem dX5_days_16 : decode cX5_days 16 = .ok (.iload_n 3, 1) := by decide +kernel
theorem dX5_days_17 : decode cX5_days 17 = .ok (.i2l, 1) := by decide +kernel
theorem dX5_days_18 : decode cX5_days 18 = .ok (.lconst 0, 1) := by decide +kernel
theorem dX5_days_19 : decode cX5_days 19 = .ok (.ldc2_w 162, 3) := by decide +kernel
theorem dX5_days_22 : decode cX5_days 22 = .ok (.invokestatic 43, 3) := by decide +kernel
theorem dX5_days_25 : decode cX5_days 25 = .ok (.ifCond .ne 6, 3) := by decide +kernel
theorem dX5_days_28 : decode cX5_days 28 = .ok (.bipush (-102), 2) := by decide +kernel
theorem dX5_days_30 : decode cX5_days 30 = .ok (.ireturn, 1) := by decide +kernel
theorem dX5_days_31 : decode cX5_days 31 = .ok (.aload_n 0, 1) := by decide +kernel
theorem dX5_days_32 : decode cX5_days 32 = .ok (.getfield 76, 3) := by decide +kernel
theorem dX5_days_35 : decode cX5_days 35 = .ok (.ifCond .ne 6, 3) := by decide +kernel
theorem dX5_days_38 : decode cX5_days 38 = .ok (.bipush (-103), 2) := by decide +kernel
theorem dX5_days_40 : decode cX5_days 40 = .ok (.ireturn, 1) := by decide +kernel
theorem dX5_days_41 : decode cX5_days 41 = .ok (.aload_n 0, 1) := by decide +kernel
theorem dX5_days_42 : decode cX5_days 42 = .ok (.getfield 19, 3) := by decide +kernel
theorem dX5_days_45 : decode cX5_days 45 = .ok (.aload_n 0, 1) := by decide +kernel
theorem dX5_days_46 : decode cX5_days 46 = .ok (.getfield 28, 3) := by decide +kernel
theorem dX5_days_49 : decode cX5_days 49 = .ok (.invokestatic 164, 3) := by decide +kernel
theorem dX5_days_52 : decode cX5_days 52 = .ok (.aload_n 0, 1) := by decide +kernel
theorem dX5_days_53 : decode cX5_days 53 = .ok (.iload_n 2, 1) := by decide +kernel
theorem dX5_days_54 : decode cX5_days 54 = .ok (.putfield 152, 3) := by decide +kernel
theorem dX5_days_57 : decode cX5_days 57 = .ok (.iconst 0, 1) := by decide +kernel
theorem dX5_days_58 : decode cX5_days 58 = .ok (.istore 4, 2) := by decide +kernel
theorem dX5_days_60 : decode cX5_days 60 = .ok (.iconst 0, 1) := by decide +kernel
theorem dX5_days_61 : decode cX5_days 61 = .ok (.istore 5, 2) := by decide +kernel
theorem dX5_days_63 : decode cX5_days 63 = .ok (.iload 5, 2) := by decide +kernel
theorem dX5_days_65 : decode cX5_days 65 = .ok (.iload_n 1, 1) := by decide +kernel
theorem dX5_days_66 : decode cX5_days 66 = .ok (.if_icmp .ge 84, 3) := by decide +kernel
theorem dX5_days_69 : decode cX5_days 69 = .ok (.aload_n 0, 1) := by decide +kernel
theorem dX5_days_70 : decode cX5_days 70 = .ok (.aload_n 0, 1) := by decide +kernel
theorem dX5_days_71 : decode cX5_days 71 = .ok (.getfield 76, 3) := by decide +kernel
theorem dX5_days_74 : decode cX5_days 74 = .ok (.invokevirtual 168, 3) := by decide +kernel
theorem dX5_days_77 : decode cX5_days 77 = .ok (.istore 6, 2) := by decide +kernel
theorem dX5_days_79 : decode cX5_days 79 = .ok (.aload_n 0, 1) := by decide +kernel
theorem dX5_days_80 : decode cX5_days 80 = .ok (.getfield 19, 3) := by decide +kernel
theorem dX5_days_83 : decode cX5_days 83 = .ok (.iconst 3, 1) := by decide +kernel
theorem dX5_days_84 : decode cX5_days 84 = .ok (.iload 6, 2) := by decide +kernel
theorem dX5_days_86 : decode cX5_days 86 = .ok (.imul, 1) := by decide +kernel
theorem dX5_days_87 : decode cX5_days 87 = .ok (.iconst 1, 1) := by decide +kernel
theorem dX5_days_88 : decode cX5_days 88 = .ok (.iadd, 1) := by decide +kernel
theorem dX5_days_89 : decode cX5_days 89 = .ok (.aload_n 0, 1) := by decide +kernel
theorem dX5_days_90 : decode cX5_days 90 = .ok (.bipush 8, 2) := by decide +kernel
theorem dX5_days_92 : decode cX5_days 92 = .ok (.invokevirtual 168, 3) := by decide +kernel
theorem dX5_days_95 : decode cX5_days 95 = .ok (.iastore, 1) := by decide +kernel
theorem dX5_days_96 : decode cX5_days 96 = .ok (.aload_n 0, 1) := by decide +kernel
theorem dX5_days_97 : decode cX5_days 97 = .ok (.aload_n 0, 1) := by decide +kernel
theorem dX5_days_98 : decode cX5_days 98 = .ok (.getfield 76, 3) := by decide +kernel
theorem dX5_days_101 : decode cX5_days 101 = .ok (.invokevirtual 168, 3) := by decide +kernel
theorem dX5_days_104 : decode cX5_days 104 = .ok (.istore 7, 2) := by decide +kernel
theorem dX5_days_106 : decode cX5_days 106 = .ok (.aload_n 0, 1) := by decide +kernel
theorem dX5_days_107 : decode cX5_days 107 = .ok (.bipush 10, 2) := by decide +kernel
theorem dX5_days_109 : decode cX5_days 109 = .ok (.invokevirtual 168, 3) := by decide +kernel
theorem dX5_days_112 : decode cX5_days 112 = .ok (.istore 8, 2) := by decide +kernel
theorem dX5_days_114 : decode cX5_days 114 = .ok (.iload 4, 2) := by decide +kernel
theorem dX5_days_116 : decode cX5_days 116 = .ok (.aload_n 0, 1) := by decide +kernel
theorem dX5_days_117 : decode cX5_days 117 = .ok (.getfield 19, 3) := by decide +kernel
theorem dX5_days_120 : decode cX5_days 120 = .ok (.iconst 3, 1) := by decide +kernel
theorem dX5_days_121 : decode cX5_days 121 = .ok (.iload 7, 2) := by decide +kernel
theorem dX5_days_123 : decode cX5_days 123 = .ok (.imul, 1) := by decide +kernel
theorem dX5_days_124 : decode cX5_days 124 = .ok (.iaload, 1) := by decide +kernel
theorem dX5_days_125 : decode cX5_days 125 = .ok (.iconst 3, 1) := by decide +kernel
theorem dX5_days_126 : decode cX5_days 126 = .ok (.if_icmp .ne 7, 3) := by decide +kernel
theorem dX5_days_129 : decode cX5_days 129 = .ok (.iconst 0, 1) := by decide +kernel
theorem dX5_days_130 : decode cX5_days 130 = .ok (.goto 11, 3) := by decide +kernel
theorem dX5_days_133 : decode cX5_days 133 = .ok (.aload_n 0, 1) := by decide +kernel
theorem dX5_days_134 : decode cX5_days 134 = .ok (.iload 7, 2) := by decide +kernel
theorem dX5_days_136 : decode cX5_days 136 = .ok (.iload 8, 2) := by decide +kernel
theorem dX5_days_138 : decode cX5_days 138 = .ok (.invokevirtual 129, 3) := by decide +kernel
theorem dX5_days_141 : decode cX5_days 141 = .ok (.iadd, 1) := by decide +kernel
theorem dX5_days_142 : decode cX5_days 142 = .ok (.istore 4, 2) := by decide +kernel
theorem dX5_days_144 : decode cX5_days 144 = .ok (.iinc 5 1, 3) := by decide +kernel
theorem dX5_days_147 : decode cX5_days 147 = .ok (.goto (-84), 3) := by decide +kernel
theorem dX5_days_150 : decode cX5_days 150 = .ok (.aload_n 0, 1) := by decide +kernel
theorem dX5_days_151 : decode cX5_days 151 = .ok (.invokevirtual 171, 3) := by decide +kernel
theorem dX5_days_154 : decode cX5_days 154 = .ok (.istore 5, 2) := by decide +kernel
theorem dX5_days_156 : decode cX5_days 156 = .ok (.aload_n 0, 1) := by decide +kernel
theorem dX5_days_157 : decode cX5_days 157 = .ok (.getfield 28, 3) := by decide +kernel
theorem dX5_days_160 : decode cX5_days 160 = .ok (.aload_n 0, 1) := by decide +kernel
theorem dX5_days_161 : decode cX5_days 161 = .ok (.getfield 19, 3) := by decide +kernel
theorem dX5_days_164 : decode cX5_days 164 = .ok (.invokestatic 164, 3) := by decide +kernel
theorem dX5_days_167 : decode cX5_days 167 = .ok (.iload_n 3, 1) := by decide +kernel
theorem dX5_days_168 : decode cX5_days 168 = .ok (.ifCond .ne 8, 3) := by decide +kernel
theorem dX5_days_171 : decode cX5_days 171 = .ok (.iload 4, 2) := by decide +kernel
theorem dX5_days_173 : decode cX5_days 173 = .ok (.goto 17, 3) := by decide +kernel
theorem dX5_days_176 : decode cX5_days 176 = .ok (.iload_n 3, 1) := by decide +kernel
theorem dX5_days_177 : decode cX5_days 177 = .ok (.iconst 1, 1) := by decide +kernel
theorem dX5_days_178 : decode cX5_days 178 = .ok (.if_icmp .ne 8, 3) := by decide +kernel
theorem dX5_days_181 : decode cX5_days 181 = .ok (.iload 5, 2) := by decide +kernel
theorem dX5_days_183 : decode cX5_days 183 = .ok (.goto 7, 3) := by decide +kernel
theorem dX5_days_186 : decode cX5_days 186 = .ok (.aload_n 0, 1) := by decide +kernel
theorem dX5_days_187 : decode cX5_days 187 = .ok (.getfield 152, 3) := by decide +kernel
theorem dX5_days_190 : decode cX5_days 190 = .ok (.ireturn, 1) := by decide +kernel
theorem dX5_image_0 : decode cX5_image 0 = .ok (.aload_n 0, 1) := by decide +kernel
theorem dX5_image_1 : decode cX5_image 1 = .ok (.getfield 66, 3) := by decide +kernel
theorem dX5_image_4 : decode cX5_image 4 = .ok (.ifCond .ne 6, 3) := by decide +kernel
theorem dX5_image_7 : decode cX5_image 7 = .ok (.bipush (-103), 2) := by decide +kernel
theorem dX5_image_9 : decode cX5_image 9 = .ok (.ireturn, 1) := by decide +kernel
theorem dX5_image_10 : decode cX5_image 10 = .ok (.aload_n 0, 1) := by decide +kernel
theorem dX5_image_11 : decode cX5_image 11 = .ok (.getfield 19, 3) := by decide +kernel
theorem dX5_image_14 : decode cX5_image 14 = .ok (.aload_n 0, 1) := by decide +kernel
theorem dX5_image_15 : decode cX5_image 15 = .ok (.getfield 31, 3) := by decide +kernel
theorem dX5_image_18 : decode cX5_image 18 = .ok (.invokestatic 164, 3) := by decide +kernel
theorem dX5_image_21 : decode cX5_image 21 = .ok (.aload_n 0, 1) := by decide +kernel
theorem dX5_image_22 : decode cX5_image 22 = .ok (.getfield 25, 3) := by decide +kernel
theorem dX5_image_25 : decode cX5_image 25 = .ok (.aload_n 0, 1) := by decide +kernel
theorem dX5_image_26 : decode cX5_image 26 = .ok (.getfield 34, 3) := by decide +kernel
theorem dX5_image_29 : decode cX5_image 29 = .ok (.invokestatic 164, 3) := by decide +kernel
theorem dX5_image_32 : decode cX5_image 32 = .ok (.aload_n 0, 1) := by decide +kernel
theorem dX5_image_33 : decode cX5_image 33 = .ok (.aload_n 0, 1) := by decide +kernel
theorem dX5_image_34 : decode cX5_image 34 = .ok (.getfield 76, 3) := by decide +kernel
theorem dX5_image_37 : decode cX5_image 37 = .ok (.putfield 174, 3) := by decide +kernel
theorem dX5_image_40 : decode cX5_image 40 = .ok (.aload_n 0, 1) := by decide +kernel
theorem dX5_image_41 : decode cX5_image 41 = .ok (.aload_n 0, 1) := by decide +kernel
theorem dX5_image_42 : decode cX5_image 42 = .ok (.getfield 70, 3) := by decide +kernel
theorem dX5_image_45 : decode cX5_image 45 = .ok (.putfield 177, 3) := by decide +kernel
theorem dX5_image_48 : decode cX5_image 48 = .ok (.aload_n 0, 1) := by decide +kernel
theorem dX5_image_49 : decode cX5_image 49 = .ok (.aload_n 0, 1) := by decide +kernel
theorem dX5_image_50 : decode cX5_image 50 = .ok (.getfield 73, 3) := by decide +kernel
theorem dX5_image_53 : decode cX5_image 53 = .ok (.putfield 180, 3) := by decide +kernel
theorem dX5_image_56 : decode cX5_image 56 = .ok (.aload_n 0, 1) := by decide +kernel
theorem dX5_image_57 : decode cX5_image 57 = .ok (.aload_n 0, 1) := by decide +kernel
theorem dX5_image_58 : decode cX5_image 58 = .ok (.getfield 79, 3) := by decide +kernel
theorem dX5_image_61 : decode cX5_image 61 = .ok (.putfield 183, 3) := by decide +kernel
theorem dX5_image_64 : decode cX5_image 64 = .ok (.aload_n 0, 1) := by decide +kernel
theorem dX5_image_65 : decode cX5_image 65 = .ok (.aload_n 0, 1) := by decide +kernel
theorem dX5_image_66 : decode cX5_image 66 = .ok (.getfield 82, 3) := by decide +kernel
theorem dX5_image_69 : decode cX5_image 69 = .ok (.putfield 37, 3) := by decide +kernel
theorem dX5_image_72 : decode cX5_image 72 = .ok (.aload_n 0, 1) := by decide +kernel
theorem dX5_image_73 : decode cX5_image 73 = .ok (.getfield 76, 3) := by decide +kernel
theorem dX5_image_76 : decode cX5_image 76 = .ok (.ireturn, 1) := by decide +kernel
theorem dX5_restore_0 : decode cX5_restore 0 = .ok (.aload_n 0, 1) := by decide +kernel
theorem dX5_restore_1 : decode cX5_restore 1 = .ok (.getfield 37, 3) := by decide +kernel
theorem dX5_restore_4 : decode cX5_restore 4 = .ok (.aload_n 0, 1) := by decide +kernel
theorem dX5_restore_5 : decode cX5_restore 5 = .ok (.getfield 82, 3) := by decide +kernel
theorem dX5_restore_8 : decode cX5_restore 8 = .ok (.if_icmp .eq 6, 3) := by decide +kernel
theorem dX5_restore_11 : decode cX5_restore 11 = .ok (.bipush (-103), 2) := by decide +kernel
theorem dX5_restore_13 : decode cX5_restore 13 = .ok (.ireturn, 1) := by decide +kernel
theorem dX5_restore_14 : decode cX5_restore 14 = .ok (.aload_n 0, 1) := by decide +kernel
theorem dX5_restore_15 : decode cX5_restore 15 = .ok (.getfield 31, 3) := by decide +kernel
theorem dX5_restore_18 : decode cX5_restore 18 = .ok (.aload_n 0, 1) := by decide +kernel
theorem dX5_restore_19 : decode cX5_restore 19 = .ok (.getfield 19, 3) := by decide +kernel
theorem dX5_restore_22 : decode cX5_restore 22 = .ok (.invokestatic 164, 3) := by decide +kernel
theorem dX5_restore_25 : decode cX5_restore 25 = .ok (.aload_n 0, 1) := by decide +kernel
theorem dX5_restore_26 : decode cX5_restore 26 = .ok (.getfield 34, 3) := by decide +kernel
theorem dX5_restore_29 : decode cX5_restore 29 = .ok (.aload_n 0, 1) := by decide +kernel
theorem dX5_restore_30 : decode cX5_restore 30 = .ok (.getfield 25, 3) := by decide +kernel
theorem dX5_restore_33 : decode cX5_restore 33 = .ok (.invokestatic 164, 3) := by decide +kernel
theorem dX5_restore_36 : decode cX5_restore 36 = .ok (.aload_n 0, 1) := by decide +kernel
theorem dX5_restore_37 : decode cX5_restore 37 = .ok (.aload_n 0, 1) := by decide +kernel
theorem dX5_restore_38 : decode cX5_restore 38 = .ok (.getfield 174, 3) := by decide +kernel
theorem dX5_restore_41 : decode cX5_restore 41 = .ok (.putfield 76, 3) := by decide +kernel
theorem dX5_restore_44 : decode cX5_restore 44 = .ok (.aload_n 0, 1) := by decide +kernel
theorem dX5_restore_45 : decode cX5_restore 45 = .ok (.aload_n 0, 1) := by decide +kernel
theorem dX5_restore_46 : decode cX5_restore 46 = .ok (.getfield 177, 3) := by decide +kernel
theorem dX5_restore_49 : decode cX5_restore 49 = .ok (.putfield 70, 3) := by decide +kernel
theorem dX5_restore_52 : decode cX5_restore 52 = .ok (.aload_n 0, 1) := by decide +kernel
theorem dX5_restore_53 : decode cX5_restore 53 = .ok (.aload_n 0, 1) := by decide +kernel
theorem dX5_restore_54 : decode cX5_restore 54 = .ok (.getfield 180, 3) := by decide +kernel
theorem dX5_restore_57 : decode cX5_restore 57 = .ok (.putfield 73, 3) := by decide +kernel
theorem dX5_restore_60 : decode cX5_restore 60 = .ok (.aload_n 0, 1) := by decide +kernel
theorem dX5_restore_61 : decode cX5_restore 61 = .ok (.aload_n 0, 1) := by decide +kernel
theorem dX5_restore_62 : decode cX5_restore 62 = .ok (.getfield 183, 3) := by decide +kernel
theorem dX5_restore_65 : decode cX5_restore 65 = .ok (.putfield 79, 3) := by decide +kernel
theorem dX5_restore_68 : decode cX5_restore 68 = .ok (.aload_n 0, 1) := by decide +kernel
theorem dX5_restore_69 : decode cX5_restore 69 = .ok (.getfield 76, 3) := by decide +kernel
theorem dX5_restore_72 : decode cX5_restore 72 = .ok (.ireturn, 1) := by decide +kernel
theorem dX5_countOf_0 : decode cX5_countOf 0 = .ok (.iload_n 1, 1) := by decide +kernel
theorem dX5_countOf_1 : decode cX5_countOf 1 = .ok (.tableswitch 90 0 7 #[47, 52, 60, 65, 70, 75, 80, 85], 47) := by decide +kernel
theorem dX5_countOf_48 : decode cX5_countOf 48 = .ok (.aload_n 0, 1) := by decide +kernel
theorem dX5_countOf_49 : decode cX5_countOf 49 = .ok (.getfield 76, 3) := by decide +kernel
theorem dX5_countOf_52 : decode cX5_countOf 52 = .ok (.ireturn, 1) := by decide +kernel
theorem dX5_countOf_53 : decode cX5_countOf 53 = .ok (.aload_n 0, 1) := by decide +kernel
theorem dX5_countOf_54 : decode cX5_countOf 54 = .ok (.getfield 70, 3) := by decide +kernel
theorem dX5_countOf_57 : decode cX5_countOf 57 = .ok (.invokestatic 91, 3) := by decide +kernel
theorem dX5_countOf_60 : decode cX5_countOf 60 = .ok (.ireturn, 1) := by decide +kernel
theorem dX5_countOf_61 : decode cX5_countOf 61 = .ok (.aload_n 0, 1) := by decide +kernel
theorem dX5_countOf_62 : decode cX5_countOf 62 = .ok (.invokevirtual 171, 3) := by decide +kernel
theorem dX5_countOf_65 : decode cX5_countOf 65 = .ok (.ireturn, 1) := by decide +kernel
theorem dX5_countOf_66 : decode cX5_countOf 66 = .ok (.aload_n 0, 1) := by decide +kernel
theorem dX5_countOf_67 : decode cX5_countOf 67 = .ok (.getfield 73, 3) := by decide +kernel
theorem dX5_countOf_70 : decode cX5_countOf 70 = .ok (.ireturn, 1) := by decide +kernel
theorem dX5_countOf_71 : decode cX5_countOf 71 = .ok (.aload_n 0, 1) := by decide +kernel
theorem dX5_countOf_72 : decode cX5_countOf 72 = .ok (.getfield 79, 3) := by decide +kernel
theorem dX5_countOf_75 : decode cX5_countOf 75 = .ok (.ireturn, 1) := by decide +kernel
theorem dX5_countOf_76 : decode cX5_countOf 76 = .ok (.aload_n 0, 1) := by decide +kernel
theorem dX5_countOf_77 : decode cX5_countOf 77 = .ok (.getfield 47, 3) := by decide +kernel
theorem dX5_countOf_80 : decode cX5_countOf 80 = .ok (.ireturn, 1) := by decide +kernel
theorem dX5_countOf_81 : decode cX5_countOf 81 = .ok (.aload_n 0, 1) := by decide +kernel
theorem dX5_countOf_82 : decode cX5_countOf 82 = .ok (.getfield 82, 3) := by decide +kernel
theorem dX5_countOf_85 : decode cX5_countOf 85 = .ok (.ireturn, 1) := by decide +kernel
theorem dX5_countOf_86 : decode cX5_countOf 86 = .ok (.aload_n 0, 1) := by decide +kernel
theorem dX5_countOf_87 : decode cX5_countOf 87 = .ok (.getfield 135, 3) := by decide +kernel
theorem dX5_countOf_90 : decode cX5_countOf 90 = .ok (.ireturn, 1) := by decide +kernel
theorem dX5_countOf_91 : decode cX5_countOf 91 = .ok (.bipush (-102), 2) := by decide +kernel
theorem dX5_countOf_93 : decode cX5_countOf 93 = .ok (.ireturn, 1) := by decide +kernel
theorem dX5_count_0 : decode cX5_count 0 = .ok (.aload_n 0, 1) := by decide +kernel
theorem dX5_count_1 : decode cX5_count 1 = .ok (.iload_n 1, 1) := by decide +kernel
theorem dX5_count_2 : decode cX5_count 2 = .ok (.invokevirtual 186, 3) := by decide +kernel
theorem dX5_count_5 : decode cX5_count 5 = .ok (.ireturn, 1) := by decide +kernel
theorem dX5_note_0 : decode cX5_note 0 = .ok (.aload_n 0, 1) := by decide +kernel
theorem dX5_note_1 : decode cX5_note 1 = .ok (.ldc2_w 189, 3) := by decide +kernel
theorem dX5_note_4 : decode cX5_note 4 = .ok (.aload_n 0, 1) := by decide +kernel
theorem dX5_note_5 : decode cX5_note 5 = .ok (.getfield 191, 3) := by decide +kernel
theorem dX5_note_8 : decode cX5_note 8 = .ok (.lmul, 1) := by decide +kernel
theorem dX5_note_9 : decode cX5_note 9 = .ok (.lload_n 1, 1) := by decide +kernel
theorem dX5_note_10 : decode cX5_note 10 = .ok (.ladd, 1) := by decide +kernel
theorem dX5_note_11 : decode cX5_note 11 = .ok (.putfield 191, 3) := by decide +kernel
theorem dX5_note_14 : decode cX5_note 14 = .ok (.return_, 1) := by decide +kernel
theorem dX5_digest_0 : decode cX5_digest 0 = .ok (.aload_n 0, 1) := by decide +kernel
theorem dX5_digest_1 : decode cX5_digest 1 = .ok (.ldc2_w 195, 3) := by decide +kernel
theorem dX5_digest_4 : decode cX5_digest 4 = .ok (.putfield 191, 3) := by decide +kernel
theorem dX5_digest_7 : decode cX5_digest 7 = .ok (.iconst 0, 1) := by decide +kernel
theorem dX5_digest_8 : decode cX5_digest 8 = .ok (.istore_n 1, 1) := by decide +kernel
theorem dX5_digest_9 : decode cX5_digest 9 = .ok (.iload_n 1, 1) := by decide +kernel
theorem dX5_digest_10 : decode cX5_digest 10 = .ok (.bipush 8, 2) := by decide +kernel
theorem dX5_digest_12 : decode cX5_digest 12 = .ok (.if_icmp .ge 41, 3) := by decide +kernel
theorem dX5_digest_15 : decode cX5_digest 15 = .ok (.aload_n 0, 1) := by decide +kernel
theorem dX5_digest_16 : decode cX5_digest 16 = .ok (.getfield 66, 3) := by decide +kernel
theorem dX5_digest_19 : decode cX5_digest 19 = .ok (.ifCond .eq 34, 3) := by decide +kernel
theorem dX5_digest_22 : decode cX5_digest 22 = .ok (.iconst 0, 1) := by decide +kernel
theorem dX5_digest_23 : decode cX5_digest 23 = .ok (.istore_n 2, 1) := by decide +kernel
theorem dX5_digest_24 : decode cX5_digest 24 = .ok (.iload_n 2, 1) := by decide +kernel
theorem dX5_digest_25 : decode cX5_digest 25 = .ok (.bipush 6, 2) := by decide +kernel
theorem dX5_digest_27 : decode cX5_digest 27 = .ok (.if_icmp .ge 20, 3) := by decide +kernel
theorem dX5_digest_30 : decode cX5_digest 30 = .ok (.aload_n 0, 1) := by decide +kernel
theorem dX5_digest_31 : decode cX5_digest 31 = .ok (.aload_n 0, 1) := by decide +kernel
theorem dX5_digest_32 : decode cX5_digest 32 = .ok (.iload_n 1, 1) := by decide +kernel
theorem dX5_digest_33 : decode cX5_digest 33 = .ok (.iload_n 2, 1) := by decide +kernel
theorem dX5_digest_34 : decode cX5_digest 34 = .ok (.invokevirtual 104, 3) := by decide +kernel
theorem dX5_digest_37 : decode cX5_digest 37 = .ok (.i2l, 1) := by decide +kernel
theorem dX5_digest_38 : decode cX5_digest 38 = .ok (.invokevirtual 197, 3) := by decide +kernel
theorem dX5_digest_41 : decode cX5_digest 41 = .ok (.iinc 2 1, 3) := by decide +kernel
theorem dX5_digest_44 : decode cX5_digest 44 = .ok (.goto (-20), 3) := by decide +kernel
theorem dX5_digest_47 : decode cX5_digest 47 = .ok (.iinc 1 1, 3) := by decide +kernel
theorem dX5_digest_50 : decode cX5_digest 50 = .ok (.goto (-41), 3) := by decide +kernel
theorem dX5_digest_53 : decode cX5_digest 53 = .ok (.iconst 0, 1) := by decide +kernel
theorem dX5_digest_54 : decode cX5_digest 54 = .ok (.istore_n 1, 1) := by decide +kernel
theorem dX5_digest_55 : decode cX5_digest 55 = .ok (.iload_n 1, 1) := by decide +kernel
theorem dX5_digest_56 : decode cX5_digest 56 = .ok (.aload_n 0, 1) := by decide +kernel
theorem dX5_digest_57 : decode cX5_digest 57 = .ok (.getfield 76, 3) := by decide +kernel
theorem dX5_digest_60 : decode cX5_digest 60 = .ok (.if_icmp .ge 60, 3) := by decide +kernel
theorem dX5_digest_63 : decode cX5_digest 63 = .ok (.iconst 0, 1) := by decide +kernel
theorem dX5_digest_64 : decode cX5_digest 64 = .ok (.istore_n 2, 1) := by decide +kernel
theorem dX5_digest_65 : decode cX5_digest 65 = .ok (.iload_n 2, 1) := by decide +kernel
theorem dX5_digest_66 : decode cX5_digest 66 = .ok (.iconst 4, 1) := by decide +kernel
theorem dX5_digest_67 : decode cX5_digest 67 = .ok (.if_icmp .ge 20, 3) := by decide +kernel
theorem dX5_digest_70 : decode cX5_digest 70 = .ok (.aload_n 0, 1) := by decide +kernel
theorem dX5_digest_71 : decode cX5_digest 71 = .ok (.aload_n 0, 1) := by decide +kernel
theorem dX5_digest_72 : decode cX5_digest 72 = .ok (.iload_n 1, 1) := by decide +kernel
theorem dX5_digest_73 : decode cX5_digest 73 = .ok (.iload_n 2, 1) := by decide +kernel
theorem dX5_digest_74 : decode cX5_digest 74 = .ok (.invokevirtual 124, 3) := by decide +kernel
theorem dX5_digest_77 : decode cX5_digest 77 = .ok (.i2l, 1) := by decide +kernel
theorem dX5_digest_78 : decode cX5_digest 78 = .ok (.invokevirtual 197, 3) := by decide +kernel
theorem dX5_digest_81 : decode cX5_digest 81 = .ok (.iinc 2 1, 3) := by decide +kernel
theorem dX5_digest_84 : decode cX5_digest 84 = .ok (.goto (-19), 3) := by decide +kernel
theorem dX5_digest_87 : decode cX5_digest 87 = .ok (.iconst 0, 1) := by decide +kernel
theorem dX5_digest_88 : decode cX5_digest 88 = .ok (.istore_n 2, 1) := by decide +kernel
theorem dX5_digest_89 : decode cX5_digest 89 = .ok (.iload_n 2, 1) := by decide +kernel
theorem dX5_digest_90 : decode cX5_digest 90 = .ok (.aload_n 0, 1) := by decide +kernel
theorem dX5_digest_91 : decode cX5_digest 91 = .ok (.getfield 76, 3) := by decide +kernel
theorem dX5_digest_94 : decode cX5_digest 94 = .ok (.if_icmp .ge 20, 3) := by decide +kernel
theorem dX5_digest_97 : decode cX5_digest 97 = .ok (.aload_n 0, 1) := by decide +kernel
theorem dX5_digest_98 : decode cX5_digest 98 = .ok (.aload_n 0, 1) := by decide +kernel
theorem dX5_digest_99 : decode cX5_digest 99 = .ok (.iload_n 1, 1) := by decide +kernel
theorem dX5_digest_100 : decode cX5_digest 100 = .ok (.iload_n 2, 1) := by decide +kernel
theorem dX5_digest_101 : decode cX5_digest 101 = .ok (.invokevirtual 132, 3) := by decide +kernel
theorem dX5_digest_104 : decode cX5_digest 104 = .ok (.i2l, 1) := by decide +kernel
theorem dX5_digest_105 : decode cX5_digest 105 = .ok (.invokevirtual 197, 3) := by decide +kernel
theorem dX5_digest_108 : decode cX5_digest 108 = .ok (.iinc 2 1, 3) := by decide +kernel
theorem dX5_digest_111 : decode cX5_digest 111 = .ok (.goto (-22), 3) := by decide +kernel
theorem dX5_digest_114 : decode cX5_digest 114 = .ok (.iinc 1 1, 3) := by decide +kernel
theorem dX5_digest_117 : decode cX5_digest 117 = .ok (.goto (-62), 3) := by decide +kernel
theorem dX5_digest_120 : decode cX5_digest 120 = .ok (.aload_n 0, 1) := by decide +kernel
theorem dX5_digest_121 : decode cX5_digest 121 = .ok (.getfield 66, 3) := by decide +kernel
theorem dX5_digest_124 : decode cX5_digest 124 = .ok (.ifCond .eq 21, 3) := by decide +kernel
theorem dX5_digest_127 : decode cX5_digest 127 = .ok (.aload_n 0, 1) := by decide +kernel
theorem dX5_digest_128 : decode cX5_digest 128 = .ok (.aload_n 0, 1) := by decide +kernel
theorem dX5_digest_129 : decode cX5_digest 129 = .ok (.invokevirtual 144, 3) := by decide +kernel
theorem dX5_digest_132 : decode cX5_digest 132 = .ok (.i2l, 1) := by decide +kernel
theorem dX5_digest_133 : decode cX5_digest 133 = .ok (.invokevirtual 197, 3) := by decide +kernel
theorem dX5_digest_136 : decode cX5_digest 136 = .ok (.aload_n 0, 1) := by decide +kernel
theorem dX5_digest_137 : decode cX5_digest 137 = .ok (.aload_n 0, 1) := by decide +kernel
theorem dX5_digest_138 : decode cX5_digest 138 = .ok (.invokevirtual 147, 3) := by decide +kernel
theorem dX5_digest_141 : decode cX5_digest 141 = .ok (.i2l, 1) := by decide +kernel
theorem dX5_digest_142 : decode cX5_digest 142 = .ok (.invokevirtual 197, 3) := by decide +kernel
theorem dX5_digest_145 : decode cX5_digest 145 = .ok (.iconst 0, 1) := by decide +kernel
theorem dX5_digest_146 : decode cX5_digest 146 = .ok (.istore_n 1, 1) := by decide +kernel
theorem dX5_digest_147 : decode cX5_digest 147 = .ok (.iload_n 1, 1) := by decide +kernel
theorem dX5_digest_148 : decode cX5_digest 148 = .ok (.aload_n 0, 1) := by decide +kernel
theorem dX5_digest_149 : decode cX5_digest 149 = .ok (.getfield 47, 3) := by decide +kernel
theorem dX5_digest_152 : decode cX5_digest 152 = .ok (.if_icmp .ge 20, 3) := by decide +kernel
theorem dX5_digest_155 : decode cX5_digest 155 = .ok (.aload_n 0, 1) := by decide +kernel
theorem dX5_digest_156 : decode cX5_digest 156 = .ok (.aload_n 0, 1) := by decide +kernel
theorem dX5_digest_157 : decode cX5_digest 157 = .ok (.getfield 7, 3) := by decide +kernel
theorem dX5_digest_160 : decode cX5_digest 160 = .ok (.iload_n 1, 1) := by decide +kernel
theorem dX5_digest_161 : decode cX5_digest 161 = .ok (.iaload, 1) := by decide +kernel
theorem dX5_digest_162 : decode cX5_digest 162 = .ok (.i2l, 1) := by decide +kernel
theorem dX5_digest_163 : decode cX5_digest 163 = .ok (.invokevirtual 197, 3) := by decide +kernel
theorem dX5_digest_166 : decode cX5_digest 166 = .ok (.iinc 1 1, 3) := by decide +kernel
theorem dX5_digest_169 : decode cX5_digest 169 = .ok (.goto (-22), 3) := by decide +kernel
theorem dX5_digest_172 : decode cX5_digest 172 = .ok (.iconst 0, 1) := by decide +kernel
theorem dX5_digest_173 : decode cX5_digest 173 = .ok (.istore_n 1, 1) := by decide +kernel
theorem dX5_digest_174 : decode cX5_digest 174 = .ok (.iload_n 1, 1) := by decide +kernel
theorem dX5_digest_175 : decode cX5_digest 175 = .ok (.bipush 8, 2) := by decide +kernel
theorem dX5_digest_177 : decode cX5_digest 177 = .ok (.if_icmp .ge 19, 3) := by decide +kernel
theorem dX5_digest_180 : decode cX5_digest 180 = .ok (.aload_n 0, 1) := by decide +kernel
theorem dX5_digest_181 : decode cX5_digest 181 = .ok (.aload_n 0, 1) := by decide +kernel
theorem dX5_digest_182 : decode cX5_digest 182 = .ok (.iload_n 1, 1) := by decide +kernel
theorem dX5_digest_183 : decode cX5_digest 183 = .ok (.invokevirtual 186, 3) := by decide +kernel
theorem dX5_digest_186 : decode cX5_digest 186 = .ok (.i2l, 1) := by decide +kernel
theorem dX5_digest_187 : decode cX5_digest 187 = .ok (.invokevirtual 197, 3) := by decide +kernel
theorem dX5_digest_190 : decode cX5_digest 190 = .ok (.iinc 1 1, 3) := by decide +kernel
theorem dX5_digest_193 : decode cX5_digest 193 = .ok (.goto (-19), 3) := by decide +kernel
theorem dX5_digest_196 : decode cX5_digest 196 = .ok (.aload_n 0, 1) := by decide +kernel
theorem dX5_digest_197 : decode cX5_digest 197 = .ok (.getfield 191, 3) := by decide +kernel
theorem dX5_digest_200 : decode cX5_digest 200 = .ok (.lreturn, 1) := by decide +kernel
theorem dJ6_bitCount_0f7a4_0 : decode cJ6_bitCount_0f7a4 0 = .ok (.iload_n 0, 1) := by decide +kernel
theorem dJ6_bitCount_0f7a4_1 : decode cJ6_bitCount_0f7a4 1 = .ok (.iload_n 0, 1) := by decide +kernel
theorem dJ6_bitCount_0f7a4_2 : decode cJ6_bitCount_0f7a4 2 = .ok (.iconst 1, 1) := by decide +kernel
theorem dJ6_bitCount_0f7a4_3 : decode cJ6_bitCount_0f7a4 3 = .ok (.iushr, 1) := by decide +kernel
theorem dJ6_bitCount_0f7a4_4 : decode cJ6_bitCount_0f7a4 4 = .ok (.ldc_w 265, 3) := by decide +kernel
theorem dJ6_bitCount_0f7a4_7 : decode cJ6_bitCount_0f7a4 7 = .ok (.iand, 1) := by decide +kernel
theorem dJ6_bitCount_0f7a4_8 : decode cJ6_bitCount_0f7a4 8 = .ok (.isub, 1) := by decide +kernel
theorem dJ6_bitCount_0f7a4_9 : decode cJ6_bitCount_0f7a4 9 = .ok (.istore_n 0, 1) := by decide +kernel
theorem dJ6_bitCount_0f7a4_10 : decode cJ6_bitCount_0f7a4 10 = .ok (.iload_n 0, 1) := by decide +kernel
theorem dJ6_bitCount_0f7a4_11 : decode cJ6_bitCount_0f7a4 11 = .ok (.ldc_w 266, 3) := by decide +kernel
theorem dJ6_bitCount_0f7a4_14 : decode cJ6_bitCount_0f7a4 14 = .ok (.iand, 1) := by decide +kernel
theorem dJ6_bitCount_0f7a4_15 : decode cJ6_bitCount_0f7a4 15 = .ok (.iload_n 0, 1) := by decide +kernel
theorem dJ6_bitCount_0f7a4_16 : decode cJ6_bitCount_0f7a4 16 = .ok (.iconst 2, 1) := by decide +kernel
theorem dJ6_bitCount_0f7a4_17 : decode cJ6_bitCount_0f7a4 17 = .ok (.iushr, 1) := by decide +kernel
theorem dJ6_bitCount_0f7a4_18 : decode cJ6_bitCount_0f7a4 18 = .ok (.ldc_w 266, 3) := by decide +kernel
theorem dJ6_bitCount_0f7a4_21 : decode cJ6_bitCount_0f7a4 21 = .ok (.iand, 1) := by decide +kernel
theorem dJ6_bitCount_0f7a4_22 : decode cJ6_bitCount_0f7a4 22 = .ok (.iadd, 1) := by decide +kernel
theorem dJ6_bitCount_0f7a4_23 : decode cJ6_bitCount_0f7a4 23 = .ok (.istore_n 0, 1) := by decide +kernel
theorem dJ6_bitCount_0f7a4_24 : decode cJ6_bitCount_0f7a4 24 = .ok (.iload_n 0, 1) := by decide +kernel
theorem dJ6_bitCount_0f7a4_25 : decode cJ6_bitCount_0f7a4 25 = .ok (.iload_n 0, 1) := by decide +kernel
theorem dJ6_bitCount_0f7a4_26 : decode cJ6_bitCount_0f7a4 26 = .ok (.iconst 4, 1) := by decide +kernel
theorem dJ6_bitCount_0f7a4_27 : decode cJ6_bitCount_0f7a4 27 = .ok (.iushr, 1) := by decide +kernel
theorem dJ6_bitCount_0f7a4_28 : decode cJ6_bitCount_0f7a4 28 = .ok (.iadd, 1) := by decide +kernel
theorem dJ6_bitCount_0f7a4_29 : decode cJ6_bitCount_0f7a4 29 = .ok (.ldc_w 267, 3) := by decide +kernel
theorem dJ6_bitCount_0f7a4_32 : decode cJ6_bitCount_0f7a4 32 = .ok (.iand, 1) := by decide +kernel
theorem dJ6_bitCount_0f7a4_33 : decode cJ6_bitCount_0f7a4 33 = .ok (.istore_n 0, 1) := by decide +kernel
theorem dJ6_bitCount_0f7a4_34 : decode cJ6_bitCount_0f7a4 34 = .ok (.iload_n 0, 1) := by decide +kernel
theorem dJ6_bitCount_0f7a4_35 : decode cJ6_bitCount_0f7a4 35 = .ok (.iload_n 0, 1) := by decide +kernel
theorem dJ6_bitCount_0f7a4_36 : decode cJ6_bitCount_0f7a4 36 = .ok (.bipush 8, 2) := by decide +kernel
theorem dJ6_bitCount_0f7a4_38 : decode cJ6_bitCount_0f7a4 38 = .ok (.iushr, 1) := by decide +kernel
theorem dJ6_bitCount_0f7a4_39 : decode cJ6_bitCount_0f7a4 39 = .ok (.iadd, 1) := by decide +kernel
theorem dJ6_bitCount_0f7a4_40 : decode cJ6_bitCount_0f7a4 40 = .ok (.istore_n 0, 1) := by decide +kernel
theorem dJ6_bitCount_0f7a4_41 : decode cJ6_bitCount_0f7a4 41 = .ok (.iload_n 0, 1) := by decide +kernel
theorem dJ6_bitCount_0f7a4_42 : decode cJ6_bitCount_0f7a4 42 = .ok (.iload_n 0, 1) := by decide +kernel
theorem dJ6_bitCount_0f7a4_43 : decode cJ6_bitCount_0f7a4 43 = .ok (.bipush 16, 2) := by decide +kernel
theorem dJ6_bitCount_0f7a4_45 : decode cJ6_bitCount_0f7a4 45 = .ok (.iushr, 1) := by decide +kernel
theorem dJ6_bitCount_0f7a4_46 : decode cJ6_bitCount_0f7a4 46 = .ok (.iadd, 1) := by decide +kernel
theorem dJ6_bitCount_0f7a4_47 : decode cJ6_bitCount_0f7a4 47 = .ok (.istore_n 0, 1) := by decide +kernel
theorem dJ6_bitCount_0f7a4_48 : decode cJ6_bitCount_0f7a4 48 = .ok (.iload_n 0, 1) := by decide +kernel
theorem dJ6_bitCount_0f7a4_49 : decode cJ6_bitCount_0f7a4 49 = .ok (.bipush 63, 2) := by decide +kernel
theorem dJ6_bitCount_0f7a4_51 : decode cJ6_bitCount_0f7a4 51 = .ok (.iand, 1) := by decide +kernel
theorem dJ6_bitCount_0f7a4_52 : decode cJ6_bitCount_0f7a4 52 = .ok (.ireturn, 1) := by decide +kernel
theorem dJ9_max_7cf53_0 : decode cJ9_max_7cf53 0 = .ok (.iload_n 0, 1) := by decide +kernel
theorem dJ9_max_7cf53_1 : decode cJ9_max_7cf53 1 = .ok (.iload_n 1, 1) := by decide +kernel
theorem dJ9_max_7cf53_2 : decode cJ9_max_7cf53 2 = .ok (.if_icmp .lt 7, 3) := by decide +kernel
theorem dJ9_max_7cf53_5 : decode cJ9_max_7cf53 5 = .ok (.iload_n 0, 1) := by decide +kernel
theorem dJ9_max_7cf53_6 : decode cJ9_max_7cf53 6 = .ok (.goto 4, 3) := by decide +kernel
theorem dJ9_max_7cf53_9 : decode cJ9_max_7cf53 9 = .ok (.iload_n 1, 1) := by decide +kernel
theorem dJ9_max_7cf53_10 : decode cJ9_max_7cf53 10 = .ok (.ireturn, 1) := by decide +kernel
theorem dJ7_fill_53178_0 : decode cJ7_fill_53178 0 = .ok (.iconst 0, 1) := by decide +kernel
theorem dJ7_fill_53178_1 : decode cJ7_fill_53178 1 = .ok (.istore_n 2, 1) := by decide +kernel
theorem dJ7_fill_53178_2 : decode cJ7_fill_53178 2 = .ok (.aload_n 0, 1) := by decide +kernel
theorem dJ7_fill_53178_3 : decode cJ7_fill_53178 3 = .ok (.arraylength, 1) := by decide +kernel
theorem dJ7_fill_53178_4 : decode cJ7_fill_53178 4 = .ok (.istore_n 3, 1) := by decide +kernel
theorem dJ7_fill_53178_5 : decode cJ7_fill_53178 5 = .ok (.iload_n 2, 1) := by decide +kernel
theorem dJ7_fill_53178_6 : decode cJ7_fill_53178 6 = .ok (.iload_n 3, 1) := by decide +kernel
theorem dJ7_fill_53178_7 : decode cJ7_fill_53178 7 = .ok (.if_icmp .ge 13, 3) := by decide +kernel
theorem dJ7_fill_53178_10 : decode cJ7_fill_53178 10 = .ok (.aload_n 0, 1) := by decide +kernel
theorem dJ7_fill_53178_11 : decode cJ7_fill_53178 11 = .ok (.iload_n 2, 1) := by decide +kernel
theorem dJ7_fill_53178_12 : decode cJ7_fill_53178 12 = .ok (.iload_n 1, 1) := by decide +kernel
theorem dJ7_fill_53178_13 : decode cJ7_fill_53178 13 = .ok (.iastore, 1) := by decide +kernel
theorem dJ7_fill_53178_14 : decode cJ7_fill_53178 14 = .ok (.iinc 2 1, 3) := by decide +kernel
theorem dJ7_fill_53178_17 : decode cJ7_fill_53178 17 = .ok (.goto (-12), 3) := by decide +kernel
theorem dJ7_fill_53178_20 : decode cJ7_fill_53178 20 = .ok (.return_, 1) := by decide +kernel
theorem dL_law_0 : decode cL_law 0 = .ok (.new 7, 3) := by decide +kernel
theorem dL_law_3 : decode cL_law 3 = .ok (.dup, 1) := by decide +kernel
theorem dL_law_4 : decode cL_law 4 = .ok (.invokespecial 9, 3) := by decide +kernel
theorem dL_law_7 : decode cL_law 7 = .ok (.astore_n 1, 1) := by decide +kernel
theorem dL_law_8 : decode cL_law 8 = .ok (.new 10, 3) := by decide +kernel
theorem dL_law_11 : decode cL_law 11 = .ok (.dup, 1) := by decide +kernel
theorem dL_law_12 : decode cL_law 12 = .ok (.invokespecial 12, 3) := by decide +kernel
theorem dL_law_15 : decode cL_law 15 = .ok (.astore_n 2, 1) := by decide +kernel
theorem dL_law_16 : decode cL_law 16 = .ok (.iconst 0, 1) := by decide +kernel
theorem dL_law_17 : decode cL_law 17 = .ok (.istore_n 3, 1) := by decide +kernel
theorem dL_law_18 : decode cL_law 18 = .ok (.iload_n 3, 1) := by decide +kernel
theorem dL_law_19 : decode cL_law 19 = .ok (.aload_n 0, 1) := by decide +kernel
theorem dL_law_20 : decode cL_law 20 = .ok (.arraylength, 1) := by decide +kernel
theorem dL_law_21 : decode cL_law 21 = .ok (.iconst 4, 1) := by decide +kernel
theorem dL_law_22 : decode cL_law 22 = .ok (.isub, 1) := by decide +kernel
theorem dL_law_23 : decode cL_law 23 = .ok (.if_icmp .gt 735, 3) := by decide +kernel
theorem dL_law_26 : decode cL_law 26 = .ok (.aload_n 0, 1) := by decide +kernel
theorem dL_law_27 : decode cL_law 27 = .ok (.iload_n 3, 1) := by decide +kernel
theorem dL_law_28 : decode cL_law 28 = .ok (.iaload, 1) := by decide +kernel
theorem dL_law_29 : decode cL_law 29 = .ok (.bipush 31, 2) := by decide +kernel
theorem dL_law_31 : decode cL_law 31 = .ok (.iand, 1) := by decide +kernel
theorem dL_law_32 : decode cL_law 32 = .ok (.tableswitch 720 0 22 #[108, 131, 144, 157, 170, 203, 252, 285, 318, 351, 384, 417, 450, 493, 526, 575, 588, 601, 614, 657, 670, 683, 706], 108) := by decide +kernel
theorem dL_law_140 : decode cL_law 140 = .ok (.aload_n 1, 1) := by decide +kernel
theorem dL_law_141 : decode cL_law 141 = .ok (.aload_n 0, 1) := by decide +kernel
theorem dL_law_142 : decode cL_law 142 = .ok (.iload_n 3, 1) := by decide +kernel
theorem dL_law_143 : decode cL_law 143 = .ok (.iconst 1, 1) := by decide +kernel
theorem dL_law_144 : decode cL_law 144 = .ok (.iadd, 1) := by decide +kernel
theorem dL_law_145 : decode cL_law 145 = .ok (.iaload, 1) := by decide +kernel
theorem dL_law_146 : decode cL_law 146 = .ok (.invokevirtual 13, 3) := by decide +kernel
theorem dL_law_149 : decode cL_law 149 = .ok (.aload_n 2, 1) := by decide +kernel
theorem dL_law_150 : decode cL_law 150 = .ok (.aload_n 0, 1) := by decide +kernel
theorem dL_law_151 : decode cL_law 151 = .ok (.iload_n 3, 1) := by decide +kernel
theorem dL_law_152 : decode cL_law 152 = .ok (.iconst 1, 1) := by decide +kernel
theorem dL_law_153 : decode cL_law 153 = .ok (.iadd, 1) := by decide +kernel
theorem dL_law_154 : decode cL_law 154 = .ok (.iaload, 1) := by decide +kernel
theorem dL_law_155 : decode cL_law 155 = .ok (.invokevirtual 17, 3) := by decide +kernel
theorem dL_law_158 : decode cL_law 158 = .ok (.if_icmp .eq 594, 3) := by decide +kernel
theorem dL_law_161 : decode cL_law 161 = .ok (.iconst 0, 1) := by decide +kernel
theorem dL_law_162 : decode cL_law 162 = .ok (.ireturn, 1) := by decide +kernel
theorem dL_law_163 : decode cL_law 163 = .ok (.aload_n 1, 1) := by decide +kernel
theorem dL_law_164 : decode cL_law 164 = .ok (.invokevirtual 18, 3) := by decide +kernel
theorem dL_law_167 : decode cL_law 167 = .ok (.aload_n 2, 1) := by decide +kernel
theorem dL_law_168 : decode cL_law 168 = .ok (.invokevirtual 22, 3) := by decide +kernel
theorem dL_law_171 : decode cL_law 171 = .ok (.if_icmp .eq 581, 3) := by decide +kernel
theorem dL_law_174 : decode cL_law 174 = .ok (.iconst 0, 1) := by decide +kernel
theorem dL_law_175 : decode cL_law 175 = .ok (.ireturn, 1) := by decide +kernel
theorem dL_law_176 : decode cL_law 176 = .ok (.aload_n 1, 1) := by decide +kernel
theorem dL_law_177 : decode cL_law 177 = .ok (.invokevirtual 23, 3) := by decide +kernel
theorem dL_law_180 : decode cL_law 180 = .ok (.aload_n 2, 1) := by decide +kernel
theorem dL_law_181 : decode cL_law 181 = .ok (.invokevirtual 26, 3) := by decide +kernel
theorem dL_law_184 : decode cL_law 184 = .ok (.if_icmp .eq 568, 3) := by decide +kernel
theorem dL_law_187 : decode cL_law 187 = .ok (.iconst 0, 1) := by decide +kernel
theorem dL_law_188 : decode cL_law 188 = .ok (.ireturn, 1) := by decide +kernel
theorem dL_law_189 : decode cL_law 189 = .ok (.aload_n 1, 1) := by decide +kernel
theorem dL_law_190 : decode cL_law 190 = .ok (.invokevirtual 27, 3) := by decide +kernel
theorem dL_law_193 : decode cL_law 193 = .ok (.aload_n 2, 1) := by decide +kernel
theorem dL_law_194 : decode cL_law 194 = .ok (.invokevirtual 30, 3) := by decide +kernel
theorem dL_law_197 : decode cL_law 197 = .ok (.if_icmp .eq 555, 3) := by decide +kernel
theorem dL_law_200 : decode cL_law 200 = .ok (.iconst 0, 1) := by decide +kernel
theorem dL_law_201 : decode cL_law 201 = .ok (.ireturn, 1) := by decide +kernel
theorem dL_law_202 : decode cL_law 202 = .ok (.aload_n 1, 1) := by decide +kernel
theorem dL_law_203 : decode cL_law 203 = .ok (.aload_n 0, 1) := by decide +kernel
theorem dL_law_204 : decode cL_law 204 = .ok (.iload_n 3, 1) := by decide +kernel
theorem dL_law_205 : decode cL_law 205 = .ok (.iconst 1, 1) := by decide +kernel
theorem dL_law_206 : decode cL_law 206 = .ok (.iadd, 1) := by decide +kernel
theorem dL_law_207 : decode cL_law 207 = .ok (.iaload, 1) := by decide +kernel
theorem dL_law_208 : decode cL_law 208 = .ok (.aload_n 0, 1) := by decide +kernel
theorem dL_law_209 : decode cL_law 209 = .ok (.iload_n 3, 1) := by decide +kernel
theorem dL_law_210 : decode cL_law 210 = .ok (.iconst 2, 1) := by decide +kernel
theorem dL_law_211 : decode cL_law 211 = .ok (.iadd, 1) := by decide +kernel
theorem dL_law_212 : decode cL_law 212 = .ok (.iaload, 1) := by decide +kernel
theorem dL_law_213 : decode cL_law 213 = .ok (.invokevirtual 31, 3) := by decide +kernel
theorem dL_law_216 : decode cL_law 216 = .ok (.aload_n 2, 1) := by decide +kernel
theorem dL_law_217 : decode cL_law 217 = .ok (.aload_n 0, 1) := by decide +kernel
theorem dL_law_218 : decode cL_law 218 = .ok (.iload_n 3, 1) := by decide +kernel
theorem dL_law_219 : decode cL_law 219 = .ok (.iconst 1, 1) := by decide +kernel
theorem dL_law_220 : decode cL_law 220 = .ok (.iadd, 1) := by decide +kernel
theorem dL_law_221 : decode cL_law 221 = .ok (.iaload, 1) := by decide +kernel
theorem dL_law_222 : decode cL_law 222 = .ok (.aload_n 0, 1) := by decide +kernel
theorem dL_law_223 : decode cL_law 223 = .ok (.iload_n 3, 1) := by decide +kernel
theorem dL_law_224 : decode cL_law 224 = .ok (.iconst 2, 1) := by decide +kernel
theorem dL_law_225 : decode cL_law 225 = .ok (.iadd, 1) := by decide +kernel
theorem dL_law_226 : decode cL_law 226 = .ok (.iaload, 1) := by decide +kernel
theorem dL_law_227 : decode cL_law 227 = .ok (.invokevirtual 35, 3) := by decide +kernel
theorem dL_law_230 : decode cL_law 230 = .ok (.if_icmp .eq 522, 3) := by decide +kernel
theorem dL_law_233 : decode cL_law 233 = .ok (.iconst 0, 1) := by decide +kernel
theorem dL_law_234 : decode cL_law 234 = .ok (.ireturn, 1) := by decide +kernel
theorem dL_law_235 : decode cL_law 235 = .ok (.aload_n 1, 1) := by decide +kernel
theorem dL_law_236 : decode cL_law 236 = .ok (.aload_n 0, 1) := by decide +kernel
theorem dL_law_237 : decode cL_law 237 = .ok (.iload_n 3, 1) := by decide +kernel
theorem dL_law_238 : decode cL_law 238 = .ok (.iconst 1, 1) := by decide +kernel
theorem dL_law_239 : decode cL_law 239 = .ok (.iadd, 1) := by decide +kernel
theorem dL_law_240 : decode cL_law 240 = .ok (.iaload, 1) := by decide +kernel
theorem dL_law_241 : decode cL_law 241 = .ok (.aload_n 0, 1) := by decide +kernel
theorem dL_law_242 : decode cL_law 242 = .ok (.iload_n 3, 1) := by decide +kernel
theorem dL_law_243 : decode cL_law 243 = .ok (.iconst 2, 1) := by decide +kernel
theorem dL_law_244 : decode cL_law 244 = .ok (.iadd, 1) := by decide +kernel
theorem dL_law_245 : decode cL_law 245 = .ok (.iaload, 1) := by decide +kernel
theorem dL_law_246 : decode cL_law 246 = .ok (.ifCond .eq 7, 3) := by decide +kernel
theorem dL_law_249 : decode cL_law 249 = .ok (.iconst 1, 1) := by decide +kernel
theorem dL_law_250 : decode cL_law 250 = .ok (.goto 4, 3) := by decide +kernel
theorem dL_law_253 : decode cL_law 253 = .ok (.iconst 0, 1) := by decide +kernel
theorem dL_law_254 : decode cL_law 254 = .ok (.invokevirtual 36, 3) := by decide +kernel
theorem dL_law_257 : decode cL_law 257 = .ok (.aload_n 2, 1) := by decide +kernel
theorem dL_law_258 : decode cL_law 258 = .ok (.aload_n 0, 1) := by decide +kernel
theorem dL_law_259 : decode cL_law 259 = .ok (.iload_n 3, 1) := by decide +kernel
theorem dL_law_260 : decode cL_law 260 = .ok (.iconst 1, 1) := by decide +kernel
theorem dL_law_261 : decode cL_law 261 = .ok (.iadd, 1) := by decide +kernel
theorem dL_law_262 : decode cL_law 262 = .ok (.iaload, 1) := by decide +kernel
theorem dL_law_263 : decode cL_law 263 = .ok (.aload_n 0, 1) := by decide +kernel
theorem dL_law_264 : decode cL_law 264 = .ok (.iload_n 3, 1) := by decide +kernel
theorem dL_law_265 : decode cL_law 265 = .ok (.iconst 2, 1) := by decide +kernel
theorem dL_law_266 : decode cL_law 266 = .ok (.iadd, 1) := by decide +kernel
theorem dL_law_267 : decode cL_law 267 = .ok (.iaload, 1) := by decide +kernel
theorem dL_law_268 : decode cL_law 268 = .ok (.ifCond .eq 7, 3) := by decide +kernel
theorem dL_law_271 : decode cL_law 271 = .ok (.iconst 1, 1) := by decide +kernel
theorem dL_law_272 : decode cL_law 272 = .ok (.goto 4, 3) := by decide +kernel
theorem dL_law_275 : decode cL_law 275 = .ok (.iconst 0, 1) := by decide +kernel
theorem dL_law_276 : decode cL_law 276 = .ok (.invokevirtual 40, 3) := by decide +kernel
theorem dL_law_279 : decode cL_law 279 = .ok (.if_icmp .eq 473, 3) := by decide +kernel
theorem dL_law_282 : decode cL_law 282 = .ok (.iconst 0, 1) := by decide +kernel
theorem dL_law_283 : decode cL_law 283 = .ok (.ireturn, 1) := by decide +kernel
theorem dL_law_284 : decode cL_law 284 = .ok (.aload_n 1, 1) := by decide +kernel
theorem dL_law_285 : decode cL_law 285 = .ok (.aload_n 0, 1) := by decide +kernel
theorem dL_law_286 : decode cL_law 286 = .ok (.iload_n 3, 1) := by decide +kernel
theorem dL_law_287 : decode cL_law 287 = .ok (.iconst 1, 1) := by decide +kernel
theorem dL_law_288 : decode cL_law 288 = .ok (.iadd, 1) := by decide +kernel
theorem dL_law_289 : decode cL_law 289 = .ok (.iaload, 1) := by decide +kernel
theorem dL_law_290 : decode cL_law 290 = .ok (.aload_n 0, 1) := by decide +kernel
theorem dL_law_291 : decode cL_law 291 = .ok (.iload_n 3, 1) := by decide +kernel
theorem dL_law_292 : decode cL_law 292 = .ok (.iconst 2, 1) := by decide +kernel
theorem dL_law_293 : decode cL_law 293 = .ok (.iadd, 1) := by decide +kernel
theorem dL_law_294 : decode cL_law 294 = .ok (.iaload, 1) := by decide +kernel
theorem dL_law_295 : decode cL_law 295 = .ok (.invokevirtual 41, 3) := by decide +kernel
theorem dL_law_298 : decode cL_law 298 = .ok (.aload_n 2, 1) := by decide +kernel
theorem dL_law_299 : decode cL_law 299 = .ok (.aload_n 0, 1) := by decide +kernel
theorem dL_law_300 : decode cL_law 300 = .ok (.iload_n 3, 1) := by decide +kernel
theorem dL_law_301 : decode cL_law 301 = .ok (.iconst 1, 1) := by decide +kernel
theorem dL_law_302 : decode cL_law 302 = .ok (.iadd, 1) := by decide +kernel
theorem dL_law_303 : decode cL_law 303 = .ok (.iaload, 1) := by decide +kernel
theorem dL_law_304 : decode cL_law 304 = .ok (.aload_n 0, 1) := by decide +kernel
theorem dL_law_305 : decode cL_law 305 = .ok (.iload_n 3, 1) := by decide +kernel
theorem dL_law_306 : decode cL_law 306 = .ok (.iconst 2, 1) := by decide +kernel
theorem dL_law_307 : decode cL_law 307 = .ok (.iadd, 1) := by decide +kernel
theorem dL_law_308 : decode cL_law 308 = .ok (.iaload, 1) := by decide +kernel
theorem dL_law_309 : decode cL_law 309 = .ok (.invokevirtual 44, 3) := by decide +kernel
theorem dL_law_312 : decode cL_law 312 = .ok (.if_icmp .eq 440, 3) := by decide +kernel
theorem dL_law_315 : decode cL_law 315 = .ok (.iconst 0, 1) := by decide +kernel
theorem dL_law_316 : decode cL_law 316 = .ok (.ireturn, 1) := by decide +kernel
theorem dL_law_317 : decode cL_law 317 = .ok (.aload_n 1, 1) := by decide +kernel
theorem dL_law_318 : decode cL_law 318 = .ok (.aload_n 0, 1) := by decide +kernel
theorem dL_law_319 : decode cL_law 319 = .ok (.iload_n 3, 1) := by decide +kernel
theorem dL_law_320 : decode cL_law 320 = .ok (.iconst 1, 1) := by decide +kernel
theorem dL_law_321 : decode cL_law 321 = .ok (.iadd, 1) := by decide +kernel
theorem dL_law_322 : decode cL_law 322 = .ok (.iaload, 1) := by decide +kernel
theorem dL_law_323 : decode cL_law 323 = .ok (.aload_n 0, 1) := by decide +kernel
theorem dL_law_324 : decode cL_law 324 = .ok (.iload_n 3, 1) := by decide +kernel
theorem dL_law_325 : decode cL_law 325 = .ok (.iconst 2, 1) := by decide +kernel
theorem dL_law_326 : decode cL_law 326 = .ok (.iadd, 1) := by decide +kernel
theorem dL_law_327 : decode cL_law 327 = .ok (.iaload, 1) := by decide +kernel
theorem dL_law_328 : decode cL_law 328 = .ok (.invokevirtual 45, 3) := by decide +kernel
theorem dL_law_331 : decode cL_law 331 = .ok (.aload_n 2, 1) := by decide +kernel
theorem dL_law_332 : decode cL_law 332 = .ok (.aload_n 0, 1) := by decide +kernel
theorem dL_law_333 : decode cL_law 333 = .ok (.iload_n 3, 1) := by decide +kernel
theorem dL_law_334 : decode cL_law 334 = .ok (.iconst 1, 1) := by decide +kernel
theorem dL_law_335 : decode cL_law 335 = .ok (.iadd, 1) := by decide +kernel
theorem dL_law_336 : decode cL_law 336 = .ok (.iaload, 1) := by decide +kernel
theorem dL_law_337 : decode cL_law 337 = .ok (.aload_n 0, 1) := by decide +kernel
theorem dL_law_338 : decode cL_law 338 = .ok (.iload_n 3, 1) := by decide +kernel
theorem dL_law_339 : decode cL_law 339 = .ok (.iconst 2, 1) := by decide +kernel
theorem dL_law_340 : decode cL_law 340 = .ok (.iadd, 1) := by decide +kernel
theorem dL_law_341 : decode cL_law 341 = .ok (.iaload, 1) := by decide +kernel
theorem dL_law_342 : decode cL_law 342 = .ok (.invokevirtual 48, 3) := by decide +kernel
theorem dL_law_345 : decode cL_law 345 = .ok (.if_icmp .eq 407, 3) := by decide +kernel
theorem dL_law_348 : decode cL_law 348 = .ok (.iconst 0, 1) := by decide +kernel
theorem dL_law_349 : decode cL_law 349 = .ok (.ireturn, 1) := by decide +kernel
theorem dL_law_350 : decode cL_law 350 = .ok (.aload_n 1, 1) := by decide +kernel
theorem dL_law_351 : decode cL_law 351 = .ok (.aload_n 0, 1) := by decide +kernel
theorem dL_law_352 : decode cL_law 352 = .ok (.iload_n 3, 1) := by decide +kernel
theorem dL_law_353 : decode cL_law 353 = .ok (.iconst 1, 1) := by decide +kernel
theorem dL_law_354 : decode cL_law 354 = .ok (.iadd, 1) := by decide +kernel
theorem dL_law_355 : decode cL_law 355 = .ok (.iaload, 1) := by decide +kernel
theorem dL_law_356 : decode cL_law 356 = .ok (.aload_n 0, 1) := by decide +kernel
theorem dL_law_357 : decode cL_law 357 = .ok (.iload_n 3, 1) := by decide +kernel
theorem dL_law_358 : decode cL_law 358 = .ok (.iconst 2, 1) := by decide +kernel
theorem dL_law_359 : decode cL_law 359 = .ok (.iadd, 1) := by decide +kernel
theorem dL_law_360 : decode cL_law 360 = .ok (.iaload, 1) := by decide +kernel
theorem dL_law_361 : decode cL_law 361 = .ok (.invokevirtual 49, 3) := by decide +kernel
theorem dL_law_364 : decode cL_law 364 = .ok (.aload_n 2, 1) := by decide +kernel
theorem dL_law_365 : decode cL_law 365 = .ok (.aload_n 0, 1) := by decide +kernel
theorem dL_law_366 : decode cL_law 366 = .ok (.iload_n 3, 1) := by decide +kernel
theorem dL_law_367 : decode cL_law 367 = .ok (.iconst 1, 1) := by decide +kernel
theorem dL_law_368 : decode cL_law 368 = .ok (.iadd, 1) := by decide +kernel
theorem dL_law_369 : decode cL_law 369 = .ok (.iaload, 1) := by decide +kernel
theorem dL_law_370 : decode cL_law 370 = .ok (.aload_n 0, 1) := by decide +kernel
theorem dL_law_371 : decode cL_law 371 = .ok (.iload_n 3, 1) := by decide +kernel
theorem dL_law_372 : decode cL_law 372 = .ok (.iconst 2, 1) := by decide +kernel
theorem dL_law_373 : decode cL_law 373 = .ok (.iadd, 1) := by decide +kernel
theorem dL_law_374 : decode cL_law 374 = .ok (.iaload, 1) := by decide +kernel
theorem dL_law_375 : decode cL_law 375 = .ok (.invokevirtual 52, 3) := by decide +kernel
theorem dL_law_378 : decode cL_law 378 = .ok (.if_icmp .eq 374, 3) := by decide +kernel
theorem dL_law_381 : decode cL_law 381 = .ok (.iconst 0, 1) := by decide +kernel
theorem dL_law_382 : decode cL_law 382 = .ok (.ireturn, 1) := by decide +kernel
theorem dL_law_383 : decode cL_law 383 = .ok (.aload_n 1, 1) := by decide +kernel
theorem dL_law_384 : decode cL_law 384 = .ok (.aload_n 0, 1) := by decide +kernel
theorem dL_law_385 : decode cL_law 385 = .ok (.iload_n 3, 1) := by decide +kernel
theorem dL_law_386 : decode cL_law 386 = .ok (.iconst 1, 1) := by decide +kernel
theorem dL_law_387 : decode cL_law 387 = .ok (.iadd, 1) := by decide +kernel
theorem dL_law_388 : decode cL_law 388 = .ok (.iaload, 1) := by decide +kernel
theorem dL_law_389 : decode cL_law 389 = .ok (.aload_n 0, 1) := by decide +kernel
theorem dL_law_390 : decode cL_law 390 = .ok (.iload_n 3, 1) := by decide +kernel
theorem dL_law_391 : decode cL_law 391 = .ok (.iconst 2, 1) := by decide +kernel
theorem dL_law_392 : decode cL_law 392 = .ok (.iadd, 1) := by decide +kernel
theorem dL_law_393 : decode cL_law 393 = .ok (.iaload, 1) := by decide +kernel
theorem dL_law_394 : decode cL_law 394 = .ok (.invokevirtual 53, 3) := by decide +kernel
theorem dL_law_397 : decode cL_law 397 = .ok (.aload_n 2, 1) := by decide +kernel
theorem dL_law_398 : decode cL_law 398 = .ok (.aload_n 0, 1) := by decide +kernel
theorem dL_law_399 : decode cL_law 399 = .ok (.iload_n 3, 1) := by decide +kernel
theorem dL_law_400 : decode cL_law 400 = .ok (.iconst 1, 1) := by decide +kernel
theorem dL_law_401 : decode cL_law 401 = .ok (.iadd, 1) := by decide +kernel
theorem dL_law_402 : decode cL_law 402 = .ok (.iaload, 1) := by decide +kernel
theorem dL_law_403 : decode cL_law 403 = .ok (.aload_n 0, 1) := by decide +kernel
theorem dL_law_404 : decode cL_law 404 = .ok (.iload_n 3, 1) := by decide +kernel
theorem dL_law_405 : decode cL_law 405 = .ok (.iconst 2, 1) := by decide +kernel
theorem dL_law_406 : decode cL_law 406 = .ok (.iadd, 1) := by decide +kernel
theorem dL_law_407 : decode cL_law 407 = .ok (.iaload, 1) := by decide +kernel
theorem dL_law_408 : decode cL_law 408 = .ok (.invokevirtual 56, 3) := by decide +kernel
theorem dL_law_411 : decode cL_law 411 = .ok (.if_icmp .eq 341, 3) := by decide +kernel
theorem dL_law_414 : decode cL_law 414 = .ok (.iconst 0, 1) := by decide +kernel
theorem dL_law_415 : decode cL_law 415 = .ok (.ireturn, 1) := by decide +kernel
theorem dL_law_416 : decode cL_law 416 = .ok (.aload_n 1, 1) := by decide +kernel
theorem dL_law_417 : decode cL_law 417 = .ok (.aload_n 0, 1) := by decide +kernel
theorem dL_law_418 : decode cL_law 418 = .ok (.iload_n 3, 1) := by decide +kernel
theorem dL_law_419 : decode cL_law 419 = .ok (.iconst 1, 1) := by decide +kernel
theorem dL_law_420 : decode cL_law 420 = .ok (.iadd, 1) := by decide +kernel
theorem dL_law_421 : decode cL_law 421 = .ok (.iaload, 1) := by decide +kernel
theorem dL_law_422 : decode cL_law 422 = .ok (.aload_n 0, 1) := by decide +kernel
theorem dL_law_423 : decode cL_law 423 = .ok (.iload_n 3, 1) := by decide +kernel
theorem dL_law_424 : decode cL_law 424 = .ok (.iconst 2, 1) := by decide +kernel
theorem dL_law_425 : decode cL_law 425 = .ok (.iadd, 1) := by decide +kernel
theorem dL_law_426 : decode cL_law 426 = .ok (.iaload, 1) := by decide +kernel
theorem dL_law_427 : decode cL_law 427 = .ok (.invokevirtual 57, 3) := by decide +kernel
theorem dL_law_430 : decode cL_law 430 = .ok (.aload_n 2, 1) := by decide +kernel
theorem dL_law_431 : decode cL_law 431 = .ok (.aload_n 0, 1) := by decide +kernel
theorem dL_law_432 : decode cL_law 432 = .ok (.iload_n 3, 1) := by decide +kernel
theorem dL_law_433 : decode cL_law 433 = .ok (.iconst 1, 1) := by decide +kernel
theorem dL_law_434 : decode cL_law 434 = .ok (.iadd, 1) := by decide +kernel
theorem dL_law_435 : decode cL_law 435 = .ok (.iaload, 1) := by decide +kernel
theorem dL_law_436 : decode cL_law 436 = .ok (.aload_n 0, 1) := by decide +kernel
theorem dL_law_437 : decode cL_law 437 = .ok (.iload_n 3, 1) := by decide +kernel
theorem dL_law_438 : decode cL_law 438 = .ok (.iconst 2, 1) := by decide +kernel
theorem dL_law_439 : decode cL_law 439 = .ok (.iadd, 1) := by decide +kernel
theorem dL_law_440 : decode cL_law 440 = .ok (.iaload, 1) := by decide +kernel
theorem dL_law_441 : decode cL_law 441 = .ok (.invokevirtual 60, 3) := by decide +kernel
theorem dL_law_444 : decode cL_law 444 = .ok (.if_icmp .eq 308, 3) := by decide +kernel
theorem dL_law_447 : decode cL_law 447 = .ok (.iconst 0, 1) := by decide +kernel
theorem dL_law_448 : decode cL_law 448 = .ok (.ireturn, 1) := by decide +kernel
theorem dL_law_449 : decode cL_law 449 = .ok (.aload_n 1, 1) := by decide +kernel
theorem dL_law_450 : decode cL_law 450 = .ok (.aload_n 0, 1) := by decide +kernel
theorem dL_law_451 : decode cL_law 451 = .ok (.iload_n 3, 1) := by decide +kernel
theorem dL_law_452 : decode cL_law 452 = .ok (.iconst 1, 1) := by decide +kernel
theorem dL_law_453 : decode cL_law 453 = .ok (.iadd, 1) := by decide +kernel
theorem dL_law_454 : decode cL_law 454 = .ok (.iaload, 1) := by decide +kernel
theorem dL_law_455 : decode cL_law 455 = .ok (.aload_n 0, 1) := by decide +kernel
theorem dL_law_456 : decode cL_law 456 = .ok (.iload_n 3, 1) := by decide +kernel
theorem dL_law_457 : decode cL_law 457 = .ok (.iconst 2, 1) := by decide +kernel
theorem dL_law_458 : decode cL_law 458 = .ok (.iadd, 1) := by decide +kernel
theorem dL_law_459 : decode cL_law 459 = .ok (.iaload, 1) := by decide +kernel
theorem dL_law_460 : decode cL_law 460 = .ok (.invokevirtual 61, 3) := by decide +kernel
theorem dL_law_463 : decode cL_law 463 = .ok (.aload_n 2, 1) := by decide +kernel
theorem dL_law_464 : decode cL_law 464 = .ok (.aload_n 0, 1) := by decide +kernel
theorem dL_law_465 : decode cL_law 465 = .ok (.iload_n 3, 1) := by decide +kernel
theorem dL_law_466 : decode cL_law 466 = .ok (.iconst 1, 1) := by decide +kernel
theorem dL_law_467 : decode cL_law 467 = .ok (.iadd, 1) := by decide +kernel
theorem dL_law_468 : decode cL_law 468 = .ok (.iaload, 1) := by decide +kernel
theorem dL_law_469 : decode cL_law 469 = .ok (.aload_n 0, 1) := by decide +kernel
theorem dL_law_470 : decode cL_law 470 = .ok (.iload_n 3, 1) := by decide +kernel
theorem dL_law_471 : decode cL_law 471 = .ok (.iconst 2, 1) := by decide +kernel
theorem dL_law_472 : decode cL_law 472 = .ok (.iadd, 1) := by decide +kernel
theorem dL_law_473 : decode cL_law 473 = .ok (.iaload, 1) := by decide +kernel
theorem dL_law_474 : decode cL_law 474 = .ok (.invokevirtual 64, 3) := by decide +kernel
theorem dL_law_477 : decode cL_law 477 = .ok (.if_icmp .eq 275, 3) := by decide +kernel
theorem dL_law_480 : decode cL_law 480 = .ok (.iconst 0, 1) := by decide +kernel
theorem dL_law_481 : decode cL_law 481 = .ok (.ireturn, 1) := by decide +kernel
theorem dL_law_482 : decode cL_law 482 = .ok (.aload_n 1, 1) := by decide +kernel
theorem dL_law_483 : decode cL_law 483 = .ok (.aload_n 0, 1) := by decide +kernel
theorem dL_law_484 : decode cL_law 484 = .ok (.iload_n 3, 1) := by decide +kernel
theorem dL_law_485 : decode cL_law 485 = .ok (.iconst 1, 1) := by decide +kernel
theorem dL_law_486 : decode cL_law 486 = .ok (.iadd, 1) := by decide +kernel
theorem dL_law_487 : decode cL_law 487 = .ok (.iaload, 1) := by decide +kernel
theorem dL_law_488 : decode cL_law 488 = .ok (.aload_n 0, 1) := by decide +kernel
theorem dL_law_489 : decode cL_law 489 = .ok (.iload_n 3, 1) := by decide +kernel
theorem dL_law_490 : decode cL_law 490 = .ok (.iconst 2, 1) := by decide +kernel
theorem dL_law_491 : decode cL_law 491 = .ok (.iadd, 1) := by decide +kernel
theorem dL_law_492 : decode cL_law 492 = .ok (.iaload, 1) := by decide +kernel
theorem dL_law_493 : decode cL_law 493 = .ok (.aload_n 0, 1) := by decide +kernel
theorem dL_law_494 : decode cL_law 494 = .ok (.iload_n 3, 1) := by decide +kernel
theorem dL_law_495 : decode cL_law 495 = .ok (.iconst 3, 1) := by decide +kernel
theorem dL_law_496 : decode cL_law 496 = .ok (.iadd, 1) := by decide +kernel
theorem dL_law_497 : decode cL_law 497 = .ok (.iaload, 1) := by decide +kernel
theorem dL_law_498 : decode cL_law 498 = .ok (.invokevirtual 65, 3) := by decide +kernel
theorem dL_law_501 : decode cL_law 501 = .ok (.aload_n 2, 1) := by decide +kernel
theorem dL_law_502 : decode cL_law 502 = .ok (.aload_n 0, 1) := by decide +kernel
theorem dL_law_503 : decode cL_law 503 = .ok (.iload_n 3, 1) := by decide +kernel
theorem dL_law_504 : decode cL_law 504 = .ok (.iconst 1, 1) := by decide +kernel
theorem dL_law_505 : decode cL_law 505 = .ok (.iadd, 1) := by decide +kernel
theorem dL_law_506 : decode cL_law 506 = .ok (.iaload, 1) := by decide +kernel
theorem dL_law_507 : decode cL_law 507 = .ok (.aload_n 0, 1) := by decide +kernel
theorem dL_law_508 : decode cL_law 508 = .ok (.iload_n 3, 1) := by decide +kernel
theorem dL_law_509 : decode cL_law 509 = .ok (.iconst 2, 1) := by decide +kernel
theorem dL_law_510 : decode cL_law 510 = .ok (.iadd, 1) := by decide +kernel
theorem dL_law_511 : decode cL_law 511 = .ok (.iaload, 1) := by decide +kernel
theorem dL_law_512 : decode cL_law 512 = .ok (.aload_n 0, 1) := by decide +kernel
theorem dL_law_513 : decode cL_law 513 = .ok (.iload_n 3, 1) := by decide +kernel
theorem dL_law_514 : decode cL_law 514 = .ok (.iconst 3, 1) := by decide +kernel
theorem dL_law_515 : decode cL_law 515 = .ok (.iadd, 1) := by decide +kernel
theorem dL_law_516 : decode cL_law 516 = .ok (.iaload, 1) := by decide +kernel
theorem dL_law_517 : decode cL_law 517 = .ok (.invokevirtual 69, 3) := by decide +kernel
theorem dL_law_520 : decode cL_law 520 = .ok (.if_icmp .eq 232, 3) := by decide +kernel
theorem dL_law_523 : decode cL_law 523 = .ok (.iconst 0, 1) := by decide +kernel
theorem dL_law_524 : decode cL_law 524 = .ok (.ireturn, 1) := by decide +kernel
theorem dL_law_525 : decode cL_law 525 = .ok (.aload_n 1, 1) := by decide +kernel
theorem dL_law_526 : decode cL_law 526 = .ok (.aload_n 0, 1) := by decide +kernel
theorem dL_law_527 : decode cL_law 527 = .ok (.iload_n 3, 1) := by decide +kernel
theorem dL_law_528 : decode cL_law 528 = .ok (.iconst 1, 1) := by decide +kernel
theorem dL_law_529 : decode cL_law 529 = .ok (.iadd, 1) := by decide +kernel
theorem dL_law_530 : decode cL_law 530 = .ok (.iaload, 1) := by decide +kernel
theorem dL_law_531 : decode cL_law 531 = .ok (.aload_n 0, 1) := by decide +kernel
theorem dL_law_532 : decode cL_law 532 = .ok (.iload_n 3, 1) := by decide +kernel
theorem dL_law_533 : decode cL_law 533 = .ok (.iconst 2, 1) := by decide +kernel
theorem dL_law_534 : decode cL_law 534 = .ok (.iadd, 1) := by decide +kernel
theorem dL_law_535 : decode cL_law 535 = .ok (.iaload, 1) := by decide +kernel
theorem dL_law_536 : decode cL_law 536 = .ok (.invokevirtual 70, 3) := by decide +kernel
theorem dL_law_539 : decode cL_law 539 = .ok (.aload_n 2, 1) := by decide +kernel
theorem dL_law_540 : decode cL_law 540 = .ok (.aload_n 0, 1) := by decide +kernel
theorem dL_law_541 : decode cL_law 541 = .ok (.iload_n 3, 1) := by decide +kernel
theorem dL_law_542 : decode cL_law 542 = .ok (.iconst 1, 1) := by decide +kernel
theorem dL_law_543 : decode cL_law 543 = .ok (.iadd, 1) := by decide +kernel
theorem dL_law_544 : decode cL_law 544 = .ok (.iaload, 1) := by decide +kernel
theorem dL_law_545 : decode cL_law 545 = .ok (.aload_n 0, 1) := by decide +kernel
theorem dL_law_546 : decode cL_law 546 = .ok (.iload_n 3, 1) := by decide +kernel
theorem dL_law_547 : decode cL_law 547 = .ok (.iconst 2, 1) := by decide +kernel
theorem dL_law_548 : decode cL_law 548 = .ok (.iadd, 1) := by decide +kernel
theorem dL_law_549 : decode cL_law 549 = .ok (.iaload, 1) := by decide +kernel
theorem dL_law_550 : decode cL_law 550 = .ok (.invokevirtual 73, 3) := by decide +kernel
theorem dL_law_553 : decode cL_law 553 = .ok (.if_icmp .eq 199, 3) := by decide +kernel
theorem dL_law_556 : decode cL_law 556 = .ok (.iconst 0, 1) := by decide +kernel
theorem dL_law_557 : decode cL_law 557 = .ok (.ireturn, 1) := by decide +kernel
theorem dL_law_558 : decode cL_law 558 = .ok (.aload_n 1, 1) := by decide +kernel
theorem dL_law_559 : decode cL_law 559 = .ok (.aload_n 0, 1) := by decide +kernel
theorem dL_law_560 : decode cL_law 560 = .ok (.iload_n 3, 1) := by decide +kernel
theorem dL_law_561 : decode cL_law 561 = .ok (.iconst 1, 1) := by decide +kernel
theorem dL_law_562 : decode cL_law 562 = .ok (.iadd, 1) := by decide +kernel
theorem dL_law_563 : decode cL_law 563 = .ok (.iaload, 1) := by decide +kernel
theorem dL_law_564 : decode cL_law 564 = .ok (.aload_n 0, 1) := by decide +kernel
theorem dL_law_565 : decode cL_law 565 = .ok (.iload_n 3, 1) := by decide +kernel
theorem dL_law_566 : decode cL_law 566 = .ok (.iconst 2, 1) := by decide +kernel
theorem dL_law_567 : decode cL_law 567 = .ok (.iadd, 1) := by decide +kernel
theorem dL_law_568 : decode cL_law 568 = .ok (.iaload, 1) := by decide +kernel
theorem dL_law_569 : decode cL_law 569 = .ok (.ifCond .eq 7, 3) := by decide +kernel
theorem dL_law_572 : decode cL_law 572 = .ok (.iconst 1, 1) := by decide +kernel
theorem dL_law_573 : decode cL_law 573 = .ok (.goto 4, 3) := by decide +kernel
theorem dL_law_576 : decode cL_law 576 = .ok (.iconst 0, 1) := by decide +kernel
theorem dL_law_577 : decode cL_law 577 = .ok (.invokevirtual 74, 3) := by decide +kernel
theorem dL_law_580 : decode cL_law 580 = .ok (.aload_n 2, 1) := by decide +kernel
theorem dL_law_581 : decode cL_law 581 = .ok (.aload_n 0, 1) := by decide +kernel
theorem dL_law_582 : decode cL_law 582 = .ok (.iload_n 3, 1) := by decide +kernel
theorem dL_law_583 : decode cL_law 583 = .ok (.iconst 1, 1) := by decide +kernel
theorem dL_law_584 : decode cL_law 584 = .ok (.iadd, 1) := by decide +kernel
theorem dL_law_585 : decode cL_law 585 = .ok (.iaload, 1) := by decide +kernel
theorem dL_law_586 : decode cL_law 586 = .ok (.aload_n 0, 1) := by decide +kernel
theorem dL_law_587 : decode cL_law 587 = .ok (.iload_n 3, 1) := by decide +kernel
theorem dL_law_588 : decode cL_law 588 = .ok (.iconst 2, 1) := by decide +kernel
theorem dL_law_589 : decode cL_law 589 = .ok (.iadd, 1) := by decide +kernel
theorem dL_law_590 : decode cL_law 590 = .ok (.iaload, 1) := by decide +kernel
theorem dL_law_591 : decode cL_law 591 = .ok (.ifCond .eq 7, 3) := by decide +kernel
theorem dL_law_594 : decode cL_law 594 = .ok (.iconst 1, 1) := by decide +kernel
theorem dL_law_595 : decode cL_law 595 = .ok (.goto 4, 3) := by decide +kernel
theorem dL_law_598 : decode cL_law 598 = .ok (.iconst 0, 1) := by decide +kernel
theorem dL_law_599 : decode cL_law 599 = .ok (.invokevirtual 77, 3) := by decide +kernel
theorem dL_law_602 : decode cL_law 602 = .ok (.if_icmp .eq 150, 3) := by decide +kernel
theorem dL_law_605 : decode cL_law 605 = .ok (.iconst 0, 1) := by decide +kernel
theorem dL_law_606 : decode cL_law 606 = .ok (.ireturn, 1) := by decide +kernel
theorem dL_law_607 : decode cL_law 607 = .ok (.aload_n 1, 1) := by decide +kernel
theorem dL_law_608 : decode cL_law 608 = .ok (.invokevirtual 78, 3) := by decide +kernel
theorem dL_law_611 : decode cL_law 611 = .ok (.aload_n 2, 1) := by decide +kernel
theorem dL_law_612 : decode cL_law 612 = .ok (.invokevirtual 81, 3) := by decide +kernel
theorem dL_law_615 : decode cL_law 615 = .ok (.if_icmp .eq 137, 3) := by decide +kernel
theorem dL_law_618 : decode cL_law 618 = .ok (.iconst 0, 1) := by decide +kernel
theorem dL_law_619 : decode cL_law 619 = .ok (.ireturn, 1) := by decide +kernel
theorem dL_law_620 : decode cL_law 620 = .ok (.aload_n 1, 1) := by decide +kernel
theorem dL_law_621 : decode cL_law 621 = .ok (.invokevirtual 82, 3) := by decide +kernel
theorem dL_law_624 : decode cL_law 624 = .ok (.aload_n 2, 1) := by decide +kernel
theorem dL_law_625 : decode cL_law 625 = .ok (.invokevirtual 85, 3) := by decide +kernel
theorem dL_law_628 : decode cL_law 628 = .ok (.if_icmp .eq 124, 3) := by decide +kernel
theorem dL_law_631 : decode cL_law 631 = .ok (.iconst 0, 1) := by decide +kernel
theorem dL_law_632 : decode cL_law 632 = .ok (.ireturn, 1) := by decide +kernel
theorem dL_law_633 : decode cL_law 633 = .ok (.aload_n 1, 1) := by decide +kernel
theorem dL_law_634 : decode cL_law 634 = .ok (.invokevirtual 86, 3) := by decide +kernel
theorem dL_law_637 : decode cL_law 637 = .ok (.aload_n 2, 1) := by decide +kernel
theorem dL_law_638 : decode cL_law 638 = .ok (.invokevirtual 89, 3) := by decide +kernel
theorem dL_law_641 : decode cL_law 641 = .ok (.if_icmp .eq 111, 3) := by decide +kernel
theorem dL_law_644 : decode cL_law 644 = .ok (.iconst 0, 1) := by decide +kernel
theorem dL_law_645 : decode cL_law 645 = .ok (.ireturn, 1) := by decide +kernel
theorem dL_law_646 : decode cL_law 646 = .ok (.aload_n 1, 1) := by decide +kernel
theorem dL_law_647 : decode cL_law 647 = .ok (.aload_n 0, 1) := by decide +kernel
theorem dL_law_648 : decode cL_law 648 = .ok (.iload_n 3, 1) := by decide +kernel
theorem dL_law_649 : decode cL_law 649 = .ok (.iconst 1, 1) := by decide +kernel
theorem dL_law_650 : decode cL_law 650 = .ok (.iadd, 1) := by decide +kernel
theorem dL_law_651 : decode cL_law 651 = .ok (.iaload, 1) := by decide +kernel
theorem dL_law_652 : decode cL_law 652 = .ok (.aload_n 0, 1) := by decide +kernel
theorem dL_law_653 : decode cL_law 653 = .ok (.iload_n 3, 1) := by decide +kernel
theorem dL_law_654 : decode cL_law 654 = .ok (.iconst 2, 1) := by decide +kernel
theorem dL_law_655 : decode cL_law 655 = .ok (.iadd, 1) := by decide +kernel
theorem dL_law_656 : decode cL_law 656 = .ok (.iaload, 1) := by decide +kernel
theorem dL_law_657 : decode cL_law 657 = .ok (.aload_n 0, 1) := by decide +kernel
theorem dL_law_658 : decode cL_law 658 = .ok (.iload_n 3, 1) := by decide +kernel
theorem dL_law_659 : decode cL_law 659 = .ok (.iconst 3, 1) := by decide +kernel
theorem dL_law_660 : decode cL_law 660 = .ok (.iadd, 1) := by decide +kernel
theorem dL_law_661 : decode cL_law 661 = .ok (.iaload, 1) := by decide +kernel
theorem dL_law_662 : decode cL_law 662 = .ok (.invokevirtual 90, 3) := by decide +kernel
theorem dL_law_665 : decode cL_law 665 = .ok (.aload_n 2, 1) := by decide +kernel
theorem dL_law_666 : decode cL_law 666 = .ok (.aload_n 0, 1) := by decide +kernel
theorem dL_law_667 : decode cL_law 667 = .ok (.iload_n 3, 1) := by decide +kernel
theorem dL_law_668 : decode cL_law 668 = .ok (.iconst 1, 1) := by decide +kernel
theorem dL_law_669 : decode cL_law 669 = .ok (.iadd, 1) := by decide +kernel
theorem dL_law_670 : decode cL_law 670 = .ok (.iaload, 1) := by decide +kernel
theorem dL_law_671 : decode cL_law 671 = .ok (.aload_n 0, 1) := by decide +kernel
theorem dL_law_672 : decode cL_law 672 = .ok (.iload_n 3, 1) := by decide +kernel
theorem dL_law_673 : decode cL_law 673 = .ok (.iconst 2, 1) := by decide +kernel
theorem dL_law_674 : decode cL_law 674 = .ok (.iadd, 1) := by decide +kernel
theorem dL_law_675 : decode cL_law 675 = .ok (.iaload, 1) := by decide +kernel
theorem dL_law_676 : decode cL_law 676 = .ok (.aload_n 0, 1) := by decide +kernel
theorem dL_law_677 : decode cL_law 677 = .ok (.iload_n 3, 1) := by decide +kernel
theorem dL_law_678 : decode cL_law 678 = .ok (.iconst 3, 1) := by decide +kernel
theorem dL_law_679 : decode cL_law 679 = .ok (.iadd, 1) := by decide +kernel
theorem dL_law_680 : decode cL_law 680 = .ok (.iaload, 1) := by decide +kernel
theorem dL_law_681 : decode cL_law 681 = .ok (.invokevirtual 93, 3) := by decide +kernel
theorem dL_law_684 : decode cL_law 684 = .ok (.if_icmp .eq 68, 3) := by decide +kernel
theorem dL_law_687 : decode cL_law 687 = .ok (.iconst 0, 1) := by decide +kernel
theorem dL_law_688 : decode cL_law 688 = .ok (.ireturn, 1) := by decide +kernel
theorem dL_law_689 : decode cL_law 689 = .ok (.aload_n 1, 1) := by decide +kernel
theorem dL_law_690 : decode cL_law 690 = .ok (.invokevirtual 94, 3) := by decide +kernel
theorem dL_law_693 : decode cL_law 693 = .ok (.aload_n 2, 1) := by decide +kernel
theorem dL_law_694 : decode cL_law 694 = .ok (.invokevirtual 97, 3) := by decide +kernel
theorem dL_law_697 : decode cL_law 697 = .ok (.if_icmp .eq 55, 3) := by decide +kernel
theorem dL_law_700 : decode cL_law 700 = .ok (.iconst 0, 1) := by decide +kernel
theorem dL_law_701 : decode cL_law 701 = .ok (.ireturn, 1) := by decide +kernel
theorem dL_law_702 : decode cL_law 702 = .ok (.aload_n 1, 1) := by decide +kernel
theorem dL_law_703 : decode cL_law 703 = .ok (.invokevirtual 98, 3) := by decide +kernel
theorem dL_law_706 : decode cL_law 706 = .ok (.aload_n 2, 1) := by decide +kernel
theorem dL_law_707 : decode cL_law 707 = .ok (.invokevirtual 101, 3) := by decide +kernel
theorem dL_law_710 : decode cL_law 710 = .ok (.if_icmp .eq 42, 3) := by decide +kernel
theorem dL_law_713 : decode cL_law 713 = .ok (.iconst 0, 1) := by decide +kernel
theorem dL_law_714 : decode cL_law 714 = .ok (.ireturn, 1) := by decide +kernel
theorem dL_law_715 : decode cL_law 715 = .ok (.aload_n 1, 1) := by decide +kernel
theorem dL_law_716 : decode cL_law 716 = .ok (.aload_n 0, 1) := by decide +kernel
theorem dL_law_717 : decode cL_law 717 = .ok (.iload_n 3, 1) := by decide +kernel
theorem dL_law_718 : decode cL_law 718 = .ok (.iconst 1, 1) := by decide +kernel
theorem dL_law_719 : decode cL_law 719 = .ok (.iadd, 1) := by decide +kernel
theorem dL_law_720 : decode cL_law 720 = .ok (.iaload, 1) := by decide +kernel
theorem dL_law_721 : decode cL_law 721 = .ok (.invokevirtual 102, 3) := by decide +kernel
theorem dL_law_724 : decode cL_law 724 = .ok (.aload_n 2, 1) := by decide +kernel
theorem dL_law_725 : decode cL_law 725 = .ok (.aload_n 0, 1) := by decide +kernel
theorem dL_law_726 : decode cL_law 726 = .ok (.iload_n 3, 1) := by decide +kernel
theorem dL_law_727 : decode cL_law 727 = .ok (.iconst 1, 1) := by decide +kernel
theorem dL_law_728 : decode cL_law 728 = .ok (.iadd, 1) := by decide +kernel
theorem dL_law_729 : decode cL_law 729 = .ok (.iaload, 1) := by decide +kernel
theorem dL_law_730 : decode cL_law 730 = .ok (.invokevirtual 105, 3) := by decide +kernel
theorem dL_law_733 : decode cL_law 733 = .ok (.if_icmp .eq 19, 3) := by decide +kernel
theorem dL_law_736 : decode cL_law 736 = .ok (.iconst 0, 1) := by decide +kernel
theorem dL_law_737 : decode cL_law 737 = .ok (.ireturn, 1) := by decide +kernel
theorem dL_law_738 : decode cL_law 738 = .ok (.aload_n 1, 1) := by decide +kernel
theorem dL_law_739 : decode cL_law 739 = .ok (.invokevirtual 106, 3) := by decide +kernel
theorem dL_law_742 : decode cL_law 742 = .ok (.aload_n 2, 1) := by decide +kernel
theorem dL_law_743 : decode cL_law 743 = .ok (.invokevirtual 110, 3) := by decide +kernel
theorem dL_law_746 : decode cL_law 746 = .ok (.lcmp, 1) := by decide +kernel
theorem dL_law_747 : decode cL_law 747 = .ok (.ifCond .eq 5, 3) := by decide +kernel
theorem dL_law_750 : decode cL_law 750 = .ok (.iconst 0, 1) := by decide +kernel
theorem dL_law_751 : decode cL_law 751 = .ok (.ireturn, 1) := by decide +kernel
theorem dL_law_752 : decode cL_law 752 = .ok (.iinc 3 4, 3) := by decide +kernel
theorem dL_law_755 : decode cL_law 755 = .ok (.goto (-737), 3) := by decide +kernel
theorem dL_law_758 : decode cL_law 758 = .ok (.iconst 1, 1) := by decide +kernel
theorem dL_law_759 : decode cL_law 759 = .ok (.ireturn, 1) := by decide +kernel
