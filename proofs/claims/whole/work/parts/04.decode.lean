theorem dX4_isOfKind_5 : decode cX4_isOfKind 5 = .ok (.iload_n 1, 1) := by decide +kernel
theorem dX4_isOfKind_6 : decode cX4_isOfKind 6 = .ok (.ifCond .eq 13, 3) := by decide +kernel
theorem dX4_isOfKind_9 : decode cX4_isOfKind 9 = .ok (.iload_n 1, 1) := by decide +kernel
theorem dX4_isOfKind_10 : decode cX4_isOfKind 10 = .ok (.iconst 2, 1) := by decide +kernel
theorem dX4_isOfKind_11 : decode cX4_isOfKind 11 = .ok (.if_icmp .ne 12, 3) := by decide +kernel
theorem dX4_isOfKind_14 : decode cX4_isOfKind 14 = .ok (.iload_n 0, 1) := by decide +kernel
theorem dX4_isOfKind_15 : decode cX4_isOfKind 15 = .ok (.iconst 4, 1) := by decide +kernel
theorem dX4_isOfKind_16 : decode cX4_isOfKind 16 = .ok (.if_icmp .ne 7, 3) := by decide +kernel
theorem dX4_isOfKind_19 : decode cX4_isOfKind 19 = .ok (.iconst 1, 1) := by decide +kernel
theorem dX4_isOfKind_20 : decode cX4_isOfKind 20 = .ok (.goto 4, 3) := by decide +kernel
theorem dX4_isOfKind_23 : decode cX4_isOfKind 23 = .ok (.iconst 0, 1) := by decide +kernel
theorem dX4_isOfKind_24 : decode cX4_isOfKind 24 = .ok (.ireturn, 1) := by decide +kernel
theorem dX4_hasBit_0 : decode cX4_hasBit 0 = .ok (.iload_n 0, 1) := by decide +kernel
theorem dX4_hasBit_1 : decode cX4_hasBit 1 = .ok (.iload_n 1, 1) := by decide +kernel
theorem dX4_hasBit_2 : decode cX4_hasBit 2 = .ok (.ishr, 1) := by decide +kernel
theorem dX4_hasBit_3 : decode cX4_hasBit 3 = .ok (.iconst 1, 1) := by decide +kernel
theorem dX4_hasBit_4 : decode cX4_hasBit 4 = .ok (.iand, 1) := by decide +kernel
theorem dX4_hasBit_5 : decode cX4_hasBit 5 = .ok (.iconst 1, 1) := by decide +kernel
theorem dX4_hasBit_6 : decode cX4_hasBit 6 = .ok (.if_icmp .ne 7, 3) := by decide +kernel
theorem dX4_hasBit_9 : decode cX4_hasBit 9 = .ok (.iconst 1, 1) := by decide +kernel
theorem dX4_hasBit_10 : decode cX4_hasBit 10 = .ok (.goto 4, 3) := by decide +kernel
theorem dX4_hasBit_13 : decode cX4_hasBit 13 = .ok (.iconst 0, 1) := by decide +kernel
theorem dX4_hasBit_14 : decode cX4_hasBit 14 = .ok (.ireturn, 1) := by decide +kernel
theorem dX4_fitsDome_0 : decode cX4_fitsDome 0 = .ok (.iload_n 0, 1) := by decide +kernel
theorem dX4_fitsDome_1 : decode cX4_fitsDome 1 = .ok (.bipush 8, 2) := by decide +kernel
theorem dX4_fitsDome_3 : decode cX4_fitsDome 3 = .ok (.if_icmp .ge 21, 3) := by decide +kernel
theorem dX4_fitsDome_6 : decode cX4_fitsDome 6 = .ok (.iload_n 1, 1) := by decide +kernel
theorem dX4_fitsDome_7 : decode cX4_fitsDome 7 = .ok (.bipush 97, 2) := by decide +kernel
theorem dX4_fitsDome_9 : decode cX4_fitsDome 9 = .ok (.if_icmp .lt 13, 3) := by decide +kernel
theorem dX4_fitsDome_12 : decode cX4_fitsDome 12 = .ok (.iload_n 1, 1) := by decide +kernel
theorem dX4_fitsDome_13 : decode cX4_fitsDome 13 = .ok (.bipush 104, 2) := by decide +kernel
theorem dX4_fitsDome_15 : decode cX4_fitsDome 15 = .ok (.if_icmp .gt 7, 3) := by decide +kernel
theorem dX4_fitsDome_18 : decode cX4_fitsDome 18 = .ok (.iconst 1, 1) := by decide +kernel
theorem dX4_fitsDome_19 : decode cX4_fitsDome 19 = .ok (.goto 4, 3) := by decide +kernel
theorem dX4_fitsDome_22 : decode cX4_fitsDome 22 = .ok (.iconst 0, 1) := by decide +kernel
theorem dX4_fitsDome_23 : decode cX4_fitsDome 23 = .ok (.ireturn, 1) := by decide +kernel
theorem dX4_fitsDome_24 : decode cX4_fitsDome 24 = .ok (.iload_n 0, 1) := by decide +kernel
theorem dX4_fitsDome_25 : decode cX4_fitsDome 25 = .ok (.bipush 8, 2) := by decide +kernel
theorem dX4_fitsDome_27 : decode cX4_fitsDome 27 = .ok (.if_icmp .ne 15, 3) := by decide +kernel
theorem dX4_fitsDome_30 : decode cX4_fitsDome 30 = .ok (.iload_n 1, 1) := by decide +kernel
theorem dX4_fitsDome_31 : decode cX4_fitsDome 31 = .ok (.bipush 59, 2) := by decide +kernel
theorem dX4_fitsDome_33 : decode cX4_fitsDome 33 = .ok (.if_icmp .ne 7, 3) := by decide +kernel
theorem dX4_fitsDome_36 : decode cX4_fitsDome 36 = .ok (.iconst 1, 1) := by decide +kernel
theorem dX4_fitsDome_37 : decode cX4_fitsDome 37 = .ok (.goto 4, 3) := by decide +kernel
theorem dX4_fitsDome_40 : decode cX4_fitsDome 40 = .ok (.iconst 0, 1) := by decide +kernel
theorem dX4_fitsDome_41 : decode cX4_fitsDome 41 = .ok (.ireturn, 1) := by decide +kernel
theorem dX4_fitsDome_42 : decode cX4_fitsDome 42 = .ok (.iload_n 0, 1) := by decide +kernel
theorem dX4_fitsDome_43 : decode cX4_fitsDome 43 = .ok (.bipush 17, 2) := by decide +kernel
theorem dX4_fitsDome_45 : decode cX4_fitsDome 45 = .ok (.if_icmp .ge 19, 3) := by decide +kernel
theorem dX4_fitsDome_48 : decode cX4_fitsDome 48 = .ok (.iload_n 1, 1) := by decide +kernel
theorem dX4_fitsDome_49 : decode cX4_fitsDome 49 = .ok (.bipush 48, 2) := by decide +kernel
theorem dX4_fitsDome_51 : decode cX4_fitsDome 51 = .ok (.if_icmp .lt 13, 3) := by decide +kernel
theorem dX4_fitsDome_54 : decode cX4_fitsDome 54 = .ok (.iload_n 1, 1) := by decide +kernel
theorem dX4_fitsDome_55 : decode cX4_fitsDome 55 = .ok (.bipush 57, 2) := by decide +kernel
theorem dX4_fitsDome_57 : decode cX4_fitsDome 57 = .ok (.if_icmp .gt 7, 3) := by decide +kernel
theorem dX4_fitsDome_60 : decode cX4_fitsDome 60 = .ok (.iconst 1, 1) := by decide +kernel
theorem dX4_fitsDome_61 : decode cX4_fitsDome 61 = .ok (.goto 4, 3) := by decide +kernel
theorem dX4_fitsDome_64 : decode cX4_fitsDome 64 = .ok (.iconst 0, 1) := by decide +kernel
theorem dX4_fitsDome_65 : decode cX4_fitsDome 65 = .ok (.ireturn, 1) := by decide +kernel
theorem dX4_tell_0 : decode cX4_tell 0 = .ok (.aload_n 1, 1) := by decide +kernel
theorem dX4_tell_1 : decode cX4_tell 1 = .ok (.aload_n 0, 1) := by decide +kernel
theorem dX4_tell_2 : decode cX4_tell 2 = .ok (.getfield 40, 3) := by decide +kernel
theorem dX4_tell_5 : decode cX4_tell 5 = .ok (.aload_n 0, 1) := by decide +kernel
theorem dX4_tell_6 : decode cX4_tell 6 = .ok (.getfield 20, 3) := by decide +kernel
theorem dX4_tell_9 : decode cX4_tell 9 = .ok (.aload_n 1, 1) := by decide +kernel
theorem dX4_tell_10 : decode cX4_tell 10 = .ok (.iload_n 2, 1) := by decide +kernel
theorem dX4_tell_11 : decode cX4_tell 11 = .ok (.invokevirtual 130, 3) := by decide +kernel
theorem dX4_tell_14 : decode cX4_tell 14 = .ok (.iload_n 3, 1) := by decide +kernel
theorem dX4_tell_15 : decode cX4_tell 15 = .ok (.invokevirtual 215, 3) := by decide +kernel
theorem dX4_tell_18 : decode cX4_tell 18 = .ok (.ireturn, 1) := by decide +kernel
theorem dX4_leastScreens_0 : decode cX4_leastScreens 0 = .ok (.iconst (-1), 1) := by decide +kernel
theorem dX4_leastScreens_1 : decode cX4_leastScreens 1 = .ok (.istore_n 3, 1) := by decide +kernel
theorem dX4_leastScreens_2 : decode cX4_leastScreens 2 = .ok (.bipush 9, 2) := by decide +kernel
theorem dX4_leastScreens_4 : decode cX4_leastScreens 4 = .ok (.istore 4, 2) := by decide +kernel
theorem dX4_leastScreens_6 : decode cX4_leastScreens 6 = .ok (.aload_n 0, 1) := by decide +kernel
theorem dX4_leastScreens_7 : decode cX4_leastScreens 7 = .ok (.getfield 34, 3) := by decide +kernel
theorem dX4_leastScreens_10 : decode cX4_leastScreens 10 = .ok (.aload_n 0, 1) := by decide +kernel
theorem dX4_leastScreens_11 : decode cX4_leastScreens 11 = .ok (.getfield 27, 3) := by decide +kernel
theorem dX4_leastScreens_14 : decode cX4_leastScreens 14 = .ok (.invokevirtual 158, 3) := by decide +kernel
theorem dX4_leastScreens_17 : decode cX4_leastScreens 17 = .ok (.iconst 0, 1) := by decide +kernel
theorem dX4_leastScreens_18 : decode cX4_leastScreens 18 = .ok (.istore 5, 2) := by decide +kernel
theorem dX4_leastScreens_20 : decode cX4_leastScreens 20 = .ok (.iload 5, 2) := by decide +kernel
theorem dX4_leastScreens_22 : decode cX4_leastScreens 22 = .ok (.sipush 256, 3) := by decide +kernel
theorem dX4_leastScreens_25 : decode cX4_leastScreens 25 = .ok (.if_icmp .ge 86, 3) := by decide +kernel
theorem dX4_leastScreens_28 : decode cX4_leastScreens 28 = .ok (.iload 5, 2) := by decide +kernel
theorem dX4_leastScreens_30 : decode cX4_leastScreens 30 = .ok (.invokestatic 153, 3) := by decide +kernel
theorem dX4_leastScreens_33 : decode cX4_leastScreens 33 = .ok (.istore 6, 2) := by decide +kernel
theorem dX4_leastScreens_35 : decode cX4_leastScreens 35 = .ok (.iload 6, 2) := by decide +kernel
theorem dX4_leastScreens_37 : decode cX4_leastScreens 37 = .ok (.iload 4, 2) := by decide +kernel
theorem dX4_leastScreens_39 : decode cX4_leastScreens 39 = .ok (.if_icmp .ge 66, 3) := by decide +kernel
theorem dX4_leastScreens_42 : decode cX4_leastScreens 42 = .ok (.iload 5, 2) := by decide +kernel
theorem dX4_leastScreens_44 : decode cX4_leastScreens 44 = .ok (.aload_n 0, 1) := by decide +kernel
theorem dX4_leastScreens_45 : decode cX4_leastScreens 45 = .ok (.getfield 27, 3) := by decide +kernel
theorem dX4_leastScreens_48 : decode cX4_leastScreens 48 = .ok (.getfield 92, 3) := by decide +kernel
theorem dX4_leastScreens_51 : decode cX4_leastScreens 51 = .ok (.iand, 1) := by decide +kernel
theorem dX4_leastScreens_52 : decode cX4_leastScreens 52 = .ok (.ifCond .eq 6, 3) := by decide +kernel
theorem dX4_leastScreens_55 : decode cX4_leastScreens 55 = .ok (.goto 50, 3) := by decide +kernel
theorem dX4_leastScreens_58 : decode cX4_leastScreens 58 = .ok (.aload_n 0, 1) := by decide +kernel
theorem dX4_leastScreens_59 : decode cX4_leastScreens 59 = .ok (.getfield 34, 3) := by decide +kernel
theorem dX4_leastScreens_62 : decode cX4_leastScreens 62 = .ok (.aload_n 0, 1) := by decide +kernel
theorem dX4_leastScreens_63 : decode cX4_leastScreens 63 = .ok (.getfield 27, 3) := by decide +kernel
theorem dX4_leastScreens_66 : decode cX4_leastScreens 66 = .ok (.getfield 92, 3) := by decide +kernel
theorem dX4_leastScreens_69 : decode cX4_leastScreens 69 = .ok (.iload 5, 2) := by decide +kernel
theorem dX4_leastScreens_71 : decode cX4_leastScreens 71 = .ok (.ior, 1) := by decide +kernel
theorem dX4_leastScreens_72 : decode cX4_leastScreens 72 = .ok (.putfield 92, 3) := by decide +kernel
theorem dX4_leastScreens_75 : decode cX4_leastScreens 75 = .ok (.aload_n 0, 1) := by decide +kernel
theorem dX4_leastScreens_76 : decode cX4_leastScreens 76 = .ok (.getfield 40, 3) := by decide +kernel
theorem dX4_leastScreens_79 : decode cX4_leastScreens 79 = .ok (.aload_n 0, 1) := by decide +kernel
theorem dX4_leastScreens_80 : decode cX4_leastScreens 80 = .ok (.getfield 20, 3) := by decide +kernel
theorem dX4_leastScreens_83 : decode cX4_leastScreens 83 = .ok (.aload_n 0, 1) := by decide +kernel
theorem dX4_leastScreens_84 : decode cX4_leastScreens 84 = .ok (.getfield 34, 3) := by decide +kernel
theorem dX4_leastScreens_87 : decode cX4_leastScreens 87 = .ok (.iload_n 1, 1) := by decide +kernel
theorem dX4_leastScreens_88 : decode cX4_leastScreens 88 = .ok (.invokevirtual 130, 3) := by decide +kernel
theorem dX4_leastScreens_91 : decode cX4_leastScreens 91 = .ok (.iload_n 2, 1) := by decide +kernel
theorem dX4_leastScreens_92 : decode cX4_leastScreens 92 = .ok (.invokestatic 95, 3) := by decide +kernel
theorem dX4_leastScreens_95 : decode cX4_leastScreens 95 = .ok (.ifCond .ne 10, 3) := by decide +kernel
theorem dX4_leastScreens_98 : decode cX4_leastScreens 98 = .ok (.iload 5, 2) := by decide +kernel
theorem dX4_leastScreens_100 : decode cX4_leastScreens 100 = .ok (.istore_n 3, 1) := by decide +kernel
theorem dX4_leastScreens_101 : decode cX4_leastScreens 101 = .ok (.iload 6, 2) := by decide +kernel
theorem dX4_leastScreens_103 : decode cX4_leastScreens 103 = .ok (.istore 4, 2) := by decide +kernel
theorem dX4_leastScreens_105 : decode cX4_leastScreens 105 = .ok (.iinc 5 1, 3) := by decide +kernel
theorem dX4_leastScreens_108 : decode cX4_leastScreens 108 = .ok (.goto (-88), 3) := by decide +kernel
theorem dX4_leastScreens_111 : decode cX4_leastScreens 111 = .ok (.iload_n 3, 1) := by decide +kernel
theorem dX4_leastScreens_112 : decode cX4_leastScreens 112 = .ok (.ireturn, 1) := by decide +kernel
theorem dX4_areAlone_0 : decode cX4_areAlone 0 = .ok (.iconst 1, 1) := by decide +kernel
theorem dX4_areAlone_1 : decode cX4_areAlone 1 = .ok (.iload_n 2, 1) := by decide +kernel
theorem dX4_areAlone_2 : decode cX4_areAlone 2 = .ok (.ishl, 1) := by decide +kernel
theorem dX4_areAlone_3 : decode cX4_areAlone 3 = .ok (.iconst 1, 1) := by decide +kernel
theorem dX4_areAlone_4 : decode cX4_areAlone 4 = .ok (.iload_n 3, 1) := by decide +kernel
theorem dX4_areAlone_5 : decode cX4_areAlone 5 = .ok (.ishl, 1) := by decide +kernel
theorem dX4_areAlone_6 : decode cX4_areAlone 6 = .ok (.ior, 1) := by decide +kernel
theorem dX4_areAlone_7 : decode cX4_areAlone 7 = .ok (.istore 4, 2) := by decide +kernel
theorem dX4_areAlone_9 : decode cX4_areAlone 9 = .ok (.aload_n 0, 1) := by decide +kernel
theorem dX4_areAlone_10 : decode cX4_areAlone 10 = .ok (.getfield 40, 3) := by decide +kernel
theorem dX4_areAlone_13 : decode cX4_areAlone 13 = .ok (.aload_n 0, 1) := by decide +kernel
theorem dX4_areAlone_14 : decode cX4_areAlone 14 = .ok (.getfield 20, 3) := by decide +kernel
theorem dX4_areAlone_17 : decode cX4_areAlone 17 = .ok (.aload_n 1, 1) := by decide +kernel
theorem dX4_areAlone_18 : decode cX4_areAlone 18 = .ok (.iload_n 2, 1) := by decide +kernel
theorem dX4_areAlone_19 : decode cX4_areAlone 19 = .ok (.invokevirtual 130, 3) := by decide +kernel
theorem dX4_areAlone_22 : decode cX4_areAlone 22 = .ok (.iload 4, 2) := by decide +kernel
theorem dX4_areAlone_24 : decode cX4_areAlone 24 = .ok (.if_icmp .ne 25, 3) := by decide +kernel
theorem dX4_areAlone_27 : decode cX4_areAlone 27 = .ok (.aload_n 0, 1) := by decide +kernel
theorem dX4_areAlone_28 : decode cX4_areAlone 28 = .ok (.getfield 40, 3) := by decide +kernel
theorem dX4_areAlone_31 : decode cX4_areAlone 31 = .ok (.aload_n 0, 1) := by decide +kernel
theorem dX4_areAlone_32 : decode cX4_areAlone 32 = .ok (.getfield 20, 3) := by decide +kernel
theorem dX4_areAlone_35 : decode cX4_areAlone 35 = .ok (.aload_n 1, 1) := by decide +kernel
theorem dX4_areAlone_36 : decode cX4_areAlone 36 = .ok (.iload_n 3, 1) := by decide +kernel
theorem dX4_areAlone_37 : decode cX4_areAlone 37 = .ok (.invokevirtual 130, 3) := by decide +kernel
theorem dX4_areAlone_40 : decode cX4_areAlone 40 = .ok (.iload 4, 2) := by decide +kernel
theorem dX4_areAlone_42 : decode cX4_areAlone 42 = .ok (.if_icmp .ne 7, 3) := by decide +kernel
theorem dX4_areAlone_45 : decode cX4_areAlone 45 = .ok (.iconst 1, 1) := by decide +kernel
theorem dX4_areAlone_46 : decode cX4_areAlone 46 = .ok (.goto 4, 3) := by decide +kernel
theorem dX4_areAlone_49 : decode cX4_areAlone 49 = .ok (.iconst 0, 1) := by decide +kernel
theorem dX4_areAlone_50 : decode cX4_areAlone 50 = .ok (.ireturn, 1) := by decide +kernel
theorem dX4_suspects_0 : decode cX4_suspects 0 = .ok (.iconst 0, 1) := by decide +kernel
theorem dX4_suspects_1 : decode cX4_suspects 1 = .ok (.istore_n 1, 1) := by decide +kernel
theorem dX4_suspects_2 : decode cX4_suspects 2 = .ok (.iconst 0, 1) := by decide +kernel
theorem dX4_suspects_3 : decode cX4_suspects 3 = .ok (.istore_n 2, 1) := by decide +kernel
theorem dX4_suspects_4 : decode cX4_suspects 4 = .ok (.iload_n 2, 1) := by decide +kernel
theorem dX4_suspects_5 : decode cX4_suspects 5 = .ok (.aload_n 0, 1) := by decide +kernel
theorem dX4_suspects_6 : decode cX4_suspects 6 = .ok (.getfield 27, 3) := by decide +kernel
theorem dX4_suspects_9 : decode cX4_suspects 9 = .ok (.getfield 111, 3) := by decide +kernel
theorem dX4_suspects_12 : decode cX4_suspects 12 = .ok (.if_icmp .ge 66, 3) := by decide +kernel
theorem dX4_suspects_15 : decode cX4_suspects 15 = .ok (.aload_n 0, 1) := by decide +kernel
theorem dX4_suspects_16 : decode cX4_suspects 16 = .ok (.getfield 51, 3) := by decide +kernel
theorem dX4_suspects_19 : decode cX4_suspects 19 = .ok (.iload_n 2, 1) := by decide +kernel
theorem dX4_suspects_20 : decode cX4_suspects 20 = .ok (.aload_n 0, 1) := by decide +kernel
theorem dX4_suspects_21 : decode cX4_suspects 21 = .ok (.getfield 40, 3) := by decide +kernel
theorem dX4_suspects_24 : decode cX4_suspects 24 = .ok (.aload_n 0, 1) := by decide +kernel
theorem dX4_suspects_25 : decode cX4_suspects 25 = .ok (.getfield 20, 3) := by decide +kernel
theorem dX4_suspects_28 : decode cX4_suspects 28 = .ok (.aload_n 0, 1) := by decide +kernel
theorem dX4_suspects_29 : decode cX4_suspects 29 = .ok (.getfield 27, 3) := by decide +kernel
theorem dX4_suspects_32 : decode cX4_suspects 32 = .ok (.iload_n 2, 1) := by decide +kernel
theorem dX4_suspects_33 : decode cX4_suspects 33 = .ok (.invokevirtual 130, 3) := by decide +kernel
theorem dX4_suspects_36 : decode cX4_suspects 36 = .ok (.iastore, 1) := by decide +kernel
theorem dX4_suspects_37 : decode cX4_suspects 37 = .ok (.aload_n 0, 1) := by decide +kernel
theorem dX4_suspects_38 : decode cX4_suspects 38 = .ok (.getfield 27, 3) := by decide +kernel
theorem dX4_suspects_41 : decode cX4_suspects 41 = .ok (.getfield 121, 3) := by decide +kernel
theorem dX4_suspects_44 : decode cX4_suspects 44 = .ok (.iload_n 2, 1) := by decide +kernel
theorem dX4_suspects_45 : decode cX4_suspects 45 = .ok (.iaload, 1) := by decide +kernel
theorem dX4_suspects_46 : decode cX4_suspects 46 = .ok (.iconst 3, 1) := by decide +kernel
theorem dX4_suspects_47 : decode cX4_suspects 47 = .ok (.if_icmp .eq 25, 3) := by decide +kernel
theorem dX4_suspects_50 : decode cX4_suspects 50 = .ok (.aload_n 0, 1) := by decide +kernel
theorem dX4_suspects_51 : decode cX4_suspects 51 = .ok (.getfield 27, 3) := by decide +kernel
theorem dX4_suspects_54 : decode cX4_suspects 54 = .ok (.aload_n 0, 1) := by decide +kernel
theorem dX4_suspects_55 : decode cX4_suspects 55 = .ok (.getfield 51, 3) := by decide +kernel
theorem dX4_suspects_58 : decode cX4_suspects 58 = .ok (.iload_n 2, 1) := by decide +kernel
theorem dX4_suspects_59 : decode cX4_suspects 59 = .ok (.iaload, 1) := by decide +kernel
theorem dX4_suspects_60 : decode cX4_suspects 60 = .ok (.invokevirtual 218, 3) := by decide +kernel
theorem dX4_suspects_63 : decode cX4_suspects 63 = .ok (.ifCond .eq 9, 3) := by decide +kernel
theorem dX4_suspects_66 : decode cX4_suspects 66 = .ok (.iload_n 1, 1) := by decide +kernel
theorem dX4_suspects_67 : decode cX4_suspects 67 = .ok (.iconst 1, 1) := by decide +kernel
theorem dX4_suspects_68 : decode cX4_suspects 68 = .ok (.iload_n 2, 1) := by decide +kernel
theorem dX4_suspects_69 : decode cX4_suspects 69 = .ok (.ishl, 1) := by decide +kernel
theorem dX4_suspects_70 : decode cX4_suspects 70 = .ok (.ior, 1) := by decide +kernel
theorem dX4_suspects_71 : decode cX4_suspects 71 = .ok (.istore_n 1, 1) := by decide +kernel
theorem dX4_suspects_72 : decode cX4_suspects 72 = .ok (.iinc 2 1, 3) := by decide +kernel
theorem dX4_suspects_75 : decode cX4_suspects 75 = .ok (.goto (-71), 3) := by decide +kernel
theorem dX4_suspects_78 : decode cX4_suspects 78 = .ok (.iload_n 1, 1) := by decide +kernel
theorem dX4_suspects_79 : decode cX4_suspects 79 = .ok (.ireturn, 1) := by decide +kernel
theorem dX4_bestToAsk_0 : decode cX4_bestToAsk 0 = .ok (.iconst (-1), 1) := by decide +kernel
theorem dX4_bestToAsk_1 : decode cX4_bestToAsk 1 = .ok (.istore_n 2, 1) := by decide +kernel
theorem dX4_bestToAsk_2 : decode cX4_bestToAsk 2 = .ok (.bipush 7, 2) := by decide +kernel
theorem dX4_bestToAsk_4 : decode cX4_bestToAsk 4 = .ok (.istore_n 3, 1) := by decide +kernel
theorem dX4_bestToAsk_5 : decode cX4_bestToAsk 5 = .ok (.iconst 0, 1) := by decide +kernel
theorem dX4_bestToAsk_6 : decode cX4_bestToAsk 6 = .ok (.istore 4, 2) := by decide +kernel
theorem dX4_bestToAsk_8 : decode cX4_bestToAsk 8 = .ok (.iload_n 1, 1) := by decide +kernel
theorem dX4_bestToAsk_9 : decode cX4_bestToAsk 9 = .ok (.ifCond .eq 42, 3) := by decide +kernel
theorem dX4_bestToAsk_12 : decode cX4_bestToAsk 12 = .ok (.iload 4, 2) := by decide +kernel
theorem dX4_bestToAsk_14 : decode cX4_bestToAsk 14 = .ok (.aload_n 0, 1) := by decide +kernel
theorem dX4_bestToAsk_15 : decode cX4_bestToAsk 15 = .ok (.getfield 27, 3) := by decide +kernel
theorem dX4_bestToAsk_18 : decode cX4_bestToAsk 18 = .ok (.getfield 111, 3) := by decide +kernel
theorem dX4_bestToAsk_21 : decode cX4_bestToAsk 21 = .ok (.if_icmp .ge 30, 3) := by decide +kernel
theorem dX4_bestToAsk_24 : decode cX4_bestToAsk 24 = .ok (.aload_n 0, 1) := by decide +kernel
theorem dX4_bestToAsk_25 : decode cX4_bestToAsk 25 = .ok (.iload_n 1, 1) := by decide +kernel
theorem dX4_bestToAsk_26 : decode cX4_bestToAsk 26 = .ok (.iload 4, 2) := by decide +kernel
theorem dX4_bestToAsk_28 : decode cX4_bestToAsk 28 = .ok (.invokevirtual 221, 3) := by decide +kernel
theorem dX4_bestToAsk_31 : decode cX4_bestToAsk 31 = .ok (.istore 5, 2) := by decide +kernel
theorem dX4_bestToAsk_33 : decode cX4_bestToAsk 33 = .ok (.iload 5, 2) := by decide +kernel
theorem dX4_bestToAsk_35 : decode cX4_bestToAsk 35 = .ok (.iload_n 3, 1) := by decide +kernel
theorem dX4_bestToAsk_36 : decode cX4_bestToAsk 36 = .ok (.if_icmp .ge 9, 3) := by decide +kernel
theorem dX4_bestToAsk_39 : decode cX4_bestToAsk 39 = .ok (.iload 4, 2) := by decide +kernel
theorem dX4_bestToAsk_41 : decode cX4_bestToAsk 41 = .ok (.istore_n 2, 1) := by decide +kernel
theorem dX4_bestToAsk_42 : decode cX4_bestToAsk 42 = .ok (.iload 5, 2) := by decide +kernel
theorem dX4_bestToAsk_44 : decode cX4_bestToAsk 44 = .ok (.istore_n 3, 1) := by decide +kernel
theorem dX4_bestToAsk_45 : decode cX4_bestToAsk 45 = .ok (.iinc 4 1, 3) := by decide +kernel
theorem dX4_bestToAsk_48 : decode cX4_bestToAsk 48 = .ok (.goto (-40), 3) := by decide +kernel
theorem dX4_bestToAsk_51 : decode cX4_bestToAsk 51 = .ok (.iload_n 2, 1) := by decide +kernel
theorem dX4_bestToAsk_52 : decode cX4_bestToAsk 52 = .ok (.ireturn, 1) := by decide +kernel
theorem dX4_leftAtWorst_0 : decode cX4_leftAtWorst 0 = .ok (.iconst 0, 1) := by decide +kernel
theorem dX4_leftAtWorst_1 : decode cX4_leftAtWorst 1 = .ok (.istore_n 3, 1) := by decide +kernel
theorem dX4_leftAtWorst_2 : decode cX4_leftAtWorst 2 = .ok (.iconst 0, 1) := by decide +kernel
theorem dX4_leftAtWorst_3 : decode cX4_leftAtWorst 3 = .ok (.istore 4, 2) := by decide +kernel
theorem dX4_leftAtWorst_5 : decode cX4_leftAtWorst 5 = .ok (.iload 4, 2) := by decide +kernel
theorem dX4_leftAtWorst_7 : decode cX4_leftAtWorst 7 = .ok (.aload_n 0, 1) := by decide +kernel
theorem dX4_leftAtWorst_8 : decode cX4_leftAtWorst 8 = .ok (.getfield 27, 3) := by decide +kernel
theorem dX4_leftAtWorst_11 : decode cX4_leftAtWorst 11 = .ok (.getfield 111, 3) := by decide +kernel
theorem dX4_leftAtWorst_14 : decode cX4_leftAtWorst 14 = .ok (.if_icmp .ge 35, 3) := by decide +kernel
theorem dX4_leftAtWorst_17 : decode cX4_leftAtWorst 17 = .ok (.iload_n 1, 1) := by decide +kernel
theorem dX4_leftAtWorst_18 : decode cX4_leftAtWorst 18 = .ok (.iload 4, 2) := by decide +kernel
theorem dX4_leftAtWorst_20 : decode cX4_leftAtWorst 20 = .ok (.invokestatic 95, 3) := by decide +kernel
theorem dX4_leftAtWorst_23 : decode cX4_leftAtWorst 23 = .ok (.ifCond .eq 20, 3) := by decide +kernel
theorem dX4_leftAtWorst_26 : decode cX4_leftAtWorst 26 = .ok (.aload_n 0, 1) := by decide +kernel
theorem dX4_leftAtWorst_27 : decode cX4_leftAtWorst 27 = .ok (.getfield 51, 3) := by decide +kernel
theorem dX4_leftAtWorst_30 : decode cX4_leftAtWorst 30 = .ok (.iload 4, 2) := by decide +kernel
theorem dX4_leftAtWorst_32 : decode cX4_leftAtWorst 32 = .ok (.iaload, 1) := by decide +kernel
theorem dX4_leftAtWorst_33 : decode cX4_leftAtWorst 33 = .ok (.iload_n 2, 1) := by decide +kernel
theorem dX4_leftAtWorst_34 : decode cX4_leftAtWorst 34 = .ok (.invokestatic 95, 3) := by decide +kernel
theorem dX4_leftAtWorst_37 : decode cX4_leftAtWorst 37 = .ok (.ifCond .eq 6, 3) := by decide +kernel
theorem dX4_leftAtWorst_40 : decode cX4_leftAtWorst 40 = .ok (.iinc 3 1, 3) := by decide +kernel
theorem dX4_leftAtWorst_43 : decode cX4_leftAtWorst 43 = .ok (.iinc 4 1, 3) := by decide +kernel
theorem dX4_leftAtWorst_46 : decode cX4_leftAtWorst 46 = .ok (.goto (-41), 3) := by decide +kernel
theorem dX4_leftAtWorst_49 : decode cX4_leftAtWorst 49 = .ok (.iload_n 3, 1) := by decide +kernel
theorem dX4_leftAtWorst_50 : decode cX4_leftAtWorst 50 = .ok (.iload_n 1, 1) := by decide +kernel
theorem dX4_leftAtWorst_51 : decode cX4_leftAtWorst 51 = .ok (.invokestatic 153, 3) := by decide +kernel
theorem dX4_leftAtWorst_54 : decode cX4_leftAtWorst 54 = .ok (.iload_n 3, 1) := by decide +kernel
theorem dX4_leftAtWorst_55 : decode cX4_leftAtWorst 55 = .ok (.isub, 1) := by decide +kernel
theorem dX4_leftAtWorst_56 : decode cX4_leftAtWorst 56 = .ok (.invokestatic 224, 3) := by decide +kernel
theorem dX4_leftAtWorst_59 : decode cX4_leftAtWorst 59 = .ok (.ireturn, 1) := by decide +kernel
theorem dX4_dreamDay_0 : decode cX4_dreamDay 0 = .ok (.aload_n 0, 1) := by decide +kernel
theorem dX4_dreamDay_1 : decode cX4_dreamDay 1 = .ok (.getfield 47, 3) := by decide +kernel
theorem dX4_dreamDay_4 : decode cX4_dreamDay 4 = .ok (.aload_n 0, 1) := by decide +kernel
theorem dX4_dreamDay_5 : decode cX4_dreamDay 5 = .ok (.getfield 34, 3) := by decide +kernel
theorem dX4_dreamDay_8 : decode cX4_dreamDay 8 = .ok (.getfield 111, 3) := by decide +kernel
theorem dX4_dreamDay_11 : decode cX4_dreamDay 11 = .ok (.invokevirtual 229, 3) := by decide +kernel
theorem dX4_dreamDay_14 : decode cX4_dreamDay 14 = .ok (.istore_n 1, 1) := by decide +kernel
theorem dX4_dreamDay_15 : decode cX4_dreamDay 15 = .ok (.aload_n 0, 1) := by decide +kernel
theorem dX4_dreamDay_16 : decode cX4_dreamDay 16 = .ok (.getfield 34, 3) := by decide +kernel
theorem dX4_dreamDay_19 : decode cX4_dreamDay 19 = .ok (.getfield 124, 3) := by decide +kernel
theorem dX4_dreamDay_22 : decode cX4_dreamDay 22 = .ok (.iload_n 1, 1) := by decide +kernel
theorem dX4_dreamDay_23 : decode cX4_dreamDay 23 = .ok (.aload_n 0, 1) := by decide +kernel
theorem dX4_dreamDay_24 : decode cX4_dreamDay 24 = .ok (.getfield 47, 3) := by decide +kernel
theorem dX4_dreamDay_27 : decode cX4_dreamDay 27 = .ok (.bipush 8, 2) := by decide +kernel
theorem dX4_dreamDay_29 : decode cX4_dreamDay 29 = .ok (.invokevirtual 229, 3) := by decide +kernel
theorem dX4_dreamDay_32 : decode cX4_dreamDay 32 = .ok (.iastore, 1) := by decide +kernel
theorem dX4_dreamDay_33 : decode cX4_dreamDay 33 = .ok (.aload_n 0, 1) := by decide +kernel
theorem dX4_dreamDay_34 : decode cX4_dreamDay 34 = .ok (.getfield 47, 3) := by decide +kernel
theorem dX4_dreamDay_37 : decode cX4_dreamDay 37 = .ok (.aload_n 0, 1) := by decide +kernel
theorem dX4_dreamDay_38 : decode cX4_dreamDay 38 = .ok (.getfield 34, 3) := by decide +kernel
theorem dX4_dreamDay_41 : decode cX4_dreamDay 41 = .ok (.getfield 111, 3) := by decide +kernel
theorem dX4_dreamDay_44 : decode cX4_dreamDay 44 = .ok (.invokevirtual 229, 3) := by decide +kernel
theorem dX4_dreamDay_47 : decode cX4_dreamDay 47 = .ok (.istore_n 2, 1) := by decide +kernel
theorem dX4_dreamDay_48 : decode cX4_dreamDay 48 = .ok (.aload_n 0, 1) := by decide +kernel
theorem dX4_dreamDay_49 : decode cX4_dreamDay 49 = .ok (.getfield 47, 3) := by decide +kernel
theorem dX4_dreamDay_52 : decode cX4_dreamDay 52 = .ok (.bipush 10, 2) := by decide +kernel
theorem dX4_dreamDay_54 : decode cX4_dreamDay 54 = .ok (.invokevirtual 229, 3) := by decide +kernel
theorem dX4_dreamDay_57 : decode cX4_dreamDay 57 = .ok (.istore_n 3, 1) := by decide +kernel
theorem dX4_dreamDay_58 : decode cX4_dreamDay 58 = .ok (.aload_n 0, 1) := by decide +kernel
theorem dX4_dreamDay_59 : decode cX4_dreamDay 59 = .ok (.getfield 34, 3) := by decide +kernel
theorem dX4_dreamDay_62 : decode cX4_dreamDay 62 = .ok (.getfield 121, 3) := by decide +kernel
theorem dX4_dreamDay_65 : decode cX4_dreamDay 65 = .ok (.iload_n 2, 1) := by decide +kernel
theorem dX4_dreamDay_66 : decode cX4_dreamDay 66 = .ok (.iaload, 1) := by decide +kernel
theorem dX4_dreamDay_67 : decode cX4_dreamDay 67 = .ok (.iconst 3, 1) := by decide +kernel
theorem dX4_dreamDay_68 : decode cX4_dreamDay 68 = .ok (.if_icmp .ne 7, 3) := by decide +kernel
theorem dX4_dreamDay_71 : decode cX4_dreamDay 71 = .ok (.iconst 0, 1) := by decide +kernel
theorem dX4_dreamDay_72 : decode cX4_dreamDay 72 = .ok (.goto 13, 3) := by decide +kernel
theorem dX4_dreamDay_75 : decode cX4_dreamDay 75 = .ok (.aload_n 0, 1) := by decide +kernel
theorem dX4_dreamDay_76 : decode cX4_dreamDay 76 = .ok (.aload_n 0, 1) := by decide +kernel
theorem dX4_dreamDay_77 : decode cX4_dreamDay 77 = .ok (.getfield 34, 3) := by decide +kernel
theorem dX4_dreamDay_80 : decode cX4_dreamDay 80 = .ok (.iload_n 2, 1) := by decide +kernel
theorem dX4_dreamDay_81 : decode cX4_dreamDay 81 = .ok (.iload_n 3, 1) := by decide +kernel
theorem dX4_dreamDay_82 : decode cX4_dreamDay 82 = .ok (.invokevirtual 140, 3) := by decide +kernel
theorem dX4_dreamDay_85 : decode cX4_dreamDay 85 = .ok (.ireturn, 1) := by decide +kernel
theorem dX4_mix_0 : decode cX4_mix 0 = .ok (.ldc2_w 232, 3) := by decide +kernel
theorem dX4_mix_3 : decode cX4_mix 3 = .ok (.lload_n 0, 1) := by decide +kernel
theorem dX4_mix_4 : decode cX4_mix 4 = .ok (.lmul, 1) := by decide +kernel
theorem dX4_mix_5 : decode cX4_mix 5 = .ok (.lload_n 2, 1) := by decide +kernel
theorem dX4_mix_6 : decode cX4_mix 6 = .ok (.ladd, 1) := by decide +kernel
theorem dX4_mix_7 : decode cX4_mix 7 = .ok (.lreturn, 1) := by decide +kernel
theorem dX4_digestPlaces_0 : decode cX4_digestPlaces 0 = .ok (.lload_n 1, 1) := by decide +kernel
theorem dX4_digestPlaces_1 : decode cX4_digestPlaces 1 = .ok (.lstore_n 3, 1) := by decide +kernel
theorem dX4_digestPlaces_2 : decode cX4_digestPlaces 2 = .ok (.iconst 0, 1) := by decide +kernel
theorem dX4_digestPlaces_3 : decode cX4_digestPlaces 3 = .ok (.istore 5, 2) := by decide +kernel
theorem dX4_digestPlaces_5 : decode cX4_digestPlaces 5 = .ok (.aload_n 0, 1) := by decide +kernel
theorem dX4_digestPlaces_6 : decode cX4_digestPlaces 6 = .ok (.invokevirtual 178, 3) := by decide +kernel
theorem dX4_digestPlaces_9 : decode cX4_digestPlaces 9 = .ok (.ifCond .eq 46, 3) := by decide +kernel
theorem dX4_digestPlaces_12 : decode cX4_digestPlaces 12 = .ok (.iload 5, 2) := by decide +kernel
theorem dX4_digestPlaces_14 : decode cX4_digestPlaces 14 = .ok (.bipush 8, 2) := by decide +kernel
theorem dX4_digestPlaces_16 : decode cX4_digestPlaces 16 = .ok (.if_icmp .ge 39, 3) := by decide +kernel
theorem dX4_digestPlaces_19 : decode cX4_digestPlaces 19 = .ok (.iconst 0, 1) := by decide +kernel
theorem dX4_digestPlaces_20 : decode cX4_digestPlaces 20 = .ok (.istore 6, 2) := by decide +kernel
theorem dX4_digestPlaces_22 : decode cX4_digestPlaces 22 = .ok (.iload 6, 2) := by decide +kernel
theorem dX4_digestPlaces_24 : decode cX4_digestPlaces 24 = .ok (.bipush 6, 2) := by decide +kernel
theorem dX4_digestPlaces_26 : decode cX4_digestPlaces 26 = .ok (.if_icmp .ge 23, 3) := by decide +kernel
theorem dX4_digestPlaces_29 : decode cX4_digestPlaces 29 = .ok (.lload_n 3, 1) := by decide +kernel
theorem dX4_digestPlaces_30 : decode cX4_digestPlaces 30 = .ok (.aload_n 0, 1) := by decide +kernel
theorem dX4_digestPlaces_31 : decode cX4_digestPlaces 31 = .ok (.iload 5, 2) := by decide +kernel
theorem dX4_digestPlaces_33 : decode cX4_digestPlaces 33 = .ok (.iload 6, 2) := by decide +kernel
theorem dX4_digestPlaces_35 : decode cX4_digestPlaces 35 = .ok (.invokevirtual 234, 3) := by decide +kernel
theorem dX4_digestPlaces_38 : decode cX4_digestPlaces 38 = .ok (.i2l, 1) := by decide +kernel
theorem dX4_digestPlaces_39 : decode cX4_digestPlaces 39 = .ok (.invokestatic 208, 3) := by decide +kernel
theorem dX4_digestPlaces_42 : decode cX4_digestPlaces 42 = .ok (.lstore_n 3, 1) := by decide +kernel
theorem dX4_digestPlaces_43 : decode cX4_digestPlaces 43 = .ok (.iinc 6 1, 3) := by decide +kernel
theorem dX4_digestPlaces_46 : decode cX4_digestPlaces 46 = .ok (.goto (-24), 3) := by decide +kernel
theorem dX4_digestPlaces_49 : decode cX4_digestPlaces 49 = .ok (.iinc 5 1, 3) := by decide +kernel
theorem dX4_digestPlaces_52 : decode cX4_digestPlaces 52 = .ok (.goto (-47), 3) := by decide +kernel
theorem dX4_digestPlaces_55 : decode cX4_digestPlaces 55 = .ok (.lload_n 3, 1) := by decide +kernel
theorem dX4_digestPlaces_56 : decode cX4_digestPlaces 56 = .ok (.lreturn, 1) := by decide +kernel
theorem dX4_digestPerson_0 : decode cX4_digestPerson 0 = .ok (.lload_n 1, 1) := by decide +kernel
theorem dX4_digestPerson_1 : decode cX4_digestPerson 1 = .ok (.aload_n 0, 1) := by decide +kernel
theorem dX4_digestPerson_2 : decode cX4_digestPerson 2 = .ok (.getfield 27, 3) := by decide +kernel
theorem dX4_digestPerson_5 : decode cX4_digestPerson 5 = .ok (.getfield 121, 3) := by decide +kernel
theorem dX4_digestPerson_8 : decode cX4_digestPerson 8 = .ok (.iload_n 3, 1) := by decide +kernel
theorem dX4_digestPerson_9 : decode cX4_digestPerson 9 = .ok (.iaload, 1) := by decide +kernel
theorem dX4_digestPerson_10 : decode cX4_digestPerson 10 = .ok (.i2l, 1) := by decide +kernel
theorem dX4_digestPerson_11 : decode cX4_digestPerson 11 = .ok (.invokestatic 208, 3) := by decide +kernel
theorem dX4_digestPerson_14 : decode cX4_digestPerson 14 = .ok (.lstore 4, 2) := by decide +kernel
theorem dX4_digestPerson_16 : decode cX4_digestPerson 16 = .ok (.lload 4, 2) := by decide +kernel
theorem dX4_digestPerson_18 : decode cX4_digestPerson 18 = .ok (.aload_n 0, 1) := by decide +kernel
theorem dX4_digestPerson_19 : decode cX4_digestPerson 19 = .ok (.getfield 27, 3) := by decide +kernel
theorem dX4_digestPerson_22 : decode cX4_digestPerson 22 = .ok (.getfield 124, 3) := by decide +kernel
theorem dX4_digestPerson_25 : decode cX4_digestPerson 25 = .ok (.iload_n 3, 1) := by decide +kernel
theorem dX4_digestPerson_26 : decode cX4_digestPerson 26 = .ok (.iaload, 1) := by decide +kernel
theorem dX4_digestPerson_27 : decode cX4_digestPerson 27 = .ok (.i2l, 1) := by decide +kernel
theorem dX4_digestPerson_28 : decode cX4_digestPerson 28 = .ok (.invokestatic 208, 3) := by decide +kernel
theorem dX4_digestPerson_31 : decode cX4_digestPerson 31 = .ok (.lstore 4, 2) := by decide +kernel
theorem dX4_digestPerson_33 : decode cX4_digestPerson 33 = .ok (.lload 4, 2) := by decide +kernel
theorem dX4_digestPerson_35 : decode cX4_digestPerson 35 = .ok (.aload_n 0, 1) := by decide +kernel
theorem dX4_digestPerson_36 : decode cX4_digestPerson 36 = .ok (.getfield 27, 3) := by decide +kernel
theorem dX4_digestPerson_39 : decode cX4_digestPerson 39 = .ok (.getfield 127, 3) := by decide +kernel
theorem dX4_digestPerson_42 : decode cX4_digestPerson 42 = .ok (.iload_n 3, 1) := by decide +kernel
theorem dX4_digestPerson_43 : decode cX4_digestPerson 43 = .ok (.iaload, 1) := by decide +kernel
theorem dX4_digestPerson_44 : decode cX4_digestPerson 44 = .ok (.i2l, 1) := by decide +kernel
theorem dX4_digestPerson_45 : decode cX4_digestPerson 45 = .ok (.invokestatic 208, 3) := by decide +kernel
theorem dX4_digestPerson_48 : decode cX4_digestPerson 48 = .ok (.lstore 4, 2) := by decide +kernel
theorem dX4_digestPerson_50 : decode cX4_digestPerson 50 = .ok (.lload 4, 2) := by decide +kernel
theorem dX4_digestPerson_52 : decode cX4_digestPerson 52 = .ok (.aload_n 0, 1) := by decide +kernel
theorem dX4_digestPerson_53 : decode cX4_digestPerson 53 = .ok (.getfield 40, 3) := by decide +kernel
theorem dX4_digestPerson_56 : decode cX4_digestPerson 56 = .ok (.aload_n 0, 1) := by decide +kernel
theorem dX4_digestPerson_57 : decode cX4_digestPerson 57 = .ok (.getfield 20, 3) := by decide +kernel
theorem dX4_digestPerson_60 : decode cX4_digestPerson 60 = .ok (.aload_n 0, 1) := by decide +kernel
theorem dX4_digestPerson_61 : decode cX4_digestPerson 61 = .ok (.getfield 27, 3) := by decide +kernel
theorem dX4_digestPerson_64 : decode cX4_digestPerson 64 = .ok (.iload_n 3, 1) := by decide +kernel
theorem dX4_digestPerson_65 : decode cX4_digestPerson 65 = .ok (.invokevirtual 130, 3) := by decide +kernel
theorem dX4_digestPerson_68 : decode cX4_digestPerson 68 = .ok (.i2l, 1) := by decide +kernel
theorem dX4_digestPerson_69 : decode cX4_digestPerson 69 = .ok (.invokestatic 208, 3) := by decide +kernel
theorem dX4_digestPerson_72 : decode cX4_digestPerson 72 = .ok (.lstore 4, 2) := by decide +kernel
theorem dX4_digestPerson_74 : decode cX4_digestPerson 74 = .ok (.iconst 0, 1) := by decide +kernel
theorem dX4_digestPerson_75 : decode cX4_digestPerson 75 = .ok (.istore 6, 2) := by decide +kernel
theorem dX4_digestPerson_77 : decode cX4_digestPerson 77 = .ok (.iload 6, 2) := by decide +kernel
theorem dX4_digestPerson_79 : decode cX4_digestPerson 79 = .ok (.aload_n 0, 1) := by decide +kernel
theorem dX4_digestPerson_80 : decode cX4_digestPerson 80 = .ok (.getfield 27, 3) := by decide +kernel
theorem dX4_digestPerson_83 : decode cX4_digestPerson 83 = .ok (.getfield 111, 3) := by decide +kernel
theorem dX4_digestPerson_86 : decode cX4_digestPerson 86 = .ok (.if_icmp .ge 27, 3) := by decide +kernel
theorem dX4_digestPerson_89 : decode cX4_digestPerson 89 = .ok (.lload 4, 2) := by decide +kernel
theorem dX4_digestPerson_91 : decode cX4_digestPerson 91 = .ok (.aload_n 0, 1) := by decide +kernel
theorem dX4_digestPerson_92 : decode cX4_digestPerson 92 = .ok (.getfield 40, 3) := by decide +kernel
theorem dX4_digestPerson_95 : decode cX4_digestPerson 95 = .ok (.getfield 144, 3) := by decide +kernel
theorem dX4_digestPerson_98 : decode cX4_digestPerson 98 = .ok (.iload 6, 2) := by decide +kernel
theorem dX4_digestPerson_100 : decode cX4_digestPerson 100 = .ok (.iaload, 1) := by decide +kernel
theorem dX4_digestPerson_101 : decode cX4_digestPerson 101 = .ok (.i2l, 1) := by decide +kernel
theorem dX4_digestPerson_102 : decode cX4_digestPerson 102 = .ok (.invokestatic 208, 3) := by decide +kernel
theorem dX4_digestPerson_105 : decode cX4_digestPerson 105 = .ok (.lstore 4, 2) := by decide +kernel
theorem dX4_digestPerson_107 : decode cX4_digestPerson 107 = .ok (.iinc 6 1, 3) := by decide +kernel
theorem dX4_digestPerson_110 : decode cX4_digestPerson 110 = .ok (.goto (-33), 3) := by decide +kernel
theorem dX4_digestPerson_113 : decode cX4_digestPerson 113 = .ok (.lload 4, 2) := by decide +kernel
theorem dX4_digestPerson_115 : decode cX4_digestPerson 115 = .ok (.lreturn, 1) := by decide +kernel
theorem dX5_init_0 : decode cX5_init 0 = .ok (.aload_n 0, 1) := by decide +kernel
theorem dX5_init_1 : decode cX5_init 1 = .ok (.invokespecial 1, 3) := by decide +kernel
theorem dX5_init_4 : decode cX5_init 4 = .ok (.aload_n 0, 1) := by decide +kernel
theorem dX5_init_5 : decode cX5_init 5 = .ok (.bipush 20, 2) := by decide +kernel
theorem dX5_init_7 : decode cX5_init 7 = .ok (.newarray .int, 2) := by decide +kernel
theorem dX5_init_9 : decode cX5_init 9 = .ok (.putfield 7, 3) := by decide +kernel
theorem dX5_init_12 : decode cX5_init 12 = .ok (.aload_n 0, 1) := by decide +kernel
theorem dX5_init_13 : decode cX5_init 13 = .ok (.bipush 8, 2) := by decide +kernel
theorem dX5_init_15 : decode cX5_init 15 = .ok (.newarray .int, 2) := by decide +kernel
theorem dX5_init_17 : decode cX5_init 17 = .ok (.putfield 13, 3) := by decide +kernel
theorem dX5_init_20 : decode cX5_init 20 = .ok (.aload_n 0, 1) := by decide +kernel
theorem dX5_init_21 : decode cX5_init 21 = .ok (.bipush 8, 2) := by decide +kernel
theorem dX5_init_23 : decode cX5_init 23 = .ok (.newarray .int, 2) := by decide +kernel
theorem dX5_init_25 : decode cX5_init 25 = .ok (.putfield 16, 3) := by decide +kernel
theorem dX5_init_28 : decode cX5_init 28 = .ok (.aload_n 0, 1) := by decide +kernel
theorem dX5_init_29 : decode cX5_init 29 = .ok (.bipush 18, 2) := by decide +kernel
theorem dX5_init_31 : decode cX5_init 31 = .ok (.newarray .int, 2) := by decide +kernel
theorem dX5_init_33 : decode cX5_init 33 = .ok (.putfield 19, 3) := by decide +kernel
theorem dX5_init_36 : decode cX5_init 36 = .ok (.aload_n 0, 1) := by decide +kernel
theorem dX5_init_37 : decode cX5_init 37 = .ok (.bipush 6, 2) := by decide +kernel
theorem dX5_init_39 : decode cX5_init 39 = .ok (.newarray .int, 2) := by decide +kernel
theorem dX5_init_41 : decode cX5_init 41 = .ok (.putfield 22, 3) := by decide +kernel
theorem dX5_init_44 : decode cX5_init 44 = .ok (.aload_n 0, 1) := by decide +kernel
theorem dX5_init_45 : decode cX5_init 45 = .ok (.bipush 16, 2) := by decide +kernel
theorem dX5_init_47 : decode cX5_init 47 = .ok (.newarray .int, 2) := by decide +kernel
theorem dX5_init_49 : decode cX5_init 49 = .ok (.putfield 25, 3) := by decide +kernel
theorem dX5_init_52 : decode cX5_init 52 = .ok (.aload_n 0, 1) := by decide +kernel
theorem dX5_init_53 : decode cX5_init 53 = .ok (.bipush 18, 2) := by decide +kernel
theorem dX5_init_55 : decode cX5_init 55 = .ok (.newarray .int, 2) := by decide +kernel
theorem dX5_init_57 : decode cX5_init 57 = .ok (.putfield 28, 3) := by decide +kernel
theorem dX5_init_60 : decode cX5_init 60 = .ok (.aload_n 0, 1) := by decide +kernel
theorem dX5_init_61 : decode cX5_init 61 = .ok (.bipush 18, 2) := by decide +kernel
theorem dX5_init_63 : decode cX5_init 63 = .ok (.newarray .int, 2) := by decide +kernel
theorem dX5_init_65 : decode cX5_init 65 = .ok (.putfield 31, 3) := by decide +kernel
theorem dX5_init_68 : decode cX5_init 68 = .ok (.aload_n 0, 1) := by decide +kernel
theorem dX5_init_69 : decode cX5_init 69 = .ok (.bipush 16, 2) := by decide +kernel
theorem dX5_init_71 : decode cX5_init 71 = .ok (.newarray .int, 2) := by decide +kernel
theorem dX5_init_73 : decode cX5_init 73 = .ok (.putfield 34, 3) := by decide +kernel
theorem dX5_init_76 : decode cX5_init 76 = .ok (.aload_n 0, 1) := by decide +kernel
theorem dX5_init_77 : decode cX5_init 77 = .ok (.iconst (-1), 1) := by decide +kernel
theorem dX5_init_78 : decode cX5_init 78 = .ok (.putfield 37, 3) := by decide +kernel
theorem dX5_init_81 : decode cX5_init 81 = .ok (.return_, 1) := by decide +kernel
theorem dX5_in_0 : decode cX5_in 0 = .ok (.lload_n 0, 1) := by decide +kernel
theorem dX5_in_1 : decode cX5_in 1 = .ok (.lload_n 2, 1) := by decide +kernel
theorem dX5_in_2 : decode cX5_in 2 = .ok (.lcmp, 1) := by decide +kernel
theorem dX5_in_3 : decode cX5_in 3 = .ok (.ifCond .lt 14, 3) := by decide +kernel
theorem dX5_in_6 : decode cX5_in 6 = .ok (.lload_n 0, 1) := by decide +kernel
theorem dX5_in_7 : decode cX5_in 7 = .ok (.lload 4, 2) := by decide +kernel
theorem dX5_in_9 : decode cX5_in 9 = .ok (.lcmp, 1) := by decide +kernel
theorem dX5_in_10 : decode cX5_in 10 = .ok (.ifCond .gt 7, 3) := by decide +kernel
theorem dX5_in_13 : decode cX5_in 13 = .ok (.iconst 1, 1) := by decide +kernel
theorem dX5_in_14 : decode cX5_in 14 = .ok (.goto 4, 3) := by decide +kernel
theorem dX5_in_17 : decode cX5_in 17 = .ok (.iconst 0, 1) := by decide +kernel
theorem dX5_in_18 : decode cX5_in 18 = .ok (.ireturn, 1) := by decide +kernel
theorem dX5_copy_0 : decode cX5_copy 0 = .ok (.iconst 0, 1) := by decide +kernel
theorem dX5_copy_1 : decode cX5_copy 1 = .ok (.istore_n 2, 1) := by decide +kernel
theorem dX5_copy_2 : decode cX5_copy 2 = .ok (.iload_n 2, 1) := by decide +kernel
theorem dX5_copy_3 : decode cX5_copy 3 = .ok (.aload_n 0, 1) := by decide +kernel
theorem dX5_copy_4 : decode cX5_copy 4 = .ok (.arraylength, 1) := by decide +kernel
theorem dX5_copy_5 : decode cX5_copy 5 = .ok (.if_icmp .ge 15, 3) := by decide +kernel
theorem dX5_copy_8 : decode cX5_copy 8 = .ok (.aload_n 1, 1) := by decide +kernel
theorem dX5_copy_9 : decode cX5_copy 9 = .ok (.iload_n 2, 1) := by decide +kernel
theorem dX5_copy_10 : decode cX5_copy 10 = .ok (.aload_n 0, 1) := by decide +kernel
theorem dX5_copy_11 : decode cX5_copy 11 = .ok (.iload_n 2, 1) := by decide +kernel
theorem dX5_copy_12 : decode cX5_copy 12 = .ok (.iaload, 1) := by decide +kernel
theorem dX5_copy_13 : decode cX5_copy 13 = .ok (.iastore, 1) := by decide +kernel
theorem dX5_copy_14 : decode cX5_copy 14 = .ok (.iinc 2 1, 3) := by decide +kernel
theorem dX5_copy_17 : decode cX5_copy 17 = .ok (.goto (-15), 3) := by decide +kernel
theorem dX5_copy_20 : decode cX5_copy 20 = .ok (.return_, 1) := by decide +kernel
theorem dX5_ones_0 : decode cX5_ones 0 = .ok (.iconst 0, 1) := by decide +kernel
theorem dX5_ones_1 : decode cX5_ones 1 = .ok (.istore_n 1, 1) := by decide +kernel
theorem dX5_ones_2 : decode cX5_ones 2 = .ok (.iconst 0, 1) := by decide +kernel
theorem dX5_ones_3 : decode cX5_ones 3 = .ok (.istore_n 2, 1) := by decide +kernel
theorem dX5_ones_4 : decode cX5_ones 4 = .ok (.iload_n 2, 1) := by decide +kernel
theorem dX5_ones_5 : decode cX5_ones 5 = .ok (.bipush 10, 2) := by decide +kernel
theorem dX5_ones_7 : decode cX5_ones 7 = .ok (.if_icmp .ge 17, 3) := by decide +kernel
theorem dX5_ones_10 : decode cX5_ones 10 = .ok (.iload_n 1, 1) := by decide +kernel
theorem dX5_ones_11 : decode cX5_ones 11 = .ok (.iload_n 0, 1) := by decide +kernel
theorem dX5_ones_12 : decode cX5_ones 12 = .ok (.iload_n 2, 1) := by decide +kernel
theorem dX5_ones_13 : decode cX5_ones 13 = .ok (.ishr, 1) := by decide +kernel
theorem dX5_ones_14 : decode cX5_ones 14 = .ok (.iconst 1, 1) := by decide +kernel
theorem dX5_ones_15 : decode cX5_ones 15 = .ok (.iand, 1) := by decide +kernel
theorem dX5_ones_16 : decode cX5_ones 16 = .ok (.iadd, 1) := by decide +kernel
theorem dX5_ones_17 : decode cX5_ones 17 = .ok (.istore_n 1, 1) := by decide +kernel
theorem dX5_ones_18 : decode cX5_ones 18 = .ok (.iinc 2 1, 3) := by decide +kernel
theorem dX5_ones_21 : decode cX5_ones 21 = .ok (.goto (-17), 3) := by decide +kernel
theorem dX5_ones_24 : decode cX5_ones 24 = .ok (.iload_n 1, 1) := by decide +kernel
theorem dX5_ones_25 : decode cX5_ones 25 = .ok (.ireturn, 1) := by decide +kernel
theorem dX5_letter_0 : decode cX5_letter 0 = .ok (.iload_n 1, 1) := by decide +kernel
theorem dX5_letter_1 : decode cX5_letter 1 = .ok (.i2l, 1) := by decide +kernel
theorem dX5_letter_2 : decode cX5_letter 2 = .ok (.lconst 1, 1) := by decide +kernel
theorem dX5_letter_3 : decode cX5_letter 3 = .ok (.ldc2_w 41, 3) := by decide +kernel
theorem dX5_letter_6 : decode cX5_letter 6 = .ok (.invokestatic 43, 3) := by decide +kernel
theorem dX5_letter_9 : decode cX5_letter 9 = .ok (.ifCond .ne 6, 3) := by decide +kernel
theorem dX5_letter_12 : decode cX5_letter 12 = .ok (.bipush (-102), 2) := by decide +kernel
theorem dX5_letter_14 : decode cX5_letter 14 = .ok (.ireturn, 1) := by decide +kernel
theorem dX5_letter_15 : decode cX5_letter 15 = .ok (.aload_n 0, 1) := by decide +kernel
theorem dX5_letter_16 : decode cX5_letter 16 = .ok (.getfield 47, 3) := by decide +kernel
theorem dX5_letter_19 : decode cX5_letter 19 = .ok (.bipush 20, 2) := by decide +kernel
theorem dX5_letter_21 : decode cX5_letter 21 = .ok (.if_icmp .ne 6, 3) := by decide +kernel
theorem dX5_letter_24 : decode cX5_letter 24 = .ok (.bipush (-104), 2) := by decide +kernel
theorem dX5_letter_26 : decode cX5_letter 26 = .ok (.ireturn, 1) := by decide +kernel
theorem dX5_letter_27 : decode cX5_letter 27 = .ok (.aload_n 0, 1) := by decide +kernel
theorem dX5_letter_28 : decode cX5_letter 28 = .ok (.getfield 7, 3) := by decide +kernel
theorem dX5_letter_31 : decode cX5_letter 31 = .ok (.aload_n 0, 1) := by decide +kernel
theorem dX5_letter_32 : decode cX5_letter 32 = .ok (.getfield 47, 3) := by decide +kernel
theorem dX5_letter_35 : decode cX5_letter 35 = .ok (.iload_n 1, 1) := by decide +kernel
theorem dX5_letter_36 : decode cX5_letter 36 = .ok (.iastore, 1) := by decide +kernel
theorem dX5_letter_37 : decode cX5_letter 37 = .ok (.aload_n 0, 1) := by decide +kernel
theorem dX5_letter_38 : decode cX5_letter 38 = .ok (.dup, 1) := by decide +kernel
theorem dX5_letter_39 : decode cX5_letter 39 = .ok (.getfield 47, 3) := by decide +kernel
theorem dX5_letter_42 : decode cX5_letter 42 = .ok (.iconst 1, 1) := by decide +kernel
theorem dX5_letter_43 : decode cX5_letter 43 = .ok (.iadd, 1) := by decide +kernel
theorem dX5_letter_44 : decode cX5_letter 44 = .ok (.putfield 47, 3) := by decide +kernel
theorem dX5_letter_47 : decode cX5_letter 47 = .ok (.aload_n 0, 1) := by decide +kernel
theorem dX5_letter_48 : decode cX5_letter 48 = .ok (.getfield 47, 3) := by decide +kernel
theorem dX5_letter_51 : decode cX5_letter 51 = .ok (.ireturn, 1) := by decide +kernel
theorem dX5_blank_0 : decode cX5_blank 0 = .ok (.aload_n 0, 1) := by decide +kernel
theorem dX5_blank_1 : decode cX5_blank 1 = .ok (.getfield 47, 3) := by decide +kernel
theorem dX5_blank_4 : decode cX5_blank 4 = .ok (.istore_n 1, 1) := by decide +kernel
theorem dX5_blank_5 : decode cX5_blank 5 = .ok (.aload_n 0, 1) := by decide +kernel
theorem dX5_blank_6 : decode cX5_blank 6 = .ok (.iconst 0, 1) := by decide +kernel
theorem dX5_blank_7 : decode cX5_blank 7 = .ok (.putfield 47, 3) := by decide +kernel
theorem dX5_blank_10 : decode cX5_blank 10 = .ok (.iload_n 1, 1) := by decide +kernel
theorem dX5_blank_11 : decode cX5_blank 11 = .ok (.ireturn, 1) := by decide +kernel
theorem dX5_isGood_0 : decode cX5_isGood 0 = .ok (.iload_n 0, 1) := by decide +kernel
theorem dX5_isGood_1 : decode cX5_isGood 1 = .ok (.bipush 8, 2) := by decide +kernel
theorem dX5_isGood_3 : decode cX5_isGood 3 = .ok (.if_icmp .ge 17, 3) := by decide +kernel
theorem dX5_isGood_6 : decode cX5_isGood 6 = .ok (.iload_n 1, 1) := by decide +kernel
theorem dX5_isGood_7 : decode cX5_isGood 7 = .ok (.i2l, 1) := by decide +kernel
theorem dX5_isGood_8 : decode cX5_isGood 8 = .ok (.ldc2_w 50, 3) := by decide +kernel
theorem dX5_isGood_11 : decode cX5_isGood 11 = .ok (.ldc2_w 52, 3) := by decide +kernel
theorem dX5_isGood_14 : decode cX5_isGood 14 = .ok (.invokestatic 43, 3) := by decide +kernel
theorem dX5_isGood_17 : decode cX5_isGood 17 = .ok (.goto 48, 3) := by decide +kernel
theorem dX5_isGood_20 : decode cX5_isGood 20 = .ok (.iload_n 0, 1) := by decide +kernel
theorem dX5_isGood_21 : decode cX5_isGood 21 = .ok (.bipush 8, 2) := by decide +kernel
theorem dX5_isGood_23 : decode cX5_isGood 23 = .ok (.if_icmp .ne 17, 3) := by decide +kernel
theorem dX5_isGood_26 : decode cX5_isGood 26 = .ok (.iload_n 1, 1) := by decide +kernel
theorem dX5_isGood_27 : decode cX5_isGood 27 = .ok (.bipush 59, 2) := by decide +kernel
theorem dX5_isGood_29 : decode cX5_isGood 29 = .ok (.if_icmp .ne 7, 3) := by decide +kernel
theorem dX5_isGood_32 : decode cX5_isGood 32 = .ok (.iconst 1, 1) := by decide +kernel
theorem dX5_isGood_33 : decode cX5_isGood 33 = .ok (.goto 32, 3) := by decide +kernel
theorem dX5_isGood_36 : decode cX5_isGood 36 = .ok (.iconst 0, 1) := by decide +kernel
theorem dX5_isGood_37 : decode cX5_isGood 37 = .ok (.goto 28, 3) := by decide +kernel
theorem dX5_isGood_40 : decode cX5_isGood 40 = .ok (.iload_n 0, 1) := by decide +kernel
theorem dX5_isGood_41 : decode cX5_isGood 41 = .ok (.bipush 17, 2) := by decide +kernel
theorem dX5_isGood_43 : decode cX5_isGood 43 = .ok (.if_icmp .ge 21, 3) := by decide +kernel
theorem dX5_isGood_46 : decode cX5_isGood 46 = .ok (.iload_n 1, 1) := by decide +kernel
theorem dX5_isGood_47 : decode cX5_isGood 47 = .ok (.i2l, 1) := by decide +kernel
theorem dX5_isGood_48 : decode cX5_isGood 48 = .ok (.ldc2_w 54, 3) := by decide +kernel
theorem dX5_isGood_51 : decode cX5_isGood 51 = .ok (.ldc2_w 56, 3) := by decide +kernel
theorem dX5_isGood_54 : decode cX5_isGood 54 = .ok (.invokestatic 43, 3) := by decide +kernel
theorem dX5_isGood_57 : decode cX5_isGood 57 = .ok (.ifCond .eq 7, 3) := by decide +kernel
theorem dX5_isGood_60 : decode cX5_isGood 60 = .ok (.iconst 1, 1) := by decide +kernel
theorem dX5_isGood_61 : decode cX5_isGood 61 = .ok (.goto 4, 3) := by decide +kernel
theorem dX5_isGood_64 : decode cX5_isGood 64 = .ok (.iconst 0, 1) := by decide +kernel
theorem dX5_isGood_65 : decode cX5_isGood 65 = .ok (.ireturn, 1) := by decide +kernel
theorem dX5_faultOf_0 : decode cX5_faultOf 0 = .ok (.iconst 0, 1) := by decide +kernel
theorem dX5_faultOf_1 : decode cX5_faultOf 1 = .ok (.istore_n 1, 1) := by decide +kernel
theorem dX5_faultOf_2 : decode cX5_faultOf 2 = .ok (.iload_n 1, 1) := by decide +kernel
theorem dX5_faultOf_3 : decode cX5_faultOf 3 = .ok (.aload_n 0, 1) := by decide +kernel
theorem dX5_faultOf_4 : decode cX5_faultOf 4 = .ok (.getfield 47, 3) := by decide +kernel
theorem dX5_faultOf_7 : decode cX5_faultOf 7 = .ok (.if_icmp .ge 22, 3) := by decide +kernel
theorem dX5_faultOf_10 : decode cX5_faultOf 10 = .ok (.iload_n 1, 1) := by decide +kernel
theorem dX5_faultOf_11 : decode cX5_faultOf 11 = .ok (.aload_n 0, 1) := by decide +kernel
theorem dX5_faultOf_12 : decode cX5_faultOf 12 = .ok (.getfield 7, 3) := by decide +kernel
theorem dX5_faultOf_15 : decode cX5_faultOf 15 = .ok (.iload_n 1, 1) := by decide +kernel
theorem dX5_faultOf_16 : decode cX5_faultOf 16 = .ok (.iaload, 1) := by decide +kernel
theorem dX5_faultOf_17 : decode cX5_faultOf 17 = .ok (.invokestatic 58, 3) := by decide +kernel
theorem dX5_faultOf_20 : decode cX5_faultOf 20 = .ok (.ifCond .eq 9, 3) := by decide +kernel
theorem dX5_faultOf_23 : decode cX5_faultOf 23 = .ok (.iinc 1 1, 3) := by decide +kernel
theorem dX5_faultOf_26 : decode cX5_faultOf 26 = .ok (.goto (-24), 3) := by decide +kernel
theorem dX5_faultOf_29 : decode cX5_faultOf 29 = .ok (.iload_n 1, 1) := by decide +kernel
theorem dX5_faultOf_30 : decode cX5_faultOf 30 = .ok (.ireturn, 1) := by decide +kernel
theorem dX5_fault_0 : decode cX5_fault 0 = .ok (.aload_n 0, 1) := by decide +kernel
theorem dX5_fault_1 : decode cX5_fault 1 = .ok (.invokevirtual 62, 3) := by decide +kernel
theorem dX5_fault_4 : decode cX5_fault 4 = .ok (.ireturn, 1) := by decide +kernel
theorem dX5_dome_0 : decode cX5_dome 0 = .ok (.aload_n 0, 1) := by decide +kernel
theorem dX5_dome_1 : decode cX5_dome 1 = .ok (.getfield 47, 3) := by decide +kernel
theorem dX5_dome_4 : decode cX5_dome 4 = .ok (.bipush 17, 2) := by decide +kernel
theorem dX5_dome_6 : decode cX5_dome 6 = .ok (.if_icmp .ne 12, 3) := by decide +kernel
theorem dX5_dome_9 : decode cX5_dome 9 = .ok (.aload_n 0, 1) := by decide +kernel
theorem dX5_dome_10 : decode cX5_dome 10 = .ok (.invokevirtual 62, 3) := by decide +kernel
theorem dX5_dome_13 : decode cX5_dome 13 = .ok (.bipush 17, 2) := by decide +kernel
theorem dX5_dome_15 : decode cX5_dome 15 = .ok (.if_icmp .ge 6, 3) := by decide +kernel
theorem dX5_dome_18 : decode cX5_dome 18 = .ok (.bipush (-103), 2) := by decide +kernel
theorem dX5_dome_20 : decode cX5_dome 20 = .ok (.ireturn, 1) := by decide +kernel
theorem dX5_dome_21 : decode cX5_dome 21 = .ok (.iconst 0, 1) := by decide +kernel
theorem dX5_dome_22 : decode cX5_dome 22 = .ok (.istore_n 1, 1) := by decide +kernel
theorem dX5_dome_23 : decode cX5_dome 23 = .ok (.iconst 0, 1) := by decide +kernel
theorem dX5_dome_24 : decode cX5_dome 24 = .ok (.istore_n 2, 1) := by decide +kernel
theorem dX5_dome_25 : decode cX5_dome 25 = .ok (.iload_n 2, 1) := by decide +kernel
theorem dX5_dome_26 : decode cX5_dome 26 = .ok (.bipush 8, 2) := by decide +kernel
theorem dX5_dome_28 : decode cX5_dome 28 = .ok (.if_icmp .ge 60, 3) := by decide +kernel
theorem dX5_dome_31 : decode cX5_dome 31 = .ok (.aload_n 0, 1) := by decide +kernel
theorem dX5_dome_32 : decode cX5_dome 32 = .ok (.getfield 13, 3) := by decide +kernel
theorem dX5_dome_35 : decode cX5_dome 35 = .ok (.iload_n 2, 1) := by decide +kernel
theorem dX5_dome_36 : decode cX5_dome 36 = .ok (.aload_n 0, 1) := by decide +kernel
theorem dX5_dome_37 : decode cX5_dome 37 = .ok (.getfield 7, 3) := by decide +kernel
theorem dX5_dome_40 : decode cX5_dome 40 = .ok (.iload_n 2, 1) := by decide +kernel
theorem dX5_dome_41 : decode cX5_dome 41 = .ok (.iaload, 1) := by decide +kernel
theorem dX5_dome_42 : decode cX5_dome 42 = .ok (.bipush 97, 2) := by decide +kernel
theorem dX5_dome_44 : decode cX5_dome 44 = .ok (.isub, 1) := by decide +kernel
theorem dX5_dome_45 : decode cX5_dome 45 = .ok (.iastore, 1) := by decide +kernel
theorem dX5_dome_46 : decode cX5_dome 46 = .ok (.aload_n 0, 1) := by decide +kernel
theorem dX5_dome_47 : decode cX5_dome 47 = .ok (.getfield 16, 3) := by decide +kernel
theorem dX5_dome_50 : decode cX5_dome 50 = .ok (.iload_n 2, 1) := by decide +kernel
theorem dX5_dome_51 : decode cX5_dome 51 = .ok (.aload_n 0, 1) := by decide +kernel
theorem dX5_dome_52 : decode cX5_dome 52 = .ok (.getfield 7, 3) := by decide +kernel
theorem dX5_dome_55 : decode cX5_dome 55 = .ok (.bipush 9, 2) := by decide +kernel
theorem dX5_dome_57 : decode cX5_dome 57 = .ok (.iload_n 2, 1) := by decide +kernel
theorem dX5_dome_58 : decode cX5_dome 58 = .ok (.iadd, 1) := by decide +kernel
theorem dX5_dome_59 : decode cX5_dome 59 = .ok (.iaload, 1) := by decide +kernel
theorem dX5_dome_60 : decode cX5_dome 60 = .ok (.bipush 48, 2) := by decide +kernel
theorem dX5_dome_62 : decode cX5_dome 62 = .ok (.isub, 1) := by decide +kernel
theorem dX5_dome_63 : decode cX5_dome 63 = .ok (.iastore, 1) := by decide +kernel
theorem dX5_dome_64 : decode cX5_dome 64 = .ok (.iload_n 1, 1) := by decide +kernel
theorem dX5_dome_65 : decode cX5_dome 65 = .ok (.aload_n 0, 1) := by decide +kernel
theorem dX5_dome_66 : decode cX5_dome 66 = .ok (.getfield 13, 3) := by decide +kernel
theorem dX5_dome_69 : decode cX5_dome 69 = .ok (.iload_n 2, 1) := by decide +kernel
theorem dX5_dome_70 : decode cX5_dome 70 = .ok (.iaload, 1) := by decide +kernel
theorem dX5_dome_71 : decode cX5_dome 71 = .ok (.iload_n 2, 1) := by decide +kernel
theorem dX5_dome_72 : decode cX5_dome 72 = .ok (.if_icmp .ne 7, 3) := by decide +kernel
theorem dX5_dome_75 : decode cX5_dome 75 = .ok (.iconst 0, 1) := by decide +kernel
theorem dX5_dome_76 : decode cX5_dome 76 = .ok (.goto 4, 3) := by decide +kernel
theorem dX5_dome_79 : decode cX5_dome 79 = .ok (.iconst 1, 1) := by decide +kernel
theorem dX5_dome_80 : decode cX5_dome 80 = .ok (.iadd, 1) := by decide +kernel
theorem dX5_dome_81 : decode cX5_dome 81 = .ok (.istore_n 1, 1) := by decide +kernel
theorem dX5_dome_82 : decode cX5_dome 82 = .ok (.iinc 2 1, 3) := by decide +kernel
theorem dX5_dome_85 : decode cX5_dome 85 = .ok (.goto (-60), 3) := by decide +kernel
theorem dX5_dome_88 : decode cX5_dome 88 = .ok (.aload_n 0, 1) := by decide +kernel
theorem dX5_dome_89 : decode cX5_dome 89 = .ok (.iconst 1, 1) := by decide +kernel
theorem dX5_dome_90 : decode cX5_dome 90 = .ok (.putfield 66, 3) := by decide +kernel
theorem dX5_dome_93 : decode cX5_dome 93 = .ok (.aload_n 0, 1) := by decide +kernel
theorem dX5_dome_94 : decode cX5_dome 94 = .ok (.iconst 0, 1) := by decide +kernel
theorem dX5_dome_95 : decode cX5_dome 95 = .ok (.putfield 70, 3) := by decide +kernel
theorem dX5_dome_98 : decode cX5_dome 98 = .ok (.aload_n 0, 1) := by decide +kernel
theorem dX5_dome_99 : decode cX5_dome 99 = .ok (.iconst 0, 1) := by decide +kernel
theorem dX5_dome_100 : decode cX5_dome 100 = .ok (.putfield 73, 3) := by decide +kernel
theorem dX5_dome_103 : decode cX5_dome 103 = .ok (.aload_n 0, 1) := by decide +kernel
theorem dX5_dome_104 : decode cX5_dome 104 = .ok (.iconst 0, 1) := by decide +kernel
theorem dX5_dome_105 : decode cX5_dome 105 = .ok (.putfield 76, 3) := by decide +kernel
theorem dX5_dome_108 : decode cX5_dome 108 = .ok (.aload_n 0, 1) := by decide +kernel
theorem dX5_dome_109 : decode cX5_dome 109 = .ok (.iconst 0, 1) := by decide +kernel
theorem dX5_dome_110 : decode cX5_dome 110 = .ok (.putfield 79, 3) := by decide +kernel
theorem dX5_dome_113 : decode cX5_dome 113 = .ok (.aload_n 0, 1) := by decide +kernel
theorem dX5_dome_114 : decode cX5_dome 114 = .ok (.dup, 1) := by decide +kernel
theorem dX5_dome_115 : decode cX5_dome 115 = .ok (.getfield 82, 3) := by decide +kernel
theorem dX5_dome_118 : decode cX5_dome 118 = .ok (.iconst 1, 1) := by decide +kernel
theorem dX5_dome_119 : decode cX5_dome 119 = .ok (.iadd, 1) := by decide +kernel
theorem dX5_dome_120 : decode cX5_dome 120 = .ok (.putfield 82, 3) := by decide +kernel
theorem dX5_dome_123 : decode cX5_dome 123 = .ok (.aload_n 0, 1) := by decide +kernel
theorem dX5_dome_124 : decode cX5_dome 124 = .ok (.iconst 0, 1) := by decide +kernel
theorem dX5_dome_125 : decode cX5_dome 125 = .ok (.putfield 47, 3) := by decide +kernel
theorem dX5_dome_128 : decode cX5_dome 128 = .ok (.iload_n 1, 1) := by decide +kernel
theorem dX5_dome_129 : decode cX5_dome 129 = .ok (.ireturn, 1) := by decide +kernel
theorem dX5_isPlace_0 : decode cX5_isPlace 0 = .ok (.aload_n 0, 1) := by decide +kernel
theorem dX5_isPlace_1 : decode cX5_isPlace 1 = .ok (.getfield 66, 3) := by decide +kernel
theorem dX5_isPlace_4 : decode cX5_isPlace 4 = .ok (.ifCond .eq 19, 3) := by decide +kernel
theorem dX5_isPlace_7 : decode cX5_isPlace 7 = .ok (.iload_n 1, 1) := by decide +kernel
theorem dX5_isPlace_8 : decode cX5_isPlace 8 = .ok (.i2l, 1) := by decide +kernel
theorem dX5_isPlace_9 : decode cX5_isPlace 9 = .ok (.lconst 0, 1) := by decide +kernel
theorem dX5_isPlace_10 : decode cX5_isPlace 10 = .ok (.ldc2_w 85, 3) := by decide +kernel
theorem dX5_isPlace_13 : decode cX5_isPlace 13 = .ok (.invokestatic 43, 3) := by decide +kernel
theorem dX5_isPlace_16 : decode cX5_isPlace 16 = .ok (.ifCond .eq 7, 3) := by decide +kernel
theorem dX5_isPlace_19 : decode cX5_isPlace 19 = .ok (.iconst 1, 1) := by decide +kernel
theorem dX5_isPlace_20 : decode cX5_isPlace 20 = .ok (.goto 4, 3) := by decide +kernel
theorem dX5_isPlace_23 : decode cX5_isPlace 23 = .ok (.iconst 0, 1) := by decide +kernel
theorem dX5_isPlace_24 : decode cX5_isPlace 24 = .ok (.ireturn, 1) := by decide +kernel
theorem dX5_isPerson_0 : decode cX5_isPerson 0 = .ok (.iload_n 1, 1) := by decide +kernel
theorem dX5_isPerson_1 : decode cX5_isPerson 1 = .ok (.i2l, 1) := by decide +kernel
theorem dX5_isPerson_2 : decode cX5_isPerson 2 = .ok (.lconst 0, 1) := by decide +kernel
theorem dX5_isPerson_3 : decode cX5_isPerson 3 = .ok (.aload_n 0, 1) := by decide +kernel
theorem dX5_isPerson_4 : decode cX5_isPerson 4 = .ok (.getfield 76, 3) := by decide +kernel
theorem dX5_isPerson_7 : decode cX5_isPerson 7 = .ok (.iconst 1, 1) := by decide +kernel
theorem dX5_isPerson_8 : decode cX5_isPerson 8 = .ok (.isub, 1) := by decide +kernel
theorem dX5_isPerson_9 : decode cX5_isPerson 9 = .ok (.i2l, 1) := by decide +kernel
theorem dX5_isPerson_10 : decode cX5_isPerson 10 = .ok (.invokestatic 43, 3) := by decide +kernel
theorem dX5_isPerson_13 : decode cX5_isPerson 13 = .ok (.ireturn, 1) := by decide +kernel
theorem dX5_whoIsAt_0 : decode cX5_whoIsAt 0 = .ok (.iconst 0, 1) := by decide +kernel
theorem dX5_whoIsAt_1 : decode cX5_whoIsAt 1 = .ok (.istore_n 2, 1) := by decide +kernel
theorem dX5_whoIsAt_2 : decode cX5_whoIsAt 2 = .ok (.iconst 0, 1) := by decide +kernel
theorem dX5_whoIsAt_3 : decode cX5_whoIsAt 3 = .ok (.istore_n 3, 1) := by decide +kernel
theorem dX5_whoIsAt_4 : decode cX5_whoIsAt 4 = .ok (.iload_n 3, 1) := by decide +kernel
theorem dX5_whoIsAt_5 : decode cX5_whoIsAt 5 = .ok (.aload_n 0, 1) := by decide +kernel
theorem dX5_whoIsAt_6 : decode cX5_whoIsAt 6 = .ok (.getfield 76, 3) := by decide +kernel
theorem dX5_whoIsAt_9 : decode cX5_whoIsAt 9 = .ok (.if_icmp .ge 33, 3) := by decide +kernel
theorem dX5_whoIsAt_12 : decode cX5_whoIsAt 12 = .ok (.iload_n 2, 1) := by decide +kernel
theorem dX5_whoIsAt_13 : decode cX5_whoIsAt 13 = .ok (.aload_n 0, 1) := by decide +kernel
theorem dX5_whoIsAt_14 : decode cX5_whoIsAt 14 = .ok (.getfield 19, 3) := by decide +kernel
theorem dX5_whoIsAt_17 : decode cX5_whoIsAt 17 = .ok (.iconst 3, 1) := by decide +kernel
theorem dX5_whoIsAt_18 : decode cX5_whoIsAt 18 = .ok (.iload_n 3, 1) := by decide +kernel
theorem dX5_whoIsAt_19 : decode cX5_whoIsAt 19 = .ok (.imul, 1) := by decide +kernel
theorem dX5_whoIsAt_20 : decode cX5_whoIsAt 20 = .ok (.iconst 1, 1) := by decide +kernel
theorem dX5_whoIsAt_21 : decode cX5_whoIsAt 21 = .ok (.iadd, 1) := by decide +kernel
theorem dX5_whoIsAt_22 : decode cX5_whoIsAt 22 = .ok (.iaload, 1) := by decide +kernel
theorem dX5_whoIsAt_23 : decode cX5_whoIsAt 23 = .ok (.iload_n 1, 1) := by decide +kernel
theorem dX5_whoIsAt_24 : decode cX5_whoIsAt 24 = .ok (.if_icmp .ne 9, 3) := by decide +kernel
theorem dX5_whoIsAt_27 : decode cX5_whoIsAt 27 = .ok (.iconst 1, 1) := by decide +kernel
theorem dX5_whoIsAt_28 : decode cX5_whoIsAt 28 = .ok (.iload_n 3, 1) := by decide +kernel
theorem dX5_whoIsAt_29 : decode cX5_whoIsAt 29 = .ok (.ishl, 1) := by decide +kernel
theorem dX5_whoIsAt_30 : decode cX5_whoIsAt 30 = .ok (.goto 4, 3) := by decide +kernel
theorem dX5_whoIsAt_33 : decode cX5_whoIsAt 33 = .ok (.iconst 0, 1) := by decide +kernel
theorem dX5_whoIsAt_34 : decode cX5_whoIsAt 34 = .ok (.ior, 1) := by decide +kernel
theorem dX5_whoIsAt_35 : decode cX5_whoIsAt 35 = .ok (.istore_n 2, 1) := by decide +kernel
theorem dX5_whoIsAt_36 : decode cX5_whoIsAt 36 = .ok (.iinc 3 1, 3) := by decide +kernel
theorem dX5_whoIsAt_39 : decode cX5_whoIsAt 39 = .ok (.goto (-35), 3) := by decide +kernel
theorem dX5_whoIsAt_42 : decode cX5_whoIsAt 42 = .ok (.iload_n 2, 1) := by decide +kernel
theorem dX5_whoIsAt_43 : decode cX5_whoIsAt 43 = .ok (.ireturn, 1) := by decide +kernel
theorem dX5_heardAt_0 : decode cX5_heardAt 0 = .ok (.iconst 0, 1) := by decide +kernel
theorem dX5_heardAt_1 : decode cX5_heardAt 1 = .ok (.istore_n 2, 1) := by decide +kernel
theorem dX5_heardAt_2 : decode cX5_heardAt 2 = .ok (.iconst 0, 1) := by decide +kernel
theorem dX5_heardAt_3 : decode cX5_heardAt 3 = .ok (.istore_n 3, 1) := by decide +kernel
theorem dX5_heardAt_4 : decode cX5_heardAt 4 = .ok (.iload_n 3, 1) := by decide +kernel
theorem dX5_heardAt_5 : decode cX5_heardAt 5 = .ok (.bipush 8, 2) := by decide +kernel
theorem dX5_heardAt_7 : decode cX5_heardAt 7 = .ok (.if_icmp .ge 29, 3) := by decide +kernel
theorem dX5_heardAt_10 : decode cX5_heardAt 10 = .ok (.iload_n 2, 1) := by decide +kernel
theorem dX5_heardAt_11 : decode cX5_heardAt 11 = .ok (.aload_n 0, 1) := by decide +kernel
theorem dX5_heardAt_12 : decode cX5_heardAt 12 = .ok (.getfield 13, 3) := by decide +kernel
theorem dX5_heardAt_15 : decode cX5_heardAt 15 = .ok (.iload_n 3, 1) := by decide +kernel
theorem dX5_heardAt_16 : decode cX5_heardAt 16 = .ok (.iaload, 1) := by decide +kernel
theorem dX5_heardAt_17 : decode cX5_heardAt 17 = .ok (.iload_n 1, 1) := by decide +kernel
theorem dX5_heardAt_18 : decode cX5_heardAt 18 = .ok (.if_icmp .ne 9, 3) := by decide +kernel
theorem dX5_heardAt_21 : decode cX5_heardAt 21 = .ok (.iconst 1, 1) := by decide +kernel
theorem dX5_heardAt_22 : decode cX5_heardAt 22 = .ok (.iload_n 3, 1) := by decide +kernel
theorem dX5_heardAt_23 : decode cX5_heardAt 23 = .ok (.ishl, 1) := by decide +kernel
theorem dX5_heardAt_24 : decode cX5_heardAt 24 = .ok (.goto 4, 3) := by decide +kernel
theorem dX5_heardAt_27 : decode cX5_heardAt 27 = .ok (.iconst 0, 1) := by decide +kernel
theorem dX5_heardAt_28 : decode cX5_heardAt 28 = .ok (.ior, 1) := by decide +kernel
theorem dX5_heardAt_29 : decode cX5_heardAt 29 = .ok (.istore_n 2, 1) := by decide +kernel
theorem dX5_heardAt_30 : decode cX5_heardAt 30 = .ok (.iinc 3 1, 3) := by decide +kernel
theorem dX5_heardAt_33 : decode cX5_heardAt 33 = .ok (.goto (-29), 3) := by decide +kernel
theorem dX5_heardAt_36 : decode cX5_heardAt 36 = .ok (.iload_n 2, 1) := by decide +kernel
theorem dX5_heardAt_37 : decode cX5_heardAt 37 = .ok (.ireturn, 1) := by decide +kernel
theorem dX5_rentOf_0 : decode cX5_rentOf 0 = .ok (.aload_n 0, 1) := by decide +kernel
theorem dX5_rentOf_1 : decode cX5_rentOf 1 = .ok (.iload_n 1, 1) := by decide +kernel
theorem dX5_rentOf_2 : decode cX5_rentOf 2 = .ok (.invokevirtual 87, 3) := by decide +kernel
theorem dX5_rentOf_5 : decode cX5_rentOf 5 = .ok (.invokestatic 91, 3) := by decide +kernel
theorem dX5_rentOf_8 : decode cX5_rentOf 8 = .ok (.aload_n 0, 1) := by decide +kernel
theorem dX5_rentOf_9 : decode cX5_rentOf 9 = .ok (.getfield 13, 3) := by decide +kernel
theorem dX5_rentOf_12 : decode cX5_rentOf 12 = .ok (.iload_n 1, 1) := by decide +kernel
theorem dX5_rentOf_13 : decode cX5_rentOf 13 = .ok (.iaload, 1) := by decide +kernel
theorem dX5_rentOf_14 : decode cX5_rentOf 14 = .ok (.iload_n 1, 1) := by decide +kernel
theorem dX5_rentOf_15 : decode cX5_rentOf 15 = .ok (.if_icmp .ne 7, 3) := by decide +kernel
theorem dX5_rentOf_18 : decode cX5_rentOf 18 = .ok (.iconst 2, 1) := by decide +kernel
theorem dX5_rentOf_19 : decode cX5_rentOf 19 = .ok (.goto 4, 3) := by decide +kernel
theorem dX5_rentOf_22 : decode cX5_rentOf 22 = .ok (.iconst 1, 1) := by decide +kernel
theorem dX5_rentOf_23 : decode cX5_rentOf 23 = .ok (.imul, 1) := by decide +kernel
theorem dX5_rentOf_24 : decode cX5_rentOf 24 = .ok (.ireturn, 1) := by decide +kernel
theorem dX5_tellPlace_0 : decode cX5_tellPlace 0 = .ok (.iload_n 2, 1) := by decide +kernel
theorem dX5_tellPlace_1 : decode cX5_tellPlace 1 = .ok (.tableswitch 80 0 5 #[39, 46, 53, 62, 68, 74], 39) := by decide +kernel
theorem dX5_tellPlace_40 : decode cX5_tellPlace 40 = .ok (.aload_n 0, 1) := by decide +kernel
theorem dX5_tellPlace_41 : decode cX5_tellPlace 41 = .ok (.getfield 13, 3) := by decide +kernel
theorem dX5_tellPlace_44 : decode cX5_tellPlace 44 = .ok (.iload_n 1, 1) := by decide +kernel
theorem dX5_tellPlace_45 : decode cX5_tellPlace 45 = .ok (.iaload, 1) := by decide +kernel
theorem dX5_tellPlace_46 : decode cX5_tellPlace 46 = .ok (.ireturn, 1) := by decide +kernel
theorem dX5_tellPlace_47 : decode cX5_tellPlace 47 = .ok (.aload_n 0, 1) := by decide +kernel
theorem dX5_tellPlace_48 : decode cX5_tellPlace 48 = .ok (.getfield 16, 3) := by decide +kernel
theorem dX5_tellPlace_51 : decode cX5_tellPlace 51 = .ok (.iload_n 1, 1) := by decide +kernel
theorem dX5_tellPlace_52 : decode cX5_tellPlace 52 = .ok (.iaload, 1) := by decide +kernel
theorem dX5_tellPlace_53 : decode cX5_tellPlace 53 = .ok (.ireturn, 1) := by decide +kernel
theorem dX5_tellPlace_54 : decode cX5_tellPlace 54 = .ok (.aload_n 0, 1) := by decide +kernel
theorem dX5_tellPlace_55 : decode cX5_tellPlace 55 = .ok (.getfield 70, 3) := by decide +kernel
theorem dX5_tellPlace_58 : decode cX5_tellPlace 58 = .ok (.iload_n 1, 1) := by decide +kernel
theorem dX5_tellPlace_59 : decode cX5_tellPlace 59 = .ok (.ishr, 1) := by decide +kernel
theorem dX5_tellPlace_60 : decode cX5_tellPlace 60 = .ok (.iconst 1, 1) := by decide +kernel
theorem dX5_tellPlace_61 : decode cX5_tellPlace 61 = .ok (.iand, 1) := by decide +kernel
theorem dX5_tellPlace_62 : decode cX5_tellPlace 62 = .ok (.ireturn, 1) := by decide +kernel
theorem dX5_tellPlace_63 : decode cX5_tellPlace 63 = .ok (.aload_n 0, 1) := by decide +kernel
theorem dX5_tellPlace_64 : decode cX5_tellPlace 64 = .ok (.iload_n 1, 1) := by decide +kernel
theorem dX5_tellPlace_65 : decode cX5_tellPlace 65 = .ok (.invokevirtual 94, 3) := by decide +kernel
theorem dX5_tellPlace_68 : decode cX5_tellPlace 68 = .ok (.ireturn, 1) := by decide +kernel
theorem dX5_tellPlace_69 : decode cX5_tellPlace 69 = .ok (.aload_n 0, 1) := by decide +kernel
theorem dX5_tellPlace_70 : decode cX5_tellPlace 70 = .ok (.iload_n 1, 1) := by decide +kernel
theorem dX5_tellPlace_71 : decode cX5_tellPlace 71 = .ok (.invokevirtual 97, 3) := by decide +kernel
theorem dX5_tellPlace_74 : decode cX5_tellPlace 74 = .ok (.ireturn, 1) := by decide +kernel
theorem dX5_tellPlace_75 : decode cX5_tellPlace 75 = .ok (.aload_n 0, 1) := by decide +kernel
theorem dX5_tellPlace_76 : decode cX5_tellPlace 76 = .ok (.iload_n 1, 1) := by decide +kernel
theorem dX5_tellPlace_77 : decode cX5_tellPlace 77 = .ok (.invokevirtual 87, 3) := by decide +kernel
theorem dX5_tellPlace_80 : decode cX5_tellPlace 80 = .ok (.ireturn, 1) := by decide +kernel
theorem dX5_tellPlace_81 : decode cX5_tellPlace 81 = .ok (.bipush (-102), 2) := by decide +kernel
theorem dX5_tellPlace_83 : decode cX5_tellPlace 83 = .ok (.ireturn, 1) := by decide +kernel
theorem dX5_place_0 : decode cX5_place 0 = .ok (.aload_n 0, 1) := by decide +kernel
theorem dX5_place_1 : decode cX5_place 1 = .ok (.iload_n 1, 1) := by decide +kernel
theorem dX5_place_2 : decode cX5_place 2 = .ok (.invokevirtual 100, 3) := by decide +kernel
theorem dX5_place_5 : decode cX5_place 5 = .ok (.ifCond .eq 12, 3) := by decide +kernel
theorem dX5_place_8 : decode cX5_place 8 = .ok (.aload_n 0, 1) := by decide +kernel
theorem dX5_place_9 : decode cX5_place 9 = .ok (.iload_n 1, 1) := by decide +kernel
theorem dX5_place_10 : decode cX5_place 10 = .ok (.iload_n 2, 1) := by decide +kernel
theorem dX5_place_11 : decode cX5_place 11 = .ok (.invokevirtual 104, 3) := by decide +kernel
theorem dX5_place_14 : decode cX5_place 14 = .ok (.goto 5, 3) := by decide +kernel
theorem dX5_place_17 : decode cX5_place 17 = .ok (.bipush (-101), 2) := by decide +kernel
theorem dX5_place_19 : decode cX5_place 19 = .ok (.ireturn, 1) := by decide +kernel
theorem dX5_cloth_0 : decode cX5_cloth 0 = .ok (.aload_n 0, 1) := by decide +kernel
theorem dX5_cloth_1 : decode cX5_cloth 1 = .ok (.iload_n 1, 1) := by decide +kernel
theorem dX5_cloth_2 : decode cX5_cloth 2 = .ok (.invokevirtual 100, 3) := by decide +kernel
theorem dX5_cloth_5 : decode cX5_cloth 5 = .ok (.ifCond .ne 6, 3) := by decide +kernel
theorem dX5_cloth_8 : decode cX5_cloth 8 = .ok (.bipush (-101), 2) := by decide +kernel
theorem dX5_cloth_10 : decode cX5_cloth 10 = .ok (.ireturn, 1) := by decide +kernel
theorem dX5_cloth_11 : decode cX5_cloth 11 = .ok (.aload_n 0, 1) := by decide +kernel
theorem dX5_cloth_12 : decode cX5_cloth 12 = .ok (.getfield 70, 3) := by decide +kernel
theorem dX5_cloth_15 : decode cX5_cloth 15 = .ok (.iload_n 1, 1) := by decide +kernel
theorem dX5_cloth_16 : decode cX5_cloth 16 = .ok (.ishr, 1) := by decide +kernel
theorem dX5_cloth_17 : decode cX5_cloth 17 = .ok (.iconst 1, 1) := by decide +kernel
theorem dX5_cloth_18 : decode cX5_cloth 18 = .ok (.iand, 1) := by decide +kernel
theorem dX5_cloth_19 : decode cX5_cloth 19 = .ok (.istore_n 3, 1) := by decide +kernel
theorem dX5_cloth_20 : decode cX5_cloth 20 = .ok (.aload_n 0, 1) := by decide +kernel
theorem dX5_cloth_21 : decode cX5_cloth 21 = .ok (.iload_n 2, 1) := by decide +kernel
theorem dX5_cloth_22 : decode cX5_cloth 22 = .ok (.ifCond .eq 14, 3) := by decide +kernel
theorem dX5_cloth_25 : decode cX5_cloth 25 = .ok (.aload_n 0, 1) := by decide +kernel
theorem dX5_cloth_26 : decode cX5_cloth 26 = .ok (.getfield 70, 3) := by decide +kernel
theorem dX5_cloth_29 : decode cX5_cloth 29 = .ok (.iconst 1, 1) := by decide +kernel
theorem dX5_cloth_30 : decode cX5_cloth 30 = .ok (.iload_n 1, 1) := by decide +kernel
theorem dX5_cloth_31 : decode cX5_cloth 31 = .ok (.ishl, 1) := by decide +kernel
theorem dX5_cloth_32 : decode cX5_cloth 32 = .ok (.ior, 1) := by decide +kernel
theorem dX5_cloth_33 : decode cX5_cloth 33 = .ok (.goto 13, 3) := by decide +kernel
theorem dX5_cloth_36 : decode cX5_cloth 36 = .ok (.aload_n 0, 1) := by decide +kernel
theorem dX5_cloth_37 : decode cX5_cloth 37 = .ok (.getfield 70, 3) := by decide +kernel
theorem dX5_cloth_40 : decode cX5_cloth 40 = .ok (.iconst 1, 1) := by decide +kernel
theorem dX5_cloth_41 : decode cX5_cloth 41 = .ok (.iload_n 1, 1) := by decide +kernel
theorem dX5_cloth_42 : decode cX5_cloth 42 = .ok (.ishl, 1) := by decide +kernel
theorem dX5_cloth_43 : decode cX5_cloth 43 = .ok (.iconst (-1), 1) := by decide +kernel
theorem dX5_cloth_44 : decode cX5_cloth 44 = .ok (.ixor, 1) := by decide +kernel
theorem dX5_cloth_45 : decode cX5_cloth 45 = .ok (.iand, 1) := by decide +kernel
theorem dX5_cloth_46 : decode cX5_cloth 46 = .ok (.putfield 70, 3) := by decide +kernel
theorem dX5_cloth_49 : decode cX5_cloth 49 = .ok (.iload_n 3, 1) := by decide +kernel
theorem dX5_cloth_50 : decode cX5_cloth 50 = .ok (.ireturn, 1) := by decide +kernel
theorem dX5_person_0 : decode cX5_person 0 = .ok (.iload_n 1, 1) := by decide +kernel
theorem dX5_person_1 : decode cX5_person 1 = .ok (.i2l, 1) := by decide +kernel
theorem dX5_person_2 : decode cX5_person 2 = .ok (.lconst 0, 1) := by decide +kernel
theorem dX5_person_3 : decode cX5_person 3 = .ok (.ldc2_w 108, 3) := by decide +kernel
theorem dX5_person_6 : decode cX5_person 6 = .ok (.invokestatic 43, 3) := by decide +kernel
theorem dX5_person_9 : decode cX5_person 9 = .ok (.ifCond .ne 6, 3) := by decide +kernel
theorem dX5_person_12 : decode cX5_person 12 = .ok (.bipush (-102), 2) := by decide +kernel
theorem dX5_person_14 : decode cX5_person 14 = .ok (.ireturn, 1) := by decide +kernel
theorem dX5_person_15 : decode cX5_person 15 = .ok (.aload_n 0, 1) := by decide +kernel
theorem dX5_person_16 : decode cX5_person 16 = .ok (.iload_n 2, 1) := by decide +kernel
theorem dX5_person_17 : decode cX5_person 17 = .ok (.invokevirtual 100, 3) := by decide +kernel
theorem dX5_person_20 : decode cX5_person 20 = .ok (.ifCond .ne 6, 3) := by decide +kernel
theorem dX5_person_23 : decode cX5_person 23 = .ok (.bipush (-101), 2) := by decide +kernel
theorem dX5_person_25 : decode cX5_person 25 = .ok (.ireturn, 1) := by decide +kernel
theorem dX5_person_26 : decode cX5_person 26 = .ok (.aload_n 0, 1) := by decide +kernel
theorem dX5_person_27 : decode cX5_person 27 = .ok (.getfield 76, 3) := by decide +kernel
theorem dX5_person_30 : decode cX5_person 30 = .ok (.bipush 6, 2) := by decide +kernel
theorem dX5_person_32 : decode cX5_person 32 = .ok (.if_icmp .ne 6, 3) := by decide +kernel
theorem dX5_person_35 : decode cX5_person 35 = .ok (.bipush (-104), 2) := by decide +kernel
theorem dX5_person_37 : decode cX5_person 37 = .ok (.ireturn, 1) := by decide +kernel
theorem dX5_person_38 : decode cX5_person 38 = .ok (.aload_n 0, 1) := by decide +kernel
theorem dX5_person_39 : decode cX5_person 39 = .ok (.getfield 19, 3) := by decide +kernel
theorem dX5_person_42 : decode cX5_person 42 = .ok (.iconst 3, 1) := by decide +kernel
theorem dX5_person_43 : decode cX5_person 43 = .ok (.aload_n 0, 1) := by decide +kernel
theorem dX5_person_44 : decode cX5_person 44 = .ok (.getfield 76, 3) := by decide +kernel
theorem dX5_person_47 : decode cX5_person 47 = .ok (.imul, 1) := by decide +kernel
theorem dX5_person_48 : decode cX5_person 48 = .ok (.iload_n 1, 1) := by decide +kernel
theorem dX5_person_49 : decode cX5_person 49 = .ok (.iastore, 1) := by decide +kernel
theorem dX5_person_50 : decode cX5_person 50 = .ok (.aload_n 0, 1) := by decide +kernel
theorem dX5_person_51 : decode cX5_person 51 = .ok (.getfield 19, 3) := by decide +kernel
theorem dX5_person_54 : decode cX5_person 54 = .ok (.iconst 3, 1) := by decide +kernel
theorem dX5_person_55 : decode cX5_person 55 = .ok (.aload_n 0, 1) := by decide +kernel
theorem dX5_person_56 : decode cX5_person 56 = .ok (.getfield 76, 3) := by decide +kernel
theorem dX5_person_59 : decode cX5_person 59 = .ok (.imul, 1) := by decide +kernel
theorem dX5_person_60 : decode cX5_person 60 = .ok (.iconst 1, 1) := by decide +kernel
theorem dX5_person_61 : decode cX5_person 61 = .ok (.iadd, 1) := by decide +kernel
theorem dX5_person_62 : decode cX5_person 62 = .ok (.iload_n 2, 1) := by decide +kernel
theorem dX5_person_63 : decode cX5_person 63 = .ok (.iastore, 1) := by decide +kernel
theorem dX5_person_64 : decode cX5_person 64 = .ok (.aload_n 0, 1) := by decide +kernel
theorem dX5_person_65 : decode cX5_person 65 = .ok (.getfield 19, 3) := by decide +kernel
theorem dX5_person_68 : decode cX5_person 68 = .ok (.iconst 3, 1) := by decide +kernel
theorem dX5_person_69 : decode cX5_person 69 = .ok (.aload_n 0, 1) := by decide +kernel
theorem dX5_person_70 : decode cX5_person 70 = .ok (.getfield 76, 3) := by decide +kernel
theorem dX5_person_73 : decode cX5_person 73 = .ok (.imul, 1) := by decide +kernel
theorem dX5_person_74 : decode cX5_person 74 = .ok (.iconst 2, 1) := by decide +kernel
theorem dX5_person_75 : decode cX5_person 75 = .ok (.iadd, 1) := by decide +kernel
theorem dX5_person_76 : decode cX5_person 76 = .ok (.iconst 0, 1) := by decide +kernel
theorem dX5_person_77 : decode cX5_person 77 = .ok (.iastore, 1) := by decide +kernel
theorem dX5_person_78 : decode cX5_person 78 = .ok (.aload_n 0, 1) := by decide +kernel
theorem dX5_person_79 : decode cX5_person 79 = .ok (.dup, 1) := by decide +kernel
theorem dX5_person_80 : decode cX5_person 80 = .ok (.getfield 76, 3) := by decide +kernel
theorem dX5_person_83 : decode cX5_person 83 = .ok (.iconst 1, 1) := by decide +kernel
theorem dX5_person_84 : decode cX5_person 84 = .ok (.iadd, 1) := by decide +kernel
theorem dX5_person_85 : decode cX5_person 85 = .ok (.putfield 76, 3) := by decide +kernel
theorem dX5_person_88 : decode cX5_person 88 = .ok (.aload_n 0, 1) := by decide +kernel
theorem dX5_person_89 : decode cX5_person 89 = .ok (.getfield 76, 3) := by decide +kernel
theorem dX5_person_92 : decode cX5_person 92 = .ok (.iconst 1, 1) := by decide +kernel
theorem dX5_person_93 : decode cX5_person 93 = .ok (.isub, 1) := by decide +kernel
theorem dX5_person_94 : decode cX5_person 94 = .ok (.ireturn, 1) := by decide +kernel
theorem dX5_laterBy_0 : decode cX5_laterBy 0 = .ok (.aload_n 0, 1) := by decide +kernel
theorem dX5_laterBy_1 : decode cX5_laterBy 1 = .ok (.getfield 19, 3) := by decide +kernel
theorem dX5_laterBy_4 : decode cX5_laterBy 4 = .ok (.iconst 3, 1) := by decide +kernel
theorem dX5_laterBy_5 : decode cX5_laterBy 5 = .ok (.iload_n 1, 1) := by decide +kernel
theorem dX5_laterBy_6 : decode cX5_laterBy 6 = .ok (.imul, 1) := by decide +kernel
theorem dX5_laterBy_7 : decode cX5_laterBy 7 = .ok (.iconst 1, 1) := by decide +kernel
theorem dX5_laterBy_8 : decode cX5_laterBy 8 = .ok (.iadd, 1) := by decide +kernel
theorem dX5_laterBy_9 : decode cX5_laterBy 9 = .ok (.iaload, 1) := by decide +kernel
theorem dX5_laterBy_10 : decode cX5_laterBy 10 = .ok (.istore 4, 2) := by decide +kernel
theorem dX5_laterBy_12 : decode cX5_laterBy 12 = .ok (.aload_n 0, 1) := by decide +kernel
theorem dX5_laterBy_13 : decode cX5_laterBy 13 = .ok (.getfield 19, 3) := by decide +kernel
theorem dX5_laterBy_16 : decode cX5_laterBy 16 = .ok (.iconst 3, 1) := by decide +kernel
theorem dX5_laterBy_17 : decode cX5_laterBy 17 = .ok (.iload_n 2, 1) := by decide +kernel
theorem dX5_laterBy_18 : decode cX5_laterBy 18 = .ok (.imul, 1) := by decide +kernel
theorem dX5_laterBy_19 : decode cX5_laterBy 19 = .ok (.iconst 1, 1) := by decide +kernel
theorem dX5_laterBy_20 : decode cX5_laterBy 20 = .ok (.iadd, 1) := by decide +kernel
theorem dX5_laterBy_21 : decode cX5_laterBy 21 = .ok (.iaload, 1) := by decide +kernel
theorem dX5_laterBy_22 : decode cX5_laterBy 22 = .ok (.istore 5, 2) := by decide +kernel
theorem dX5_laterBy_24 : decode cX5_laterBy 24 = .ok (.aload_n 0, 1) := by decide +kernel
theorem dX5_laterBy_25 : decode cX5_laterBy 25 = .ok (.getfield 19, 3) := by decide +kernel
theorem dX5_laterBy_28 : decode cX5_laterBy 28 = .ok (.iconst 3, 1) := by decide +kernel
theorem dX5_laterBy_29 : decode cX5_laterBy 29 = .ok (.iload_n 1, 1) := by decide +kernel
theorem dX5_laterBy_30 : decode cX5_laterBy 30 = .ok (.imul, 1) := by decide +kernel
theorem dX5_laterBy_31 : decode cX5_laterBy 31 = .ok (.iaload, 1) := by decide +kernel
theorem dX5_laterBy_32 : decode cX5_laterBy 32 = .ok (.istore 6, 2) := by decide +kernel
theorem dX5_laterBy_34 : decode cX5_laterBy 34 = .ok (.aload_n 0, 1) := by decide +kernel
theorem dX5_laterBy_35 : decode cX5_laterBy 35 = .ok (.getfield 19, 3) := by decide +kernel
theorem dX5_laterBy_38 : decode cX5_laterBy 38 = .ok (.iconst 3, 1) := by decide +kernel
theorem dX5_laterBy_39 : decode cX5_laterBy 39 = .ok (.iload_n 2, 1) := by decide +kernel
theorem dX5_laterBy_40 : decode cX5_laterBy 40 = .ok (.imul, 1) := by decide +kernel
theorem dX5_laterBy_41 : decode cX5_laterBy 41 = .ok (.iaload, 1) := by decide +kernel
theorem dX5_laterBy_42 : decode cX5_laterBy 42 = .ok (.iconst 1, 1) := by decide +kernel
theorem dX5_laterBy_43 : decode cX5_laterBy 43 = .ok (.if_icmp .ne 7, 3) := by decide +kernel
theorem dX5_laterBy_46 : decode cX5_laterBy 46 = .ok (.sipush 9999, 3) := by decide +kernel
theorem dX5_laterBy_49 : decode cX5_laterBy 49 = .ok (.ireturn, 1) := by decide +kernel
theorem dX5_laterBy_50 : decode cX5_laterBy 50 = .ok (.iload 4, 2) := by decide +kernel
theorem dX5_laterBy_52 : decode cX5_laterBy 52 = .ok (.iload 5, 2) := by decide +kernel
theorem dX5_laterBy_54 : decode cX5_laterBy 54 = .ok (.if_icmp .ne 5, 3) := by decide +kernel
theorem dX5_laterBy_57 : decode cX5_laterBy 57 = .ok (.iconst 0, 1) := by decide +kernel
theorem dX5_laterBy_58 : decode cX5_laterBy 58 = .ok (.ireturn, 1) := by decide +kernel
theorem dX5_laterBy_59 : decode cX5_laterBy 59 = .ok (.iload_n 3, 1) := by decide +kernel
theorem dX5_laterBy_60 : decode cX5_laterBy 60 = .ok (.iload 5, 2) := by decide +kernel
theorem dX5_laterBy_62 : decode cX5_laterBy 62 = .ok (.ishr, 1) := by decide +kernel
theorem dX5_laterBy_63 : decode cX5_laterBy 63 = .ok (.iconst 1, 1) := by decide +kernel
theorem dX5_laterBy_64 : decode cX5_laterBy 64 = .ok (.iand, 1) := by decide +kernel
theorem dX5_laterBy_65 : decode cX5_laterBy 65 = .ok (.ifCond .eq 9, 3) := by decide +kernel
theorem dX5_laterBy_68 : decode cX5_laterBy 68 = .ok (.iload 6, 2) := by decide +kernel
theorem dX5_laterBy_70 : decode cX5_laterBy 70 = .ok (.iconst 4, 1) := by decide +kernel
theorem dX5_laterBy_71 : decode cX5_laterBy 71 = .ok (.if_icmp .ne 7, 3) := by decide +kernel
theorem dX5_laterBy_74 : decode cX5_laterBy 74 = .ok (.iconst 1, 1) := by decide +kernel
theorem dX5_laterBy_75 : decode cX5_laterBy 75 = .ok (.goto 4, 3) := by decide +kernel
theorem dX5_laterBy_78 : decode cX5_laterBy 78 = .ok (.iconst 0, 1) := by decide +kernel
theorem dX5_laterBy_79 : decode cX5_laterBy 79 = .ok (.istore 7, 2) := by decide +kernel
theorem dX5_laterBy_81 : decode cX5_laterBy 81 = .ok (.aload_n 0, 1) := by decide +kernel
theorem dX5_laterBy_82 : decode cX5_laterBy 82 = .ok (.getfield 13, 3) := by decide +kernel
theorem dX5_laterBy_85 : decode cX5_laterBy 85 = .ok (.iload 4, 2) := by decide +kernel
theorem dX5_laterBy_87 : decode cX5_laterBy 87 = .ok (.iaload, 1) := by decide +kernel
theorem dX5_laterBy_88 : decode cX5_laterBy 88 = .ok (.iload 5, 2) := by decide +kernel
theorem dX5_laterBy_90 : decode cX5_laterBy 90 = .ok (.if_icmp .ne 18, 3) := by decide +kernel
theorem dX5_laterBy_93 : decode cX5_laterBy 93 = .ok (.iload 7, 2) := by decide +kernel
theorem dX5_laterBy_95 : decode cX5_laterBy 95 = .ok (.ifCond .eq 13, 3) := by decide +kernel
theorem dX5_laterBy_98 : decode cX5_laterBy 98 = .ok (.aload_n 0, 1) := by decide +kernel
theorem dX5_laterBy_99 : decode cX5_laterBy 99 = .ok (.getfield 16, 3) := by decide +kernel
theorem dX5_laterBy_102 : decode cX5_laterBy 102 = .ok (.iload 4, 2) := by decide +kernel
theorem dX5_laterBy_104 : decode cX5_laterBy 104 = .ok (.iaload, 1) := by decide +kernel
theorem dX5_laterBy_105 : decode cX5_laterBy 105 = .ok (.goto 6, 3) := by decide +kernel
theorem dX5_laterBy_108 : decode cX5_laterBy 108 = .ok (.sipush 9999, 3) := by decide +kernel
theorem dX5_laterBy_111 : decode cX5_laterBy 111 = .ok (.ireturn, 1) := by decide +kernel
theorem dX5_layHears_0 : decode cX5_layHears 0 = .ok (.iconst 0, 1) := by decide +kernel
theorem dX5_layHears_1 : decode cX5_layHears 1 = .ok (.istore_n 3, 1) := by decide +kernel
theorem dX5_layHears_2 : decode cX5_layHears 2 = .ok (.iload_n 3, 1) := by decide +kernel
theorem dX5_layHears_3 : decode cX5_layHears 3 = .ok (.aload_n 0, 1) := by decide +kernel
theorem dX5_layHears_4 : decode cX5_layHears 4 = .ok (.getfield 76, 3) := by decide +kernel
theorem dX5_layHears_7 : decode cX5_layHears 7 = .ok (.if_icmp .ge 18, 3) := by decide +kernel
theorem dX5_layHears_10 : decode cX5_layHears 10 = .ok (.aload_n 0, 1) := by decide +kernel
theorem dX5_layHears_11 : decode cX5_layHears 11 = .ok (.getfield 22, 3) := by decide +kernel
theorem dX5_layHears_14 : decode cX5_layHears 14 = .ok (.iload_n 3, 1) := by decide +kernel
theorem dX5_layHears_15 : decode cX5_layHears 15 = .ok (.sipush 9999, 3) := by decide +kernel
theorem dX5_layHears_18 : decode cX5_layHears 18 = .ok (.iastore, 1) := by decide +kernel
theorem dX5_layHears_19 : decode cX5_layHears 19 = .ok (.iinc 3 1, 3) := by decide +kernel
theorem dX5_layHears_22 : decode cX5_layHears 22 = .ok (.goto (-20), 3) := by decide +kernel
theorem dX5_layHears_25 : decode cX5_layHears 25 = .ok (.aload_n 0, 1) := by decide +kernel
theorem dX5_layHears_26 : decode cX5_layHears 26 = .ok (.getfield 19, 3) := by decide +kernel
theorem dX5_layHears_29 : decode cX5_layHears 29 = .ok (.iconst 3, 1) := by decide +kernel
theorem dX5_layHears_30 : decode cX5_layHears 30 = .ok (.iload_n 1, 1) := by decide +kernel
theorem dX5_layHears_31 : decode cX5_layHears 31 = .ok (.imul, 1) := by decide +kernel
theorem dX5_layHears_32 : decode cX5_layHears 32 = .ok (.iaload, 1) := by decide +kernel
theorem dX5_layHears_33 : decode cX5_layHears 33 = .ok (.iconst 3, 1) := by decide +kernel
theorem dX5_layHears_34 : decode cX5_layHears 34 = .ok (.if_icmp .ne 4, 3) := by decide +kernel
theorem dX5_layHears_37 : decode cX5_layHears 37 = .ok (.return_, 1) := by decide +kernel
theorem dX5_layHears_38 : decode cX5_layHears 38 = .ok (.aload_n 0, 1) := by decide +kernel
theorem dX5_layHears_39 : decode cX5_layHears 39 = .ok (.getfield 22, 3) := by decide +kernel
theorem dX5_layHears_42 : decode cX5_layHears 42 = .ok (.iload_n 1, 1) := by decide +kernel
theorem dX5_layHears_43 : decode cX5_layHears 43 = .ok (.iconst 0, 1) := by decide +kernel
theorem dX5_layHears_44 : decode cX5_layHears 44 = .ok (.iastore, 1) := by decide +kernel
theorem dX5_layHears_45 : decode cX5_layHears 45 = .ok (.iconst 1, 1) := by decide +kernel
theorem dX5_layHears_46 : decode cX5_layHears 46 = .ok (.istore_n 3, 1) := by decide +kernel
theorem dX5_layHears_47 : decode cX5_layHears 47 = .ok (.iload_n 3, 1) := by decide +kernel
theorem dX5_layHears_48 : decode cX5_layHears 48 = .ok (.ifCond .eq 191, 3) := by decide +kernel
theorem dX5_layHears_51 : decode cX5_layHears 51 = .ok (.iconst 0, 1) := by decide +kernel
theorem dX5_layHears_52 : decode cX5_layHears 52 = .ok (.istore_n 3, 1) := by decide +kernel
theorem dX5_layHears_53 : decode cX5_layHears 53 = .ok (.iconst 0, 1) := by decide +kernel
theorem dX5_layHears_54 : decode cX5_layHears 54 = .ok (.istore 4, 2) := by decide +kernel
theorem dX5_layHears_56 : decode cX5_layHears 56 = .ok (.iload 4, 2) := by decide +kernel
theorem dX5_layHears_58 : decode cX5_layHears 58 = .ok (.bipush 36, 2) := by decide +kernel
theorem dX5_layHears_60 : decode cX5_layHears 60 = .ok (.if_icmp .ge 176, 3) := by decide +kernel
theorem dX5_layHears_63 : decode cX5_layHears 63 = .ok (.iload 4, 2) := by decide +kernel
theorem dX5_layHears_65 : decode cX5_layHears 65 = .ok (.bipush 6, 2) := by decide +kernel
theorem dX5_layHears_67 : decode cX5_layHears 67 = .ok (.idiv, 1) := by decide +kernel
theorem dX5_layHears_68 : decode cX5_layHears 68 = .ok (.istore 5, 2) := by decide +kernel
theorem dX5_layHears_70 : decode cX5_layHears 70 = .ok (.iload 4, 2) := by decide +kernel
theorem dX5_layHears_72 : decode cX5_layHears 72 = .ok (.bipush 6, 2) := by decide +kernel
theorem dX5_layHears_74 : decode cX5_layHears 74 = .ok (.irem, 1) := by decide +kernel
theorem dX5_layHears_75 : decode cX5_layHears 75 = .ok (.istore 6, 2) := by decide +kernel
theorem dX5_layHears_77 : decode cX5_layHears 77 = .ok (.aload_n 0, 1) := by decide +kernel
theorem dX5_layHears_78 : decode cX5_layHears 78 = .ok (.iload 5, 2) := by decide +kernel
theorem dX5_layHears_80 : decode cX5_layHears 80 = .ok (.invokevirtual 110, 3) := by decide +kernel
theorem dX5_layHears_83 : decode cX5_layHears 83 = .ok (.ifCond .eq 147, 3) := by decide +kernel
theorem dX5_layHears_86 : decode cX5_layHears 86 = .ok (.aload_n 0, 1) := by decide +kernel
theorem dX5_layHears_87 : decode cX5_layHears 87 = .ok (.iload 6, 2) := by decide +kernel
theorem dX5_layHears_89 : decode cX5_layHears 89 = .ok (.invokevirtual 110, 3) := by decide +kernel
theorem dX5_layHears_92 : decode cX5_layHears 92 = .ok (.ifCond .eq 138, 3) := by decide +kernel
theorem dX5_layHears_95 : decode cX5_layHears 95 = .ok (.aload_n 0, 1) := by decide +kernel
theorem dX5_layHears_96 : decode cX5_layHears 96 = .ok (.getfield 22, 3) := by decide +kernel
theorem dX5_layHears_99 : decode cX5_layHears 99 = .ok (.iload 5, 2) := by decide +kernel
theorem dX5_layHears_101 : decode cX5_layHears 101 = .ok (.iaload, 1) := by decide +kernel
theorem dX5_layHears_102 : decode cX5_layHears 102 = .ok (.sipush 9999, 3) := by decide +kernel
theorem dX5_layHears_105 : decode cX5_layHears 105 = .ok (.if_icmp .ge 125, 3) := by decide +kernel
theorem dX5_layHears_108 : decode cX5_layHears 108 = .ok (.iload 5, 2) := by decide +kernel
theorem dX5_layHears_110 : decode cX5_layHears 110 = .ok (.iload_n 1, 1) := by decide +kernel
theorem dX5_layHears_111 : decode cX5_layHears 111 = .ok (.if_icmp .eq 29, 3) := by decide +kernel
theorem dX5_layHears_114 : decode cX5_layHears 114 = .ok (.aload_n 0, 1) := by decide +kernel
theorem dX5_layHears_115 : decode cX5_layHears 115 = .ok (.getfield 19, 3) := by decide +kernel
theorem dX5_layHears_118 : decode cX5_layHears 118 = .ok (.iconst 3, 1) := by decide +kernel
theorem dX5_layHears_119 : decode cX5_layHears 119 = .ok (.iload 5, 2) := by decide +kernel
theorem dX5_layHears_121 : decode cX5_layHears 121 = .ok (.imul, 1) := by decide +kernel
theorem dX5_layHears_122 : decode cX5_layHears 122 = .ok (.iaload, 1) := by decide +kernel
theorem dX5_layHears_123 : decode cX5_layHears 123 = .ok (.iconst 2, 1) := by decide +kernel
theorem dX5_layHears_124 : decode cX5_layHears 124 = .ok (.if_icmp .eq 16, 3) := by decide +kernel
theorem dX5_layHears_127 : decode cX5_layHears 127 = .ok (.aload_n 0, 1) := by decide +kernel
theorem dX5_layHears_128 : decode cX5_layHears 128 = .ok (.getfield 19, 3) := by decide +kernel
theorem dX5_layHears_131 : decode cX5_layHears 131 = .ok (.iconst 3, 1) := by decide +kernel
theorem dX5_layHears_132 : decode cX5_layHears 132 = .ok (.iload 5, 2) := by decide +kernel
theorem dX5_layHears_134 : decode cX5_layHears 134 = .ok (.imul, 1) := by decide +kernel
theorem dX5_layHears_135 : decode cX5_layHears 135 = .ok (.iaload, 1) := by decide +kernel
theorem dX5_layHears_136 : decode cX5_layHears 136 = .ok (.iconst 4, 1) := by decide +kernel
theorem dX5_layHears_137 : decode cX5_layHears 137 = .ok (.if_icmp .ne 7, 3) := by decide +kernel
theorem dX5_layHears_140 : decode cX5_layHears 140 = .ok (.iconst 1, 1) := by decide +kernel
theorem dX5_layHears_141 : decode cX5_layHears 141 = .ok (.goto 4, 3) := by decide +kernel
theorem dX5_layHears_144 : decode cX5_layHears 144 = .ok (.iconst 0, 1) := by decide +kernel
theorem dX5_layHears_145 : decode cX5_layHears 145 = .ok (.istore 7, 2) := by decide +kernel
theorem dX5_layHears_147 : decode cX5_layHears 147 = .ok (.iload 7, 2) := by decide +kernel
theorem dX5_layHears_149 : decode cX5_layHears 149 = .ok (.ifCond .eq 23, 3) := by decide +kernel
theorem dX5_layHears_152 : decode cX5_layHears 152 = .ok (.aload_n 0, 1) := by decide +kernel
theorem dX5_layHears_153 : decode cX5_layHears 153 = .ok (.getfield 22, 3) := by decide +kernel
theorem dX5_layHears_156 : decode cX5_layHears 156 = .ok (.iload 5, 2) := by decide +kernel
theorem dX5_layHears_158 : decode cX5_layHears 158 = .ok (.iaload, 1) := by decide +kernel
theorem dX5_layHears_159 : decode cX5_layHears 159 = .ok (.aload_n 0, 1) := by decide +kernel
theorem dX5_layHears_160 : decode cX5_layHears 160 = .ok (.iload 5, 2) := by decide +kernel
theorem dX5_layHears_162 : decode cX5_layHears 162 = .ok (.iload 6, 2) := by decide +kernel
theorem dX5_layHears_164 : decode cX5_layHears 164 = .ok (.iload_n 2, 1) := by decide +kernel
theorem dX5_layHears_165 : decode cX5_layHears 165 = .ok (.invokevirtual 113, 3) := by decide +kernel
theorem dX5_layHears_168 : decode cX5_layHears 168 = .ok (.iadd, 1) := by decide +kernel
theorem dX5_layHears_169 : decode cX5_layHears 169 = .ok (.goto 6, 3) := by decide +kernel
theorem dX5_layHears_172 : decode cX5_layHears 172 = .ok (.sipush 9999, 3) := by decide +kernel
theorem dX5_layHears_175 : decode cX5_layHears 175 = .ok (.istore 8, 2) := by decide +kernel
theorem dX5_layHears_177 : decode cX5_layHears 177 = .ok (.iload_n 3, 1) := by decide +kernel
theorem dX5_layHears_178 : decode cX5_layHears 178 = .ok (.ifCond .ne 15, 3) := by decide +kernel
theorem dX5_layHears_181 : decode cX5_layHears 181 = .ok (.iload 8, 2) := by decide +kernel
theorem dX5_layHears_183 : decode cX5_layHears 183 = .ok (.aload_n 0, 1) := by decide +kernel
theorem dX5_layHears_184 : decode cX5_layHears 184 = .ok (.getfield 22, 3) := by decide +kernel
theorem dX5_layHears_187 : decode cX5_layHears 187 = .ok (.iload 6, 2) := by decide +kernel
theorem dX5_layHears_189 : decode cX5_layHears 189 = .ok (.iaload, 1) := by decide +kernel
theorem dX5_layHears_190 : decode cX5_layHears 190 = .ok (.if_icmp .ge 7, 3) := by decide +kernel
theorem dX5_layHears_193 : decode cX5_layHears 193 = .ok (.iconst 1, 1) := by decide +kernel
theorem dX5_layHears_194 : decode cX5_layHears 194 = .ok (.goto 4, 3) := by decide +kernel
theorem dX5_layHears_197 : decode cX5_layHears 197 = .ok (.iconst 0, 1) := by decide +kernel
theorem dX5_layHears_198 : decode cX5_layHears 198 = .ok (.istore_n 3, 1) := by decide +kernel
theorem dX5_layHears_199 : decode cX5_layHears 199 = .ok (.aload_n 0, 1) := by decide +kernel
theorem dX5_layHears_200 : decode cX5_layHears 200 = .ok (.getfield 22, 3) := by decide +kernel
theorem dX5_layHears_203 : decode cX5_layHears 203 = .ok (.iload 6, 2) := by decide +kernel
theorem dX5_layHears_205 : decode cX5_layHears 205 = .ok (.iload 8, 2) := by decide +kernel
theorem dX5_layHears_207 : decode cX5_layHears 207 = .ok (.aload_n 0, 1) := by decide +kernel
theorem dX5_layHears_208 : decode cX5_layHears 208 = .ok (.getfield 22, 3) := by decide +kernel
theorem dX5_layHears_211 : decode cX5_layHears 211 = .ok (.iload 6, 2) := by decide +kernel
theorem dX5_layHears_213 : decode cX5_layHears 213 = .ok (.iaload, 1) := by decide +kernel
theorem dX5_layHears_214 : decode cX5_layHears 214 = .ok (.if_icmp .ge 8, 3) := by decide +kernel
theorem dX5_layHears_217 : decode cX5_layHears 217 = .ok (.iload 8, 2) := by decide +kernel
theorem dX5_layHears_219 : decode cX5_layHears 219 = .ok (.goto 10, 3) := by decide +kernel
theorem dX5_layHears_222 : decode cX5_layHears 222 = .ok (.aload_n 0, 1) := by decide +kernel
theorem dX5_layHears_223 : decode cX5_layHears 223 = .ok (.getfield 22, 3) := by decide +kernel
theorem dX5_layHears_226 : decode cX5_layHears 226 = .ok (.iload 6, 2) := by decide +kernel
theorem dX5_layHears_228 : decode cX5_layHears 228 = .ok (.iaload, 1) := by decide +kernel
theorem dX5_layHears_229 : decode cX5_layHears 229 = .ok (.iastore, 1) := by decide +kernel
theorem dX5_layHears_230 : decode cX5_layHears 230 = .ok (.iinc 4 1, 3) := by decide +kernel
theorem dX5_layHears_233 : decode cX5_layHears 233 = .ok (.goto (-177), 3) := by decide +kernel
theorem dX5_layHears_236 : decode cX5_layHears 236 = .ok (.goto (-189), 3) := by decide +kernel
theorem dX5_layHears_239 : decode cX5_layHears 239 = .ok (.return_, 1) := by decide +kernel
theorem dX5_hearers_0 : decode cX5_hearers 0 = .ok (.aload_n 0, 1) := by decide +kernel
theorem dX5_hearers_1 : decode cX5_hearers 1 = .ok (.iload_n 1, 1) := by decide +kernel
theorem dX5_hearers_2 : decode cX5_hearers 2 = .ok (.iload_n 2, 1) := by decide +kernel
theorem dX5_hearers_3 : decode cX5_hearers 3 = .ok (.invokevirtual 117, 3) := by decide +kernel
theorem dX5_hearers_6 : decode cX5_hearers 6 = .ok (.iconst 0, 1) := by decide +kernel
theorem dX5_hearers_7 : decode cX5_hearers 7 = .ok (.istore_n 3, 1) := by decide +kernel
theorem dX5_hearers_8 : decode cX5_hearers 8 = .ok (.iconst 0, 1) := by decide +kernel
theorem dX5_hearers_9 : decode cX5_hearers 9 = .ok (.istore 4, 2) := by decide +kernel
theorem dX5_hearers_11 : decode cX5_hearers 11 = .ok (.iload 4, 2) := by decide +kernel
theorem dX5_hearers_13 : decode cX5_hearers 13 = .ok (.aload_n 0, 1) := by decide +kernel
theorem dX5_hearers_14 : decode cX5_hearers 14 = .ok (.getfield 76, 3) := by decide +kernel
theorem dX5_hearers_17 : decode cX5_hearers 17 = .ok (.if_icmp .ge 33, 3) := by decide +kernel
theorem dX5_hearers_20 : decode cX5_hearers 20 = .ok (.iload_n 3, 1) := by decide +kernel
theorem dX5_hearers_21 : decode cX5_hearers 21 = .ok (.aload_n 0, 1) := by decide +kernel
theorem dX5_hearers_22 : decode cX5_hearers 22 = .ok (.getfield 22, 3) := by decide +kernel
theorem dX5_hearers_25 : decode cX5_hearers 25 = .ok (.iload 4, 2) := by decide +kernel
theorem dX5_hearers_27 : decode cX5_hearers 27 = .ok (.iaload, 1) := by decide +kernel
theorem dX5_hearers_28 : decode cX5_hearers 28 = .ok (.sipush 9999, 3) := by decide +kernel
theorem dX5_hearers_31 : decode cX5_hearers 31 = .ok (.if_icmp .ge 10, 3) := by decide +kernel
theorem dX5_hearers_34 : decode cX5_hearers 34 = .ok (.iconst 1, 1) := by decide +kernel
theorem dX5_hearers_35 : decode cX5_hearers 35 = .ok (.iload 4, 2) := by decide +kernel
theorem dX5_hearers_37 : decode cX5_hearers 37 = .ok (.ishl, 1) := by decide +kernel
theorem dX5_hearers_38 : decode cX5_hearers 38 = .ok (.goto 4, 3) := by decide +kernel
theorem dX5_hearers_41 : decode cX5_hearers 41 = .ok (.iconst 0, 1) := by decide +kernel
theorem dX5_hearers_42 : decode cX5_hearers 42 = .ok (.ior, 1) := by decide +kernel
theorem dX5_hearers_43 : decode cX5_hearers 43 = .ok (.istore_n 3, 1) := by decide +kernel
theorem dX5_hearers_44 : decode cX5_hearers 44 = .ok (.iinc 4 1, 3) := by decide +kernel
theorem dX5_hearers_47 : decode cX5_hearers 47 = .ok (.goto (-36), 3) := by decide +kernel
theorem dX5_hearers_50 : decode cX5_hearers 50 = .ok (.iload_n 3, 1) := by decide +kernel
theorem dX5_hearers_51 : decode cX5_hearers 51 = .ok (.ireturn, 1) := by decide +kernel
theorem dX5_tell_0 : decode cX5_tell 0 = .ok (.iload_n 2, 1) := by decide +kernel
theorem dX5_tell_1 : decode cX5_tell 1 = .ok (.tableswitch 52 0 3 #[31, 31, 31, 42], 31) := by decide +kernel
theorem dX5_tell_32 : decode cX5_tell 32 = .ok (.aload_n 0, 1) := by decide +kernel
theorem dX5_tell_33 : decode cX5_tell 33 = .ok (.getfield 19, 3) := by decide +kernel
theorem dX5_tell_36 : decode cX5_tell 36 = .ok (.iconst 3, 1) := by decide +kernel
theorem dX5_tell_37 : decode cX5_tell 37 = .ok (.iload_n 1, 1) := by decide +kernel
theorem dX5_tell_38 : decode cX5_tell 38 = .ok (.imul, 1) := by decide +kernel
theorem dX5_tell_39 : decode cX5_tell 39 = .ok (.iload_n 2, 1) := by decide +kernel
theorem dX5_tell_40 : decode cX5_tell 40 = .ok (.iadd, 1) := by decide +kernel
theorem dX5_tell_41 : decode cX5_tell 41 = .ok (.iaload, 1) := by decide +kernel
theorem dX5_tell_42 : decode cX5_tell 42 = .ok (.ireturn, 1) := by decide +kernel
theorem dX5_tell_43 : decode cX5_tell 43 = .ok (.aload_n 0, 1) := by decide +kernel
theorem dX5_tell_44 : decode cX5_tell 44 = .ok (.iload_n 1, 1) := by decide +kernel
theorem dX5_tell_45 : decode cX5_tell 45 = .ok (.aload_n 0, 1) := by decide +kernel
theorem dX5_tell_46 : decode cX5_tell 46 = .ok (.getfield 70, 3) := by decide +kernel
theorem dX5_tell_49 : decode cX5_tell 49 = .ok (.invokevirtual 121, 3) := by decide +kernel
theorem dX5_tell_52 : decode cX5_tell 52 = .ok (.ireturn, 1) := by decide +kernel
theorem dX5_tell_53 : decode cX5_tell 53 = .ok (.bipush (-102), 2) := by decide +kernel
theorem dX5_tell_55 : decode cX5_tell 55 = .ok (.ireturn, 1) := by decide +kernel
theorem dX5_about_0 : decode cX5_about 0 = .ok (.aload_n 0, 1) := by decide +kernel
theorem dX5_about_1 : decode cX5_about 1 = .ok (.iload_n 1, 1) := by decide +kernel
theorem dX5_about_2 : decode cX5_about 2 = .ok (.invokevirtual 110, 3) := by decide +kernel
theorem dX5_about_5 : decode cX5_about 5 = .ok (.ifCond .eq 12, 3) := by decide +kernel
theorem dX5_about_8 : decode cX5_about 8 = .ok (.aload_n 0, 1) := by decide +kernel
theorem dX5_about_9 : decode cX5_about 9 = .ok (.iload_n 1, 1) := by decide +kernel
theorem dX5_about_10 : decode cX5_about 10 = .ok (.iload_n 2, 1) := by decide +kernel
theorem dX5_about_11 : decode cX5_about 11 = .ok (.invokevirtual 124, 3) := by decide +kernel
theorem dX5_about_14 : decode cX5_about 14 = .ok (.goto 5, 3) := by decide +kernel
theorem dX5_about_17 : decode cX5_about 17 = .ok (.bipush (-101), 2) := by decide +kernel
theorem dX5_about_19 : decode cX5_about 19 = .ok (.ireturn, 1) := by decide +kernel
theorem dX5_as_0 : decode cX5_as 0 = .ok (.aload_n 0, 1) := by decide +kernel
theorem dX5_as_1 : decode cX5_as 1 = .ok (.iload_n 1, 1) := by decide +kernel
theorem dX5_as_2 : decode cX5_as 2 = .ok (.invokevirtual 110, 3) := by decide +kernel
theorem dX5_as_5 : decode cX5_as 5 = .ok (.ifCond .ne 6, 3) := by decide +kernel
theorem dX5_as_8 : decode cX5_as 8 = .ok (.bipush (-101), 2) := by decide +kernel
theorem dX5_as_10 : decode cX5_as 10 = .ok (.ireturn, 1) := by decide +kernel
theorem dX5_as_11 : decode cX5_as 11 = .ok (.iload_n 2, 1) := by decide +kernel
theorem dX5_as_12 : decode cX5_as 12 = .ok (.i2l, 1) := by decide +kernel
theorem dX5_as_13 : decode cX5_as 13 = .ok (.lconst 0, 1) := by decide +kernel
theorem dX5_as_14 : decode cX5_as 14 = .ok (.ldc2_w 108, 3) := by decide +kernel
theorem dX5_as_17 : decode cX5_as 17 = .ok (.invokestatic 43, 3) := by decide +kernel
theorem dX5_as_20 : decode cX5_as 20 = .ok (.ifCond .ne 6, 3) := by decide +kernel
theorem dX5_as_23 : decode cX5_as 23 = .ok (.bipush (-102), 2) := by decide +kernel
theorem dX5_as_25 : decode cX5_as 25 = .ok (.ireturn, 1) := by decide +kernel
theorem dX5_as_26 : decode cX5_as 26 = .ok (.aload_n 0, 1) := by decide +kernel
theorem dX5_as_27 : decode cX5_as 27 = .ok (.getfield 19, 3) := by decide +kernel
theorem dX5_as_30 : decode cX5_as 30 = .ok (.iconst 3, 1) := by decide +kernel
theorem dX5_as_31 : decode cX5_as 31 = .ok (.iload_n 1, 1) := by decide +kernel
theorem dX5_as_32 : decode cX5_as 32 = .ok (.imul, 1) := by decide +kernel
theorem dX5_as_33 : decode cX5_as 33 = .ok (.iaload, 1) := by decide +kernel
theorem dX5_as_34 : decode cX5_as 34 = .ok (.istore_n 3, 1) := by decide +kernel
theorem dX5_as_35 : decode cX5_as 35 = .ok (.iload_n 2, 1) := by decide +kernel
theorem dX5_as_36 : decode cX5_as 36 = .ok (.ifCond .eq 18, 3) := by decide +kernel
theorem dX5_as_39 : decode cX5_as 39 = .ok (.iload_n 2, 1) := by decide +kernel
theorem dX5_as_40 : decode cX5_as 40 = .ok (.iload_n 3, 1) := by decide +kernel
theorem dX5_as_41 : decode cX5_as 41 = .ok (.if_icmp .eq 13, 3) := by decide +kernel
theorem dX5_as_44 : decode cX5_as 44 = .ok (.iload_n 2, 1) := by decide +kernel
theorem dX5_as_45 : decode cX5_as 45 = .ok (.iconst 2, 1) := by decide +kernel
theorem dX5_as_46 : decode cX5_as 46 = .ok (.if_icmp .ne 12, 3) := by decide +kernel
theorem dX5_as_49 : decode cX5_as 49 = .ok (.iload_n 3, 1) := by decide +kernel
theorem dX5_as_50 : decode cX5_as 50 = .ok (.iconst 4, 1) := by decide +kernel
theorem dX5_as_51 : decode cX5_as 51 = .ok (.if_icmp .ne 7, 3) := by decide +kernel
theorem dX5_as_54 : decode cX5_as 54 = .ok (.iconst 1, 1) := by decide +kernel
theorem dX5_as_55 : decode cX5_as 55 = .ok (.goto 4, 3) := by decide +kernel
theorem dX5_as_58 : decode cX5_as 58 = .ok (.iconst 0, 1) := by decide +kernel
theorem dX5_as_59 : decode cX5_as 59 = .ok (.istore 4, 2) := by decide +kernel
theorem dX5_as_61 : decode cX5_as 61 = .ok (.iload 4, 2) := by decide +kernel
theorem dX5_as_63 : decode cX5_as 63 = .ok (.ifCond .eq 7, 3) := by decide +kernel
theorem dX5_as_66 : decode cX5_as 66 = .ok (.iload_n 1, 1) := by decide +kernel
theorem dX5_as_67 : decode cX5_as 67 = .ok (.goto 4, 3) := by decide +kernel
theorem dX5_as_70 : decode cX5_as 70 = .ok (.iconst (-1), 1) := by decide +kernel
theorem dX5_as_71 : decode cX5_as 71 = .ok (.ireturn, 1) := by decide +kernel
theorem dX5_move_0 : decode cX5_move 0 = .ok (.aload_n 0, 1) := by decide +kernel
theorem dX5_move_1 : decode cX5_move 1 = .ok (.iload_n 1, 1) := by decide +kernel
theorem dX5_move_2 : decode cX5_move 2 = .ok (.invokevirtual 110, 3) := by decide +kernel
theorem dX5_move_5 : decode cX5_move 5 = .ok (.ifCond .eq 11, 3) := by decide +kernel
theorem dX5_move_8 : decode cX5_move 8 = .ok (.aload_n 0, 1) := by decide +kernel
theorem dX5_move_9 : decode cX5_move 9 = .ok (.iload_n 2, 1) := by decide +kernel
theorem dX5_move_10 : decode cX5_move 10 = .ok (.invokevirtual 100, 3) := by decide +kernel
theorem dX5_move_13 : decode cX5_move 13 = .ok (.ifCond .ne 6, 3) := by decide +kernel
theorem dX5_move_16 : decode cX5_move 16 = .ok (.bipush (-101), 2) := by decide +kernel
theorem dX5_move_18 : decode cX5_move 18 = .ok (.ireturn, 1) := by decide +kernel
theorem dX5_move_19 : decode cX5_move 19 = .ok (.aload_n 0, 1) := by decide +kernel
theorem dX5_move_20 : decode cX5_move 20 = .ok (.getfield 19, 3) := by decide +kernel
theorem dX5_move_23 : decode cX5_move 23 = .ok (.iconst 3, 1) := by decide +kernel
theorem dX5_move_24 : decode cX5_move 24 = .ok (.iload_n 1, 1) := by decide +kernel
theorem dX5_move_25 : decode cX5_move 25 = .ok (.imul, 1) := by decide +kernel
theorem dX5_move_26 : decode cX5_move 26 = .ok (.iconst 1, 1) := by decide +kernel
theorem dX5_move_27 : decode cX5_move 27 = .ok (.iadd, 1) := by decide +kernel
theorem dX5_move_28 : decode cX5_move 28 = .ok (.iaload, 1) := by decide +kernel
theorem dX5_move_29 : decode cX5_move 29 = .ok (.istore_n 3, 1) := by decide +kernel
theorem dX5_move_30 : decode cX5_move 30 = .ok (.aload_n 0, 1) := by decide +kernel
theorem dX5_move_31 : decode cX5_move 31 = .ok (.getfield 19, 3) := by decide +kernel
theorem dX5_move_34 : decode cX5_move 34 = .ok (.iconst 3, 1) := by decide +kernel
theorem dX5_move_35 : decode cX5_move 35 = .ok (.iload_n 1, 1) := by decide +kernel
theorem dX5_move_36 : decode cX5_move 36 = .ok (.imul, 1) := by decide +kernel
theorem dX5_move_37 : decode cX5_move 37 = .ok (.iconst 1, 1) := by decide +kernel
theorem dX5_move_38 : decode cX5_move 38 = .ok (.iadd, 1) := by decide +kernel
theorem dX5_move_39 : decode cX5_move 39 = .ok (.iload_n 2, 1) := by decide +kernel
theorem dX5_move_40 : decode cX5_move 40 = .ok (.iastore, 1) := by decide +kernel
theorem dX5_move_41 : decode cX5_move 41 = .ok (.iload_n 3, 1) := by decide +kernel
theorem dX5_move_42 : decode cX5_move 42 = .ok (.ireturn, 1) := by decide +kernel
theorem dX5_says_0 : decode cX5_says 0 = .ok (.aload_n 0, 1) := by decide +kernel
theorem dX5_says_1 : decode cX5_says 1 = .ok (.iload_n 1, 1) := by decide +kernel
theorem dX5_says_2 : decode cX5_says 2 = .ok (.aload_n 0, 1) := by decide +kernel
theorem dX5_says_3 : decode cX5_says 3 = .ok (.getfield 70, 3) := by decide +kernel
theorem dX5_says_6 : decode cX5_says 6 = .ok (.invokevirtual 121, 3) := by decide +kernel
theorem dX5_says_9 : decode cX5_says 9 = .ok (.istore_n 3, 1) := by decide +kernel
theorem dX5_says_10 : decode cX5_says 10 = .ok (.iconst 0, 1) := by decide +kernel
theorem dX5_says_11 : decode cX5_says 11 = .ok (.istore 4, 2) := by decide +kernel
theorem dX5_says_13 : decode cX5_says 13 = .ok (.iconst 0, 1) := by decide +kernel
theorem dX5_says_14 : decode cX5_says 14 = .ok (.istore 5, 2) := by decide +kernel
theorem dX5_says_16 : decode cX5_says 16 = .ok (.iload 5, 2) := by decide +kernel
theorem dX5_says_18 : decode cX5_says 18 = .ok (.aload_n 0, 1) := by decide +kernel
theorem dX5_says_19 : decode cX5_says 19 = .ok (.getfield 76, 3) := by decide +kernel
theorem dX5_says_22 : decode cX5_says 22 = .ok (.if_icmp .ge 85, 3) := by decide +kernel
theorem dX5_says_25 : decode cX5_says 25 = .ok (.iload_n 3, 1) := by decide +kernel
theorem dX5_says_26 : decode cX5_says 26 = .ok (.iload 5, 2) := by decide +kernel
theorem dX5_says_28 : decode cX5_says 28 = .ok (.ishr, 1) := by decide +kernel
theorem dX5_says_29 : decode cX5_says 29 = .ok (.iconst 1, 1) := by decide +kernel
theorem dX5_says_30 : decode cX5_says 30 = .ok (.iand, 1) := by decide +kernel
theorem dX5_says_31 : decode cX5_says 31 = .ok (.iconst 1, 1) := by decide +kernel
theorem dX5_says_32 : decode cX5_says 32 = .ok (.if_icmp .ne 25, 3) := by decide +kernel
theorem dX5_says_35 : decode cX5_says 35 = .ok (.aload_n 0, 1) := by decide +kernel
theorem dX5_says_36 : decode cX5_says 36 = .ok (.getfield 19, 3) := by decide +kernel
theorem dX5_says_39 : decode cX5_says 39 = .ok (.iconst 3, 1) := by decide +kernel
theorem dX5_says_40 : decode cX5_says 40 = .ok (.iload 5, 2) := by decide +kernel
theorem dX5_says_42 : decode cX5_says 42 = .ok (.imul, 1) := by decide +kernel
theorem dX5_says_43 : decode cX5_says 43 = .ok (.iconst 2, 1) := by decide +kernel
theorem dX5_says_44 : decode cX5_says 44 = .ok (.iadd, 1) := by decide +kernel
theorem dX5_says_45 : decode cX5_says 45 = .ok (.iaload, 1) := by decide +kernel
theorem dX5_says_46 : decode cX5_says 46 = .ok (.iload_n 2, 1) := by decide +kernel
theorem dX5_says_47 : decode cX5_says 47 = .ok (.ishr, 1) := by decide +kernel
theorem dX5_says_48 : decode cX5_says 48 = .ok (.iconst 1, 1) := by decide +kernel
theorem dX5_says_49 : decode cX5_says 49 = .ok (.iand, 1) := by decide +kernel
theorem dX5_says_50 : decode cX5_says 50 = .ok (.ifCond .ne 7, 3) := by decide +kernel
theorem dX5_says_53 : decode cX5_says 53 = .ok (.iconst 1, 1) := by decide +kernel
theorem dX5_says_54 : decode cX5_says 54 = .ok (.goto 4, 3) := by decide +kernel
theorem dX5_says_57 : decode cX5_says 57 = .ok (.iconst 0, 1) := by decide +kernel
theorem dX5_says_58 : decode cX5_says 58 = .ok (.istore 6, 2) := by decide +kernel
theorem dX5_says_60 : decode cX5_says 60 = .ok (.aload_n 0, 1) := by decide +kernel
theorem dX5_says_61 : decode cX5_says 61 = .ok (.getfield 19, 3) := by decide +kernel
theorem dX5_says_64 : decode cX5_says 64 = .ok (.iconst 3, 1) := by decide +kernel
theorem dX5_says_65 : decode cX5_says 65 = .ok (.iload 5, 2) := by decide +kernel
theorem dX5_says_67 : decode cX5_says 67 = .ok (.imul, 1) := by decide +kernel
theorem dX5_says_68 : decode cX5_says 68 = .ok (.iconst 2, 1) := by decide +kernel
theorem dX5_says_69 : decode cX5_says 69 = .ok (.iadd, 1) := by decide +kernel
theorem dX5_says_70 : decode cX5_says 70 = .ok (.dup2, 1) := by decide +kernel
theorem dX5_says_71 : decode cX5_says 71 = .ok (.iaload, 1) := by decide +kernel
theorem dX5_says_72 : decode cX5_says 72 = .ok (.iload 6, 2) := by decide +kernel
theorem dX5_says_74 : decode cX5_says 74 = .ok (.ifCond .eq 9, 3) := by decide +kernel
theorem dX5_says_77 : decode cX5_says 77 = .ok (.iconst 1, 1) := by decide +kernel
theorem dX5_says_78 : decode cX5_says 78 = .ok (.iload_n 2, 1) := by decide +kernel
theorem dX5_says_79 : decode cX5_says 79 = .ok (.ishl, 1) := by decide +kernel
theorem dX5_says_80 : decode cX5_says 80 = .ok (.goto 4, 3) := by decide +kernel
theorem dX5_says_83 : decode cX5_says 83 = .ok (.iconst 0, 1) := by decide +kernel
theorem dX5_says_84 : decode cX5_says 84 = .ok (.ior, 1) := by decide +kernel
theorem dX5_says_85 : decode cX5_says 85 = .ok (.iastore, 1) := by decide +kernel
theorem dX5_says_86 : decode cX5_says 86 = .ok (.iload 4, 2) := by decide +kernel
theorem dX5_says_88 : decode cX5_says 88 = .ok (.iload 6, 2) := by decide +kernel
theorem dX5_says_90 : decode cX5_says 90 = .ok (.ifCond .eq 7, 3) := by decide +kernel
theorem dX5_says_93 : decode cX5_says 93 = .ok (.iconst 1, 1) := by decide +kernel
theorem dX5_says_94 : decode cX5_says 94 = .ok (.goto 4, 3) := by decide +kernel
theorem dX5_says_97 : decode cX5_says 97 = .ok (.iconst 0, 1) := by decide +kernel
theorem dX5_says_98 : decode cX5_says 98 = .ok (.iadd, 1) := by decide +kernel
theorem dX5_says_99 : decode cX5_says 99 = .ok (.istore 4, 2) := by decide +kernel
theorem dX5_says_101 : decode cX5_says 101 = .ok (.iinc 5 1, 3) := by decide +kernel
theorem dX5_says_104 : decode cX5_says 104 = .ok (.goto (-88), 3) := by decide +kernel
theorem dX5_says_107 : decode cX5_says 107 = .ok (.iload 4, 2) := by decide +kernel
theorem dX5_says_109 : decode cX5_says 109 = .ok (.ireturn, 1) := by decide +kernel
theorem dX5_say_0 : decode cX5_say 0 = .ok (.aload_n 0, 1) := by decide +kernel
theorem dX5_say_1 : decode cX5_say 1 = .ok (.iload_n 1, 1) := by decide +kernel
theorem dX5_say_2 : decode cX5_say 2 = .ok (.invokevirtual 110, 3) := by decide +kernel
theorem dX5_say_5 : decode cX5_say 5 = .ok (.ifCond .ne 6, 3) := by decide +kernel
theorem dX5_say_8 : decode cX5_say 8 = .ok (.bipush (-101), 2) := by decide +kernel
theorem dX5_say_10 : decode cX5_say 10 = .ok (.ireturn, 1) := by decide +kernel
theorem dX5_say_11 : decode cX5_say 11 = .ok (.iload_n 2, 1) := by decide +kernel
theorem dX5_say_12 : decode cX5_say 12 = .ok (.i2l, 1) := by decide +kernel
theorem dX5_say_13 : decode cX5_say 13 = .ok (.lconst 0, 1) := by decide +kernel
theorem dX5_say_14 : decode cX5_say 14 = .ok (.ldc2_w 127, 3) := by decide +kernel
theorem dX5_say_17 : decode cX5_say 17 = .ok (.invokestatic 43, 3) := by decide +kernel
theorem dX5_say_20 : decode cX5_say 20 = .ok (.ifCond .ne 6, 3) := by decide +kernel
theorem dX5_say_23 : decode cX5_say 23 = .ok (.bipush (-102), 2) := by decide +kernel
theorem dX5_say_25 : decode cX5_say 25 = .ok (.ireturn, 1) := by decide +kernel
theorem dX5_say_26 : decode cX5_say 26 = .ok (.aload_n 0, 1) := by decide +kernel
theorem dX5_say_27 : decode cX5_say 27 = .ok (.getfield 19, 3) := by decide +kernel
theorem dX5_say_30 : decode cX5_say 30 = .ok (.iconst 3, 1) := by decide +kernel
theorem dX5_say_31 : decode cX5_say 31 = .ok (.iload_n 1, 1) := by decide +kernel
theorem dX5_say_32 : decode cX5_say 32 = .ok (.imul, 1) := by decide +kernel
theorem dX5_say_33 : decode cX5_say 33 = .ok (.iaload, 1) := by decide +kernel
theorem dX5_say_34 : decode cX5_say 34 = .ok (.iconst 3, 1) := by decide +kernel
theorem dX5_say_35 : decode cX5_say 35 = .ok (.if_icmp .ne 6, 3) := by decide +kernel
theorem dX5_say_38 : decode cX5_say 38 = .ok (.bipush (-103), 2) := by decide +kernel
theorem dX5_say_40 : decode cX5_say 40 = .ok (.ireturn, 1) := by decide +kernel
theorem dX5_say_41 : decode cX5_say 41 = .ok (.aload_n 0, 1) := by decide +kernel
theorem dX5_say_42 : decode cX5_say 42 = .ok (.dup, 1) := by decide +kernel
theorem dX5_say_43 : decode cX5_say 43 = .ok (.getfield 73, 3) := by decide +kernel
theorem dX5_say_46 : decode cX5_say 46 = .ok (.iconst 1, 1) := by decide +kernel
theorem dX5_say_47 : decode cX5_say 47 = .ok (.iadd, 1) := by decide +kernel
theorem dX5_say_48 : decode cX5_say 48 = .ok (.putfield 73, 3) := by decide +kernel
theorem dX5_say_51 : decode cX5_say 51 = .ok (.aload_n 0, 1) := by decide +kernel
theorem dX5_say_52 : decode cX5_say 52 = .ok (.iload_n 1, 1) := by decide +kernel
theorem dX5_say_53 : decode cX5_say 53 = .ok (.iload_n 2, 1) := by decide +kernel
theorem dX5_say_54 : decode cX5_say 54 = .ok (.invokevirtual 129, 3) := by decide +kernel
theorem dX5_say_57 : decode cX5_say 57 = .ok (.ireturn, 1) := by decide +kernel
theorem dX5_hearsOf_0 : decode cX5_hearsOf 0 = .ok (.aload_n 0, 1) := by decide +kernel
theorem dX5_hearsOf_1 : decode cX5_hearsOf 1 = .ok (.iload_n 1, 1) := by decide +kernel
theorem dX5_hearsOf_2 : decode cX5_hearsOf 2 = .ok (.aload_n 0, 1) := by decide +kernel
theorem dX5_hearsOf_3 : decode cX5_hearsOf 3 = .ok (.getfield 70, 3) := by decide +kernel
theorem dX5_hearsOf_6 : decode cX5_hearsOf 6 = .ok (.invokevirtual 117, 3) := by decide +kernel
theorem dX5_hearsOf_9 : decode cX5_hearsOf 9 = .ok (.aload_n 0, 1) := by decide +kernel
theorem dX5_hearsOf_10 : decode cX5_hearsOf 10 = .ok (.getfield 22, 3) := by decide +kernel
theorem dX5_hearsOf_13 : decode cX5_hearsOf 13 = .ok (.iload_n 2, 1) := by decide +kernel
theorem dX5_hearsOf_14 : decode cX5_hearsOf 14 = .ok (.iaload, 1) := by decide +kernel
theorem dX5_hearsOf_15 : decode cX5_hearsOf 15 = .ok (.sipush 9999, 3) := by decide +kernel
theorem dX5_hearsOf_18 : decode cX5_hearsOf 18 = .ok (.if_icmp .ge 12, 3) := by decide +kernel
theorem dX5_hearsOf_21 : decode cX5_hearsOf 21 = .ok (.aload_n 0, 1) := by decide +kernel
theorem dX5_hearsOf_22 : decode cX5_hearsOf 22 = .ok (.getfield 22, 3) := by decide +kernel
theorem dX5_hearsOf_25 : decode cX5_hearsOf 25 = .ok (.iload_n 2, 1) := by decide +kernel
theorem dX5_hearsOf_26 : decode cX5_hearsOf 26 = .ok (.iaload, 1) := by decide +kernel
theorem dX5_hearsOf_27 : decode cX5_hearsOf 27 = .ok (.goto 4, 3) := by decide +kernel
theorem dX5_hearsOf_30 : decode cX5_hearsOf 30 = .ok (.iconst (-1), 1) := by decide +kernel
theorem dX5_hearsOf_31 : decode cX5_hearsOf 31 = .ok (.ireturn, 1) := by decide +kernel
theorem dX5_hears_0 : decode cX5_hears 0 = .ok (.aload_n 0, 1) := by decide +kernel
theorem dX5_hears_1 : decode cX5_hears 1 = .ok (.iload_n 1, 1) := by decide +kernel
theorem dX5_hears_2 : decode cX5_hears 2 = .ok (.invokevirtual 110, 3) := by decide +kernel
theorem dX5_hears_5 : decode cX5_hears 5 = .ok (.ifCond .eq 20, 3) := by decide +kernel
theorem dX5_hears_8 : decode cX5_hears 8 = .ok (.aload_n 0, 1) := by decide +kernel
theorem dX5_hears_9 : decode cX5_hears 9 = .ok (.iload_n 2, 1) := by decide +kernel
theorem dX5_hears_10 : decode cX5_hears 10 = .ok (.invokevirtual 110, 3) := by decide +kernel
theorem dX5_hears_13 : decode cX5_hears 13 = .ok (.ifCond .eq 12, 3) := by decide +kernel
theorem dX5_hears_16 : decode cX5_hears 16 = .ok (.aload_n 0, 1) := by decide +kernel
theorem dX5_hears_17 : decode cX5_hears 17 = .ok (.iload_n 1, 1) := by decide +kernel
theorem dX5_hears_18 : decode cX5_hears 18 = .ok (.iload_n 2, 1) := by decide +kernel
theorem dX5_hears_19 : decode cX5_hears 19 = .ok (.invokevirtual 132, 3) := by decide +kernel
theorem dX5_hears_22 : decode cX5_hears 22 = .ok (.goto 5, 3) := by decide +kernel
theorem dX5_hears_25 : decode cX5_hears 25 = .ok (.bipush (-101), 2) := by decide +kernel
theorem dX5_hears_27 : decode cX5_hears 27 = .ok (.ireturn, 1) := by decide +kernel
theorem dX5_screensOf_0 : decode cX5_screensOf 0 = .ok (.iconst (-1), 1) := by decide +kernel
theorem dX5_screensOf_1 : decode cX5_screensOf 1 = .ok (.istore_n 3, 1) := by decide +kernel
theorem dX5_screensOf_2 : decode cX5_screensOf 2 = .ok (.iconst 0, 1) := by decide +kernel
theorem dX5_screensOf_3 : decode cX5_screensOf 3 = .ok (.istore 4, 2) := by decide +kernel
theorem dX5_screensOf_5 : decode cX5_screensOf 5 = .ok (.iload 4, 2) := by decide +kernel
theorem dX5_screensOf_7 : decode cX5_screensOf 7 = .ok (.sipush 256, 3) := by decide +kernel
theorem dX5_screensOf_10 : decode cX5_screensOf 10 = .ok (.if_icmp .ge 74, 3) := by decide +kernel
theorem dX5_screensOf_13 : decode cX5_screensOf 13 = .ok (.iload 4, 2) := by decide +kernel
theorem dX5_screensOf_15 : decode cX5_screensOf 15 = .ok (.aload_n 0, 1) := by decide +kernel
theorem dX5_screensOf_16 : decode cX5_screensOf 16 = .ok (.getfield 70, 3) := by decide +kernel
theorem dX5_screensOf_19 : decode cX5_screensOf 19 = .ok (.iand, 1) := by decide +kernel
theorem dX5_screensOf_20 : decode cX5_screensOf 20 = .ok (.ifCond .ne 24, 3) := by decide +kernel
theorem dX5_screensOf_23 : decode cX5_screensOf 23 = .ok (.iload_n 3, 1) := by decide +kernel
theorem dX5_screensOf_24 : decode cX5_screensOf 24 = .ok (.iconst (-1), 1) := by decide +kernel
theorem dX5_screensOf_25 : decode cX5_screensOf 25 = .ok (.if_icmp .eq 15, 3) := by decide +kernel
theorem dX5_screensOf_28 : decode cX5_screensOf 28 = .ok (.iload 4, 2) := by decide +kernel
theorem dX5_screensOf_30 : decode cX5_screensOf 30 = .ok (.invokestatic 91, 3) := by decide +kernel
theorem dX5_screensOf_33 : decode cX5_screensOf 33 = .ok (.iload_n 3, 1) := by decide +kernel
theorem dX5_screensOf_34 : decode cX5_screensOf 34 = .ok (.invokestatic 91, 3) := by decide +kernel
theorem dX5_screensOf_37 : decode cX5_screensOf 37 = .ok (.if_icmp .ge 7, 3) := by decide +kernel
theorem dX5_screensOf_40 : decode cX5_screensOf 40 = .ok (.iconst 1, 1) := by decide +kernel
theorem dX5_screensOf_41 : decode cX5_screensOf 41 = .ok (.goto 4, 3) := by decide +kernel
theorem dX5_screensOf_44 : decode cX5_screensOf 44 = .ok (.iconst 0, 1) := by decide +kernel
theorem dX5_screensOf_45 : decode cX5_screensOf 45 = .ok (.istore 5, 2) := by decide +kernel
theorem dX5_screensOf_47 : decode cX5_screensOf 47 = .ok (.iload 5, 2) := by decide +kernel
theorem dX5_screensOf_49 : decode cX5_screensOf 49 = .ok (.ifCond .eq 27, 3) := by decide +kernel
theorem dX5_screensOf_52 : decode cX5_screensOf 52 = .ok (.aload_n 0, 1) := by decide +kernel
theorem dX5_screensOf_53 : decode cX5_screensOf 53 = .ok (.iload_n 1, 1) := by decide +kernel
theorem dX5_screensOf_54 : decode cX5_screensOf 54 = .ok (.aload_n 0, 1) := by decide +kernel
theorem dX5_screensOf_55 : decode cX5_screensOf 55 = .ok (.getfield 70, 3) := by decide +kernel
theorem dX5_screensOf_58 : decode cX5_screensOf 58 = .ok (.iload 4, 2) := by decide +kernel
theorem dX5_screensOf_60 : decode cX5_screensOf 60 = .ok (.ior, 1) := by decide +kernel
theorem dX5_screensOf_61 : decode cX5_screensOf 61 = .ok (.invokevirtual 121, 3) := by decide +kernel
theorem dX5_screensOf_64 : decode cX5_screensOf 64 = .ok (.iload_n 2, 1) := by decide +kernel
theorem dX5_screensOf_65 : decode cX5_screensOf 65 = .ok (.ishr, 1) := by decide +kernel
theorem dX5_screensOf_66 : decode cX5_screensOf 66 = .ok (.iconst 1, 1) := by decide +kernel
theorem dX5_screensOf_67 : decode cX5_screensOf 67 = .ok (.iand, 1) := by decide +kernel
theorem dX5_screensOf_68 : decode cX5_screensOf 68 = .ok (.ifCond .ne 8, 3) := by decide +kernel
theorem dX5_screensOf_71 : decode cX5_screensOf 71 = .ok (.iload 4, 2) := by decide +kernel
theorem dX5_screensOf_73 : decode cX5_screensOf 73 = .ok (.goto 4, 3) := by decide +kernel
theorem dX5_screensOf_76 : decode cX5_screensOf 76 = .ok (.iload_n 3, 1) := by decide +kernel
theorem dX5_screensOf_77 : decode cX5_screensOf 77 = .ok (.istore_n 3, 1) := by decide +kernel
theorem dX5_screensOf_78 : decode cX5_screensOf 78 = .ok (.iinc 4 1, 3) := by decide +kernel
theorem dX5_screensOf_81 : decode cX5_screensOf 81 = .ok (.goto (-76), 3) := by decide +kernel
theorem dX5_screensOf_84 : decode cX5_screensOf 84 = .ok (.iload_n 3, 1) := by decide +kernel
theorem dX5_screensOf_85 : decode cX5_screensOf 85 = .ok (.ireturn, 1) := by decide +kernel
theorem dX5_screens_0 : decode cX5_screens 0 = .ok (.aload_n 0, 1) := by decide +kernel
theorem dX5_screens_1 : decode cX5_screens 1 = .ok (.iload_n 1, 1) := by decide +kernel
theorem dX5_screens_2 : decode cX5_screens 2 = .ok (.invokevirtual 110, 3) := by decide +kernel
theorem dX5_screens_5 : decode cX5_screens 5 = .ok (.ifCond .eq 16, 3) := by decide +kernel
theorem dX5_screens_8 : decode cX5_screens 8 = .ok (.aload_n 0, 1) := by decide +kernel
