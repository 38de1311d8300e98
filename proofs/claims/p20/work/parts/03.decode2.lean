theorem dC_find_4 : decode mC_find.2.1 4 = .ok (.iload_n 1, 1) := by decide +kernel
theorem dC_find_5 : decode mC_find.2.1 5 = .ok (.aload_n 0, 1) := by decide +kernel
theorem dC_find_6 : decode mC_find.2.1 6 = .ok (.getfield 41, 3) := by decide +kernel
theorem dC_find_9 : decode mC_find.2.1 9 = .ok (.if_icmp .ge (12), 3) := by decide +kernel
theorem dC_find_12 : decode mC_find.2.1 12 = .ok (.aload_n 0, 1) := by decide +kernel
theorem dC_find_13 : decode mC_find.2.1 13 = .ok (.getfield 23, 3) := by decide +kernel
theorem dC_find_16 : decode mC_find.2.1 16 = .ok (.iload_n 1, 1) := by decide +kernel
theorem dC_find_17 : decode mC_find.2.1 17 = .ok (.aaload, 1) := by decide +kernel
theorem dC_find_18 : decode mC_find.2.1 18 = .ok (.goto (4), 3) := by decide +kernel
theorem dC_find_21 : decode mC_find.2.1 21 = .ok (.aconst_null, 1) := by decide +kernel
theorem dC_find_22 : decode mC_find.2.1 22 = .ok (.areturn, 1) := by decide +kernel
theorem dC_amend_0 : decode mC_amend.2.1 0 = .ok (.aload_n 0, 1) := by decide +kernel
theorem dC_amend_1 : decode mC_amend.2.1 1 = .ok (.iload_n 1, 1) := by decide +kernel
theorem dC_amend_2 : decode mC_amend.2.1 2 = .ok (.iload_n 2, 1) := by decide +kernel
theorem dC_amend_3 : decode mC_amend.2.1 3 = .ok (.invokevirtual 99, 3) := by decide +kernel
theorem dC_amend_6 : decode mC_amend.2.1 6 = .ok (.astore 4, 2) := by decide +kernel
theorem dC_amend_8 : decode mC_amend.2.1 8 = .ok (.aload 4, 2) := by decide +kernel
theorem dC_amend_10 : decode mC_amend.2.1 10 = .ok (.ifnonnull (6), 3) := by decide +kernel
theorem dC_amend_13 : decode mC_amend.2.1 13 = .ok (.bipush (-6), 2) := by decide +kernel
theorem dC_amend_15 : decode mC_amend.2.1 15 = .ok (.ireturn, 1) := by decide +kernel
theorem dC_amend_16 : decode mC_amend.2.1 16 = .ok (.iload_n 3, 1) := by decide +kernel
theorem dC_amend_17 : decode mC_amend.2.1 17 = .ok (.iconst 1, 1) := by decide +kernel
theorem dC_amend_18 : decode mC_amend.2.1 18 = .ok (.if_icmp .lt (12), 3) := by decide +kernel
theorem dC_amend_21 : decode mC_amend.2.1 21 = .ok (.iload_n 3, 1) := by decide +kernel
theorem dC_amend_22 : decode mC_amend.2.1 22 = .ok (.aload 4, 2) := by decide +kernel
theorem dC_amend_24 : decode mC_amend.2.1 24 = .ok (.getfield 107, 3) := by decide +kernel
theorem dC_amend_27 : decode mC_amend.2.1 27 = .ok (.if_icmp .lt (5), 3) := by decide +kernel
theorem dC_amend_30 : decode mC_amend.2.1 30 = .ok (.iconst (-1), 1) := by decide +kernel
theorem dC_amend_31 : decode mC_amend.2.1 31 = .ok (.ireturn, 1) := by decide +kernel
theorem dC_amend_32 : decode mC_amend.2.1 32 = .ok (.aload 4, 2) := by decide +kernel
theorem dC_amend_34 : decode mC_amend.2.1 34 = .ok (.iload_n 3, 1) := by decide +kernel
theorem dC_amend_35 : decode mC_amend.2.1 35 = .ok (.putfield 107, 3) := by decide +kernel
theorem dC_amend_38 : decode mC_amend.2.1 38 = .ok (.aload 4, 2) := by decide +kernel
theorem dC_amend_40 : decode mC_amend.2.1 40 = .ok (.aload 4, 2) := by decide +kernel
theorem dC_amend_42 : decode mC_amend.2.1 42 = .ok (.getfield 110, 3) := by decide +kernel
theorem dC_amend_45 : decode mC_amend.2.1 45 = .ok (.iload_n 3, 1) := by decide +kernel
theorem dC_amend_46 : decode mC_amend.2.1 46 = .ok (.invokestatic 113, 3) := by decide +kernel
theorem dC_amend_49 : decode mC_amend.2.1 49 = .ok (.putfield 110, 3) := by decide +kernel
theorem dC_amend_52 : decode mC_amend.2.1 52 = .ok (.iconst 0, 1) := by decide +kernel
theorem dC_amend_53 : decode mC_amend.2.1 53 = .ok (.ireturn, 1) := by decide +kernel
theorem dC_open_0 : decode mC_open.2.1 0 = .ok (.iload_n 1, 1) := by decide +kernel
theorem dC_open_1 : decode mC_open.2.1 1 = .ok (.invokestatic 61, 3) := by decide +kernel
theorem dC_open_4 : decode mC_open.2.1 4 = .ok (.ifCond .ne (5), 3) := by decide +kernel
theorem dC_open_7 : decode mC_open.2.1 7 = .ok (.iconst (-1), 1) := by decide +kernel
theorem dC_open_8 : decode mC_open.2.1 8 = .ok (.ireturn, 1) := by decide +kernel
theorem dC_open_9 : decode mC_open.2.1 9 = .ok (.aload_n 0, 1) := by decide +kernel
theorem dC_open_10 : decode mC_open.2.1 10 = .ok (.getfield 17, 3) := by decide +kernel
theorem dC_open_13 : decode mC_open.2.1 13 = .ok (.iload_n 1, 1) := by decide +kernel
theorem dC_open_14 : decode mC_open.2.1 14 = .ok (.aaload, 1) := by decide +kernel
theorem dC_open_15 : decode mC_open.2.1 15 = .ok (.astore_n 2, 1) := by decide +kernel
theorem dC_open_16 : decode mC_open.2.1 16 = .ok (.aload_n 2, 1) := by decide +kernel
theorem dC_open_17 : decode mC_open.2.1 17 = .ok (.getfield 74, 3) := by decide +kernel
theorem dC_open_20 : decode mC_open.2.1 20 = .ok (.ifCond .eq (6), 3) := by decide +kernel
theorem dC_open_23 : decode mC_open.2.1 23 = .ok (.bipush (-3), 2) := by decide +kernel
theorem dC_open_25 : decode mC_open.2.1 25 = .ok (.ireturn, 1) := by decide +kernel
theorem dC_open_26 : decode mC_open.2.1 26 = .ok (.aload_n 0, 1) := by decide +kernel
theorem dC_open_27 : decode mC_open.2.1 27 = .ok (.getfield 37, 3) := by decide +kernel
theorem dC_open_30 : decode mC_open.2.1 30 = .ok (.aload_n 2, 1) := by decide +kernel
theorem dC_open_31 : decode mC_open.2.1 31 = .ok (.invokevirtual 119, 3) := by decide +kernel
theorem dC_open_34 : decode mC_open.2.1 34 = .ok (.istore_n 3, 1) := by decide +kernel
theorem dC_open_35 : decode mC_open.2.1 35 = .ok (.aload_n 2, 1) := by decide +kernel
theorem dC_open_36 : decode mC_open.2.1 36 = .ok (.iconst 1, 1) := by decide +kernel
theorem dC_open_37 : decode mC_open.2.1 37 = .ok (.putfield 74, 3) := by decide +kernel
theorem dC_open_40 : decode mC_open.2.1 40 = .ok (.iload_n 3, 1) := by decide +kernel
theorem dC_open_41 : decode mC_open.2.1 41 = .ok (.ifCond .ne (7), 3) := by decide +kernel
theorem dC_open_44 : decode mC_open.2.1 44 = .ok (.iconst 0, 1) := by decide +kernel
theorem dC_open_45 : decode mC_open.2.1 45 = .ok (.goto (9), 3) := by decide +kernel
theorem dC_open_48 : decode mC_open.2.1 48 = .ok (.aload_n 0, 1) := by decide +kernel
theorem dC_open_49 : decode mC_open.2.1 49 = .ok (.aload_n 2, 1) := by decide +kernel
theorem dC_open_50 : decode mC_open.2.1 50 = .ok (.iload_n 3, 1) := by decide +kernel
theorem dC_open_51 : decode mC_open.2.1 51 = .ok (.invokevirtual 123, 3) := by decide +kernel
theorem dC_open_54 : decode mC_open.2.1 54 = .ok (.ireturn, 1) := by decide +kernel
theorem dS_findCallPrice_0 : decode mS_findCallPrice.2.1 0 = .ok (.aload_n 0, 1) := by decide +kernel
theorem dS_findCallPrice_1 : decode mS_findCallPrice.2.1 1 = .ok (.aload_n 1, 1) := by decide +kernel
theorem dS_findCallPrice_2 : decode mS_findCallPrice.2.1 2 = .ok (.invokevirtual 18, 3) := by decide +kernel
theorem dS_findCallPrice_5 : decode mS_findCallPrice.2.1 5 = .ok (.iconst 0, 1) := by decide +kernel
theorem dS_findCallPrice_6 : decode mS_findCallPrice.2.1 6 = .ok (.istore_n 2, 1) := by decide +kernel
theorem dS_findCallPrice_7 : decode mS_findCallPrice.2.1 7 = .ok (.iconst 0, 1) := by decide +kernel
theorem dS_findCallPrice_8 : decode mS_findCallPrice.2.1 8 = .ok (.istore_n 3, 1) := by decide +kernel
theorem dS_findCallPrice_9 : decode mS_findCallPrice.2.1 9 = .ok (.iconst 1, 1) := by decide +kernel
theorem dS_findCallPrice_10 : decode mS_findCallPrice.2.1 10 = .ok (.istore 4, 2) := by decide +kernel
theorem dS_findCallPrice_12 : decode mS_findCallPrice.2.1 12 = .ok (.iload 4, 2) := by decide +kernel
theorem dS_findCallPrice_14 : decode mS_findCallPrice.2.1 14 = .ok (.bipush (63), 2) := by decide +kernel
theorem dS_findCallPrice_16 : decode mS_findCallPrice.2.1 16 = .ok (.if_icmp .gt (52), 3) := by decide +kernel
theorem dS_findCallPrice_19 : decode mS_findCallPrice.2.1 19 = .ok (.aload_n 0, 1) := by decide +kernel
theorem dS_findCallPrice_20 : decode mS_findCallPrice.2.1 20 = .ok (.iload 4, 2) := by decide +kernel
theorem dS_findCallPrice_22 : decode mS_findCallPrice.2.1 22 = .ok (.invokevirtual 22, 3) := by decide +kernel
theorem dS_findCallPrice_25 : decode mS_findCallPrice.2.1 25 = .ok (.istore 5, 2) := by decide +kernel
theorem dS_findCallPrice_27 : decode mS_findCallPrice.2.1 27 = .ok (.aload_n 0, 1) := by decide +kernel
theorem dS_findCallPrice_28 : decode mS_findCallPrice.2.1 28 = .ok (.iload 4, 2) := by decide +kernel
theorem dS_findCallPrice_30 : decode mS_findCallPrice.2.1 30 = .ok (.invokevirtual 26, 3) := by decide +kernel
theorem dS_findCallPrice_33 : decode mS_findCallPrice.2.1 33 = .ok (.invokestatic 29, 3) := by decide +kernel
theorem dS_findCallPrice_36 : decode mS_findCallPrice.2.1 36 = .ok (.istore 6, 2) := by decide +kernel
theorem dS_findCallPrice_38 : decode mS_findCallPrice.2.1 38 = .ok (.iload 5, 2) := by decide +kernel
theorem dS_findCallPrice_40 : decode mS_findCallPrice.2.1 40 = .ok (.iload_n 2, 1) := by decide +kernel
theorem dS_findCallPrice_41 : decode mS_findCallPrice.2.1 41 = .ok (.if_icmp .gt (15), 3) := by decide +kernel
theorem dS_findCallPrice_44 : decode mS_findCallPrice.2.1 44 = .ok (.iload 5, 2) := by decide +kernel
theorem dS_findCallPrice_46 : decode mS_findCallPrice.2.1 46 = .ok (.iload_n 2, 1) := by decide +kernel
theorem dS_findCallPrice_47 : decode mS_findCallPrice.2.1 47 = .ok (.if_icmp .ne (15), 3) := by decide +kernel
theorem dS_findCallPrice_50 : decode mS_findCallPrice.2.1 50 = .ok (.iload 6, 2) := by decide +kernel
theorem dS_findCallPrice_52 : decode mS_findCallPrice.2.1 52 = .ok (.iload_n 3, 1) := by decide +kernel
theorem dS_findCallPrice_53 : decode mS_findCallPrice.2.1 53 = .ok (.if_icmp .ge (9), 3) := by decide +kernel
theorem dS_findCallPrice_56 : decode mS_findCallPrice.2.1 56 = .ok (.iload 5, 2) := by decide +kernel
theorem dS_findCallPrice_58 : decode mS_findCallPrice.2.1 58 = .ok (.istore_n 2, 1) := by decide +kernel
theorem dS_findCallPrice_59 : decode mS_findCallPrice.2.1 59 = .ok (.iload 6, 2) := by decide +kernel
theorem dS_findCallPrice_61 : decode mS_findCallPrice.2.1 61 = .ok (.istore_n 3, 1) := by decide +kernel
theorem dS_findCallPrice_62 : decode mS_findCallPrice.2.1 62 = .ok (.iinc 4 (1), 3) := by decide +kernel
theorem dS_findCallPrice_65 : decode mS_findCallPrice.2.1 65 = .ok (.goto (-53), 3) := by decide +kernel
theorem dS_findCallPrice_68 : decode mS_findCallPrice.2.1 68 = .ok (.iload_n 2, 1) := by decide +kernel
theorem dS_findCallPrice_69 : decode mS_findCallPrice.2.1 69 = .ok (.ifCond .ne (7), 3) := by decide +kernel
theorem dS_findCallPrice_72 : decode mS_findCallPrice.2.1 72 = .ok (.iconst 0, 1) := by decide +kernel
theorem dS_findCallPrice_73 : decode mS_findCallPrice.2.1 73 = .ok (.goto (13), 3) := by decide +kernel
theorem dS_findCallPrice_76 : decode mS_findCallPrice.2.1 76 = .ok (.aload_n 0, 1) := by decide +kernel
theorem dS_findCallPrice_77 : decode mS_findCallPrice.2.1 77 = .ok (.iload_n 2, 1) := by decide +kernel
theorem dS_findCallPrice_78 : decode mS_findCallPrice.2.1 78 = .ok (.iload_n 3, 1) := by decide +kernel
theorem dS_findCallPrice_79 : decode mS_findCallPrice.2.1 79 = .ok (.aload_n 1, 1) := by decide +kernel
theorem dS_findCallPrice_80 : decode mS_findCallPrice.2.1 80 = .ok (.getfield 34, 3) := by decide +kernel
theorem dS_findCallPrice_83 : decode mS_findCallPrice.2.1 83 = .ok (.invokevirtual 40, 3) := by decide +kernel
theorem dS_findCallPrice_86 : decode mS_findCallPrice.2.1 86 = .ok (.ireturn, 1) := by decide +kernel
theorem dS_weigh_0 : decode mS_weigh.2.1 0 = .ok (.aload_n 0, 1) := by decide +kernel
theorem dS_weigh_1 : decode mS_weigh.2.1 1 = .ok (.getfield 9, 3) := by decide +kernel
theorem dS_weigh_4 : decode mS_weigh.2.1 4 = .ok (.iconst 0, 1) := by decide +kernel
theorem dS_weigh_5 : decode mS_weigh.2.1 5 = .ok (.invokestatic 48, 3) := by decide +kernel
theorem dS_weigh_8 : decode mS_weigh.2.1 8 = .ok (.aload_n 0, 1) := by decide +kernel
theorem dS_weigh_9 : decode mS_weigh.2.1 9 = .ok (.getfield 15, 3) := by decide +kernel
theorem dS_weigh_12 : decode mS_weigh.2.1 12 = .ok (.iconst 0, 1) := by decide +kernel
theorem dS_weigh_13 : decode mS_weigh.2.1 13 = .ok (.invokestatic 48, 3) := by decide +kernel
theorem dS_weigh_16 : decode mS_weigh.2.1 16 = .ok (.aload_n 1, 1) := by decide +kernel
theorem dS_weigh_17 : decode mS_weigh.2.1 17 = .ok (.getfield 54, 3) := by decide +kernel
theorem dS_weigh_20 : decode mS_weigh.2.1 20 = .ok (.getfield 58, 3) := by decide +kernel
theorem dS_weigh_23 : decode mS_weigh.2.1 23 = .ok (.astore_n 2, 1) := by decide +kernel
theorem dS_weigh_24 : decode mS_weigh.2.1 24 = .ok (.aload_n 2, 1) := by decide +kernel
theorem dS_weigh_25 : decode mS_weigh.2.1 25 = .ok (.ifnull (27), 3) := by decide +kernel
theorem dS_weigh_28 : decode mS_weigh.2.1 28 = .ok (.aload_n 0, 1) := by decide +kernel
theorem dS_weigh_29 : decode mS_weigh.2.1 29 = .ok (.getfield 9, 3) := by decide +kernel
theorem dS_weigh_32 : decode mS_weigh.2.1 32 = .ok (.aload_n 2, 1) := by decide +kernel
theorem dS_weigh_33 : decode mS_weigh.2.1 33 = .ok (.getfield 64, 3) := by decide +kernel
theorem dS_weigh_36 : decode mS_weigh.2.1 36 = .ok (.dup2, 1) := by decide +kernel
theorem dS_weigh_37 : decode mS_weigh.2.1 37 = .ok (.iaload, 1) := by decide +kernel
theorem dS_weigh_38 : decode mS_weigh.2.1 38 = .ok (.aload_n 2, 1) := by decide +kernel
theorem dS_weigh_39 : decode mS_weigh.2.1 39 = .ok (.getfield 69, 3) := by decide +kernel
theorem dS_weigh_42 : decode mS_weigh.2.1 42 = .ok (.iadd, 1) := by decide +kernel
theorem dS_weigh_43 : decode mS_weigh.2.1 43 = .ok (.iastore, 1) := by decide +kernel
theorem dS_weigh_44 : decode mS_weigh.2.1 44 = .ok (.aload_n 2, 1) := by decide +kernel
theorem dS_weigh_45 : decode mS_weigh.2.1 45 = .ok (.getfield 72, 3) := by decide +kernel
theorem dS_weigh_48 : decode mS_weigh.2.1 48 = .ok (.astore_n 2, 1) := by decide +kernel
theorem dS_weigh_49 : decode mS_weigh.2.1 49 = .ok (.goto (-25), 3) := by decide +kernel
theorem dS_weigh_52 : decode mS_weigh.2.1 52 = .ok (.aload_n 1, 1) := by decide +kernel
theorem dS_weigh_53 : decode mS_weigh.2.1 53 = .ok (.getfield 75, 3) := by decide +kernel
theorem dS_weigh_56 : decode mS_weigh.2.1 56 = .ok (.getfield 58, 3) := by decide +kernel
theorem dS_weigh_59 : decode mS_weigh.2.1 59 = .ok (.astore_n 2, 1) := by decide +kernel
theorem dS_weigh_60 : decode mS_weigh.2.1 60 = .ok (.aload_n 2, 1) := by decide +kernel
theorem dS_weigh_61 : decode mS_weigh.2.1 61 = .ok (.ifnull (27), 3) := by decide +kernel
theorem dS_weigh_64 : decode mS_weigh.2.1 64 = .ok (.aload_n 0, 1) := by decide +kernel
theorem dS_weigh_65 : decode mS_weigh.2.1 65 = .ok (.getfield 15, 3) := by decide +kernel
theorem dS_weigh_68 : decode mS_weigh.2.1 68 = .ok (.aload_n 2, 1) := by decide +kernel
theorem dS_weigh_69 : decode mS_weigh.2.1 69 = .ok (.getfield 64, 3) := by decide +kernel
theorem dS_weigh_72 : decode mS_weigh.2.1 72 = .ok (.dup2, 1) := by decide +kernel
theorem dS_weigh_73 : decode mS_weigh.2.1 73 = .ok (.iaload, 1) := by decide +kernel
theorem dS_weigh_74 : decode mS_weigh.2.1 74 = .ok (.aload_n 2, 1) := by decide +kernel
theorem dS_weigh_75 : decode mS_weigh.2.1 75 = .ok (.getfield 69, 3) := by decide +kernel
theorem dS_weigh_78 : decode mS_weigh.2.1 78 = .ok (.iadd, 1) := by decide +kernel
theorem dS_weigh_79 : decode mS_weigh.2.1 79 = .ok (.iastore, 1) := by decide +kernel
theorem dS_weigh_80 : decode mS_weigh.2.1 80 = .ok (.aload_n 2, 1) := by decide +kernel
theorem dS_weigh_81 : decode mS_weigh.2.1 81 = .ok (.getfield 72, 3) := by decide +kernel
theorem dS_weigh_84 : decode mS_weigh.2.1 84 = .ok (.astore_n 2, 1) := by decide +kernel
theorem dS_weigh_85 : decode mS_weigh.2.1 85 = .ok (.goto (-25), 3) := by decide +kernel
theorem dS_weigh_88 : decode mS_weigh.2.1 88 = .ok (.bipush (63), 2) := by decide +kernel
theorem dS_weigh_90 : decode mS_weigh.2.1 90 = .ok (.istore_n 2, 1) := by decide +kernel
theorem dS_weigh_91 : decode mS_weigh.2.1 91 = .ok (.iload_n 2, 1) := by decide +kernel
theorem dS_weigh_92 : decode mS_weigh.2.1 92 = .ok (.iconst 1, 1) := by decide +kernel
theorem dS_weigh_93 : decode mS_weigh.2.1 93 = .ok (.if_icmp .lt (26), 3) := by decide +kernel
theorem dS_weigh_96 : decode mS_weigh.2.1 96 = .ok (.aload_n 0, 1) := by decide +kernel
theorem dS_weigh_97 : decode mS_weigh.2.1 97 = .ok (.getfield 9, 3) := by decide +kernel
theorem dS_weigh_100 : decode mS_weigh.2.1 100 = .ok (.iload_n 2, 1) := by decide +kernel
theorem dS_weigh_101 : decode mS_weigh.2.1 101 = .ok (.dup2, 1) := by decide +kernel
theorem dS_weigh_102 : decode mS_weigh.2.1 102 = .ok (.iaload, 1) := by decide +kernel
theorem dS_weigh_103 : decode mS_weigh.2.1 103 = .ok (.aload_n 0, 1) := by decide +kernel
theorem dS_weigh_104 : decode mS_weigh.2.1 104 = .ok (.getfield 9, 3) := by decide +kernel
theorem dS_weigh_107 : decode mS_weigh.2.1 107 = .ok (.iload_n 2, 1) := by decide +kernel
theorem dS_weigh_108 : decode mS_weigh.2.1 108 = .ok (.iconst 1, 1) := by decide +kernel
theorem dS_weigh_109 : decode mS_weigh.2.1 109 = .ok (.iadd, 1) := by decide +kernel
theorem dS_weigh_110 : decode mS_weigh.2.1 110 = .ok (.iaload, 1) := by decide +kernel
theorem dS_weigh_111 : decode mS_weigh.2.1 111 = .ok (.iadd, 1) := by decide +kernel
theorem dS_weigh_112 : decode mS_weigh.2.1 112 = .ok (.iastore, 1) := by decide +kernel
theorem dS_weigh_113 : decode mS_weigh.2.1 113 = .ok (.iinc 2 (-1), 3) := by decide +kernel
theorem dS_weigh_116 : decode mS_weigh.2.1 116 = .ok (.goto (-25), 3) := by decide +kernel
theorem dS_weigh_119 : decode mS_weigh.2.1 119 = .ok (.iconst 1, 1) := by decide +kernel
theorem dS_weigh_120 : decode mS_weigh.2.1 120 = .ok (.istore_n 2, 1) := by decide +kernel
theorem dS_weigh_121 : decode mS_weigh.2.1 121 = .ok (.iload_n 2, 1) := by decide +kernel
theorem dS_weigh_122 : decode mS_weigh.2.1 122 = .ok (.bipush (63), 2) := by decide +kernel
theorem dS_weigh_124 : decode mS_weigh.2.1 124 = .ok (.if_icmp .gt (26), 3) := by decide +kernel
theorem dS_weigh_127 : decode mS_weigh.2.1 127 = .ok (.aload_n 0, 1) := by decide +kernel
theorem dS_weigh_128 : decode mS_weigh.2.1 128 = .ok (.getfield 15, 3) := by decide +kernel
theorem dS_weigh_131 : decode mS_weigh.2.1 131 = .ok (.iload_n 2, 1) := by decide +kernel
theorem dS_weigh_132 : decode mS_weigh.2.1 132 = .ok (.dup2, 1) := by decide +kernel
theorem dS_weigh_133 : decode mS_weigh.2.1 133 = .ok (.iaload, 1) := by decide +kernel
theorem dS_weigh_134 : decode mS_weigh.2.1 134 = .ok (.aload_n 0, 1) := by decide +kernel
theorem dS_weigh_135 : decode mS_weigh.2.1 135 = .ok (.getfield 15, 3) := by decide +kernel
theorem dS_weigh_138 : decode mS_weigh.2.1 138 = .ok (.iload_n 2, 1) := by decide +kernel
theorem dS_weigh_139 : decode mS_weigh.2.1 139 = .ok (.iconst 1, 1) := by decide +kernel
theorem dS_weigh_140 : decode mS_weigh.2.1 140 = .ok (.isub, 1) := by decide +kernel
theorem dS_weigh_141 : decode mS_weigh.2.1 141 = .ok (.iaload, 1) := by decide +kernel
theorem dS_weigh_142 : decode mS_weigh.2.1 142 = .ok (.iadd, 1) := by decide +kernel
theorem dS_weigh_143 : decode mS_weigh.2.1 143 = .ok (.iastore, 1) := by decide +kernel
theorem dS_weigh_144 : decode mS_weigh.2.1 144 = .ok (.iinc 2 (1), 3) := by decide +kernel
theorem dS_weigh_147 : decode mS_weigh.2.1 147 = .ok (.goto (-26), 3) := by decide +kernel
theorem dS_weigh_150 : decode mS_weigh.2.1 150 = .ok (.return_, 1) := by decide +kernel
theorem dY_fill_0 : decode mY_fill.2.1 0 = .ok (.iconst 0, 1) := by decide +kernel
theorem dY_fill_1 : decode mY_fill.2.1 1 = .ok (.istore_n 2, 1) := by decide +kernel
theorem dY_fill_2 : decode mY_fill.2.1 2 = .ok (.aload_n 0, 1) := by decide +kernel
theorem dY_fill_3 : decode mY_fill.2.1 3 = .ok (.arraylength, 1) := by decide +kernel
theorem dY_fill_4 : decode mY_fill.2.1 4 = .ok (.istore_n 3, 1) := by decide +kernel
theorem dY_fill_5 : decode mY_fill.2.1 5 = .ok (.iload_n 2, 1) := by decide +kernel
theorem dY_fill_6 : decode mY_fill.2.1 6 = .ok (.iload_n 3, 1) := by decide +kernel
theorem dY_fill_7 : decode mY_fill.2.1 7 = .ok (.if_icmp .ge (13), 3) := by decide +kernel
theorem dY_fill_10 : decode mY_fill.2.1 10 = .ok (.aload_n 0, 1) := by decide +kernel
theorem dY_fill_11 : decode mY_fill.2.1 11 = .ok (.iload_n 2, 1) := by decide +kernel
theorem dY_fill_12 : decode mY_fill.2.1 12 = .ok (.iload_n 1, 1) := by decide +kernel
theorem dY_fill_13 : decode mY_fill.2.1 13 = .ok (.iastore, 1) := by decide +kernel
theorem dY_fill_14 : decode mY_fill.2.1 14 = .ok (.iinc 2 (1), 3) := by decide +kernel
theorem dY_fill_17 : decode mY_fill.2.1 17 = .ok (.goto (-12), 3) := by decide +kernel
theorem dY_fill_20 : decode mY_fill.2.1 20 = .ok (.return_, 1) := by decide +kernel
theorem dS_volumeAt_0 : decode mS_volumeAt.2.1 0 = .ok (.aload_n 0, 1) := by decide +kernel
theorem dS_volumeAt_1 : decode mS_volumeAt.2.1 1 = .ok (.getfield 9, 3) := by decide +kernel
theorem dS_volumeAt_4 : decode mS_volumeAt.2.1 4 = .ok (.iload_n 1, 1) := by decide +kernel
theorem dS_volumeAt_5 : decode mS_volumeAt.2.1 5 = .ok (.iaload, 1) := by decide +kernel
theorem dS_volumeAt_6 : decode mS_volumeAt.2.1 6 = .ok (.aload_n 0, 1) := by decide +kernel
theorem dS_volumeAt_7 : decode mS_volumeAt.2.1 7 = .ok (.getfield 15, 3) := by decide +kernel
theorem dS_volumeAt_10 : decode mS_volumeAt.2.1 10 = .ok (.iload_n 1, 1) := by decide +kernel
theorem dS_volumeAt_11 : decode mS_volumeAt.2.1 11 = .ok (.iaload, 1) := by decide +kernel
theorem dS_volumeAt_12 : decode mS_volumeAt.2.1 12 = .ok (.invokestatic 44, 3) := by decide +kernel
theorem dS_volumeAt_15 : decode mS_volumeAt.2.1 15 = .ok (.ireturn, 1) := by decide +kernel
theorem dS_surplusAt_0 : decode mS_surplusAt.2.1 0 = .ok (.aload_n 0, 1) := by decide +kernel
theorem dS_surplusAt_1 : decode mS_surplusAt.2.1 1 = .ok (.getfield 9, 3) := by decide +kernel
theorem dS_surplusAt_4 : decode mS_surplusAt.2.1 4 = .ok (.iload_n 1, 1) := by decide +kernel
theorem dS_surplusAt_5 : decode mS_surplusAt.2.1 5 = .ok (.iaload, 1) := by decide +kernel
theorem dS_surplusAt_6 : decode mS_surplusAt.2.1 6 = .ok (.aload_n 0, 1) := by decide +kernel
theorem dS_surplusAt_7 : decode mS_surplusAt.2.1 7 = .ok (.getfield 15, 3) := by decide +kernel
theorem dS_surplusAt_10 : decode mS_surplusAt.2.1 10 = .ok (.iload_n 1, 1) := by decide +kernel
theorem dS_surplusAt_11 : decode mS_surplusAt.2.1 11 = .ok (.iaload, 1) := by decide +kernel
theorem dS_surplusAt_12 : decode mS_surplusAt.2.1 12 = .ok (.isub, 1) := by decide +kernel
theorem dS_surplusAt_13 : decode mS_surplusAt.2.1 13 = .ok (.ireturn, 1) := by decide +kernel
theorem dS_choose_0 : decode mS_choose.2.1 0 = .ok (.iconst 0, 1) := by decide +kernel
theorem dS_choose_1 : decode mS_choose.2.1 1 = .ok (.istore 4, 2) := by decide +kernel
theorem dS_choose_3 : decode mS_choose.2.1 3 = .ok (.iconst 0, 1) := by decide +kernel
theorem dS_choose_4 : decode mS_choose.2.1 4 = .ok (.istore 5, 2) := by decide +kernel
theorem dS_choose_6 : decode mS_choose.2.1 6 = .ok (.iconst 0, 1) := by decide +kernel
theorem dS_choose_7 : decode mS_choose.2.1 7 = .ok (.istore 6, 2) := by decide +kernel
theorem dS_choose_9 : decode mS_choose.2.1 9 = .ok (.iconst 1, 1) := by decide +kernel
theorem dS_choose_10 : decode mS_choose.2.1 10 = .ok (.istore 7, 2) := by decide +kernel
theorem dS_choose_12 : decode mS_choose.2.1 12 = .ok (.iconst 1, 1) := by decide +kernel
theorem dS_choose_13 : decode mS_choose.2.1 13 = .ok (.istore 8, 2) := by decide +kernel
theorem dS_choose_15 : decode mS_choose.2.1 15 = .ok (.iconst 1, 1) := by decide +kernel
theorem dS_choose_16 : decode mS_choose.2.1 16 = .ok (.istore 9, 2) := by decide +kernel
theorem dS_choose_18 : decode mS_choose.2.1 18 = .ok (.iload 9, 2) := by decide +kernel
theorem dS_choose_20 : decode mS_choose.2.1 20 = .ok (.bipush (63), 2) := by decide +kernel
theorem dS_choose_22 : decode mS_choose.2.1 22 = .ok (.if_icmp .gt (117), 3) := by decide +kernel
theorem dS_choose_25 : decode mS_choose.2.1 25 = .ok (.aload_n 0, 1) := by decide +kernel
theorem dS_choose_26 : decode mS_choose.2.1 26 = .ok (.iload 9, 2) := by decide +kernel
theorem dS_choose_28 : decode mS_choose.2.1 28 = .ok (.invokevirtual 26, 3) := by decide +kernel
theorem dS_choose_31 : decode mS_choose.2.1 31 = .ok (.istore 10, 2) := by decide +kernel
theorem dS_choose_33 : decode mS_choose.2.1 33 = .ok (.aload_n 0, 1) := by decide +kernel
theorem dS_choose_34 : decode mS_choose.2.1 34 = .ok (.iload 9, 2) := by decide +kernel
theorem dS_choose_36 : decode mS_choose.2.1 36 = .ok (.invokevirtual 22, 3) := by decide +kernel
theorem dS_choose_39 : decode mS_choose.2.1 39 = .ok (.iload_n 1, 1) := by decide +kernel
theorem dS_choose_40 : decode mS_choose.2.1 40 = .ok (.if_icmp .ne (93), 3) := by decide +kernel
theorem dS_choose_43 : decode mS_choose.2.1 43 = .ok (.iload 10, 2) := by decide +kernel
theorem dS_choose_45 : decode mS_choose.2.1 45 = .ok (.invokestatic 29, 3) := by decide +kernel
theorem dS_choose_48 : decode mS_choose.2.1 48 = .ok (.iload_n 2, 1) := by decide +kernel
theorem dS_choose_49 : decode mS_choose.2.1 49 = .ok (.if_icmp .eq (6), 3) := by decide +kernel
theorem dS_choose_52 : decode mS_choose.2.1 52 = .ok (.goto (81), 3) := by decide +kernel
theorem dS_choose_55 : decode mS_choose.2.1 55 = .ok (.iload 4, 2) := by decide +kernel
theorem dS_choose_57 : decode mS_choose.2.1 57 = .ok (.ifCond .ne (8), 3) := by decide +kernel
theorem dS_choose_60 : decode mS_choose.2.1 60 = .ok (.iload 9, 2) := by decide +kernel
theorem dS_choose_62 : decode mS_choose.2.1 62 = .ok (.goto (5), 3) := by decide +kernel
theorem dS_choose_65 : decode mS_choose.2.1 65 = .ok (.iload 4, 2) := by decide +kernel
theorem dS_choose_67 : decode mS_choose.2.1 67 = .ok (.istore 4, 2) := by decide +kernel
theorem dS_choose_69 : decode mS_choose.2.1 69 = .ok (.iload 9, 2) := by decide +kernel
theorem dS_choose_71 : decode mS_choose.2.1 71 = .ok (.istore 5, 2) := by decide +kernel
theorem dS_choose_73 : decode mS_choose.2.1 73 = .ok (.iload 6, 2) := by decide +kernel
theorem dS_choose_75 : decode mS_choose.2.1 75 = .ok (.ifCond .eq (20), 3) := by decide +kernel
theorem dS_choose_78 : decode mS_choose.2.1 78 = .ok (.iload 9, 2) := by decide +kernel
theorem dS_choose_80 : decode mS_choose.2.1 80 = .ok (.iload_n 3, 1) := by decide +kernel
theorem dS_choose_81 : decode mS_choose.2.1 81 = .ok (.isub, 1) := by decide +kernel
theorem dS_choose_82 : decode mS_choose.2.1 82 = .ok (.invokestatic 29, 3) := by decide +kernel
theorem dS_choose_85 : decode mS_choose.2.1 85 = .ok (.iload 6, 2) := by decide +kernel
theorem dS_choose_87 : decode mS_choose.2.1 87 = .ok (.iload_n 3, 1) := by decide +kernel
theorem dS_choose_88 : decode mS_choose.2.1 88 = .ok (.isub, 1) := by decide +kernel
theorem dS_choose_89 : decode mS_choose.2.1 89 = .ok (.invokestatic 29, 3) := by decide +kernel
theorem dS_choose_92 : decode mS_choose.2.1 92 = .ok (.if_icmp .ge (7), 3) := by decide +kernel
theorem dS_choose_95 : decode mS_choose.2.1 95 = .ok (.iload 9, 2) := by decide +kernel
theorem dS_choose_97 : decode mS_choose.2.1 97 = .ok (.istore 6, 2) := by decide +kernel
theorem dS_choose_99 : decode mS_choose.2.1 99 = .ok (.iload 7, 2) := by decide +kernel
theorem dS_choose_101 : decode mS_choose.2.1 101 = .ok (.ifCond .eq (12), 3) := by decide +kernel
theorem dS_choose_104 : decode mS_choose.2.1 104 = .ok (.iload 10, 2) := by decide +kernel
theorem dS_choose_106 : decode mS_choose.2.1 106 = .ok (.ifCond .le (7), 3) := by decide +kernel
theorem dS_choose_109 : decode mS_choose.2.1 109 = .ok (.iconst 1, 1) := by decide +kernel
theorem dS_choose_110 : decode mS_choose.2.1 110 = .ok (.goto (4), 3) := by decide +kernel
theorem dS_choose_113 : decode mS_choose.2.1 113 = .ok (.iconst 0, 1) := by decide +kernel
theorem dS_choose_114 : decode mS_choose.2.1 114 = .ok (.istore 7, 2) := by decide +kernel
theorem dS_choose_116 : decode mS_choose.2.1 116 = .ok (.iload 8, 2) := by decide +kernel
theorem dS_choose_118 : decode mS_choose.2.1 118 = .ok (.ifCond .eq (12), 3) := by decide +kernel
theorem dS_choose_121 : decode mS_choose.2.1 121 = .ok (.iload 10, 2) := by decide +kernel
theorem dS_choose_123 : decode mS_choose.2.1 123 = .ok (.ifCond .ge (7), 3) := by decide +kernel
theorem dS_choose_126 : decode mS_choose.2.1 126 = .ok (.iconst 1, 1) := by decide +kernel
theorem dS_choose_127 : decode mS_choose.2.1 127 = .ok (.goto (4), 3) := by decide +kernel
theorem dS_choose_130 : decode mS_choose.2.1 130 = .ok (.iconst 0, 1) := by decide +kernel
theorem dS_choose_131 : decode mS_choose.2.1 131 = .ok (.istore 8, 2) := by decide +kernel
theorem dS_choose_133 : decode mS_choose.2.1 133 = .ok (.iinc 9 (1), 3) := by decide +kernel
theorem dS_choose_136 : decode mS_choose.2.1 136 = .ok (.goto (-118), 3) := by decide +kernel
theorem dS_choose_139 : decode mS_choose.2.1 139 = .ok (.iload 7, 2) := by decide +kernel
theorem dS_choose_141 : decode mS_choose.2.1 141 = .ok (.ifCond .eq (6), 3) := by decide +kernel
theorem dS_choose_144 : decode mS_choose.2.1 144 = .ok (.iload 5, 2) := by decide +kernel
theorem dS_choose_146 : decode mS_choose.2.1 146 = .ok (.ireturn, 1) := by decide +kernel
theorem dS_choose_147 : decode mS_choose.2.1 147 = .ok (.iload 8, 2) := by decide +kernel
theorem dS_choose_149 : decode mS_choose.2.1 149 = .ok (.ifCond .eq (8), 3) := by decide +kernel
theorem dS_choose_152 : decode mS_choose.2.1 152 = .ok (.iload 4, 2) := by decide +kernel
theorem dS_choose_154 : decode mS_choose.2.1 154 = .ok (.goto (5), 3) := by decide +kernel
theorem dS_choose_157 : decode mS_choose.2.1 157 = .ok (.iload 6, 2) := by decide +kernel
theorem dS_choose_159 : decode mS_choose.2.1 159 = .ok (.ireturn, 1) := by decide +kernel
theorem dC_tradeAll_0 : decode mC_tradeAll.2.1 0 = .ok (.iconst 0, 1) := by decide +kernel
theorem dC_tradeAll_1 : decode mC_tradeAll.2.1 1 = .ok (.istore_n 3, 1) := by decide +kernel
theorem dC_tradeAll_2 : decode mC_tradeAll.2.1 2 = .ok (.iconst 0, 1) := by decide +kernel
theorem dC_tradeAll_3 : decode mC_tradeAll.2.1 3 = .ok (.istore 4, 2) := by decide +kernel
theorem dC_tradeAll_5 : decode mC_tradeAll.2.1 5 = .ok (.iload 4, 2) := by decide +kernel
theorem dC_tradeAll_7 : decode mC_tradeAll.2.1 7 = .ok (.bipush (120), 2) := by decide +kernel
theorem dC_tradeAll_9 : decode mC_tradeAll.2.1 9 = .ok (.if_icmp .ge (100), 3) := by decide +kernel
theorem dC_tradeAll_12 : decode mC_tradeAll.2.1 12 = .ok (.aload_n 1, 1) := by decide +kernel
theorem dC_tradeAll_13 : decode mC_tradeAll.2.1 13 = .ok (.getfield 188, 3) := by decide +kernel
theorem dC_tradeAll_16 : decode mC_tradeAll.2.1 16 = .ok (.getfield 140, 3) := by decide +kernel
theorem dC_tradeAll_19 : decode mC_tradeAll.2.1 19 = .ok (.astore 5, 2) := by decide +kernel
theorem dC_tradeAll_21 : decode mC_tradeAll.2.1 21 = .ok (.aload_n 1, 1) := by decide +kernel
theorem dC_tradeAll_22 : decode mC_tradeAll.2.1 22 = .ok (.getfield 195, 3) := by decide +kernel
theorem dC_tradeAll_25 : decode mC_tradeAll.2.1 25 = .ok (.getfield 140, 3) := by decide +kernel
theorem dC_tradeAll_28 : decode mC_tradeAll.2.1 28 = .ok (.astore 6, 2) := by decide +kernel
theorem dC_tradeAll_30 : decode mC_tradeAll.2.1 30 = .ok (.aload 5, 2) := by decide +kernel
theorem dC_tradeAll_32 : decode mC_tradeAll.2.1 32 = .ok (.ifnull (26), 3) := by decide +kernel
theorem dC_tradeAll_35 : decode mC_tradeAll.2.1 35 = .ok (.aload 6, 2) := by decide +kernel
theorem dC_tradeAll_37 : decode mC_tradeAll.2.1 37 = .ok (.ifnull (21), 3) := by decide +kernel
theorem dC_tradeAll_40 : decode mC_tradeAll.2.1 40 = .ok (.aload 5, 2) := by decide +kernel
theorem dC_tradeAll_42 : decode mC_tradeAll.2.1 42 = .ok (.iload_n 2, 1) := by decide +kernel
theorem dC_tradeAll_43 : decode mC_tradeAll.2.1 43 = .ok (.invokevirtual 223, 3) := by decide +kernel
theorem dC_tradeAll_46 : decode mC_tradeAll.2.1 46 = .ok (.ifCond .eq (12), 3) := by decide +kernel
theorem dC_tradeAll_49 : decode mC_tradeAll.2.1 49 = .ok (.aload 6, 2) := by decide +kernel
theorem dC_tradeAll_51 : decode mC_tradeAll.2.1 51 = .ok (.iload_n 2, 1) := by decide +kernel
theorem dC_tradeAll_52 : decode mC_tradeAll.2.1 52 = .ok (.invokevirtual 223, 3) := by decide +kernel
theorem dC_tradeAll_55 : decode mC_tradeAll.2.1 55 = .ok (.ifCond .ne (5), 3) := by decide +kernel
theorem dC_tradeAll_58 : decode mC_tradeAll.2.1 58 = .ok (.iload_n 3, 1) := by decide +kernel
theorem dC_tradeAll_59 : decode mC_tradeAll.2.1 59 = .ok (.ireturn, 1) := by decide +kernel
theorem dC_tradeAll_60 : decode mC_tradeAll.2.1 60 = .ok (.aload 5, 2) := by decide +kernel
theorem dC_tradeAll_62 : decode mC_tradeAll.2.1 62 = .ok (.getfield 107, 3) := by decide +kernel
theorem dC_tradeAll_65 : decode mC_tradeAll.2.1 65 = .ok (.aload 6, 2) := by decide +kernel
theorem dC_tradeAll_67 : decode mC_tradeAll.2.1 67 = .ok (.getfield 107, 3) := by decide +kernel
theorem dC_tradeAll_70 : decode mC_tradeAll.2.1 70 = .ok (.invokestatic 113, 3) := by decide +kernel
theorem dC_tradeAll_73 : decode mC_tradeAll.2.1 73 = .ok (.istore 7, 2) := by decide +kernel
theorem dC_tradeAll_75 : decode mC_tradeAll.2.1 75 = .ok (.aload_n 0, 1) := by decide +kernel
theorem dC_tradeAll_76 : decode mC_tradeAll.2.1 76 = .ok (.aload 5, 2) := by decide +kernel
theorem dC_tradeAll_78 : decode mC_tradeAll.2.1 78 = .ok (.aload 6, 2) := by decide +kernel
theorem dC_tradeAll_80 : decode mC_tradeAll.2.1 80 = .ok (.iload_n 2, 1) := by decide +kernel
theorem dC_tradeAll_81 : decode mC_tradeAll.2.1 81 = .ok (.iload 7, 2) := by decide +kernel
theorem dC_tradeAll_83 : decode mC_tradeAll.2.1 83 = .ok (.invokevirtual 230, 3) := by decide +kernel
theorem dC_tradeAll_86 : decode mC_tradeAll.2.1 86 = .ok (.aload_n 0, 1) := by decide +kernel
theorem dC_tradeAll_87 : decode mC_tradeAll.2.1 87 = .ok (.aload 5, 2) := by decide +kernel
theorem dC_tradeAll_89 : decode mC_tradeAll.2.1 89 = .ok (.invokevirtual 237, 3) := by decide +kernel
theorem dC_tradeAll_92 : decode mC_tradeAll.2.1 92 = .ok (.aload_n 0, 1) := by decide +kernel
theorem dC_tradeAll_93 : decode mC_tradeAll.2.1 93 = .ok (.aload 6, 2) := by decide +kernel
theorem dC_tradeAll_95 : decode mC_tradeAll.2.1 95 = .ok (.invokevirtual 237, 3) := by decide +kernel
theorem dC_tradeAll_98 : decode mC_tradeAll.2.1 98 = .ok (.iload_n 3, 1) := by decide +kernel
theorem dC_tradeAll_99 : decode mC_tradeAll.2.1 99 = .ok (.iload 7, 2) := by decide +kernel
theorem dC_tradeAll_101 : decode mC_tradeAll.2.1 101 = .ok (.iadd, 1) := by decide +kernel
theorem dC_tradeAll_102 : decode mC_tradeAll.2.1 102 = .ok (.istore_n 3, 1) := by decide +kernel
theorem dC_tradeAll_103 : decode mC_tradeAll.2.1 103 = .ok (.iinc 4 (1), 3) := by decide +kernel
theorem dC_tradeAll_106 : decode mC_tradeAll.2.1 106 = .ok (.goto (-101), 3) := by decide +kernel
theorem dC_tradeAll_109 : decode mC_tradeAll.2.1 109 = .ok (.iload_n 3, 1) := by decide +kernel
theorem dC_tradeAll_110 : decode mC_tradeAll.2.1 110 = .ok (.ireturn, 1) := by decide +kernel
theorem dC_keepOrFill_0 : decode mC_keepOrFill.2.1 0 = .ok (.aload_n 1, 1) := by decide +kernel
theorem dC_keepOrFill_1 : decode mC_keepOrFill.2.1 1 = .ok (.getfield 107, 3) := by decide +kernel
theorem dC_keepOrFill_4 : decode mC_keepOrFill.2.1 4 = .ok (.ifCond .ne (12), 3) := by decide +kernel
theorem dC_keepOrFill_7 : decode mC_keepOrFill.2.1 7 = .ok (.aload_n 0, 1) := by decide +kernel
theorem dC_keepOrFill_8 : decode mC_keepOrFill.2.1 8 = .ok (.aload_n 1, 1) := by decide +kernel
theorem dC_keepOrFill_9 : decode mC_keepOrFill.2.1 9 = .ok (.iconst 1, 1) := by decide +kernel
theorem dC_keepOrFill_10 : decode mC_keepOrFill.2.1 10 = .ok (.invokevirtual 103, 3) := by decide +kernel
theorem dC_keepOrFill_13 : decode mC_keepOrFill.2.1 13 = .ok (.goto (7), 3) := by decide +kernel
theorem dC_keepOrFill_16 : decode mC_keepOrFill.2.1 16 = .ok (.aload_n 1, 1) := by decide +kernel
theorem dC_keepOrFill_17 : decode mC_keepOrFill.2.1 17 = .ok (.invokevirtual 213, 3) := by decide +kernel
theorem dC_keepOrFill_20 : decode mC_keepOrFill.2.1 20 = .ok (.return_, 1) := by decide +kernel
theorem dC_close_0 : decode mC_close.2.1 0 = .ok (.iload_n 1, 1) := by decide +kernel
theorem dC_close_1 : decode mC_close.2.1 1 = .ok (.invokestatic 61, 3) := by decide +kernel
theorem dC_close_4 : decode mC_close.2.1 4 = .ok (.ifCond .ne (5), 3) := by decide +kernel
theorem dC_close_7 : decode mC_close.2.1 7 = .ok (.iconst (-1), 1) := by decide +kernel
theorem dC_close_8 : decode mC_close.2.1 8 = .ok (.ireturn, 1) := by decide +kernel
theorem dC_close_9 : decode mC_close.2.1 9 = .ok (.aload_n 0, 1) := by decide +kernel
theorem dC_close_10 : decode mC_close.2.1 10 = .ok (.getfield 17, 3) := by decide +kernel
theorem dC_close_13 : decode mC_close.2.1 13 = .ok (.iload_n 1, 1) := by decide +kernel
theorem dC_close_14 : decode mC_close.2.1 14 = .ok (.aaload, 1) := by decide +kernel
theorem dC_close_15 : decode mC_close.2.1 15 = .ok (.getfield 74, 3) := by decide +kernel
theorem dC_close_18 : decode mC_close.2.1 18 = .ok (.ifCond .ne (6), 3) := by decide +kernel
theorem dC_close_21 : decode mC_close.2.1 21 = .ok (.bipush (-3), 2) := by decide +kernel
theorem dC_close_23 : decode mC_close.2.1 23 = .ok (.ireturn, 1) := by decide +kernel
theorem dC_close_24 : decode mC_close.2.1 24 = .ok (.aload_n 0, 1) := by decide +kernel
theorem dC_close_25 : decode mC_close.2.1 25 = .ok (.getfield 17, 3) := by decide +kernel
theorem dC_close_28 : decode mC_close.2.1 28 = .ok (.iload_n 1, 1) := by decide +kernel
theorem dC_close_29 : decode mC_close.2.1 29 = .ok (.aaload, 1) := by decide +kernel
theorem dC_close_30 : decode mC_close.2.1 30 = .ok (.iconst 0, 1) := by decide +kernel
theorem dC_close_31 : decode mC_close.2.1 31 = .ok (.putfield 74, 3) := by decide +kernel
theorem dC_close_34 : decode mC_close.2.1 34 = .ok (.iconst 0, 1) := by decide +kernel
theorem dC_close_35 : decode mC_close.2.1 35 = .ok (.ireturn, 1) := by decide +kernel
theorem dC_indication_0 : decode mC_indication.2.1 0 = .ok (.iload_n 1, 1) := by decide +kernel
theorem dC_indication_1 : decode mC_indication.2.1 1 = .ok (.invokestatic 61, 3) := by decide +kernel
theorem dC_indication_4 : decode mC_indication.2.1 4 = .ok (.ifCond .ne (5), 3) := by decide +kernel
theorem dC_indication_7 : decode mC_indication.2.1 7 = .ok (.iconst (-1), 1) := by decide +kernel
theorem dC_indication_8 : decode mC_indication.2.1 8 = .ok (.ireturn, 1) := by decide +kernel
theorem dC_indication_9 : decode mC_indication.2.1 9 = .ok (.aload_n 0, 1) := by decide +kernel
theorem dC_indication_10 : decode mC_indication.2.1 10 = .ok (.getfield 37, 3) := by decide +kernel
theorem dC_indication_13 : decode mC_indication.2.1 13 = .ok (.aload_n 0, 1) := by decide +kernel
theorem dC_indication_14 : decode mC_indication.2.1 14 = .ok (.getfield 17, 3) := by decide +kernel
theorem dC_indication_17 : decode mC_indication.2.1 17 = .ok (.iload_n 1, 1) := by decide +kernel
theorem dC_indication_18 : decode mC_indication.2.1 18 = .ok (.aaload, 1) := by decide +kernel
theorem dC_indication_19 : decode mC_indication.2.1 19 = .ok (.invokevirtual 119, 3) := by decide +kernel
theorem dC_indication_22 : decode mC_indication.2.1 22 = .ok (.istore_n 3, 1) := by decide +kernel
theorem dC_indication_23 : decode mC_indication.2.1 23 = .ok (.iload_n 3, 1) := by decide +kernel
theorem dC_indication_24 : decode mC_indication.2.1 24 = .ok (.ifCond .ne (6), 3) := by decide +kernel
theorem dC_indication_27 : decode mC_indication.2.1 27 = .ok (.bipush (-6), 2) := by decide +kernel
theorem dC_indication_29 : decode mC_indication.2.1 29 = .ok (.ireturn, 1) := by decide +kernel
theorem dC_indication_30 : decode mC_indication.2.1 30 = .ok (.iload_n 2, 1) := by decide +kernel
theorem dC_indication_31 : decode mC_indication.2.1 31 = .ok (.tableswitch (45) (0) (2) #[(25), (27), (36)], 25) := by decide +kernel
theorem dC_indication_56 : decode mC_indication.2.1 56 = .ok (.iload_n 3, 1) := by decide +kernel
theorem dC_indication_57 : decode mC_indication.2.1 57 = .ok (.ireturn, 1) := by decide +kernel
theorem dC_indication_58 : decode mC_indication.2.1 58 = .ok (.aload_n 0, 1) := by decide +kernel
theorem dC_indication_59 : decode mC_indication.2.1 59 = .ok (.getfield 37, 3) := by decide +kernel
theorem dC_indication_62 : decode mC_indication.2.1 62 = .ok (.iload_n 3, 1) := by decide +kernel
theorem dC_indication_63 : decode mC_indication.2.1 63 = .ok (.invokevirtual 127, 3) := by decide +kernel
theorem dC_indication_66 : decode mC_indication.2.1 66 = .ok (.ireturn, 1) := by decide +kernel
theorem dC_indication_67 : decode mC_indication.2.1 67 = .ok (.aload_n 0, 1) := by decide +kernel
theorem dC_indication_68 : decode mC_indication.2.1 68 = .ok (.getfield 37, 3) := by decide +kernel
theorem dC_indication_71 : decode mC_indication.2.1 71 = .ok (.iload_n 3, 1) := by decide +kernel
theorem dC_indication_72 : decode mC_indication.2.1 72 = .ok (.invokevirtual 130, 3) := by decide +kernel
theorem dC_indication_75 : decode mC_indication.2.1 75 = .ok (.ireturn, 1) := by decide +kernel
theorem dC_indication_76 : decode mC_indication.2.1 76 = .ok (.iconst (-1), 1) := by decide +kernel
theorem dC_indication_77 : decode mC_indication.2.1 77 = .ok (.ireturn, 1) := by decide +kernel
theorem dC_best_0 : decode mC_best.2.1 0 = .ok (.iload_n 1, 1) := by decide +kernel
theorem dC_best_1 : decode mC_best.2.1 1 = .ok (.invokestatic 61, 3) := by decide +kernel
theorem dC_best_4 : decode mC_best.2.1 4 = .ok (.ifCond .eq (10), 3) := by decide +kernel
theorem dC_best_7 : decode mC_best.2.1 7 = .ok (.iload_n 2, 1) := by decide +kernel
theorem dC_best_8 : decode mC_best.2.1 8 = .ok (.invokestatic 133, 3) := by decide +kernel
theorem dC_best_11 : decode mC_best.2.1 11 = .ok (.ifCond .ne (5), 3) := by decide +kernel
theorem dC_best_14 : decode mC_best.2.1 14 = .ok (.iconst (-1), 1) := by decide +kernel
theorem dC_best_15 : decode mC_best.2.1 15 = .ok (.ireturn, 1) := by decide +kernel
theorem dC_best_16 : decode mC_best.2.1 16 = .ok (.aload_n 0, 1) := by decide +kernel
theorem dC_best_17 : decode mC_best.2.1 17 = .ok (.getfield 17, 3) := by decide +kernel
theorem dC_best_20 : decode mC_best.2.1 20 = .ok (.iload_n 1, 1) := by decide +kernel
theorem dC_best_21 : decode mC_best.2.1 21 = .ok (.aaload, 1) := by decide +kernel
theorem dC_best_22 : decode mC_best.2.1 22 = .ok (.iload_n 2, 1) := by decide +kernel
theorem dC_best_23 : decode mC_best.2.1 23 = .ok (.invokevirtual 136, 3) := by decide +kernel
theorem dC_best_26 : decode mC_best.2.1 26 = .ok (.getfield 140, 3) := by decide +kernel
theorem dC_best_29 : decode mC_best.2.1 29 = .ok (.astore_n 3, 1) := by decide +kernel
theorem dC_best_30 : decode mC_best.2.1 30 = .ok (.aload_n 3, 1) := by decide +kernel
theorem dC_best_31 : decode mC_best.2.1 31 = .ok (.ifnonnull (8), 3) := by decide +kernel
theorem dC_best_34 : decode mC_best.2.1 34 = .ok (.bipush (-6), 2) := by decide +kernel
theorem dC_best_36 : decode mC_best.2.1 36 = .ok (.goto (7), 3) := by decide +kernel
theorem dC_best_39 : decode mC_best.2.1 39 = .ok (.aload_n 3, 1) := by decide +kernel
theorem dC_best_40 : decode mC_best.2.1 40 = .ok (.getfield 146, 3) := by decide +kernel
theorem dC_best_43 : decode mC_best.2.1 43 = .ok (.ireturn, 1) := by decide +kernel
theorem dC_isSide_0 : decode mC_isSide.2.1 0 = .ok (.iload_n 0, 1) := by decide +kernel
theorem dC_isSide_1 : decode mC_isSide.2.1 1 = .ok (.ifCond .eq (8), 3) := by decide +kernel
theorem dC_isSide_4 : decode mC_isSide.2.1 4 = .ok (.iload_n 0, 1) := by decide +kernel
theorem dC_isSide_5 : decode mC_isSide.2.1 5 = .ok (.iconst 1, 1) := by decide +kernel
theorem dC_isSide_6 : decode mC_isSide.2.1 6 = .ok (.if_icmp .ne (7), 3) := by decide +kernel
theorem dC_isSide_9 : decode mC_isSide.2.1 9 = .ok (.iconst 1, 1) := by decide +kernel
theorem dC_isSide_10 : decode mC_isSide.2.1 10 = .ok (.goto (4), 3) := by decide +kernel
theorem dC_isSide_13 : decode mC_isSide.2.1 13 = .ok (.iconst 0, 1) := by decide +kernel
theorem dC_isSide_14 : decode mC_isSide.2.1 14 = .ok (.ireturn, 1) := by decide +kernel
theorem dC_depth_0 : decode mC_depth.2.1 0 = .ok (.iload_n 1, 1) := by decide +kernel
theorem dC_depth_1 : decode mC_depth.2.1 1 = .ok (.invokestatic 61, 3) := by decide +kernel
theorem dC_depth_4 : decode mC_depth.2.1 4 = .ok (.ifCond .eq (17), 3) := by decide +kernel
theorem dC_depth_7 : decode mC_depth.2.1 7 = .ok (.iload_n 2, 1) := by decide +kernel
theorem dC_depth_8 : decode mC_depth.2.1 8 = .ok (.invokestatic 133, 3) := by decide +kernel
theorem dC_depth_11 : decode mC_depth.2.1 11 = .ok (.ifCond .eq (10), 3) := by decide +kernel
theorem dC_depth_14 : decode mC_depth.2.1 14 = .ok (.iload_n 3, 1) := by decide +kernel
theorem dC_depth_15 : decode mC_depth.2.1 15 = .ok (.invokestatic 71, 3) := by decide +kernel
theorem dC_depth_18 : decode mC_depth.2.1 18 = .ok (.ifCond .ne (5), 3) := by decide +kernel
theorem dC_depth_21 : decode mC_depth.2.1 21 = .ok (.iconst (-1), 1) := by decide +kernel
theorem dC_depth_22 : decode mC_depth.2.1 22 = .ok (.ireturn, 1) := by decide +kernel
theorem dC_depth_23 : decode mC_depth.2.1 23 = .ok (.aload_n 0, 1) := by decide +kernel
theorem dC_depth_24 : decode mC_depth.2.1 24 = .ok (.getfield 17, 3) := by decide +kernel
theorem dC_depth_27 : decode mC_depth.2.1 27 = .ok (.iload_n 1, 1) := by decide +kernel
theorem dC_depth_28 : decode mC_depth.2.1 28 = .ok (.aaload, 1) := by decide +kernel
theorem dC_depth_29 : decode mC_depth.2.1 29 = .ok (.iload_n 2, 1) := by decide +kernel
theorem dC_depth_30 : decode mC_depth.2.1 30 = .ok (.invokevirtual 136, 3) := by decide +kernel
theorem dC_depth_33 : decode mC_depth.2.1 33 = .ok (.iload_n 3, 1) := by decide +kernel
theorem dC_depth_34 : decode mC_depth.2.1 34 = .ok (.aconst_null, 1) := by decide +kernel
theorem dC_depth_35 : decode mC_depth.2.1 35 = .ok (.invokevirtual 149, 3) := by decide +kernel
theorem dC_depth_38 : decode mC_depth.2.1 38 = .ok (.ireturn, 1) := by decide +kernel
theorem dD_shownInQueue_0 : decode mD_shownInQueue.2.1 0 = .ok (.iconst 0, 1) := by decide +kernel
theorem dD_shownInQueue_1 : decode mD_shownInQueue.2.1 1 = .ok (.istore_n 3, 1) := by decide +kernel
theorem dD_shownInQueue_2 : decode mD_shownInQueue.2.1 2 = .ok (.aload_n 0, 1) := by decide +kernel
theorem dD_shownInQueue_3 : decode mD_shownInQueue.2.1 3 = .ok (.getfield 9, 3) := by decide +kernel
theorem dD_shownInQueue_6 : decode mD_shownInQueue.2.1 6 = .ok (.astore 4, 2) := by decide +kernel
theorem dD_shownInQueue_8 : decode mD_shownInQueue.2.1 8 = .ok (.aload 4, 2) := by decide +kernel
theorem dD_shownInQueue_10 : decode mD_shownInQueue.2.1 10 = .ok (.ifnull (36), 3) := by decide +kernel
theorem dD_shownInQueue_13 : decode mD_shownInQueue.2.1 13 = .ok (.aload 4, 2) := by decide +kernel
theorem dD_shownInQueue_15 : decode mD_shownInQueue.2.1 15 = .ok (.aload_n 2, 1) := by decide +kernel
theorem dD_shownInQueue_16 : decode mD_shownInQueue.2.1 16 = .ok (.if_acmp .eq (30), 3) := by decide +kernel
theorem dD_shownInQueue_19 : decode mD_shownInQueue.2.1 19 = .ok (.aload 4, 2) := by decide +kernel
theorem dD_shownInQueue_21 : decode mD_shownInQueue.2.1 21 = .ok (.getfield 35, 3) := by decide +kernel
theorem dD_shownInQueue_24 : decode mD_shownInQueue.2.1 24 = .ok (.iload_n 1, 1) := by decide +kernel
theorem dD_shownInQueue_25 : decode mD_shownInQueue.2.1 25 = .ok (.if_icmp .ne (11), 3) := by decide +kernel
theorem dD_shownInQueue_28 : decode mD_shownInQueue.2.1 28 = .ok (.iload_n 3, 1) := by decide +kernel
theorem dD_shownInQueue_29 : decode mD_shownInQueue.2.1 29 = .ok (.aload 4, 2) := by decide +kernel
theorem dD_shownInQueue_31 : decode mD_shownInQueue.2.1 31 = .ok (.getfield 42, 3) := by decide +kernel
theorem dD_shownInQueue_34 : decode mD_shownInQueue.2.1 34 = .ok (.iadd, 1) := by decide +kernel
theorem dD_shownInQueue_35 : decode mD_shownInQueue.2.1 35 = .ok (.istore_n 3, 1) := by decide +kernel
theorem dD_shownInQueue_36 : decode mD_shownInQueue.2.1 36 = .ok (.aload 4, 2) := by decide +kernel
theorem dD_shownInQueue_38 : decode mD_shownInQueue.2.1 38 = .ok (.getfield 19, 3) := by decide +kernel
theorem dD_shownInQueue_41 : decode mD_shownInQueue.2.1 41 = .ok (.astore 4, 2) := by decide +kernel
theorem dD_shownInQueue_43 : decode mD_shownInQueue.2.1 43 = .ok (.goto (-35), 3) := by decide +kernel
theorem dD_shownInQueue_46 : decode mD_shownInQueue.2.1 46 = .ok (.iload_n 3, 1) := by decide +kernel
theorem dD_shownInQueue_47 : decode mD_shownInQueue.2.1 47 = .ok (.ireturn, 1) := by decide +kernel
theorem dC_ahead_0 : decode mC_ahead.2.1 0 = .ok (.aload_n 0, 1) := by decide +kernel
theorem dC_ahead_1 : decode mC_ahead.2.1 1 = .ok (.iload_n 1, 1) := by decide +kernel
theorem dC_ahead_2 : decode mC_ahead.2.1 2 = .ok (.invokevirtual 153, 3) := by decide +kernel
theorem dC_ahead_5 : decode mC_ahead.2.1 5 = .ok (.astore_n 2, 1) := by decide +kernel
theorem dC_ahead_6 : decode mC_ahead.2.1 6 = .ok (.aload_n 2, 1) := by decide +kernel
theorem dC_ahead_7 : decode mC_ahead.2.1 7 = .ok (.ifnull (10), 3) := by decide +kernel
theorem dC_ahead_10 : decode mC_ahead.2.1 10 = .ok (.aload_n 2, 1) := by decide +kernel
theorem dC_ahead_11 : decode mC_ahead.2.1 11 = .ok (.getfield 157, 3) := by decide +kernel
theorem dC_ahead_14 : decode mC_ahead.2.1 14 = .ok (.ifCond .eq (6), 3) := by decide +kernel
theorem dC_ahead_17 : decode mC_ahead.2.1 17 = .ok (.bipush (-6), 2) := by decide +kernel
theorem dC_ahead_19 : decode mC_ahead.2.1 19 = .ok (.ireturn, 1) := by decide +kernel
theorem dC_ahead_20 : decode mC_ahead.2.1 20 = .ok (.aload_n 0, 1) := by decide +kernel
theorem dC_ahead_21 : decode mC_ahead.2.1 21 = .ok (.getfield 17, 3) := by decide +kernel
theorem dC_ahead_24 : decode mC_ahead.2.1 24 = .ok (.aload_n 2, 1) := by decide +kernel
theorem dC_ahead_25 : decode mC_ahead.2.1 25 = .ok (.getfield 160, 3) := by decide +kernel
theorem dC_ahead_28 : decode mC_ahead.2.1 28 = .ok (.aaload, 1) := by decide +kernel
theorem dC_ahead_29 : decode mC_ahead.2.1 29 = .ok (.aload_n 2, 1) := by decide +kernel
theorem dC_ahead_30 : decode mC_ahead.2.1 30 = .ok (.getfield 163, 3) := by decide +kernel
theorem dC_ahead_33 : decode mC_ahead.2.1 33 = .ok (.invokevirtual 136, 3) := by decide +kernel
theorem dC_ahead_36 : decode mC_ahead.2.1 36 = .ok (.aload_n 2, 1) := by decide +kernel
theorem dC_ahead_37 : decode mC_ahead.2.1 37 = .ok (.getfield 146, 3) := by decide +kernel
theorem dC_ahead_40 : decode mC_ahead.2.1 40 = .ok (.aload_n 2, 1) := by decide +kernel
theorem dC_ahead_41 : decode mC_ahead.2.1 41 = .ok (.invokevirtual 149, 3) := by decide +kernel
theorem dC_ahead_44 : decode mC_ahead.2.1 44 = .ok (.ireturn, 1) := by decide +kernel
theorem dC_left_0 : decode mC_left.2.1 0 = .ok (.aload_n 0, 1) := by decide +kernel
theorem dC_left_1 : decode mC_left.2.1 1 = .ok (.iload_n 1, 1) := by decide +kernel
theorem dC_left_2 : decode mC_left.2.1 2 = .ok (.invokevirtual 153, 3) := by decide +kernel
theorem dC_left_5 : decode mC_left.2.1 5 = .ok (.astore_n 2, 1) := by decide +kernel
theorem dC_left_6 : decode mC_left.2.1 6 = .ok (.aload_n 2, 1) := by decide +kernel
theorem dC_left_7 : decode mC_left.2.1 7 = .ok (.ifnonnull (7), 3) := by decide +kernel
theorem dC_left_10 : decode mC_left.2.1 10 = .ok (.iconst (-1), 1) := by decide +kernel
theorem dC_left_11 : decode mC_left.2.1 11 = .ok (.goto (7), 3) := by decide +kernel
theorem dC_left_14 : decode mC_left.2.1 14 = .ok (.aload_n 2, 1) := by decide +kernel
theorem dC_left_15 : decode mC_left.2.1 15 = .ok (.getfield 107, 3) := by decide +kernel
theorem dC_left_18 : decode mC_left.2.1 18 = .ok (.ireturn, 1) := by decide +kernel
theorem dC_state_0 : decode mC_state.2.1 0 = .ok (.aload_n 0, 1) := by decide +kernel
theorem dC_state_1 : decode mC_state.2.1 1 = .ok (.iload_n 1, 1) := by decide +kernel
theorem dC_state_2 : decode mC_state.2.1 2 = .ok (.invokevirtual 153, 3) := by decide +kernel
theorem dC_state_5 : decode mC_state.2.1 5 = .ok (.astore_n 2, 1) := by decide +kernel
theorem dC_state_6 : decode mC_state.2.1 6 = .ok (.aload_n 2, 1) := by decide +kernel
theorem dC_state_7 : decode mC_state.2.1 7 = .ok (.ifnonnull (7), 3) := by decide +kernel
theorem dC_state_10 : decode mC_state.2.1 10 = .ok (.iconst (-1), 1) := by decide +kernel
theorem dC_state_11 : decode mC_state.2.1 11 = .ok (.goto (7), 3) := by decide +kernel
theorem dC_state_14 : decode mC_state.2.1 14 = .ok (.aload_n 2, 1) := by decide +kernel
theorem dC_state_15 : decode mC_state.2.1 15 = .ok (.getfield 157, 3) := by decide +kernel
theorem dC_state_18 : decode mC_state.2.1 18 = .ok (.ireturn, 1) := by decide +kernel
theorem dC_trades_0 : decode mC_trades.2.1 0 = .ok (.aload_n 0, 1) := by decide +kernel
theorem dC_trades_1 : decode mC_trades.2.1 1 = .ok (.getfield 30, 3) := by decide +kernel
theorem dC_trades_4 : decode mC_trades.2.1 4 = .ok (.getfield 166, 3) := by decide +kernel
theorem dC_trades_7 : decode mC_trades.2.1 7 = .ok (.ireturn, 1) := by decide +kernel
theorem dC_trade_0 : decode mC_trade.2.1 0 = .ok (.iload_n 2, 1) := by decide +kernel
theorem dC_trade_1 : decode mC_trade.2.1 1 = .ok (.ifCond .lt (8), 3) := by decide +kernel
theorem dC_trade_4 : decode mC_trade.2.1 4 = .ok (.iload_n 2, 1) := by decide +kernel
theorem dC_trade_5 : decode mC_trade.2.1 5 = .ok (.iconst 4, 1) := by decide +kernel
theorem dC_trade_6 : decode mC_trade.2.1 6 = .ok (.if_icmp .lt (5), 3) := by decide +kernel
theorem dC_trade_9 : decode mC_trade.2.1 9 = .ok (.iconst (-1), 1) := by decide +kernel
theorem dC_trade_10 : decode mC_trade.2.1 10 = .ok (.ireturn, 1) := by decide +kernel
theorem dC_trade_11 : decode mC_trade.2.1 11 = .ok (.aload_n 0, 1) := by decide +kernel
theorem dC_trade_12 : decode mC_trade.2.1 12 = .ok (.getfield 30, 3) := by decide +kernel
theorem dC_trade_15 : decode mC_trade.2.1 15 = .ok (.iload_n 1, 1) := by decide +kernel
theorem dC_trade_16 : decode mC_trade.2.1 16 = .ok (.invokevirtual 169, 3) := by decide +kernel
theorem dC_trade_19 : decode mC_trade.2.1 19 = .ok (.ifCond .eq (15), 3) := by decide +kernel
theorem dC_trade_22 : decode mC_trade.2.1 22 = .ok (.aload_n 0, 1) := by decide +kernel
theorem dC_trade_23 : decode mC_trade.2.1 23 = .ok (.getfield 30, 3) := by decide +kernel
theorem dC_trade_26 : decode mC_trade.2.1 26 = .ok (.iload_n 1, 1) := by decide +kernel
theorem dC_trade_27 : decode mC_trade.2.1 27 = .ok (.iload_n 2, 1) := by decide +kernel
theorem dC_trade_28 : decode mC_trade.2.1 28 = .ok (.invokevirtual 172, 3) := by decide +kernel
theorem dC_trade_31 : decode mC_trade.2.1 31 = .ok (.goto (5), 3) := by decide +kernel
theorem dC_trade_34 : decode mC_trade.2.1 34 = .ok (.bipush (-6), 2) := by decide +kernel
theorem dC_trade_36 : decode mC_trade.2.1 36 = .ok (.ireturn, 1) := by decide +kernel
theorem dT_holds_0 : decode mT_holds.2.1 0 = .ok (.iload_n 1, 1) := by decide +kernel
theorem dT_holds_1 : decode mT_holds.2.1 1 = .ok (.ifCond .lt (26), 3) := by decide +kernel
theorem dT_holds_4 : decode mT_holds.2.1 4 = .ok (.iload_n 1, 1) := by decide +kernel
theorem dT_holds_5 : decode mT_holds.2.1 5 = .ok (.aload_n 0, 1) := by decide +kernel
theorem dT_holds_6 : decode mT_holds.2.1 6 = .ok (.getfield 15, 3) := by decide +kernel
theorem dT_holds_9 : decode mT_holds.2.1 9 = .ok (.if_icmp .ge (18), 3) := by decide +kernel
theorem dT_holds_12 : decode mT_holds.2.1 12 = .ok (.iload_n 1, 1) := by decide +kernel
theorem dT_holds_13 : decode mT_holds.2.1 13 = .ok (.aload_n 0, 1) := by decide +kernel
theorem dT_holds_14 : decode mT_holds.2.1 14 = .ok (.getfield 15, 3) := by decide +kernel
theorem dT_holds_17 : decode mT_holds.2.1 17 = .ok (.bipush (100), 2) := by decide +kernel
theorem dT_holds_19 : decode mT_holds.2.1 19 = .ok (.isub, 1) := by decide +kernel
theorem dT_holds_20 : decode mT_holds.2.1 20 = .ok (.if_icmp .lt (7), 3) := by decide +kernel
theorem dT_holds_23 : decode mT_holds.2.1 23 = .ok (.iconst 1, 1) := by decide +kernel
theorem dT_holds_24 : decode mT_holds.2.1 24 = .ok (.goto (4), 3) := by decide +kernel
theorem dT_holds_27 : decode mT_holds.2.1 27 = .ok (.iconst 0, 1) := by decide +kernel
theorem dT_holds_28 : decode mT_holds.2.1 28 = .ok (.ireturn, 1) := by decide +kernel
theorem dT_read_0 : decode mT_read.2.1 0 = .ok (.aload_n 0, 1) := by decide +kernel
theorem dT_read_1 : decode mT_read.2.1 1 = .ok (.getfield 9, 3) := by decide +kernel
theorem dT_read_4 : decode mT_read.2.1 4 = .ok (.iload_n 1, 1) := by decide +kernel
theorem dT_read_5 : decode mT_read.2.1 5 = .ok (.bipush (100), 2) := by decide +kernel
theorem dT_read_7 : decode mT_read.2.1 7 = .ok (.irem, 1) := by decide +kernel
theorem dT_read_8 : decode mT_read.2.1 8 = .ok (.iconst 4, 1) := by decide +kernel
theorem dT_read_9 : decode mT_read.2.1 9 = .ok (.imul, 1) := by decide +kernel
theorem dT_read_10 : decode mT_read.2.1 10 = .ok (.iload_n 2, 1) := by decide +kernel
theorem dT_read_11 : decode mT_read.2.1 11 = .ok (.iadd, 1) := by decide +kernel
theorem dT_read_12 : decode mT_read.2.1 12 = .ok (.iaload, 1) := by decide +kernel
theorem dT_read_13 : decode mT_read.2.1 13 = .ok (.ireturn, 1) := by decide +kernel
theorem dC_position_0 : decode mC_position.2.1 0 = .ok (.iload_n 1, 1) := by decide +kernel
theorem dC_position_1 : decode mC_position.2.1 1 = .ok (.invokestatic 47, 3) := by decide +kernel
theorem dC_position_4 : decode mC_position.2.1 4 = .ok (.ifCond .eq (24), 3) := by decide +kernel
theorem dC_position_7 : decode mC_position.2.1 7 = .ok (.iload_n 2, 1) := by decide +kernel
theorem dC_position_8 : decode mC_position.2.1 8 = .ok (.invokestatic 61, 3) := by decide +kernel
theorem dC_position_11 : decode mC_position.2.1 11 = .ok (.ifCond .eq (17), 3) := by decide +kernel
theorem dC_position_14 : decode mC_position.2.1 14 = .ok (.aload_n 0, 1) := by decide +kernel
theorem dC_position_15 : decode mC_position.2.1 15 = .ok (.getfield 11, 3) := by decide +kernel
theorem dC_position_18 : decode mC_position.2.1 18 = .ok (.iload_n 1, 1) := by decide +kernel
theorem dC_position_19 : decode mC_position.2.1 19 = .ok (.aaload, 1) := by decide +kernel
theorem dC_position_20 : decode mC_position.2.1 20 = .ok (.getfield 175, 3) := by decide +kernel
theorem dC_position_23 : decode mC_position.2.1 23 = .ok (.iload_n 2, 1) := by decide +kernel
theorem dC_position_24 : decode mC_position.2.1 24 = .ok (.iaload, 1) := by decide +kernel
theorem dC_position_25 : decode mC_position.2.1 25 = .ok (.goto (4), 3) := by decide +kernel
theorem dC_position_28 : decode mC_position.2.1 28 = .ok (.iconst 0, 1) := by decide +kernel
theorem dC_position_29 : decode mC_position.2.1 29 = .ok (.ireturn, 1) := by decide +kernel
theorem dC_money_0 : decode mC_money.2.1 0 = .ok (.iload_n 1, 1) := by decide +kernel
theorem dC_money_1 : decode mC_money.2.1 1 = .ok (.invokestatic 47, 3) := by decide +kernel
theorem dC_money_4 : decode mC_money.2.1 4 = .ok (.ifCond .eq (15), 3) := by decide +kernel
theorem dC_money_7 : decode mC_money.2.1 7 = .ok (.aload_n 0, 1) := by decide +kernel
theorem dC_money_8 : decode mC_money.2.1 8 = .ok (.getfield 11, 3) := by decide +kernel
theorem dC_money_11 : decode mC_money.2.1 11 = .ok (.iload_n 1, 1) := by decide +kernel
theorem dC_money_12 : decode mC_money.2.1 12 = .ok (.aaload, 1) := by decide +kernel
theorem dC_money_13 : decode mC_money.2.1 13 = .ok (.getfield 53, 3) := by decide +kernel
theorem dC_money_16 : decode mC_money.2.1 16 = .ok (.goto (4), 3) := by decide +kernel
theorem dC_money_19 : decode mC_money.2.1 19 = .ok (.lconst 0, 1) := by decide +kernel
theorem dC_money_20 : decode mC_money.2.1 20 = .ok (.lreturn, 1) := by decide +kernel
theorem dC_owed_0 : decode mC_owed.2.1 0 = .ok (.iload_n 1, 1) := by decide +kernel
theorem dC_owed_1 : decode mC_owed.2.1 1 = .ok (.invokestatic 47, 3) := by decide +kernel
theorem dC_owed_4 : decode mC_owed.2.1 4 = .ok (.ifCond .eq (15), 3) := by decide +kernel
theorem dC_owed_7 : decode mC_owed.2.1 7 = .ok (.aload_n 0, 1) := by decide +kernel
theorem dC_owed_8 : decode mC_owed.2.1 8 = .ok (.getfield 11, 3) := by decide +kernel
theorem dC_owed_11 : decode mC_owed.2.1 11 = .ok (.iload_n 1, 1) := by decide +kernel
theorem dC_owed_12 : decode mC_owed.2.1 12 = .ok (.aaload, 1) := by decide +kernel
theorem dC_owed_13 : decode mC_owed.2.1 13 = .ok (.getfield 179, 3) := by decide +kernel
theorem dC_owed_16 : decode mC_owed.2.1 16 = .ok (.goto (4), 3) := by decide +kernel
theorem dC_owed_19 : decode mC_owed.2.1 19 = .ok (.lconst 0, 1) := by decide +kernel
theorem dC_owed_20 : decode mC_owed.2.1 20 = .ok (.lreturn, 1) := by decide +kernel
theorem dC_risk_0 : decode mC_risk.2.1 0 = .ok (.iload_n 1, 1) := by decide +kernel
theorem dC_risk_1 : decode mC_risk.2.1 1 = .ok (.invokestatic 47, 3) := by decide +kernel
theorem dC_risk_4 : decode mC_risk.2.1 4 = .ok (.ifCond .eq (11), 3) := by decide +kernel
theorem dC_risk_7 : decode mC_risk.2.1 7 = .ok (.aload_n 0, 1) := by decide +kernel
theorem dC_risk_8 : decode mC_risk.2.1 8 = .ok (.iload_n 1, 1) := by decide +kernel
theorem dC_risk_9 : decode mC_risk.2.1 9 = .ok (.invokevirtual 57, 3) := by decide +kernel
theorem dC_risk_12 : decode mC_risk.2.1 12 = .ok (.goto (4), 3) := by decide +kernel
theorem dC_risk_15 : decode mC_risk.2.1 15 = .ok (.lconst 0, 1) := by decide +kernel
theorem dC_risk_16 : decode mC_risk.2.1 16 = .ok (.lreturn, 1) := by decide +kernel
theorem dC_settle_0 : decode mC_settle.2.1 0 = .ok (.iconst 0, 1) := by decide +kernel
theorem dC_settle_1 : decode mC_settle.2.1 1 = .ok (.istore_n 1, 1) := by decide +kernel
theorem dC_settle_2 : decode mC_settle.2.1 2 = .ok (.iload_n 1, 1) := by decide +kernel
theorem dC_settle_3 : decode mC_settle.2.1 3 = .ok (.iconst 2, 1) := by decide +kernel
theorem dC_settle_4 : decode mC_settle.2.1 4 = .ok (.if_icmp .ge (18), 3) := by decide +kernel
theorem dC_settle_7 : decode mC_settle.2.1 7 = .ok (.aload_n 0, 1) := by decide +kernel
theorem dC_settle_8 : decode mC_settle.2.1 8 = .ok (.getfield 17, 3) := by decide +kernel
theorem dC_settle_11 : decode mC_settle.2.1 11 = .ok (.iload_n 1, 1) := by decide +kernel
theorem dC_settle_12 : decode mC_settle.2.1 12 = .ok (.aaload, 1) := by decide +kernel
theorem dC_settle_13 : decode mC_settle.2.1 13 = .ok (.invokevirtual 182, 3) := by decide +kernel
theorem dC_settle_16 : decode mC_settle.2.1 16 = .ok (.iinc 1 (1), 3) := by decide +kernel
theorem dC_settle_19 : decode mC_settle.2.1 19 = .ok (.goto (-17), 3) := by decide +kernel
theorem dC_settle_22 : decode mC_settle.2.1 22 = .ok (.iconst 0, 1) := by decide +kernel
theorem dC_settle_23 : decode mC_settle.2.1 23 = .ok (.istore_n 1, 1) := by decide +kernel
theorem dC_settle_24 : decode mC_settle.2.1 24 = .ok (.iconst 0, 1) := by decide +kernel
theorem dC_settle_25 : decode mC_settle.2.1 25 = .ok (.istore_n 2, 1) := by decide +kernel
theorem dC_settle_26 : decode mC_settle.2.1 26 = .ok (.iload_n 2, 1) := by decide +kernel
theorem dC_settle_27 : decode mC_settle.2.1 27 = .ok (.iconst 5, 1) := by decide +kernel
theorem dC_settle_28 : decode mC_settle.2.1 28 = .ok (.if_icmp .ge (46), 3) := by decide +kernel
theorem dC_settle_31 : decode mC_settle.2.1 31 = .ok (.aload_n 0, 1) := by decide +kernel
theorem dC_settle_32 : decode mC_settle.2.1 32 = .ok (.getfield 11, 3) := by decide +kernel
theorem dC_settle_35 : decode mC_settle.2.1 35 = .ok (.iload_n 2, 1) := by decide +kernel
theorem dC_settle_36 : decode mC_settle.2.1 36 = .ok (.aaload, 1) := by decide +kernel
theorem dC_settle_37 : decode mC_settle.2.1 37 = .ok (.astore_n 3, 1) := by decide +kernel
theorem dC_settle_38 : decode mC_settle.2.1 38 = .ok (.aload_n 3, 1) := by decide +kernel
theorem dC_settle_39 : decode mC_settle.2.1 39 = .ok (.getfield 179, 3) := by decide +kernel
theorem dC_settle_42 : decode mC_settle.2.1 42 = .ok (.lconst 0, 1) := by decide +kernel
theorem dC_settle_43 : decode mC_settle.2.1 43 = .ok (.lcmp, 1) := by decide +kernel
theorem dC_settle_44 : decode mC_settle.2.1 44 = .ok (.ifCond .eq (6), 3) := by decide +kernel
theorem dC_settle_47 : decode mC_settle.2.1 47 = .ok (.iinc 1 (1), 3) := by decide +kernel
theorem dC_settle_50 : decode mC_settle.2.1 50 = .ok (.aload_n 3, 1) := by decide +kernel
theorem dC_settle_51 : decode mC_settle.2.1 51 = .ok (.dup, 1) := by decide +kernel
theorem dC_settle_52 : decode mC_settle.2.1 52 = .ok (.getfield 53, 3) := by decide +kernel
theorem dC_settle_55 : decode mC_settle.2.1 55 = .ok (.aload_n 3, 1) := by decide +kernel
theorem dC_settle_56 : decode mC_settle.2.1 56 = .ok (.getfield 179, 3) := by decide +kernel
theorem dC_settle_59 : decode mC_settle.2.1 59 = .ok (.ladd, 1) := by decide +kernel
theorem dC_settle_60 : decode mC_settle.2.1 60 = .ok (.putfield 53, 3) := by decide +kernel
theorem dC_settle_63 : decode mC_settle.2.1 63 = .ok (.aload_n 3, 1) := by decide +kernel
theorem dC_settle_64 : decode mC_settle.2.1 64 = .ok (.lconst 0, 1) := by decide +kernel
theorem dC_settle_65 : decode mC_settle.2.1 65 = .ok (.putfield 179, 3) := by decide +kernel
theorem dC_settle_68 : decode mC_settle.2.1 68 = .ok (.iinc 2 (1), 3) := by decide +kernel
theorem dC_settle_71 : decode mC_settle.2.1 71 = .ok (.goto (-45), 3) := by decide +kernel
theorem dC_settle_74 : decode mC_settle.2.1 74 = .ok (.iload_n 1, 1) := by decide +kernel
theorem dC_settle_75 : decode mC_settle.2.1 75 = .ok (.ireturn, 1) := by decide +kernel
theorem dB_endDay_0 : decode mB_endDay.2.1 0 = .ok (.aload_n 0, 1) := by decide +kernel
theorem dB_endDay_1 : decode mB_endDay.2.1 1 = .ok (.getfield 12, 3) := by decide +kernel
theorem dB_endDay_4 : decode mB_endDay.2.1 4 = .ok (.invokevirtual 59, 3) := by decide +kernel
theorem dB_endDay_7 : decode mB_endDay.2.1 7 = .ok (.aload_n 0, 1) := by decide +kernel
theorem dB_endDay_8 : decode mB_endDay.2.1 8 = .ok (.getfield 18, 3) := by decide +kernel
theorem dB_endDay_11 : decode mB_endDay.2.1 11 = .ok (.invokevirtual 59, 3) := by decide +kernel
theorem dB_endDay_14 : decode mB_endDay.2.1 14 = .ok (.aload_n 0, 1) := by decide +kernel
theorem dB_endDay_15 : decode mB_endDay.2.1 15 = .ok (.iconst 0, 1) := by decide +kernel
theorem dB_endDay_16 : decode mB_endDay.2.1 16 = .ok (.putfield 21, 3) := by decide +kernel
theorem dB_endDay_19 : decode mB_endDay.2.1 19 = .ok (.return_, 1) := by decide +kernel
theorem dD_withdrawAll_0 : decode mD_withdrawAll.2.1 0 = .ok (.aload_n 0, 1) := by decide +kernel
theorem dD_withdrawAll_1 : decode mD_withdrawAll.2.1 1 = .ok (.getfield 9, 3) := by decide +kernel
theorem dD_withdrawAll_4 : decode mD_withdrawAll.2.1 4 = .ok (.astore_n 1, 1) := by decide +kernel
theorem dD_withdrawAll_5 : decode mD_withdrawAll.2.1 5 = .ok (.aload_n 1, 1) := by decide +kernel
theorem dD_withdrawAll_6 : decode mD_withdrawAll.2.1 6 = .ok (.ifnull (16), 3) := by decide +kernel
theorem dD_withdrawAll_9 : decode mD_withdrawAll.2.1 9 = .ok (.aload_n 1, 1) := by decide +kernel
theorem dD_withdrawAll_10 : decode mD_withdrawAll.2.1 10 = .ok (.iconst 2, 1) := by decide +kernel
theorem dD_withdrawAll_11 : decode mD_withdrawAll.2.1 11 = .ok (.putfield 45, 3) := by decide +kernel
theorem dD_withdrawAll_14 : decode mD_withdrawAll.2.1 14 = .ok (.aload_n 1, 1) := by decide +kernel
theorem dD_withdrawAll_15 : decode mD_withdrawAll.2.1 15 = .ok (.getfield 19, 3) := by decide +kernel
theorem dD_withdrawAll_18 : decode mD_withdrawAll.2.1 18 = .ok (.astore_n 1, 1) := by decide +kernel
theorem dD_withdrawAll_19 : decode mD_withdrawAll.2.1 19 = .ok (.goto (-14), 3) := by decide +kernel
theorem dD_withdrawAll_22 : decode mD_withdrawAll.2.1 22 = .ok (.aload_n 0, 1) := by decide +kernel
theorem dD_withdrawAll_23 : decode mD_withdrawAll.2.1 23 = .ok (.aconst_null, 1) := by decide +kernel
theorem dD_withdrawAll_24 : decode mD_withdrawAll.2.1 24 = .ok (.putfield 9, 3) := by decide +kernel
theorem dD_withdrawAll_27 : decode mD_withdrawAll.2.1 27 = .ok (.return_, 1) := by decide +kernel
theorem dR_init_0 : decode mR_init.2.1 0 = .ok (.aload_n 0, 1) := by decide +kernel
theorem dR_init_1 : decode mR_init.2.1 1 = .ok (.invokespecial 1, 3) := by decide +kernel
theorem dR_init_4 : decode mR_init.2.1 4 = .ok (.aload_n 0, 1) := by decide +kernel
theorem dR_init_5 : decode mR_init.2.1 5 = .ok (.bipush (120), 2) := by decide +kernel
theorem dR_init_7 : decode mR_init.2.1 7 = .ok (.newarray .int, 2) := by decide +kernel
theorem dR_init_9 : decode mR_init.2.1 9 = .ok (.putfield 7, 3) := by decide +kernel
theorem dR_init_12 : decode mR_init.2.1 12 = .ok (.aload_n 0, 1) := by decide +kernel
theorem dR_init_13 : decode mR_init.2.1 13 = .ok (.bipush (120), 2) := by decide +kernel
theorem dR_init_15 : decode mR_init.2.1 15 = .ok (.newarray .int, 2) := by decide +kernel
theorem dR_init_17 : decode mR_init.2.1 17 = .ok (.putfield 13, 3) := by decide +kernel
theorem dR_init_20 : decode mR_init.2.1 20 = .ok (.aload_n 0, 1) := by decide +kernel
theorem dR_init_21 : decode mR_init.2.1 21 = .ok (.bipush (120), 2) := by decide +kernel
theorem dR_init_23 : decode mR_init.2.1 23 = .ok (.newarray .int, 2) := by decide +kernel
theorem dR_init_25 : decode mR_init.2.1 25 = .ok (.putfield 16, 3) := by decide +kernel
theorem dR_init_28 : decode mR_init.2.1 28 = .ok (.aload_n 0, 1) := by decide +kernel
theorem dR_init_29 : decode mR_init.2.1 29 = .ok (.bipush (120), 2) := by decide +kernel
theorem dR_init_31 : decode mR_init.2.1 31 = .ok (.newarray .int, 2) := by decide +kernel
theorem dR_init_33 : decode mR_init.2.1 33 = .ok (.putfield 19, 3) := by decide +kernel
theorem dR_init_36 : decode mR_init.2.1 36 = .ok (.aload_n 0, 1) := by decide +kernel
theorem dR_init_37 : decode mR_init.2.1 37 = .ok (.bipush (120), 2) := by decide +kernel
theorem dR_init_39 : decode mR_init.2.1 39 = .ok (.newarray .int, 2) := by decide +kernel
theorem dR_init_41 : decode mR_init.2.1 41 = .ok (.putfield 22, 3) := by decide +kernel
theorem dR_init_44 : decode mR_init.2.1 44 = .ok (.aload_n 0, 1) := by decide +kernel
theorem dR_init_45 : decode mR_init.2.1 45 = .ok (.bipush (120), 2) := by decide +kernel
theorem dR_init_47 : decode mR_init.2.1 47 = .ok (.newarray .int, 2) := by decide +kernel
theorem dR_init_49 : decode mR_init.2.1 49 = .ok (.putfield 25, 3) := by decide +kernel
theorem dR_init_52 : decode mR_init.2.1 52 = .ok (.aload_n 0, 1) := by decide +kernel
theorem dR_init_53 : decode mR_init.2.1 53 = .ok (.bipush (120), 2) := by decide +kernel
theorem dR_init_55 : decode mR_init.2.1 55 = .ok (.newarray .int, 2) := by decide +kernel
theorem dR_init_57 : decode mR_init.2.1 57 = .ok (.putfield 28, 3) := by decide +kernel
theorem dR_init_60 : decode mR_init.2.1 60 = .ok (.aload_n 0, 1) := by decide +kernel
theorem dR_init_61 : decode mR_init.2.1 61 = .ok (.bipush (120), 2) := by decide +kernel
theorem dR_init_63 : decode mR_init.2.1 63 = .ok (.newarray .int, 2) := by decide +kernel
theorem dR_init_65 : decode mR_init.2.1 65 = .ok (.putfield 31, 3) := by decide +kernel
theorem dR_init_68 : decode mR_init.2.1 68 = .ok (.aload_n 0, 1) := by decide +kernel
theorem dR_init_69 : decode mR_init.2.1 69 = .ok (.bipush (120), 2) := by decide +kernel
theorem dR_init_71 : decode mR_init.2.1 71 = .ok (.newarray .int, 2) := by decide +kernel
theorem dR_init_73 : decode mR_init.2.1 73 = .ok (.putfield 34, 3) := by decide +kernel
theorem dR_init_76 : decode mR_init.2.1 76 = .ok (.aload_n 0, 1) := by decide +kernel
theorem dR_init_77 : decode mR_init.2.1 77 = .ok (.iconst 5, 1) := by decide +kernel
theorem dR_init_78 : decode mR_init.2.1 78 = .ok (.newarray .long, 2) := by decide +kernel
theorem dR_init_80 : decode mR_init.2.1 80 = .ok (.putfield 37, 3) := by decide +kernel
theorem dR_init_83 : decode mR_init.2.1 83 = .ok (.aload_n 0, 1) := by decide +kernel
theorem dR_init_84 : decode mR_init.2.1 84 = .ok (.iconst 5, 1) := by decide +kernel
theorem dR_init_85 : decode mR_init.2.1 85 = .ok (.newarray .long, 2) := by decide +kernel
theorem dR_init_87 : decode mR_init.2.1 87 = .ok (.putfield 41, 3) := by decide +kernel
theorem dR_init_90 : decode mR_init.2.1 90 = .ok (.aload_n 0, 1) := by decide +kernel
theorem dR_init_91 : decode mR_init.2.1 91 = .ok (.bipush (10), 2) := by decide +kernel
theorem dR_init_93 : decode mR_init.2.1 93 = .ok (.newarray .int, 2) := by decide +kernel
theorem dR_init_95 : decode mR_init.2.1 95 = .ok (.putfield 44, 3) := by decide +kernel
theorem dR_init_98 : decode mR_init.2.1 98 = .ok (.aload_n 0, 1) := by decide +kernel
theorem dR_init_99 : decode mR_init.2.1 99 = .ok (.iconst 2, 1) := by decide +kernel
theorem dR_init_100 : decode mR_init.2.1 100 = .ok (.newarray .boolean, 2) := by decide +kernel
theorem dR_init_102 : decode mR_init.2.1 102 = .ok (.putfield 47, 3) := by decide +kernel
theorem dR_init_105 : decode mR_init.2.1 105 = .ok (.aload_n 0, 1) := by decide +kernel
theorem dR_init_106 : decode mR_init.2.1 106 = .ok (.iconst 2, 1) := by decide +kernel
theorem dR_init_107 : decode mR_init.2.1 107 = .ok (.newarray .int, 2) := by decide +kernel
theorem dR_init_109 : decode mR_init.2.1 109 = .ok (.putfield 51, 3) := by decide +kernel
theorem dR_init_112 : decode mR_init.2.1 112 = .ok (.aload_n 0, 1) := by decide +kernel
theorem dR_init_113 : decode mR_init.2.1 113 = .ok (.sipush (400), 3) := by decide +kernel
theorem dR_init_116 : decode mR_init.2.1 116 = .ok (.newarray .int, 2) := by decide +kernel
theorem dR_init_118 : decode mR_init.2.1 118 = .ok (.putfield 54, 3) := by decide +kernel
theorem dR_init_121 : decode mR_init.2.1 121 = .ok (.aload_n 0, 1) := by decide +kernel
theorem dR_init_122 : decode mR_init.2.1 122 = .ok (.getfield 51, 3) := by decide +kernel
theorem dR_init_125 : decode mR_init.2.1 125 = .ok (.iconst 0, 1) := by decide +kernel
theorem dR_init_126 : decode mR_init.2.1 126 = .ok (.bipush (32), 2) := by decide +kernel
theorem dR_init_128 : decode mR_init.2.1 128 = .ok (.iastore, 1) := by decide +kernel
theorem dR_init_129 : decode mR_init.2.1 129 = .ok (.aload_n 0, 1) := by decide +kernel
theorem dR_init_130 : decode mR_init.2.1 130 = .ok (.getfield 51, 3) := by decide +kernel
theorem dR_init_133 : decode mR_init.2.1 133 = .ok (.iconst 1, 1) := by decide +kernel
theorem dR_init_134 : decode mR_init.2.1 134 = .ok (.bipush (32), 2) := by decide +kernel
theorem dR_init_136 : decode mR_init.2.1 136 = .ok (.iastore, 1) := by decide +kernel
theorem dR_init_137 : decode mR_init.2.1 137 = .ok (.return_, 1) := by decide +kernel
theorem dR_deposit_0 : decode mR_deposit.2.1 0 = .ok (.iload_n 1, 1) := by decide +kernel
theorem dR_deposit_1 : decode mR_deposit.2.1 1 = .ok (.invokestatic 101, 3) := by decide +kernel
theorem dR_deposit_4 : decode mR_deposit.2.1 4 = .ok (.ifCond .ne (39), 3) := by decide +kernel
theorem dR_deposit_7 : decode mR_deposit.2.1 7 = .ok (.iload_n 2, 1) := by decide +kernel
theorem dR_deposit_8 : decode mR_deposit.2.1 8 = .ok (.ldc 105, 2) := by decide +kernel
theorem dR_deposit_10 : decode mR_deposit.2.1 10 = .ok (.ldc 106, 2) := by decide +kernel
theorem dR_deposit_12 : decode mR_deposit.2.1 12 = .ok (.invokestatic 98, 3) := by decide +kernel
theorem dR_deposit_15 : decode mR_deposit.2.1 15 = .ok (.ifCond .ne (28), 3) := by decide +kernel
theorem dR_deposit_18 : decode mR_deposit.2.1 18 = .ok (.iload_n 2, 1) := by decide +kernel
theorem dR_deposit_19 : decode mR_deposit.2.1 19 = .ok (.ifCond .ge (26), 3) := by decide +kernel
theorem dR_deposit_22 : decode mR_deposit.2.1 22 = .ok (.aload_n 0, 1) := by decide +kernel
theorem dR_deposit_23 : decode mR_deposit.2.1 23 = .ok (.getfield 37, 3) := by decide +kernel
theorem dR_deposit_26 : decode mR_deposit.2.1 26 = .ok (.iload_n 1, 1) := by decide +kernel
theorem dR_deposit_27 : decode mR_deposit.2.1 27 = .ok (.laload, 1) := by decide +kernel
theorem dR_deposit_28 : decode mR_deposit.2.1 28 = .ok (.iload_n 2, 1) := by decide +kernel
theorem dR_deposit_29 : decode mR_deposit.2.1 29 = .ok (.i2l, 1) := by decide +kernel
theorem dR_deposit_30 : decode mR_deposit.2.1 30 = .ok (.ladd, 1) := by decide +kernel
theorem dR_deposit_31 : decode mR_deposit.2.1 31 = .ok (.aload_n 0, 1) := by decide +kernel
theorem dR_deposit_32 : decode mR_deposit.2.1 32 = .ok (.iload_n 1, 1) := by decide +kernel
theorem dR_deposit_33 : decode mR_deposit.2.1 33 = .ok (.iconst 0, 1) := by decide +kernel
theorem dR_deposit_34 : decode mR_deposit.2.1 34 = .ok (.iconst 0, 1) := by decide +kernel
theorem dR_deposit_35 : decode mR_deposit.2.1 35 = .ok (.iconst 0, 1) := by decide +kernel
theorem dR_deposit_36 : decode mR_deposit.2.1 36 = .ok (.invokevirtual 107, 3) := by decide +kernel
theorem dR_deposit_39 : decode mR_deposit.2.1 39 = .ok (.lcmp, 1) := by decide +kernel
theorem dR_deposit_40 : decode mR_deposit.2.1 40 = .ok (.ifCond .ge (5), 3) := by decide +kernel
theorem dR_deposit_43 : decode mR_deposit.2.1 43 = .ok (.iconst 0, 1) := by decide +kernel
theorem dR_deposit_44 : decode mR_deposit.2.1 44 = .ok (.ireturn, 1) := by decide +kernel
theorem dR_deposit_45 : decode mR_deposit.2.1 45 = .ok (.aload_n 0, 1) := by decide +kernel
theorem dR_deposit_46 : decode mR_deposit.2.1 46 = .ok (.getfield 37, 3) := by decide +kernel
theorem dR_deposit_49 : decode mR_deposit.2.1 49 = .ok (.iload_n 1, 1) := by decide +kernel
theorem dR_deposit_50 : decode mR_deposit.2.1 50 = .ok (.dup2, 1) := by decide +kernel
theorem dR_deposit_51 : decode mR_deposit.2.1 51 = .ok (.laload, 1) := by decide +kernel
theorem dR_deposit_52 : decode mR_deposit.2.1 52 = .ok (.iload_n 2, 1) := by decide +kernel
theorem dR_deposit_53 : decode mR_deposit.2.1 53 = .ok (.i2l, 1) := by decide +kernel
theorem dR_deposit_54 : decode mR_deposit.2.1 54 = .ok (.ladd, 1) := by decide +kernel
theorem dR_deposit_55 : decode mR_deposit.2.1 55 = .ok (.lastore, 1) := by decide +kernel
theorem dR_deposit_56 : decode mR_deposit.2.1 56 = .ok (.iconst 1, 1) := by decide +kernel
theorem dR_deposit_57 : decode mR_deposit.2.1 57 = .ok (.ireturn, 1) := by decide +kernel
theorem dR_noMember_0 : decode mR_noMember.2.1 0 = .ok (.iload_n 0, 1) := by decide +kernel
theorem dR_noMember_1 : decode mR_noMember.2.1 1 = .ok (.iconst 0, 1) := by decide +kernel
theorem dR_noMember_2 : decode mR_noMember.2.1 2 = .ok (.iconst 4, 1) := by decide +kernel
theorem dR_noMember_3 : decode mR_noMember.2.1 3 = .ok (.invokestatic 98, 3) := by decide +kernel
theorem dR_noMember_6 : decode mR_noMember.2.1 6 = .ok (.ireturn, 1) := by decide +kernel
theorem dR_outside_0 : decode mR_outside.2.1 0 = .ok (.iload_n 0, 1) := by decide +kernel
theorem dR_outside_1 : decode mR_outside.2.1 1 = .ok (.iload_n 1, 1) := by decide +kernel
theorem dR_outside_2 : decode mR_outside.2.1 2 = .ok (.if_icmp .lt (8), 3) := by decide +kernel
theorem dR_outside_5 : decode mR_outside.2.1 5 = .ok (.iload_n 0, 1) := by decide +kernel
theorem dR_outside_6 : decode mR_outside.2.1 6 = .ok (.iload_n 2, 1) := by decide +kernel
theorem dR_outside_7 : decode mR_outside.2.1 7 = .ok (.if_icmp .le (7), 3) := by decide +kernel
theorem dR_outside_10 : decode mR_outside.2.1 10 = .ok (.iconst 1, 1) := by decide +kernel
theorem dR_outside_11 : decode mR_outside.2.1 11 = .ok (.goto (4), 3) := by decide +kernel
theorem dR_outside_14 : decode mR_outside.2.1 14 = .ok (.iconst 0, 1) := by decide +kernel
theorem dR_outside_15 : decode mR_outside.2.1 15 = .ok (.ireturn, 1) := by decide +kernel
theorem dR_riskWith_0 : decode mR_riskWith.2.1 0 = .ok (.lconst 0, 1) := by decide +kernel
theorem dR_riskWith_1 : decode mR_riskWith.2.1 1 = .ok (.lstore 5, 2) := by decide +kernel
theorem dR_riskWith_3 : decode mR_riskWith.2.1 3 = .ok (.iconst 0, 1) := by decide +kernel
theorem dR_riskWith_4 : decode mR_riskWith.2.1 4 = .ok (.istore 7, 2) := by decide +kernel
theorem dR_riskWith_6 : decode mR_riskWith.2.1 6 = .ok (.iload 7, 2) := by decide +kernel
theorem dR_riskWith_8 : decode mR_riskWith.2.1 8 = .ok (.iconst 2, 1) := by decide +kernel
theorem dR_riskWith_9 : decode mR_riskWith.2.1 9 = .ok (.if_icmp .ge (226), 3) := by decide +kernel
theorem dR_riskWith_12 : decode mR_riskWith.2.1 12 = .ok (.iload_n 2, 1) := by decide +kernel
theorem dR_riskWith_13 : decode mR_riskWith.2.1 13 = .ok (.iload 7, 2) := by decide +kernel
theorem dR_riskWith_15 : decode mR_riskWith.2.1 15 = .ok (.if_icmp .ne (13), 3) := by decide +kernel
theorem dR_riskWith_18 : decode mR_riskWith.2.1 18 = .ok (.iload_n 3, 1) := by decide +kernel
theorem dR_riskWith_19 : decode mR_riskWith.2.1 19 = .ok (.ifCond .ne (9), 3) := by decide +kernel
theorem dR_riskWith_22 : decode mR_riskWith.2.1 22 = .ok (.iload 4, 2) := by decide +kernel
theorem dR_riskWith_24 : decode mR_riskWith.2.1 24 = .ok (.i2l, 1) := by decide +kernel
theorem dR_riskWith_25 : decode mR_riskWith.2.1 25 = .ok (.goto (4), 3) := by decide +kernel
theorem dR_riskWith_28 : decode mR_riskWith.2.1 28 = .ok (.lconst 0, 1) := by decide +kernel
theorem dR_riskWith_29 : decode mR_riskWith.2.1 29 = .ok (.lstore 8, 2) := by decide +kernel
theorem dR_riskWith_31 : decode mR_riskWith.2.1 31 = .ok (.iload_n 2, 1) := by decide +kernel
theorem dR_riskWith_32 : decode mR_riskWith.2.1 32 = .ok (.iload 7, 2) := by decide +kernel
theorem dR_riskWith_34 : decode mR_riskWith.2.1 34 = .ok (.if_icmp .ne (14), 3) := by decide +kernel
theorem dR_riskWith_37 : decode mR_riskWith.2.1 37 = .ok (.iload_n 3, 1) := by decide +kernel
theorem dR_riskWith_38 : decode mR_riskWith.2.1 38 = .ok (.iconst 1, 1) := by decide +kernel
theorem dR_riskWith_39 : decode mR_riskWith.2.1 39 = .ok (.if_icmp .ne (9), 3) := by decide +kernel
theorem dR_riskWith_42 : decode mR_riskWith.2.1 42 = .ok (.iload 4, 2) := by decide +kernel
theorem dR_riskWith_44 : decode mR_riskWith.2.1 44 = .ok (.i2l, 1) := by decide +kernel
theorem dR_riskWith_45 : decode mR_riskWith.2.1 45 = .ok (.goto (4), 3) := by decide +kernel
theorem dR_riskWith_48 : decode mR_riskWith.2.1 48 = .ok (.lconst 0, 1) := by decide +kernel
theorem dR_riskWith_49 : decode mR_riskWith.2.1 49 = .ok (.lstore 10, 2) := by decide +kernel
theorem dR_riskWith_51 : decode mR_riskWith.2.1 51 = .ok (.iconst 0, 1) := by decide +kernel
theorem dR_riskWith_52 : decode mR_riskWith.2.1 52 = .ok (.istore 12, 2) := by decide +kernel
theorem dR_riskWith_54 : decode mR_riskWith.2.1 54 = .ok (.iload 12, 2) := by decide +kernel
theorem dR_riskWith_56 : decode mR_riskWith.2.1 56 = .ok (.aload_n 0, 1) := by decide +kernel
theorem dR_riskWith_57 : decode mR_riskWith.2.1 57 = .ok (.getfield 57, 3) := by decide +kernel
theorem dR_riskWith_60 : decode mR_riskWith.2.1 60 = .ok (.if_icmp .ge (97), 3) := by decide +kernel
theorem dR_riskWith_63 : decode mR_riskWith.2.1 63 = .ok (.aload_n 0, 1) := by decide +kernel
theorem dR_riskWith_64 : decode mR_riskWith.2.1 64 = .ok (.getfield 7, 3) := by decide +kernel
theorem dR_riskWith_67 : decode mR_riskWith.2.1 67 = .ok (.iload 12, 2) := by decide +kernel
theorem dR_riskWith_69 : decode mR_riskWith.2.1 69 = .ok (.iaload, 1) := by decide +kernel
theorem dR_riskWith_70 : decode mR_riskWith.2.1 70 = .ok (.iload_n 1, 1) := by decide +kernel
theorem dR_riskWith_71 : decode mR_riskWith.2.1 71 = .ok (.if_icmp .ne (80), 3) := by decide +kernel
theorem dR_riskWith_74 : decode mR_riskWith.2.1 74 = .ok (.aload_n 0, 1) := by decide +kernel
theorem dR_riskWith_75 : decode mR_riskWith.2.1 75 = .ok (.getfield 31, 3) := by decide +kernel
theorem dR_riskWith_78 : decode mR_riskWith.2.1 78 = .ok (.iload 12, 2) := by decide +kernel
theorem dR_riskWith_80 : decode mR_riskWith.2.1 80 = .ok (.iaload, 1) := by decide +kernel
theorem dR_riskWith_81 : decode mR_riskWith.2.1 81 = .ok (.ifCond .ne (70), 3) := by decide +kernel
theorem dR_riskWith_84 : decode mR_riskWith.2.1 84 = .ok (.aload_n 0, 1) := by decide +kernel
theorem dR_riskWith_85 : decode mR_riskWith.2.1 85 = .ok (.getfield 13, 3) := by decide +kernel
theorem dR_riskWith_88 : decode mR_riskWith.2.1 88 = .ok (.iload 12, 2) := by decide +kernel
theorem dR_riskWith_90 : decode mR_riskWith.2.1 90 = .ok (.iaload, 1) := by decide +kernel
theorem dR_riskWith_91 : decode mR_riskWith.2.1 91 = .ok (.iload 7, 2) := by decide +kernel
theorem dR_riskWith_93 : decode mR_riskWith.2.1 93 = .ok (.if_icmp .ne (58), 3) := by decide +kernel
theorem dR_riskWith_96 : decode mR_riskWith.2.1 96 = .ok (.lload 8, 2) := by decide +kernel
theorem dR_riskWith_98 : decode mR_riskWith.2.1 98 = .ok (.aload_n 0, 1) := by decide +kernel
theorem dR_riskWith_99 : decode mR_riskWith.2.1 99 = .ok (.getfield 16, 3) := by decide +kernel
theorem dR_riskWith_102 : decode mR_riskWith.2.1 102 = .ok (.iload 12, 2) := by decide +kernel
theorem dR_riskWith_104 : decode mR_riskWith.2.1 104 = .ok (.iaload, 1) := by decide +kernel
theorem dR_riskWith_105 : decode mR_riskWith.2.1 105 = .ok (.ifCond .ne (14), 3) := by decide +kernel
theorem dR_riskWith_108 : decode mR_riskWith.2.1 108 = .ok (.aload_n 0, 1) := by decide +kernel
theorem dR_riskWith_109 : decode mR_riskWith.2.1 109 = .ok (.getfield 25, 3) := by decide +kernel
theorem dR_riskWith_112 : decode mR_riskWith.2.1 112 = .ok (.iload 12, 2) := by decide +kernel
theorem dR_riskWith_114 : decode mR_riskWith.2.1 114 = .ok (.iaload, 1) := by decide +kernel
theorem dR_riskWith_115 : decode mR_riskWith.2.1 115 = .ok (.i2l, 1) := by decide +kernel
theorem dR_riskWith_116 : decode mR_riskWith.2.1 116 = .ok (.goto (4), 3) := by decide +kernel
theorem dR_riskWith_119 : decode mR_riskWith.2.1 119 = .ok (.lconst 0, 1) := by decide +kernel
theorem dR_riskWith_120 : decode mR_riskWith.2.1 120 = .ok (.ladd, 1) := by decide +kernel
theorem dR_riskWith_121 : decode mR_riskWith.2.1 121 = .ok (.lstore 8, 2) := by decide +kernel
theorem dR_riskWith_123 : decode mR_riskWith.2.1 123 = .ok (.lload 10, 2) := by decide +kernel
theorem dR_riskWith_125 : decode mR_riskWith.2.1 125 = .ok (.aload_n 0, 1) := by decide +kernel
theorem dR_riskWith_126 : decode mR_riskWith.2.1 126 = .ok (.getfield 16, 3) := by decide +kernel
theorem dR_riskWith_129 : decode mR_riskWith.2.1 129 = .ok (.iload 12, 2) := by decide +kernel
theorem dR_riskWith_131 : decode mR_riskWith.2.1 131 = .ok (.iaload, 1) := by decide +kernel
theorem dR_riskWith_132 : decode mR_riskWith.2.1 132 = .ok (.iconst 1, 1) := by decide +kernel
theorem dR_riskWith_133 : decode mR_riskWith.2.1 133 = .ok (.if_icmp .ne (14), 3) := by decide +kernel
theorem dR_riskWith_136 : decode mR_riskWith.2.1 136 = .ok (.aload_n 0, 1) := by decide +kernel
