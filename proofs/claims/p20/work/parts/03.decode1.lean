theorem dC_init_0 : decode mC_init.2.1 0 = .ok (.aload_n 0, 1) := by decide +kernel
theorem dC_init_1 : decode mC_init.2.1 1 = .ok (.invokespecial 1, 3) := by decide +kernel
theorem dC_init_4 : decode mC_init.2.1 4 = .ok (.aload_n 0, 1) := by decide +kernel
theorem dC_init_5 : decode mC_init.2.1 5 = .ok (.iconst 5, 1) := by decide +kernel
theorem dC_init_6 : decode mC_init.2.1 6 = .ok (.anewarray 9, 3) := by decide +kernel
theorem dC_init_9 : decode mC_init.2.1 9 = .ok (.putfield 11, 3) := by decide +kernel
theorem dC_init_12 : decode mC_init.2.1 12 = .ok (.aload_n 0, 1) := by decide +kernel
theorem dC_init_13 : decode mC_init.2.1 13 = .ok (.iconst 2, 1) := by decide +kernel
theorem dC_init_14 : decode mC_init.2.1 14 = .ok (.anewarray 15, 3) := by decide +kernel
theorem dC_init_17 : decode mC_init.2.1 17 = .ok (.putfield 17, 3) := by decide +kernel
theorem dC_init_20 : decode mC_init.2.1 20 = .ok (.aload_n 0, 1) := by decide +kernel
theorem dC_init_21 : decode mC_init.2.1 21 = .ok (.bipush (120), 2) := by decide +kernel
theorem dC_init_23 : decode mC_init.2.1 23 = .ok (.anewarray 21, 3) := by decide +kernel
theorem dC_init_26 : decode mC_init.2.1 26 = .ok (.putfield 23, 3) := by decide +kernel
theorem dC_init_29 : decode mC_init.2.1 29 = .ok (.aload_n 0, 1) := by decide +kernel
theorem dC_init_30 : decode mC_init.2.1 30 = .ok (.new 27, 3) := by decide +kernel
theorem dC_init_33 : decode mC_init.2.1 33 = .ok (.dup, 1) := by decide +kernel
theorem dC_init_34 : decode mC_init.2.1 34 = .ok (.invokespecial 29, 3) := by decide +kernel
theorem dC_init_37 : decode mC_init.2.1 37 = .ok (.putfield 30, 3) := by decide +kernel
theorem dC_init_40 : decode mC_init.2.1 40 = .ok (.aload_n 0, 1) := by decide +kernel
theorem dC_init_41 : decode mC_init.2.1 41 = .ok (.new 34, 3) := by decide +kernel
theorem dC_init_44 : decode mC_init.2.1 44 = .ok (.dup, 1) := by decide +kernel
theorem dC_init_45 : decode mC_init.2.1 45 = .ok (.invokespecial 36, 3) := by decide +kernel
theorem dC_init_48 : decode mC_init.2.1 48 = .ok (.putfield 37, 3) := by decide +kernel
theorem dC_init_51 : decode mC_init.2.1 51 = .ok (.aload_n 0, 1) := by decide +kernel
theorem dC_init_52 : decode mC_init.2.1 52 = .ok (.iconst 0, 1) := by decide +kernel
theorem dC_init_53 : decode mC_init.2.1 53 = .ok (.putfield 41, 3) := by decide +kernel
theorem dC_init_56 : decode mC_init.2.1 56 = .ok (.iconst 0, 1) := by decide +kernel
theorem dC_init_57 : decode mC_init.2.1 57 = .ok (.istore_n 1, 1) := by decide +kernel
theorem dC_init_58 : decode mC_init.2.1 58 = .ok (.iload_n 1, 1) := by decide +kernel
theorem dC_init_59 : decode mC_init.2.1 59 = .ok (.iconst 5, 1) := by decide +kernel
theorem dC_init_60 : decode mC_init.2.1 60 = .ok (.if_icmp .ge (22), 3) := by decide +kernel
theorem dC_init_63 : decode mC_init.2.1 63 = .ok (.aload_n 0, 1) := by decide +kernel
theorem dC_init_64 : decode mC_init.2.1 64 = .ok (.getfield 11, 3) := by decide +kernel
theorem dC_init_67 : decode mC_init.2.1 67 = .ok (.iload_n 1, 1) := by decide +kernel
theorem dC_init_68 : decode mC_init.2.1 68 = .ok (.new 9, 3) := by decide +kernel
theorem dC_init_71 : decode mC_init.2.1 71 = .ok (.dup, 1) := by decide +kernel
theorem dC_init_72 : decode mC_init.2.1 72 = .ok (.invokespecial 45, 3) := by decide +kernel
theorem dC_init_75 : decode mC_init.2.1 75 = .ok (.aastore, 1) := by decide +kernel
theorem dC_init_76 : decode mC_init.2.1 76 = .ok (.iinc 1 (1), 3) := by decide +kernel
theorem dC_init_79 : decode mC_init.2.1 79 = .ok (.goto (-21), 3) := by decide +kernel
theorem dC_init_82 : decode mC_init.2.1 82 = .ok (.iconst 0, 1) := by decide +kernel
theorem dC_init_83 : decode mC_init.2.1 83 = .ok (.istore_n 1, 1) := by decide +kernel
theorem dC_init_84 : decode mC_init.2.1 84 = .ok (.iload_n 1, 1) := by decide +kernel
theorem dC_init_85 : decode mC_init.2.1 85 = .ok (.iconst 2, 1) := by decide +kernel
theorem dC_init_86 : decode mC_init.2.1 86 = .ok (.if_icmp .ge (22), 3) := by decide +kernel
theorem dC_init_89 : decode mC_init.2.1 89 = .ok (.aload_n 0, 1) := by decide +kernel
theorem dC_init_90 : decode mC_init.2.1 90 = .ok (.getfield 17, 3) := by decide +kernel
theorem dC_init_93 : decode mC_init.2.1 93 = .ok (.iload_n 1, 1) := by decide +kernel
theorem dC_init_94 : decode mC_init.2.1 94 = .ok (.new 15, 3) := by decide +kernel
theorem dC_init_97 : decode mC_init.2.1 97 = .ok (.dup, 1) := by decide +kernel
theorem dC_init_98 : decode mC_init.2.1 98 = .ok (.invokespecial 46, 3) := by decide +kernel
theorem dC_init_101 : decode mC_init.2.1 101 = .ok (.aastore, 1) := by decide +kernel
theorem dC_init_102 : decode mC_init.2.1 102 = .ok (.iinc 1 (1), 3) := by decide +kernel
theorem dC_init_105 : decode mC_init.2.1 105 = .ok (.goto (-21), 3) := by decide +kernel
theorem dC_init_108 : decode mC_init.2.1 108 = .ok (.return_, 1) := by decide +kernel
theorem dT_init_0 : decode mT_init.2.1 0 = .ok (.aload_n 0, 1) := by decide +kernel
theorem dT_init_1 : decode mT_init.2.1 1 = .ok (.invokespecial 3, 3) := by decide +kernel
theorem dT_init_4 : decode mT_init.2.1 4 = .ok (.aload_n 0, 1) := by decide +kernel
theorem dT_init_5 : decode mT_init.2.1 5 = .ok (.sipush (400), 3) := by decide +kernel
theorem dT_init_8 : decode mT_init.2.1 8 = .ok (.newarray .int, 2) := by decide +kernel
theorem dT_init_10 : decode mT_init.2.1 10 = .ok (.putfield 9, 3) := by decide +kernel
theorem dT_init_13 : decode mT_init.2.1 13 = .ok (.aload_n 0, 1) := by decide +kernel
theorem dT_init_14 : decode mT_init.2.1 14 = .ok (.iconst 0, 1) := by decide +kernel
theorem dT_init_15 : decode mT_init.2.1 15 = .ok (.putfield 15, 3) := by decide +kernel
theorem dT_init_18 : decode mT_init.2.1 18 = .ok (.return_, 1) := by decide +kernel
theorem dS_init_0 : decode mS_init.2.1 0 = .ok (.aload_n 0, 1) := by decide +kernel
theorem dS_init_1 : decode mS_init.2.1 1 = .ok (.invokespecial 3, 3) := by decide +kernel
theorem dS_init_4 : decode mS_init.2.1 4 = .ok (.aload_n 0, 1) := by decide +kernel
theorem dS_init_5 : decode mS_init.2.1 5 = .ok (.bipush (65), 2) := by decide +kernel
theorem dS_init_7 : decode mS_init.2.1 7 = .ok (.newarray .int, 2) := by decide +kernel
theorem dS_init_9 : decode mS_init.2.1 9 = .ok (.putfield 9, 3) := by decide +kernel
theorem dS_init_12 : decode mS_init.2.1 12 = .ok (.aload_n 0, 1) := by decide +kernel
theorem dS_init_13 : decode mS_init.2.1 13 = .ok (.bipush (65), 2) := by decide +kernel
theorem dS_init_15 : decode mS_init.2.1 15 = .ok (.newarray .int, 2) := by decide +kernel
theorem dS_init_17 : decode mS_init.2.1 17 = .ok (.putfield 15, 3) := by decide +kernel
theorem dS_init_20 : decode mS_init.2.1 20 = .ok (.return_, 1) := by decide +kernel
theorem dA_init_0 : decode mA_init.2.1 0 = .ok (.aload_n 0, 1) := by decide +kernel
theorem dA_init_1 : decode mA_init.2.1 1 = .ok (.invokespecial 3, 3) := by decide +kernel
theorem dA_init_4 : decode mA_init.2.1 4 = .ok (.aload_n 0, 1) := by decide +kernel
theorem dA_init_5 : decode mA_init.2.1 5 = .ok (.iconst 2, 1) := by decide +kernel
theorem dA_init_6 : decode mA_init.2.1 6 = .ok (.newarray .int, 2) := by decide +kernel
theorem dA_init_8 : decode mA_init.2.1 8 = .ok (.putfield 9, 3) := by decide +kernel
theorem dA_init_11 : decode mA_init.2.1 11 = .ok (.aload_n 0, 1) := by decide +kernel
theorem dA_init_12 : decode mA_init.2.1 12 = .ok (.lconst 0, 1) := by decide +kernel
theorem dA_init_13 : decode mA_init.2.1 13 = .ok (.putfield 15, 3) := by decide +kernel
theorem dA_init_16 : decode mA_init.2.1 16 = .ok (.aload_n 0, 1) := by decide +kernel
theorem dA_init_17 : decode mA_init.2.1 17 = .ok (.lconst 0, 1) := by decide +kernel
theorem dA_init_18 : decode mA_init.2.1 18 = .ok (.putfield 19, 3) := by decide +kernel
theorem dA_init_21 : decode mA_init.2.1 21 = .ok (.return_, 1) := by decide +kernel
theorem dB_init_0 : decode mB_init.2.1 0 = .ok (.aload_n 0, 1) := by decide +kernel
theorem dB_init_1 : decode mB_init.2.1 1 = .ok (.invokespecial 3, 3) := by decide +kernel
theorem dB_init_4 : decode mB_init.2.1 4 = .ok (.aload_n 0, 1) := by decide +kernel
theorem dB_init_5 : decode mB_init.2.1 5 = .ok (.new 9, 3) := by decide +kernel
theorem dB_init_8 : decode mB_init.2.1 8 = .ok (.dup, 1) := by decide +kernel
theorem dB_init_9 : decode mB_init.2.1 9 = .ok (.invokespecial 11, 3) := by decide +kernel
theorem dB_init_12 : decode mB_init.2.1 12 = .ok (.putfield 12, 3) := by decide +kernel
theorem dB_init_15 : decode mB_init.2.1 15 = .ok (.aload_n 0, 1) := by decide +kernel
theorem dB_init_16 : decode mB_init.2.1 16 = .ok (.new 9, 3) := by decide +kernel
theorem dB_init_19 : decode mB_init.2.1 19 = .ok (.dup, 1) := by decide +kernel
theorem dB_init_20 : decode mB_init.2.1 20 = .ok (.invokespecial 11, 3) := by decide +kernel
theorem dB_init_23 : decode mB_init.2.1 23 = .ok (.putfield 18, 3) := by decide +kernel
theorem dB_init_26 : decode mB_init.2.1 26 = .ok (.aload_n 0, 1) := by decide +kernel
theorem dB_init_27 : decode mB_init.2.1 27 = .ok (.iconst 0, 1) := by decide +kernel
theorem dB_init_28 : decode mB_init.2.1 28 = .ok (.putfield 21, 3) := by decide +kernel
theorem dB_init_31 : decode mB_init.2.1 31 = .ok (.aload_n 0, 1) := by decide +kernel
theorem dB_init_32 : decode mB_init.2.1 32 = .ok (.bipush (32), 2) := by decide +kernel
theorem dB_init_34 : decode mB_init.2.1 34 = .ok (.putfield 25, 3) := by decide +kernel
theorem dB_init_37 : decode mB_init.2.1 37 = .ok (.return_, 1) := by decide +kernel
theorem dD_init_0 : decode mD_init.2.1 0 = .ok (.aload_n 0, 1) := by decide +kernel
theorem dD_init_1 : decode mD_init.2.1 1 = .ok (.invokespecial 3, 3) := by decide +kernel
theorem dD_init_4 : decode mD_init.2.1 4 = .ok (.aload_n 0, 1) := by decide +kernel
theorem dD_init_5 : decode mD_init.2.1 5 = .ok (.aconst_null, 1) := by decide +kernel
theorem dD_init_6 : decode mD_init.2.1 6 = .ok (.putfield 9, 3) := by decide +kernel
theorem dD_init_9 : decode mD_init.2.1 9 = .ok (.return_, 1) := by decide +kernel
theorem dC_deposit_0 : decode mC_deposit.2.1 0 = .ok (.iload_n 1, 1) := by decide +kernel
theorem dC_deposit_1 : decode mC_deposit.2.1 1 = .ok (.invokestatic 47, 3) := by decide +kernel
theorem dC_deposit_4 : decode mC_deposit.2.1 4 = .ok (.ifCond .eq (15), 3) := by decide +kernel
theorem dC_deposit_7 : decode mC_deposit.2.1 7 = .ok (.iload_n 2, 1) := by decide +kernel
theorem dC_deposit_8 : decode mC_deposit.2.1 8 = .ok (.ldc 51, 2) := by decide +kernel
theorem dC_deposit_10 : decode mC_deposit.2.1 10 = .ok (.if_icmp .lt (9), 3) := by decide +kernel
theorem dC_deposit_13 : decode mC_deposit.2.1 13 = .ok (.iload_n 2, 1) := by decide +kernel
theorem dC_deposit_14 : decode mC_deposit.2.1 14 = .ok (.ldc 52, 2) := by decide +kernel
theorem dC_deposit_16 : decode mC_deposit.2.1 16 = .ok (.if_icmp .le (5), 3) := by decide +kernel
theorem dC_deposit_19 : decode mC_deposit.2.1 19 = .ok (.iconst 0, 1) := by decide +kernel
theorem dC_deposit_20 : decode mC_deposit.2.1 20 = .ok (.ireturn, 1) := by decide +kernel
theorem dC_deposit_21 : decode mC_deposit.2.1 21 = .ok (.aload_n 0, 1) := by decide +kernel
theorem dC_deposit_22 : decode mC_deposit.2.1 22 = .ok (.getfield 11, 3) := by decide +kernel
theorem dC_deposit_25 : decode mC_deposit.2.1 25 = .ok (.iload_n 1, 1) := by decide +kernel
theorem dC_deposit_26 : decode mC_deposit.2.1 26 = .ok (.aaload, 1) := by decide +kernel
theorem dC_deposit_27 : decode mC_deposit.2.1 27 = .ok (.astore_n 3, 1) := by decide +kernel
theorem dC_deposit_28 : decode mC_deposit.2.1 28 = .ok (.iload_n 2, 1) := by decide +kernel
theorem dC_deposit_29 : decode mC_deposit.2.1 29 = .ok (.ifCond .ge (21), 3) := by decide +kernel
theorem dC_deposit_32 : decode mC_deposit.2.1 32 = .ok (.aload_n 3, 1) := by decide +kernel
theorem dC_deposit_33 : decode mC_deposit.2.1 33 = .ok (.getfield 53, 3) := by decide +kernel
theorem dC_deposit_36 : decode mC_deposit.2.1 36 = .ok (.iload_n 2, 1) := by decide +kernel
theorem dC_deposit_37 : decode mC_deposit.2.1 37 = .ok (.i2l, 1) := by decide +kernel
theorem dC_deposit_38 : decode mC_deposit.2.1 38 = .ok (.ladd, 1) := by decide +kernel
theorem dC_deposit_39 : decode mC_deposit.2.1 39 = .ok (.aload_n 0, 1) := by decide +kernel
theorem dC_deposit_40 : decode mC_deposit.2.1 40 = .ok (.iload_n 1, 1) := by decide +kernel
theorem dC_deposit_41 : decode mC_deposit.2.1 41 = .ok (.invokevirtual 57, 3) := by decide +kernel
theorem dC_deposit_44 : decode mC_deposit.2.1 44 = .ok (.lcmp, 1) := by decide +kernel
theorem dC_deposit_45 : decode mC_deposit.2.1 45 = .ok (.ifCond .ge (5), 3) := by decide +kernel
theorem dC_deposit_48 : decode mC_deposit.2.1 48 = .ok (.iconst 0, 1) := by decide +kernel
theorem dC_deposit_49 : decode mC_deposit.2.1 49 = .ok (.ireturn, 1) := by decide +kernel
theorem dC_deposit_50 : decode mC_deposit.2.1 50 = .ok (.aload_n 3, 1) := by decide +kernel
theorem dC_deposit_51 : decode mC_deposit.2.1 51 = .ok (.dup, 1) := by decide +kernel
theorem dC_deposit_52 : decode mC_deposit.2.1 52 = .ok (.getfield 53, 3) := by decide +kernel
theorem dC_deposit_55 : decode mC_deposit.2.1 55 = .ok (.iload_n 2, 1) := by decide +kernel
theorem dC_deposit_56 : decode mC_deposit.2.1 56 = .ok (.i2l, 1) := by decide +kernel
theorem dC_deposit_57 : decode mC_deposit.2.1 57 = .ok (.ladd, 1) := by decide +kernel
theorem dC_deposit_58 : decode mC_deposit.2.1 58 = .ok (.putfield 53, 3) := by decide +kernel
theorem dC_deposit_61 : decode mC_deposit.2.1 61 = .ok (.iconst 1, 1) := by decide +kernel
theorem dC_deposit_62 : decode mC_deposit.2.1 62 = .ok (.ireturn, 1) := by decide +kernel
theorem dC_isMember_0 : decode mC_isMember.2.1 0 = .ok (.iload_n 0, 1) := by decide +kernel
theorem dC_isMember_1 : decode mC_isMember.2.1 1 = .ok (.ifCond .lt (12), 3) := by decide +kernel
theorem dC_isMember_4 : decode mC_isMember.2.1 4 = .ok (.iload_n 0, 1) := by decide +kernel
theorem dC_isMember_5 : decode mC_isMember.2.1 5 = .ok (.iconst 5, 1) := by decide +kernel
theorem dC_isMember_6 : decode mC_isMember.2.1 6 = .ok (.if_icmp .ge (7), 3) := by decide +kernel
theorem dC_isMember_9 : decode mC_isMember.2.1 9 = .ok (.iconst 1, 1) := by decide +kernel
theorem dC_isMember_10 : decode mC_isMember.2.1 10 = .ok (.goto (4), 3) := by decide +kernel
theorem dC_isMember_13 : decode mC_isMember.2.1 13 = .ok (.iconst 0, 1) := by decide +kernel
theorem dC_isMember_14 : decode mC_isMember.2.1 14 = .ok (.ireturn, 1) := by decide +kernel
theorem dC_riskOf_0 : decode mC_riskOf.2.1 0 = .ok (.aload_n 0, 1) := by decide +kernel
theorem dC_riskOf_1 : decode mC_riskOf.2.1 1 = .ok (.iload_n 1, 1) := by decide +kernel
theorem dC_riskOf_2 : decode mC_riskOf.2.1 2 = .ok (.iconst 0, 1) := by decide +kernel
theorem dC_riskOf_3 : decode mC_riskOf.2.1 3 = .ok (.iconst 0, 1) := by decide +kernel
theorem dC_riskOf_4 : decode mC_riskOf.2.1 4 = .ok (.iconst 0, 1) := by decide +kernel
theorem dC_riskOf_5 : decode mC_riskOf.2.1 5 = .ok (.invokevirtual 81, 3) := by decide +kernel
theorem dC_riskOf_8 : decode mC_riskOf.2.1 8 = .ok (.lreturn, 1) := by decide +kernel
theorem dC_riskWith_0 : decode mC_riskWith.2.1 0 = .ok (.lconst 0, 1) := by decide +kernel
theorem dC_riskWith_1 : decode mC_riskWith.2.1 1 = .ok (.lstore 5, 2) := by decide +kernel
theorem dC_riskWith_3 : decode mC_riskWith.2.1 3 = .ok (.iconst 0, 1) := by decide +kernel
theorem dC_riskWith_4 : decode mC_riskWith.2.1 4 = .ok (.istore 7, 2) := by decide +kernel
theorem dC_riskWith_6 : decode mC_riskWith.2.1 6 = .ok (.iload 7, 2) := by decide +kernel
theorem dC_riskWith_8 : decode mC_riskWith.2.1 8 = .ok (.iconst 2, 1) := by decide +kernel
theorem dC_riskWith_9 : decode mC_riskWith.2.1 9 = .ok (.if_icmp .ge (123), 3) := by decide +kernel
theorem dC_riskWith_12 : decode mC_riskWith.2.1 12 = .ok (.aload_n 0, 1) := by decide +kernel
theorem dC_riskWith_13 : decode mC_riskWith.2.1 13 = .ok (.getfield 11, 3) := by decide +kernel
theorem dC_riskWith_16 : decode mC_riskWith.2.1 16 = .ok (.iload_n 1, 1) := by decide +kernel
theorem dC_riskWith_17 : decode mC_riskWith.2.1 17 = .ok (.aaload, 1) := by decide +kernel
theorem dC_riskWith_18 : decode mC_riskWith.2.1 18 = .ok (.getfield 175, 3) := by decide +kernel
theorem dC_riskWith_21 : decode mC_riskWith.2.1 21 = .ok (.iload 7, 2) := by decide +kernel
theorem dC_riskWith_23 : decode mC_riskWith.2.1 23 = .ok (.iaload, 1) := by decide +kernel
theorem dC_riskWith_24 : decode mC_riskWith.2.1 24 = .ok (.istore 8, 2) := by decide +kernel
theorem dC_riskWith_26 : decode mC_riskWith.2.1 26 = .ok (.iload 8, 2) := by decide +kernel
theorem dC_riskWith_28 : decode mC_riskWith.2.1 28 = .ok (.aload_n 0, 1) := by decide +kernel
theorem dC_riskWith_29 : decode mC_riskWith.2.1 29 = .ok (.getfield 17, 3) := by decide +kernel
theorem dC_riskWith_32 : decode mC_riskWith.2.1 32 = .ok (.iload 7, 2) := by decide +kernel
theorem dC_riskWith_34 : decode mC_riskWith.2.1 34 = .ok (.aaload, 1) := by decide +kernel
theorem dC_riskWith_35 : decode mC_riskWith.2.1 35 = .ok (.getfield 188, 3) := by decide +kernel
theorem dC_riskWith_38 : decode mC_riskWith.2.1 38 = .ok (.iload_n 1, 1) := by decide +kernel
theorem dC_riskWith_39 : decode mC_riskWith.2.1 39 = .ok (.invokevirtual 192, 3) := by decide +kernel
theorem dC_riskWith_42 : decode mC_riskWith.2.1 42 = .ok (.iadd, 1) := by decide +kernel
theorem dC_riskWith_43 : decode mC_riskWith.2.1 43 = .ok (.istore 9, 2) := by decide +kernel
theorem dC_riskWith_45 : decode mC_riskWith.2.1 45 = .ok (.iload 8, 2) := by decide +kernel
theorem dC_riskWith_47 : decode mC_riskWith.2.1 47 = .ok (.aload_n 0, 1) := by decide +kernel
theorem dC_riskWith_48 : decode mC_riskWith.2.1 48 = .ok (.getfield 17, 3) := by decide +kernel
theorem dC_riskWith_51 : decode mC_riskWith.2.1 51 = .ok (.iload 7, 2) := by decide +kernel
theorem dC_riskWith_53 : decode mC_riskWith.2.1 53 = .ok (.aaload, 1) := by decide +kernel
theorem dC_riskWith_54 : decode mC_riskWith.2.1 54 = .ok (.getfield 195, 3) := by decide +kernel
theorem dC_riskWith_57 : decode mC_riskWith.2.1 57 = .ok (.iload_n 1, 1) := by decide +kernel
theorem dC_riskWith_58 : decode mC_riskWith.2.1 58 = .ok (.invokevirtual 192, 3) := by decide +kernel
theorem dC_riskWith_61 : decode mC_riskWith.2.1 61 = .ok (.isub, 1) := by decide +kernel
theorem dC_riskWith_62 : decode mC_riskWith.2.1 62 = .ok (.istore 10, 2) := by decide +kernel
theorem dC_riskWith_64 : decode mC_riskWith.2.1 64 = .ok (.iload 7, 2) := by decide +kernel
theorem dC_riskWith_66 : decode mC_riskWith.2.1 66 = .ok (.iload_n 2, 1) := by decide +kernel
theorem dC_riskWith_67 : decode mC_riskWith.2.1 67 = .ok (.if_icmp .ne (14), 3) := by decide +kernel
theorem dC_riskWith_70 : decode mC_riskWith.2.1 70 = .ok (.iload_n 3, 1) := by decide +kernel
theorem dC_riskWith_71 : decode mC_riskWith.2.1 71 = .ok (.ifCond .ne (10), 3) := by decide +kernel
theorem dC_riskWith_74 : decode mC_riskWith.2.1 74 = .ok (.iload 9, 2) := by decide +kernel
theorem dC_riskWith_76 : decode mC_riskWith.2.1 76 = .ok (.iload 4, 2) := by decide +kernel
theorem dC_riskWith_78 : decode mC_riskWith.2.1 78 = .ok (.iadd, 1) := by decide +kernel
theorem dC_riskWith_79 : decode mC_riskWith.2.1 79 = .ok (.istore 9, 2) := by decide +kernel
theorem dC_riskWith_81 : decode mC_riskWith.2.1 81 = .ok (.iload 7, 2) := by decide +kernel
theorem dC_riskWith_83 : decode mC_riskWith.2.1 83 = .ok (.iload_n 2, 1) := by decide +kernel
theorem dC_riskWith_84 : decode mC_riskWith.2.1 84 = .ok (.if_icmp .ne (15), 3) := by decide +kernel
theorem dC_riskWith_87 : decode mC_riskWith.2.1 87 = .ok (.iload_n 3, 1) := by decide +kernel
theorem dC_riskWith_88 : decode mC_riskWith.2.1 88 = .ok (.iconst 1, 1) := by decide +kernel
theorem dC_riskWith_89 : decode mC_riskWith.2.1 89 = .ok (.if_icmp .ne (10), 3) := by decide +kernel
theorem dC_riskWith_92 : decode mC_riskWith.2.1 92 = .ok (.iload 10, 2) := by decide +kernel
theorem dC_riskWith_94 : decode mC_riskWith.2.1 94 = .ok (.iload 4, 2) := by decide +kernel
theorem dC_riskWith_96 : decode mC_riskWith.2.1 96 = .ok (.isub, 1) := by decide +kernel
theorem dC_riskWith_97 : decode mC_riskWith.2.1 97 = .ok (.istore 10, 2) := by decide +kernel
theorem dC_riskWith_99 : decode mC_riskWith.2.1 99 = .ok (.lload 5, 2) := by decide +kernel
theorem dC_riskWith_101 : decode mC_riskWith.2.1 101 = .ok (.getstatic 198, 3) := by decide +kernel
theorem dC_riskWith_104 : decode mC_riskWith.2.1 104 = .ok (.iload 7, 2) := by decide +kernel
theorem dC_riskWith_106 : decode mC_riskWith.2.1 106 = .ok (.iaload, 1) := by decide +kernel
theorem dC_riskWith_107 : decode mC_riskWith.2.1 107 = .ok (.i2l, 1) := by decide +kernel
theorem dC_riskWith_108 : decode mC_riskWith.2.1 108 = .ok (.iload 9, 2) := by decide +kernel
theorem dC_riskWith_110 : decode mC_riskWith.2.1 110 = .ok (.invokestatic 201, 3) := by decide +kernel
theorem dC_riskWith_113 : decode mC_riskWith.2.1 113 = .ok (.iload 10, 2) := by decide +kernel
theorem dC_riskWith_115 : decode mC_riskWith.2.1 115 = .ok (.invokestatic 201, 3) := by decide +kernel
theorem dC_riskWith_118 : decode mC_riskWith.2.1 118 = .ok (.invokestatic 204, 3) := by decide +kernel
theorem dC_riskWith_121 : decode mC_riskWith.2.1 121 = .ok (.i2l, 1) := by decide +kernel
theorem dC_riskWith_122 : decode mC_riskWith.2.1 122 = .ok (.lmul, 1) := by decide +kernel
theorem dC_riskWith_123 : decode mC_riskWith.2.1 123 = .ok (.ladd, 1) := by decide +kernel
theorem dC_riskWith_124 : decode mC_riskWith.2.1 124 = .ok (.lstore 5, 2) := by decide +kernel
theorem dC_riskWith_126 : decode mC_riskWith.2.1 126 = .ok (.iinc 7 (1), 3) := by decide +kernel
theorem dC_riskWith_129 : decode mC_riskWith.2.1 129 = .ok (.goto (-123), 3) := by decide +kernel
theorem dC_riskWith_132 : decode mC_riskWith.2.1 132 = .ok (.lload 5, 2) := by decide +kernel
theorem dC_riskWith_134 : decode mC_riskWith.2.1 134 = .ok (.lreturn, 1) := by decide +kernel
theorem dD_leftOf_0 : decode mD_leftOf.2.1 0 = .ok (.iconst 0, 1) := by decide +kernel
theorem dD_leftOf_1 : decode mD_leftOf.2.1 1 = .ok (.istore_n 2, 1) := by decide +kernel
theorem dD_leftOf_2 : decode mD_leftOf.2.1 2 = .ok (.aload_n 0, 1) := by decide +kernel
theorem dD_leftOf_3 : decode mD_leftOf.2.1 3 = .ok (.getfield 9, 3) := by decide +kernel
theorem dD_leftOf_6 : decode mD_leftOf.2.1 6 = .ok (.astore_n 3, 1) := by decide +kernel
theorem dD_leftOf_7 : decode mD_leftOf.2.1 7 = .ok (.aload_n 3, 1) := by decide +kernel
theorem dD_leftOf_8 : decode mD_leftOf.2.1 8 = .ok (.ifnull (26), 3) := by decide +kernel
theorem dD_leftOf_11 : decode mD_leftOf.2.1 11 = .ok (.aload_n 3, 1) := by decide +kernel
theorem dD_leftOf_12 : decode mD_leftOf.2.1 12 = .ok (.getfield 28, 3) := by decide +kernel
theorem dD_leftOf_15 : decode mD_leftOf.2.1 15 = .ok (.iload_n 1, 1) := by decide +kernel
theorem dD_leftOf_16 : decode mD_leftOf.2.1 16 = .ok (.if_icmp .ne (10), 3) := by decide +kernel
theorem dD_leftOf_19 : decode mD_leftOf.2.1 19 = .ok (.iload_n 2, 1) := by decide +kernel
theorem dD_leftOf_20 : decode mD_leftOf.2.1 20 = .ok (.aload_n 3, 1) := by decide +kernel
theorem dD_leftOf_21 : decode mD_leftOf.2.1 21 = .ok (.getfield 32, 3) := by decide +kernel
theorem dD_leftOf_24 : decode mD_leftOf.2.1 24 = .ok (.iadd, 1) := by decide +kernel
theorem dD_leftOf_25 : decode mD_leftOf.2.1 25 = .ok (.istore_n 2, 1) := by decide +kernel
theorem dD_leftOf_26 : decode mD_leftOf.2.1 26 = .ok (.aload_n 3, 1) := by decide +kernel
theorem dD_leftOf_27 : decode mD_leftOf.2.1 27 = .ok (.getfield 19, 3) := by decide +kernel
theorem dD_leftOf_30 : decode mD_leftOf.2.1 30 = .ok (.astore_n 3, 1) := by decide +kernel
theorem dD_leftOf_31 : decode mD_leftOf.2.1 31 = .ok (.goto (-24), 3) := by decide +kernel
theorem dD_leftOf_34 : decode mD_leftOf.2.1 34 = .ok (.iload_n 2, 1) := by decide +kernel
theorem dD_leftOf_35 : decode mD_leftOf.2.1 35 = .ok (.ireturn, 1) := by decide +kernel
theorem dM_abs_0 : decode mM_abs.2.1 0 = .ok (.iload_n 0, 1) := by decide +kernel
theorem dM_abs_1 : decode mM_abs.2.1 1 = .ok (.ifCond .ge (8), 3) := by decide +kernel
theorem dM_abs_4 : decode mM_abs.2.1 4 = .ok (.iload_n 0, 1) := by decide +kernel
theorem dM_abs_5 : decode mM_abs.2.1 5 = .ok (.ineg, 1) := by decide +kernel
theorem dM_abs_6 : decode mM_abs.2.1 6 = .ok (.goto (4), 3) := by decide +kernel
theorem dM_abs_9 : decode mM_abs.2.1 9 = .ok (.iload_n 0, 1) := by decide +kernel
theorem dM_abs_10 : decode mM_abs.2.1 10 = .ok (.ireturn, 1) := by decide +kernel
theorem dM_max_0 : decode mM_max.2.1 0 = .ok (.iload_n 0, 1) := by decide +kernel
theorem dM_max_1 : decode mM_max.2.1 1 = .ok (.iload_n 1, 1) := by decide +kernel
theorem dM_max_2 : decode mM_max.2.1 2 = .ok (.if_icmp .lt (7), 3) := by decide +kernel
theorem dM_max_5 : decode mM_max.2.1 5 = .ok (.iload_n 0, 1) := by decide +kernel
theorem dM_max_6 : decode mM_max.2.1 6 = .ok (.goto (4), 3) := by decide +kernel
theorem dM_max_9 : decode mM_max.2.1 9 = .ok (.iload_n 1, 1) := by decide +kernel
theorem dM_max_10 : decode mM_max.2.1 10 = .ok (.ireturn, 1) := by decide +kernel
theorem dC_place_0 : decode mC_place.2.1 0 = .ok (.iload_n 1, 1) := by decide +kernel
theorem dC_place_1 : decode mC_place.2.1 1 = .ok (.invokestatic 47, 3) := by decide +kernel
theorem dC_place_4 : decode mC_place.2.1 4 = .ok (.ifCond .eq (46), 3) := by decide +kernel
theorem dC_place_7 : decode mC_place.2.1 7 = .ok (.iload_n 2, 1) := by decide +kernel
theorem dC_place_8 : decode mC_place.2.1 8 = .ok (.invokestatic 61, 3) := by decide +kernel
theorem dC_place_11 : decode mC_place.2.1 11 = .ok (.ifCond .eq (39), 3) := by decide +kernel
theorem dC_place_14 : decode mC_place.2.1 14 = .ok (.iload_n 3, 1) := by decide +kernel
theorem dC_place_15 : decode mC_place.2.1 15 = .ok (.invokestatic 64, 3) := by decide +kernel
theorem dC_place_18 : decode mC_place.2.1 18 = .ok (.ifCond .eq (32), 3) := by decide +kernel
theorem dC_place_21 : decode mC_place.2.1 21 = .ok (.iload 5, 2) := by decide +kernel
theorem dC_place_23 : decode mC_place.2.1 23 = .ok (.iconst 1, 1) := by decide +kernel
theorem dC_place_24 : decode mC_place.2.1 24 = .ok (.if_icmp .lt (26), 3) := by decide +kernel
theorem dC_place_27 : decode mC_place.2.1 27 = .ok (.iload 5, 2) := by decide +kernel
theorem dC_place_29 : decode mC_place.2.1 29 = .ok (.bipush (99), 2) := by decide +kernel
theorem dC_place_31 : decode mC_place.2.1 31 = .ok (.if_icmp .gt (19), 3) := by decide +kernel
theorem dC_place_34 : decode mC_place.2.1 34 = .ok (.iload_n 3, 1) := by decide +kernel
theorem dC_place_35 : decode mC_place.2.1 35 = .ok (.invokestatic 67, 3) := by decide +kernel
theorem dC_place_38 : decode mC_place.2.1 38 = .ok (.iconst 3, 1) := by decide +kernel
theorem dC_place_39 : decode mC_place.2.1 39 = .ok (.if_icmp .eq (13), 3) := by decide +kernel
theorem dC_place_42 : decode mC_place.2.1 42 = .ok (.iload 4, 2) := by decide +kernel
theorem dC_place_44 : decode mC_place.2.1 44 = .ok (.invokestatic 71, 3) := by decide +kernel
theorem dC_place_47 : decode mC_place.2.1 47 = .ok (.ifCond .ne (5), 3) := by decide +kernel
theorem dC_place_50 : decode mC_place.2.1 50 = .ok (.iconst (-1), 1) := by decide +kernel
theorem dC_place_51 : decode mC_place.2.1 51 = .ok (.ireturn, 1) := by decide +kernel
theorem dC_place_52 : decode mC_place.2.1 52 = .ok (.aload_n 0, 1) := by decide +kernel
theorem dC_place_53 : decode mC_place.2.1 53 = .ok (.getfield 41, 3) := by decide +kernel
theorem dC_place_56 : decode mC_place.2.1 56 = .ok (.bipush (120), 2) := by decide +kernel
theorem dC_place_58 : decode mC_place.2.1 58 = .ok (.if_icmp .lt (6), 3) := by decide +kernel
theorem dC_place_61 : decode mC_place.2.1 61 = .ok (.bipush (-2), 2) := by decide +kernel
theorem dC_place_63 : decode mC_place.2.1 63 = .ok (.ireturn, 1) := by decide +kernel
theorem dC_place_64 : decode mC_place.2.1 64 = .ok (.aload_n 0, 1) := by decide +kernel
theorem dC_place_65 : decode mC_place.2.1 65 = .ok (.getfield 17, 3) := by decide +kernel
theorem dC_place_68 : decode mC_place.2.1 68 = .ok (.iload_n 2, 1) := by decide +kernel
theorem dC_place_69 : decode mC_place.2.1 69 = .ok (.aaload, 1) := by decide +kernel
theorem dC_place_70 : decode mC_place.2.1 70 = .ok (.astore 6, 2) := by decide +kernel
theorem dC_place_72 : decode mC_place.2.1 72 = .ok (.iload_n 3, 1) := by decide +kernel
theorem dC_place_73 : decode mC_place.2.1 73 = .ok (.invokestatic 67, 3) := by decide +kernel
theorem dC_place_76 : decode mC_place.2.1 76 = .ok (.istore 7, 2) := by decide +kernel
theorem dC_place_78 : decode mC_place.2.1 78 = .ok (.aload 6, 2) := by decide +kernel
theorem dC_place_80 : decode mC_place.2.1 80 = .ok (.getfield 74, 3) := by decide +kernel
theorem dC_place_83 : decode mC_place.2.1 83 = .ok (.ifCond .ne (17), 3) := by decide +kernel
theorem dC_place_86 : decode mC_place.2.1 86 = .ok (.iload 7, 2) := by decide +kernel
theorem dC_place_88 : decode mC_place.2.1 88 = .ok (.ifCond .eq (12), 3) := by decide +kernel
theorem dC_place_91 : decode mC_place.2.1 91 = .ok (.iload 7, 2) := by decide +kernel
theorem dC_place_93 : decode mC_place.2.1 93 = .ok (.iconst 5, 1) := by decide +kernel
theorem dC_place_94 : decode mC_place.2.1 94 = .ok (.if_icmp .eq (6), 3) := by decide +kernel
theorem dC_place_97 : decode mC_place.2.1 97 = .ok (.bipush (-3), 2) := by decide +kernel
theorem dC_place_99 : decode mC_place.2.1 99 = .ok (.ireturn, 1) := by decide +kernel
theorem dC_place_100 : decode mC_place.2.1 100 = .ok (.aload_n 0, 1) := by decide +kernel
theorem dC_place_101 : decode mC_place.2.1 101 = .ok (.iload_n 1, 1) := by decide +kernel
theorem dC_place_102 : decode mC_place.2.1 102 = .ok (.iload_n 2, 1) := by decide +kernel
theorem dC_place_103 : decode mC_place.2.1 103 = .ok (.iload_n 3, 1) := by decide +kernel
theorem dC_place_104 : decode mC_place.2.1 104 = .ok (.invokestatic 78, 3) := by decide +kernel
theorem dC_place_107 : decode mC_place.2.1 107 = .ok (.iload 5, 2) := by decide +kernel
theorem dC_place_109 : decode mC_place.2.1 109 = .ok (.invokevirtual 81, 3) := by decide +kernel
theorem dC_place_112 : decode mC_place.2.1 112 = .ok (.aload_n 0, 1) := by decide +kernel
theorem dC_place_113 : decode mC_place.2.1 113 = .ok (.getfield 11, 3) := by decide +kernel
theorem dC_place_116 : decode mC_place.2.1 116 = .ok (.iload_n 1, 1) := by decide +kernel
theorem dC_place_117 : decode mC_place.2.1 117 = .ok (.aaload, 1) := by decide +kernel
theorem dC_place_118 : decode mC_place.2.1 118 = .ok (.getfield 53, 3) := by decide +kernel
theorem dC_place_121 : decode mC_place.2.1 121 = .ok (.lcmp, 1) := by decide +kernel
theorem dC_place_122 : decode mC_place.2.1 122 = .ok (.ifCond .le (6), 3) := by decide +kernel
theorem dC_place_125 : decode mC_place.2.1 125 = .ok (.bipush (-4), 2) := by decide +kernel
theorem dC_place_127 : decode mC_place.2.1 127 = .ok (.ireturn, 1) := by decide +kernel
theorem dC_place_128 : decode mC_place.2.1 128 = .ok (.new 21, 3) := by decide +kernel
theorem dC_place_131 : decode mC_place.2.1 131 = .ok (.dup, 1) := by decide +kernel
theorem dC_place_132 : decode mC_place.2.1 132 = .ok (.aload_n 0, 1) := by decide +kernel
theorem dC_place_133 : decode mC_place.2.1 133 = .ok (.getfield 41, 3) := by decide +kernel
theorem dC_place_136 : decode mC_place.2.1 136 = .ok (.iload_n 1, 1) := by decide +kernel
theorem dC_place_137 : decode mC_place.2.1 137 = .ok (.iload_n 2, 1) := by decide +kernel
theorem dC_place_138 : decode mC_place.2.1 138 = .ok (.iload_n 3, 1) := by decide +kernel
theorem dC_place_139 : decode mC_place.2.1 139 = .ok (.iload 4, 2) := by decide +kernel
theorem dC_place_141 : decode mC_place.2.1 141 = .ok (.iload 5, 2) := by decide +kernel
theorem dC_place_143 : decode mC_place.2.1 143 = .ok (.invokespecial 85, 3) := by decide +kernel
theorem dC_place_146 : decode mC_place.2.1 146 = .ok (.astore 8, 2) := by decide +kernel
theorem dC_place_148 : decode mC_place.2.1 148 = .ok (.aload 6, 2) := by decide +kernel
theorem dC_place_150 : decode mC_place.2.1 150 = .ok (.aload 8, 2) := by decide +kernel
theorem dC_place_152 : decode mC_place.2.1 152 = .ok (.invokevirtual 88, 3) := by decide +kernel
theorem dC_place_155 : decode mC_place.2.1 155 = .ok (.ifCond .eq (6), 3) := by decide +kernel
theorem dC_place_158 : decode mC_place.2.1 158 = .ok (.bipush (-5), 2) := by decide +kernel
theorem dC_place_160 : decode mC_place.2.1 160 = .ok (.ireturn, 1) := by decide +kernel
theorem dC_place_161 : decode mC_place.2.1 161 = .ok (.aload_n 0, 1) := by decide +kernel
theorem dC_place_162 : decode mC_place.2.1 162 = .ok (.getfield 23, 3) := by decide +kernel
theorem dC_place_165 : decode mC_place.2.1 165 = .ok (.aload_n 0, 1) := by decide +kernel
theorem dC_place_166 : decode mC_place.2.1 166 = .ok (.getfield 41, 3) := by decide +kernel
theorem dC_place_169 : decode mC_place.2.1 169 = .ok (.aload 8, 2) := by decide +kernel
theorem dC_place_171 : decode mC_place.2.1 171 = .ok (.aastore, 1) := by decide +kernel
theorem dC_place_172 : decode mC_place.2.1 172 = .ok (.aload_n 0, 1) := by decide +kernel
theorem dC_place_173 : decode mC_place.2.1 173 = .ok (.dup, 1) := by decide +kernel
theorem dC_place_174 : decode mC_place.2.1 174 = .ok (.getfield 41, 3) := by decide +kernel
theorem dC_place_177 : decode mC_place.2.1 177 = .ok (.iconst 1, 1) := by decide +kernel
theorem dC_place_178 : decode mC_place.2.1 178 = .ok (.iadd, 1) := by decide +kernel
theorem dC_place_179 : decode mC_place.2.1 179 = .ok (.putfield 41, 3) := by decide +kernel
theorem dC_place_182 : decode mC_place.2.1 182 = .ok (.aload_n 0, 1) := by decide +kernel
theorem dC_place_183 : decode mC_place.2.1 183 = .ok (.aload 8, 2) := by decide +kernel
theorem dC_place_185 : decode mC_place.2.1 185 = .ok (.aload 6, 2) := by decide +kernel
theorem dC_place_187 : decode mC_place.2.1 187 = .ok (.invokevirtual 92, 3) := by decide +kernel
theorem dC_place_190 : decode mC_place.2.1 190 = .ok (.aload 8, 2) := by decide +kernel
theorem dC_place_192 : decode mC_place.2.1 192 = .ok (.getfield 96, 3) := by decide +kernel
theorem dC_place_195 : decode mC_place.2.1 195 = .ok (.ireturn, 1) := by decide +kernel
theorem dC_isInstrument_0 : decode mC_isInstrument.2.1 0 = .ok (.iload_n 0, 1) := by decide +kernel
theorem dC_isInstrument_1 : decode mC_isInstrument.2.1 1 = .ok (.ifCond .lt (12), 3) := by decide +kernel
theorem dC_isInstrument_4 : decode mC_isInstrument.2.1 4 = .ok (.iload_n 0, 1) := by decide +kernel
theorem dC_isInstrument_5 : decode mC_isInstrument.2.1 5 = .ok (.iconst 2, 1) := by decide +kernel
theorem dC_isInstrument_6 : decode mC_isInstrument.2.1 6 = .ok (.if_icmp .ge (7), 3) := by decide +kernel
theorem dC_isInstrument_9 : decode mC_isInstrument.2.1 9 = .ok (.iconst 1, 1) := by decide +kernel
theorem dC_isInstrument_10 : decode mC_isInstrument.2.1 10 = .ok (.goto (4), 3) := by decide +kernel
theorem dC_isInstrument_13 : decode mC_isInstrument.2.1 13 = .ok (.iconst 0, 1) := by decide +kernel
theorem dC_isInstrument_14 : decode mC_isInstrument.2.1 14 = .ok (.ireturn, 1) := by decide +kernel
theorem dC_isHow_0 : decode mC_isHow.2.1 0 = .ok (.iload_n 0, 1) := by decide +kernel
theorem dC_isHow_1 : decode mC_isHow.2.1 1 = .ok (.ifCond .lt (13), 3) := by decide +kernel
theorem dC_isHow_4 : decode mC_isHow.2.1 4 = .ok (.iload_n 0, 1) := by decide +kernel
theorem dC_isHow_5 : decode mC_isHow.2.1 5 = .ok (.bipush (12), 2) := by decide +kernel
theorem dC_isHow_7 : decode mC_isHow.2.1 7 = .ok (.if_icmp .ge (7), 3) := by decide +kernel
theorem dC_isHow_10 : decode mC_isHow.2.1 10 = .ok (.iconst 1, 1) := by decide +kernel
theorem dC_isHow_11 : decode mC_isHow.2.1 11 = .ok (.goto (4), 3) := by decide +kernel
theorem dC_isHow_14 : decode mC_isHow.2.1 14 = .ok (.iconst 0, 1) := by decide +kernel
theorem dC_isHow_15 : decode mC_isHow.2.1 15 = .ok (.ireturn, 1) := by decide +kernel
theorem dC_kindOf_0 : decode mC_kindOf.2.1 0 = .ok (.iload_n 0, 1) := by decide +kernel
theorem dC_kindOf_1 : decode mC_kindOf.2.1 1 = .ok (.iconst 2, 1) := by decide +kernel
theorem dC_kindOf_2 : decode mC_kindOf.2.1 2 = .ok (.idiv, 1) := by decide +kernel
theorem dC_kindOf_3 : decode mC_kindOf.2.1 3 = .ok (.ireturn, 1) := by decide +kernel
theorem dC_isPrice_0 : decode mC_isPrice.2.1 0 = .ok (.iload_n 0, 1) := by decide +kernel
theorem dC_isPrice_1 : decode mC_isPrice.2.1 1 = .ok (.iconst 1, 1) := by decide +kernel
theorem dC_isPrice_2 : decode mC_isPrice.2.1 2 = .ok (.if_icmp .lt (13), 3) := by decide +kernel
theorem dC_isPrice_5 : decode mC_isPrice.2.1 5 = .ok (.iload_n 0, 1) := by decide +kernel
theorem dC_isPrice_6 : decode mC_isPrice.2.1 6 = .ok (.bipush (63), 2) := by decide +kernel
theorem dC_isPrice_8 : decode mC_isPrice.2.1 8 = .ok (.if_icmp .gt (7), 3) := by decide +kernel
theorem dC_isPrice_11 : decode mC_isPrice.2.1 11 = .ok (.iconst 1, 1) := by decide +kernel
theorem dC_isPrice_12 : decode mC_isPrice.2.1 12 = .ok (.goto (4), 3) := by decide +kernel
theorem dC_isPrice_15 : decode mC_isPrice.2.1 15 = .ok (.iconst 0, 1) := by decide +kernel
theorem dC_isPrice_16 : decode mC_isPrice.2.1 16 = .ok (.ireturn, 1) := by decide +kernel
theorem dC_sideOf_0 : decode mC_sideOf.2.1 0 = .ok (.iload_n 0, 1) := by decide +kernel
theorem dC_sideOf_1 : decode mC_sideOf.2.1 1 = .ok (.iconst 2, 1) := by decide +kernel
theorem dC_sideOf_2 : decode mC_sideOf.2.1 2 = .ok (.irem, 1) := by decide +kernel
theorem dC_sideOf_3 : decode mC_sideOf.2.1 3 = .ok (.ireturn, 1) := by decide +kernel
theorem dO_init_0 : decode mO_init.2.1 0 = .ok (.aload_n 0, 1) := by decide +kernel
theorem dO_init_1 : decode mO_init.2.1 1 = .ok (.invokespecial 3, 3) := by decide +kernel
theorem dO_init_4 : decode mO_init.2.1 4 = .ok (.aload_n 0, 1) := by decide +kernel
theorem dO_init_5 : decode mO_init.2.1 5 = .ok (.iconst 0, 1) := by decide +kernel
theorem dO_init_6 : decode mO_init.2.1 6 = .ok (.putfield 9, 3) := by decide +kernel
theorem dO_init_9 : decode mO_init.2.1 9 = .ok (.aload_n 0, 1) := by decide +kernel
theorem dO_init_10 : decode mO_init.2.1 10 = .ok (.iconst 0, 1) := by decide +kernel
theorem dO_init_11 : decode mO_init.2.1 11 = .ok (.putfield 15, 3) := by decide +kernel
theorem dO_init_14 : decode mO_init.2.1 14 = .ok (.aload_n 0, 1) := by decide +kernel
theorem dO_init_15 : decode mO_init.2.1 15 = .ok (.aconst_null, 1) := by decide +kernel
theorem dO_init_16 : decode mO_init.2.1 16 = .ok (.putfield 18, 3) := by decide +kernel
theorem dO_init_19 : decode mO_init.2.1 19 = .ok (.aload_n 0, 1) := by decide +kernel
theorem dO_init_20 : decode mO_init.2.1 20 = .ok (.iload_n 1, 1) := by decide +kernel
theorem dO_init_21 : decode mO_init.2.1 21 = .ok (.putfield 22, 3) := by decide +kernel
theorem dO_init_24 : decode mO_init.2.1 24 = .ok (.aload_n 0, 1) := by decide +kernel
theorem dO_init_25 : decode mO_init.2.1 25 = .ok (.iload_n 2, 1) := by decide +kernel
theorem dO_init_26 : decode mO_init.2.1 26 = .ok (.putfield 25, 3) := by decide +kernel
theorem dO_init_29 : decode mO_init.2.1 29 = .ok (.aload_n 0, 1) := by decide +kernel
theorem dO_init_30 : decode mO_init.2.1 30 = .ok (.iload_n 3, 1) := by decide +kernel
theorem dO_init_31 : decode mO_init.2.1 31 = .ok (.putfield 28, 3) := by decide +kernel
theorem dO_init_34 : decode mO_init.2.1 34 = .ok (.aload_n 0, 1) := by decide +kernel
theorem dO_init_35 : decode mO_init.2.1 35 = .ok (.iload 4, 2) := by decide +kernel
theorem dO_init_37 : decode mO_init.2.1 37 = .ok (.invokestatic 31, 3) := by decide +kernel
theorem dO_init_40 : decode mO_init.2.1 40 = .ok (.putfield 35, 3) := by decide +kernel
theorem dO_init_43 : decode mO_init.2.1 43 = .ok (.aload_n 0, 1) := by decide +kernel
theorem dO_init_44 : decode mO_init.2.1 44 = .ok (.iload 4, 2) := by decide +kernel
theorem dO_init_46 : decode mO_init.2.1 46 = .ok (.invokestatic 38, 3) := by decide +kernel
theorem dO_init_49 : decode mO_init.2.1 49 = .ok (.putfield 41, 3) := by decide +kernel
theorem dO_init_52 : decode mO_init.2.1 52 = .ok (.aload_n 0, 1) := by decide +kernel
theorem dO_init_53 : decode mO_init.2.1 53 = .ok (.getfield 41, 3) := by decide +kernel
theorem dO_init_56 : decode mO_init.2.1 56 = .ok (.iconst 3, 1) := by decide +kernel
theorem dO_init_57 : decode mO_init.2.1 57 = .ok (.if_icmp .ne (23), 3) := by decide +kernel
theorem dO_init_60 : decode mO_init.2.1 60 = .ok (.aload_n 0, 1) := by decide +kernel
theorem dO_init_61 : decode mO_init.2.1 61 = .ok (.aload_n 0, 1) := by decide +kernel
theorem dO_init_62 : decode mO_init.2.1 62 = .ok (.getfield 35, 3) := by decide +kernel
theorem dO_init_65 : decode mO_init.2.1 65 = .ok (.ifCond .ne (8), 3) := by decide +kernel
theorem dO_init_68 : decode mO_init.2.1 68 = .ok (.bipush (63), 2) := by decide +kernel
theorem dO_init_70 : decode mO_init.2.1 70 = .ok (.goto (4), 3) := by decide +kernel
theorem dO_init_73 : decode mO_init.2.1 73 = .ok (.iconst 1, 1) := by decide +kernel
theorem dO_init_74 : decode mO_init.2.1 74 = .ok (.putfield 44, 3) := by decide +kernel
theorem dO_init_77 : decode mO_init.2.1 77 = .ok (.goto (9), 3) := by decide +kernel
theorem dO_init_80 : decode mO_init.2.1 80 = .ok (.aload_n 0, 1) := by decide +kernel
theorem dO_init_81 : decode mO_init.2.1 81 = .ok (.iload 5, 2) := by decide +kernel
theorem dO_init_83 : decode mO_init.2.1 83 = .ok (.putfield 44, 3) := by decide +kernel
theorem dO_init_86 : decode mO_init.2.1 86 = .ok (.aload_n 0, 1) := by decide +kernel
theorem dO_init_87 : decode mO_init.2.1 87 = .ok (.iload 6, 2) := by decide +kernel
theorem dO_init_89 : decode mO_init.2.1 89 = .ok (.putfield 47, 3) := by decide +kernel
theorem dO_init_92 : decode mO_init.2.1 92 = .ok (.return_, 1) := by decide +kernel
theorem dB_refuses_0 : decode mB_refuses.2.1 0 = .ok (.aload_n 0, 1) := by decide +kernel
theorem dB_refuses_1 : decode mB_refuses.2.1 1 = .ok (.aload_n 1, 1) := by decide +kernel
theorem dB_refuses_2 : decode mB_refuses.2.1 2 = .ok (.getfield 29, 3) := by decide +kernel
theorem dB_refuses_5 : decode mB_refuses.2.1 5 = .ok (.invokevirtual 34, 3) := by decide +kernel
theorem dB_refuses_8 : decode mB_refuses.2.1 8 = .ok (.astore_n 2, 1) := by decide +kernel
theorem dB_refuses_9 : decode mB_refuses.2.1 9 = .ok (.aload_n 1, 1) := by decide +kernel
theorem dB_refuses_10 : decode mB_refuses.2.1 10 = .ok (.getfield 38, 3) := by decide +kernel
theorem dB_refuses_13 : decode mB_refuses.2.1 13 = .ok (.iconst 4, 1) := by decide +kernel
theorem dB_refuses_14 : decode mB_refuses.2.1 14 = .ok (.if_icmp .ne (30), 3) := by decide +kernel
theorem dB_refuses_17 : decode mB_refuses.2.1 17 = .ok (.aload_n 2, 1) := by decide +kernel
theorem dB_refuses_18 : decode mB_refuses.2.1 18 = .ok (.getfield 41, 3) := by decide +kernel
theorem dB_refuses_21 : decode mB_refuses.2.1 21 = .ok (.ifnull (21), 3) := by decide +kernel
theorem dB_refuses_24 : decode mB_refuses.2.1 24 = .ok (.aload_n 1, 1) := by decide +kernel
theorem dB_refuses_25 : decode mB_refuses.2.1 25 = .ok (.aload_n 2, 1) := by decide +kernel
theorem dB_refuses_26 : decode mB_refuses.2.1 26 = .ok (.getfield 41, 3) := by decide +kernel
theorem dB_refuses_29 : decode mB_refuses.2.1 29 = .ok (.getfield 45, 3) := by decide +kernel
theorem dB_refuses_32 : decode mB_refuses.2.1 32 = .ok (.invokevirtual 48, 3) := by decide +kernel
theorem dB_refuses_35 : decode mB_refuses.2.1 35 = .ok (.ifCond .eq (7), 3) := by decide +kernel
theorem dB_refuses_38 : decode mB_refuses.2.1 38 = .ok (.iconst 1, 1) := by decide +kernel
theorem dB_refuses_39 : decode mB_refuses.2.1 39 = .ok (.goto (4), 3) := by decide +kernel
theorem dB_refuses_42 : decode mB_refuses.2.1 42 = .ok (.iconst 0, 1) := by decide +kernel
theorem dB_refuses_43 : decode mB_refuses.2.1 43 = .ok (.ireturn, 1) := by decide +kernel
theorem dB_refuses_44 : decode mB_refuses.2.1 44 = .ok (.aload_n 1, 1) := by decide +kernel
theorem dB_refuses_45 : decode mB_refuses.2.1 45 = .ok (.getfield 38, 3) := by decide +kernel
theorem dB_refuses_48 : decode mB_refuses.2.1 48 = .ok (.iconst 2, 1) := by decide +kernel
theorem dB_refuses_49 : decode mB_refuses.2.1 49 = .ok (.if_icmp .ne (19), 3) := by decide +kernel
theorem dB_refuses_52 : decode mB_refuses.2.1 52 = .ok (.aload_n 2, 1) := by decide +kernel
theorem dB_refuses_53 : decode mB_refuses.2.1 53 = .ok (.aload_n 1, 1) := by decide +kernel
theorem dB_refuses_54 : decode mB_refuses.2.1 54 = .ok (.invokevirtual 52, 3) := by decide +kernel
theorem dB_refuses_57 : decode mB_refuses.2.1 57 = .ok (.aload_n 1, 1) := by decide +kernel
theorem dB_refuses_58 : decode mB_refuses.2.1 58 = .ok (.getfield 56, 3) := by decide +kernel
theorem dB_refuses_61 : decode mB_refuses.2.1 61 = .ok (.if_icmp .ge (7), 3) := by decide +kernel
theorem dB_refuses_64 : decode mB_refuses.2.1 64 = .ok (.iconst 1, 1) := by decide +kernel
theorem dB_refuses_65 : decode mB_refuses.2.1 65 = .ok (.goto (4), 3) := by decide +kernel
theorem dB_refuses_68 : decode mB_refuses.2.1 68 = .ok (.iconst 0, 1) := by decide +kernel
theorem dB_refuses_69 : decode mB_refuses.2.1 69 = .ok (.ireturn, 1) := by decide +kernel
theorem dB_facing_0 : decode mB_facing.2.1 0 = .ok (.iload_n 1, 1) := by decide +kernel
theorem dB_facing_1 : decode mB_facing.2.1 1 = .ok (.ifCond .ne (10), 3) := by decide +kernel
theorem dB_facing_4 : decode mB_facing.2.1 4 = .ok (.aload_n 0, 1) := by decide +kernel
theorem dB_facing_5 : decode mB_facing.2.1 5 = .ok (.getfield 18, 3) := by decide +kernel
theorem dB_facing_8 : decode mB_facing.2.1 8 = .ok (.goto (7), 3) := by decide +kernel
theorem dB_facing_11 : decode mB_facing.2.1 11 = .ok (.aload_n 0, 1) := by decide +kernel
theorem dB_facing_12 : decode mB_facing.2.1 12 = .ok (.getfield 12, 3) := by decide +kernel
theorem dB_facing_15 : decode mB_facing.2.1 15 = .ok (.areturn, 1) := by decide +kernel
theorem dO_accepts_0 : decode mO_accepts.2.1 0 = .ok (.aload_n 0, 1) := by decide +kernel
theorem dO_accepts_1 : decode mO_accepts.2.1 1 = .ok (.getfield 35, 3) := by decide +kernel
theorem dO_accepts_4 : decode mO_accepts.2.1 4 = .ok (.ifCond .ne (19), 3) := by decide +kernel
theorem dO_accepts_7 : decode mO_accepts.2.1 7 = .ok (.iload_n 1, 1) := by decide +kernel
theorem dO_accepts_8 : decode mO_accepts.2.1 8 = .ok (.aload_n 0, 1) := by decide +kernel
theorem dO_accepts_9 : decode mO_accepts.2.1 9 = .ok (.getfield 44, 3) := by decide +kernel
theorem dO_accepts_12 : decode mO_accepts.2.1 12 = .ok (.if_icmp .gt (7), 3) := by decide +kernel
theorem dO_accepts_15 : decode mO_accepts.2.1 15 = .ok (.iconst 1, 1) := by decide +kernel
theorem dO_accepts_16 : decode mO_accepts.2.1 16 = .ok (.goto (20), 3) := by decide +kernel
theorem dO_accepts_19 : decode mO_accepts.2.1 19 = .ok (.iconst 0, 1) := by decide +kernel
theorem dO_accepts_20 : decode mO_accepts.2.1 20 = .ok (.goto (16), 3) := by decide +kernel
theorem dO_accepts_23 : decode mO_accepts.2.1 23 = .ok (.iload_n 1, 1) := by decide +kernel
theorem dO_accepts_24 : decode mO_accepts.2.1 24 = .ok (.aload_n 0, 1) := by decide +kernel
theorem dO_accepts_25 : decode mO_accepts.2.1 25 = .ok (.getfield 44, 3) := by decide +kernel
theorem dO_accepts_28 : decode mO_accepts.2.1 28 = .ok (.if_icmp .lt (7), 3) := by decide +kernel
theorem dO_accepts_31 : decode mO_accepts.2.1 31 = .ok (.iconst 1, 1) := by decide +kernel
theorem dO_accepts_32 : decode mO_accepts.2.1 32 = .ok (.goto (4), 3) := by decide +kernel
theorem dO_accepts_35 : decode mO_accepts.2.1 35 = .ok (.iconst 0, 1) := by decide +kernel
theorem dO_accepts_36 : decode mO_accepts.2.1 36 = .ok (.ireturn, 1) := by decide +kernel
theorem dD_leftFor_0 : decode mD_leftFor.2.1 0 = .ok (.iconst 0, 1) := by decide +kernel
theorem dD_leftFor_1 : decode mD_leftFor.2.1 1 = .ok (.istore_n 2, 1) := by decide +kernel
theorem dD_leftFor_2 : decode mD_leftFor.2.1 2 = .ok (.aload_n 0, 1) := by decide +kernel
theorem dD_leftFor_3 : decode mD_leftFor.2.1 3 = .ok (.getfield 9, 3) := by decide +kernel
theorem dD_leftFor_6 : decode mD_leftFor.2.1 6 = .ok (.astore_n 3, 1) := by decide +kernel
theorem dD_leftFor_7 : decode mD_leftFor.2.1 7 = .ok (.aload_n 3, 1) := by decide +kernel
theorem dD_leftFor_8 : decode mD_leftFor.2.1 8 = .ok (.ifnull (40), 3) := by decide +kernel
theorem dD_leftFor_11 : decode mD_leftFor.2.1 11 = .ok (.aload_n 1, 1) := by decide +kernel
theorem dD_leftFor_12 : decode mD_leftFor.2.1 12 = .ok (.aload_n 3, 1) := by decide +kernel
theorem dD_leftFor_13 : decode mD_leftFor.2.1 13 = .ok (.getfield 35, 3) := by decide +kernel
theorem dD_leftFor_16 : decode mD_leftFor.2.1 16 = .ok (.invokevirtual 38, 3) := by decide +kernel
theorem dD_leftFor_19 : decode mD_leftFor.2.1 19 = .ok (.ifCond .eq (29), 3) := by decide +kernel
theorem dD_leftFor_22 : decode mD_leftFor.2.1 22 = .ok (.aload_n 3, 1) := by decide +kernel
theorem dD_leftFor_23 : decode mD_leftFor.2.1 23 = .ok (.getfield 28, 3) := by decide +kernel
theorem dD_leftFor_26 : decode mD_leftFor.2.1 26 = .ok (.aload_n 1, 1) := by decide +kernel
theorem dD_leftFor_27 : decode mD_leftFor.2.1 27 = .ok (.getfield 28, 3) := by decide +kernel
theorem dD_leftFor_30 : decode mD_leftFor.2.1 30 = .ok (.if_icmp .eq (10), 3) := by decide +kernel
theorem dD_leftFor_33 : decode mD_leftFor.2.1 33 = .ok (.iload_n 2, 1) := by decide +kernel
theorem dD_leftFor_34 : decode mD_leftFor.2.1 34 = .ok (.aload_n 3, 1) := by decide +kernel
theorem dD_leftFor_35 : decode mD_leftFor.2.1 35 = .ok (.getfield 32, 3) := by decide +kernel
theorem dD_leftFor_38 : decode mD_leftFor.2.1 38 = .ok (.iadd, 1) := by decide +kernel
theorem dD_leftFor_39 : decode mD_leftFor.2.1 39 = .ok (.istore_n 2, 1) := by decide +kernel
theorem dD_leftFor_40 : decode mD_leftFor.2.1 40 = .ok (.aload_n 3, 1) := by decide +kernel
theorem dD_leftFor_41 : decode mD_leftFor.2.1 41 = .ok (.getfield 19, 3) := by decide +kernel
theorem dD_leftFor_44 : decode mD_leftFor.2.1 44 = .ok (.astore_n 3, 1) := by decide +kernel
theorem dD_leftFor_45 : decode mD_leftFor.2.1 45 = .ok (.goto (-38), 3) := by decide +kernel
theorem dD_leftFor_48 : decode mD_leftFor.2.1 48 = .ok (.iload_n 2, 1) := by decide +kernel
theorem dD_leftFor_49 : decode mD_leftFor.2.1 49 = .ok (.ireturn, 1) := by decide +kernel
theorem dC_admit_0 : decode mC_admit.2.1 0 = .ok (.aload_n 2, 1) := by decide +kernel
theorem dC_admit_1 : decode mC_admit.2.1 1 = .ok (.getfield 74, 3) := by decide +kernel
theorem dC_admit_4 : decode mC_admit.2.1 4 = .ok (.ifCond .eq (9), 3) := by decide +kernel
theorem dC_admit_7 : decode mC_admit.2.1 7 = .ok (.aload_n 0, 1) := by decide +kernel
theorem dC_admit_8 : decode mC_admit.2.1 8 = .ok (.aload_n 1, 1) := by decide +kernel
theorem dC_admit_9 : decode mC_admit.2.1 9 = .ok (.aload_n 2, 1) := by decide +kernel
theorem dC_admit_10 : decode mC_admit.2.1 10 = .ok (.invokevirtual 207, 3) := by decide +kernel
theorem dC_admit_13 : decode mC_admit.2.1 13 = .ok (.aload_n 1, 1) := by decide +kernel
theorem dC_admit_14 : decode mC_admit.2.1 14 = .ok (.getfield 107, 3) := by decide +kernel
theorem dC_admit_17 : decode mC_admit.2.1 17 = .ok (.ifCond .ne (11), 3) := by decide +kernel
theorem dC_admit_20 : decode mC_admit.2.1 20 = .ok (.aload_n 1, 1) := by decide +kernel
theorem dC_admit_21 : decode mC_admit.2.1 21 = .ok (.iconst 1, 1) := by decide +kernel
theorem dC_admit_22 : decode mC_admit.2.1 22 = .ok (.putfield 157, 3) := by decide +kernel
theorem dC_admit_25 : decode mC_admit.2.1 25 = .ok (.goto (43), 3) := by decide +kernel
theorem dC_admit_28 : decode mC_admit.2.1 28 = .ok (.aload_n 1, 1) := by decide +kernel
theorem dC_admit_29 : decode mC_admit.2.1 29 = .ok (.getfield 210, 3) := by decide +kernel
theorem dC_admit_32 : decode mC_admit.2.1 32 = .ok (.iconst 1, 1) := by decide +kernel
theorem dC_admit_33 : decode mC_admit.2.1 33 = .ok (.if_icmp .eq (11), 3) := by decide +kernel
theorem dC_admit_36 : decode mC_admit.2.1 36 = .ok (.aload_n 1, 1) := by decide +kernel
theorem dC_admit_37 : decode mC_admit.2.1 37 = .ok (.getfield 210, 3) := by decide +kernel
theorem dC_admit_40 : decode mC_admit.2.1 40 = .ok (.iconst 3, 1) := by decide +kernel
theorem dC_admit_41 : decode mC_admit.2.1 41 = .ok (.if_icmp .ne (11), 3) := by decide +kernel
theorem dC_admit_44 : decode mC_admit.2.1 44 = .ok (.aload_n 1, 1) := by decide +kernel
theorem dC_admit_45 : decode mC_admit.2.1 45 = .ok (.iconst 2, 1) := by decide +kernel
theorem dC_admit_46 : decode mC_admit.2.1 46 = .ok (.putfield 157, 3) := by decide +kernel
theorem dC_admit_49 : decode mC_admit.2.1 49 = .ok (.goto (19), 3) := by decide +kernel
theorem dC_admit_52 : decode mC_admit.2.1 52 = .ok (.aload_n 1, 1) := by decide +kernel
theorem dC_admit_53 : decode mC_admit.2.1 53 = .ok (.invokevirtual 213, 3) := by decide +kernel
theorem dC_admit_56 : decode mC_admit.2.1 56 = .ok (.aload_n 2, 1) := by decide +kernel
theorem dC_admit_57 : decode mC_admit.2.1 57 = .ok (.aload_n 1, 1) := by decide +kernel
theorem dC_admit_58 : decode mC_admit.2.1 58 = .ok (.getfield 163, 3) := by decide +kernel
theorem dC_admit_61 : decode mC_admit.2.1 61 = .ok (.invokevirtual 136, 3) := by decide +kernel
theorem dC_admit_64 : decode mC_admit.2.1 64 = .ok (.aload_n 1, 1) := by decide +kernel
theorem dC_admit_65 : decode mC_admit.2.1 65 = .ok (.invokevirtual 216, 3) := by decide +kernel
theorem dC_admit_68 : decode mC_admit.2.1 68 = .ok (.return_, 1) := by decide +kernel
theorem dC_meet_0 : decode mC_meet.2.1 0 = .ok (.aload_n 2, 1) := by decide +kernel
theorem dC_meet_1 : decode mC_meet.2.1 1 = .ok (.aload_n 1, 1) := by decide +kernel
theorem dC_meet_2 : decode mC_meet.2.1 2 = .ok (.getfield 163, 3) := by decide +kernel
theorem dC_meet_5 : decode mC_meet.2.1 5 = .ok (.invokevirtual 220, 3) := by decide +kernel
theorem dC_meet_8 : decode mC_meet.2.1 8 = .ok (.astore_n 3, 1) := by decide +kernel
theorem dC_meet_9 : decode mC_meet.2.1 9 = .ok (.iconst 0, 1) := by decide +kernel
theorem dC_meet_10 : decode mC_meet.2.1 10 = .ok (.istore 4, 2) := by decide +kernel
theorem dC_meet_12 : decode mC_meet.2.1 12 = .ok (.iload 4, 2) := by decide +kernel
theorem dC_meet_14 : decode mC_meet.2.1 14 = .ok (.sipush (219), 3) := by decide +kernel
theorem dC_meet_17 : decode mC_meet.2.1 17 = .ok (.if_icmp .ge (70), 3) := by decide +kernel
theorem dC_meet_20 : decode mC_meet.2.1 20 = .ok (.aload_n 1, 1) := by decide +kernel
theorem dC_meet_21 : decode mC_meet.2.1 21 = .ok (.getfield 107, 3) := by decide +kernel
theorem dC_meet_24 : decode mC_meet.2.1 24 = .ok (.ifCond .le (63), 3) := by decide +kernel
theorem dC_meet_27 : decode mC_meet.2.1 27 = .ok (.aload_n 3, 1) := by decide +kernel
theorem dC_meet_28 : decode mC_meet.2.1 28 = .ok (.getfield 140, 3) := by decide +kernel
theorem dC_meet_31 : decode mC_meet.2.1 31 = .ok (.astore 5, 2) := by decide +kernel
theorem dC_meet_33 : decode mC_meet.2.1 33 = .ok (.aload 5, 2) := by decide +kernel
theorem dC_meet_35 : decode mC_meet.2.1 35 = .ok (.ifnull (15), 3) := by decide +kernel
theorem dC_meet_38 : decode mC_meet.2.1 38 = .ok (.aload_n 1, 1) := by decide +kernel
theorem dC_meet_39 : decode mC_meet.2.1 39 = .ok (.aload 5, 2) := by decide +kernel
theorem dC_meet_41 : decode mC_meet.2.1 41 = .ok (.getfield 146, 3) := by decide +kernel
theorem dC_meet_44 : decode mC_meet.2.1 44 = .ok (.invokevirtual 223, 3) := by decide +kernel
theorem dC_meet_47 : decode mC_meet.2.1 47 = .ok (.ifCond .ne (4), 3) := by decide +kernel
theorem dC_meet_50 : decode mC_meet.2.1 50 = .ok (.return_, 1) := by decide +kernel
theorem dC_meet_51 : decode mC_meet.2.1 51 = .ok (.aload 5, 2) := by decide +kernel
theorem dC_meet_53 : decode mC_meet.2.1 53 = .ok (.getfield 185, 3) := by decide +kernel
theorem dC_meet_56 : decode mC_meet.2.1 56 = .ok (.aload_n 1, 1) := by decide +kernel
theorem dC_meet_57 : decode mC_meet.2.1 57 = .ok (.getfield 185, 3) := by decide +kernel
theorem dC_meet_60 : decode mC_meet.2.1 60 = .ok (.if_icmp .ne (13), 3) := by decide +kernel
theorem dC_meet_63 : decode mC_meet.2.1 63 = .ok (.aload_n 0, 1) := by decide +kernel
theorem dC_meet_64 : decode mC_meet.2.1 64 = .ok (.aload 5, 2) := by decide +kernel
theorem dC_meet_66 : decode mC_meet.2.1 66 = .ok (.iconst 2, 1) := by decide +kernel
theorem dC_meet_67 : decode mC_meet.2.1 67 = .ok (.invokevirtual 103, 3) := by decide +kernel
theorem dC_meet_70 : decode mC_meet.2.1 70 = .ok (.goto (11), 3) := by decide +kernel
theorem dC_meet_73 : decode mC_meet.2.1 73 = .ok (.aload_n 0, 1) := by decide +kernel
theorem dC_meet_74 : decode mC_meet.2.1 74 = .ok (.aload_n 1, 1) := by decide +kernel
theorem dC_meet_75 : decode mC_meet.2.1 75 = .ok (.aload 5, 2) := by decide +kernel
theorem dC_meet_77 : decode mC_meet.2.1 77 = .ok (.aload_n 3, 1) := by decide +kernel
theorem dC_meet_78 : decode mC_meet.2.1 78 = .ok (.invokevirtual 226, 3) := by decide +kernel
theorem dC_meet_81 : decode mC_meet.2.1 81 = .ok (.iinc 4 (1), 3) := by decide +kernel
theorem dC_meet_84 : decode mC_meet.2.1 84 = .ok (.goto (-72), 3) := by decide +kernel
theorem dC_meet_87 : decode mC_meet.2.1 87 = .ok (.return_, 1) := by decide +kernel
theorem dC_takeAway_0 : decode mC_takeAway.2.1 0 = .ok (.aload_n 0, 1) := by decide +kernel
theorem dC_takeAway_1 : decode mC_takeAway.2.1 1 = .ok (.getfield 17, 3) := by decide +kernel
theorem dC_takeAway_4 : decode mC_takeAway.2.1 4 = .ok (.aload_n 1, 1) := by decide +kernel
theorem dC_takeAway_5 : decode mC_takeAway.2.1 5 = .ok (.getfield 160, 3) := by decide +kernel
theorem dC_takeAway_8 : decode mC_takeAway.2.1 8 = .ok (.aaload, 1) := by decide +kernel
theorem dC_takeAway_9 : decode mC_takeAway.2.1 9 = .ok (.aload_n 1, 1) := by decide +kernel
theorem dC_takeAway_10 : decode mC_takeAway.2.1 10 = .ok (.getfield 163, 3) := by decide +kernel
theorem dC_takeAway_13 : decode mC_takeAway.2.1 13 = .ok (.invokevirtual 136, 3) := by decide +kernel
theorem dC_takeAway_16 : decode mC_takeAway.2.1 16 = .ok (.aload_n 1, 1) := by decide +kernel
theorem dC_takeAway_17 : decode mC_takeAway.2.1 17 = .ok (.invokevirtual 234, 3) := by decide +kernel
theorem dC_takeAway_20 : decode mC_takeAway.2.1 20 = .ok (.aload_n 1, 1) := by decide +kernel
theorem dC_takeAway_21 : decode mC_takeAway.2.1 21 = .ok (.iload_n 2, 1) := by decide +kernel
theorem dC_takeAway_22 : decode mC_takeAway.2.1 22 = .ok (.putfield 157, 3) := by decide +kernel
theorem dC_takeAway_25 : decode mC_takeAway.2.1 25 = .ok (.return_, 1) := by decide +kernel
theorem dB_on_0 : decode mB_on.2.1 0 = .ok (.iload_n 1, 1) := by decide +kernel
theorem dB_on_1 : decode mB_on.2.1 1 = .ok (.ifCond .ne (10), 3) := by decide +kernel
theorem dB_on_4 : decode mB_on.2.1 4 = .ok (.aload_n 0, 1) := by decide +kernel
theorem dB_on_5 : decode mB_on.2.1 5 = .ok (.getfield 12, 3) := by decide +kernel
theorem dB_on_8 : decode mB_on.2.1 8 = .ok (.goto (7), 3) := by decide +kernel
theorem dB_on_11 : decode mB_on.2.1 11 = .ok (.aload_n 0, 1) := by decide +kernel
theorem dB_on_12 : decode mB_on.2.1 12 = .ok (.getfield 18, 3) := by decide +kernel
theorem dB_on_15 : decode mB_on.2.1 15 = .ok (.areturn, 1) := by decide +kernel
theorem dD_leave_0 : decode mD_leave.2.1 0 = .ok (.aconst_null, 1) := by decide +kernel
theorem dD_leave_1 : decode mD_leave.2.1 1 = .ok (.astore_n 2, 1) := by decide +kernel
theorem dD_leave_2 : decode mD_leave.2.1 2 = .ok (.aload_n 0, 1) := by decide +kernel
theorem dD_leave_3 : decode mD_leave.2.1 3 = .ok (.getfield 9, 3) := by decide +kernel
theorem dD_leave_6 : decode mD_leave.2.1 6 = .ok (.astore_n 3, 1) := by decide +kernel
theorem dD_leave_7 : decode mD_leave.2.1 7 = .ok (.aload_n 3, 1) := by decide +kernel
theorem dD_leave_8 : decode mD_leave.2.1 8 = .ok (.ifnull (18), 3) := by decide +kernel
theorem dD_leave_11 : decode mD_leave.2.1 11 = .ok (.aload_n 3, 1) := by decide +kernel
theorem dD_leave_12 : decode mD_leave.2.1 12 = .ok (.aload_n 1, 1) := by decide +kernel
theorem dD_leave_13 : decode mD_leave.2.1 13 = .ok (.if_acmp .eq (13), 3) := by decide +kernel
theorem dD_leave_16 : decode mD_leave.2.1 16 = .ok (.aload_n 3, 1) := by decide +kernel
theorem dD_leave_17 : decode mD_leave.2.1 17 = .ok (.astore_n 2, 1) := by decide +kernel
theorem dD_leave_18 : decode mD_leave.2.1 18 = .ok (.aload_n 3, 1) := by decide +kernel
theorem dD_leave_19 : decode mD_leave.2.1 19 = .ok (.getfield 19, 3) := by decide +kernel
theorem dD_leave_22 : decode mD_leave.2.1 22 = .ok (.astore_n 3, 1) := by decide +kernel
theorem dD_leave_23 : decode mD_leave.2.1 23 = .ok (.goto (-16), 3) := by decide +kernel
theorem dD_leave_26 : decode mD_leave.2.1 26 = .ok (.aload_n 3, 1) := by decide +kernel
theorem dD_leave_27 : decode mD_leave.2.1 27 = .ok (.ifnull (17), 3) := by decide +kernel
theorem dD_leave_30 : decode mD_leave.2.1 30 = .ok (.aload_n 0, 1) := by decide +kernel
theorem dD_leave_31 : decode mD_leave.2.1 31 = .ok (.aload_n 2, 1) := by decide +kernel
theorem dD_leave_32 : decode mD_leave.2.1 32 = .ok (.aload_n 3, 1) := by decide +kernel
theorem dD_leave_33 : decode mD_leave.2.1 33 = .ok (.getfield 19, 3) := by decide +kernel
theorem dD_leave_36 : decode mD_leave.2.1 36 = .ok (.invokevirtual 24, 3) := by decide +kernel
theorem dD_leave_39 : decode mD_leave.2.1 39 = .ok (.aload_n 3, 1) := by decide +kernel
theorem dD_leave_40 : decode mD_leave.2.1 40 = .ok (.aconst_null, 1) := by decide +kernel
theorem dD_leave_41 : decode mD_leave.2.1 41 = .ok (.putfield 19, 3) := by decide +kernel
theorem dD_leave_44 : decode mD_leave.2.1 44 = .ok (.return_, 1) := by decide +kernel
theorem dD_link_0 : decode mD_link.2.1 0 = .ok (.aload_n 1, 1) := by decide +kernel
theorem dD_link_1 : decode mD_link.2.1 1 = .ok (.ifnonnull (11), 3) := by decide +kernel
theorem dD_link_4 : decode mD_link.2.1 4 = .ok (.aload_n 0, 1) := by decide +kernel
theorem dD_link_5 : decode mD_link.2.1 5 = .ok (.aload_n 2, 1) := by decide +kernel
theorem dD_link_6 : decode mD_link.2.1 6 = .ok (.putfield 9, 3) := by decide +kernel
theorem dD_link_9 : decode mD_link.2.1 9 = .ok (.goto (8), 3) := by decide +kernel
theorem dD_link_12 : decode mD_link.2.1 12 = .ok (.aload_n 1, 1) := by decide +kernel
theorem dD_link_13 : decode mD_link.2.1 13 = .ok (.aload_n 2, 1) := by decide +kernel
theorem dD_link_14 : decode mD_link.2.1 14 = .ok (.putfield 19, 3) := by decide +kernel
theorem dD_link_17 : decode mD_link.2.1 17 = .ok (.return_, 1) := by decide +kernel
theorem dC_tradeWithShown_0 : decode mC_tradeWithShown.2.1 0 = .ok (.aload_n 1, 1) := by decide +kernel
theorem dC_tradeWithShown_1 : decode mC_tradeWithShown.2.1 1 = .ok (.getfield 107, 3) := by decide +kernel
theorem dC_tradeWithShown_4 : decode mC_tradeWithShown.2.1 4 = .ok (.aload_n 2, 1) := by decide +kernel
theorem dC_tradeWithShown_5 : decode mC_tradeWithShown.2.1 5 = .ok (.getfield 110, 3) := by decide +kernel
theorem dC_tradeWithShown_8 : decode mC_tradeWithShown.2.1 8 = .ok (.invokestatic 113, 3) := by decide +kernel
theorem dC_tradeWithShown_11 : decode mC_tradeWithShown.2.1 11 = .ok (.istore 4, 2) := by decide +kernel
theorem dC_tradeWithShown_13 : decode mC_tradeWithShown.2.1 13 = .ok (.aload_n 2, 1) := by decide +kernel
theorem dC_tradeWithShown_14 : decode mC_tradeWithShown.2.1 14 = .ok (.dup, 1) := by decide +kernel
theorem dC_tradeWithShown_15 : decode mC_tradeWithShown.2.1 15 = .ok (.getfield 110, 3) := by decide +kernel
theorem dC_tradeWithShown_18 : decode mC_tradeWithShown.2.1 18 = .ok (.iload 4, 2) := by decide +kernel
theorem dC_tradeWithShown_20 : decode mC_tradeWithShown.2.1 20 = .ok (.isub, 1) := by decide +kernel
theorem dC_tradeWithShown_21 : decode mC_tradeWithShown.2.1 21 = .ok (.putfield 110, 3) := by decide +kernel
theorem dC_tradeWithShown_24 : decode mC_tradeWithShown.2.1 24 = .ok (.aload_n 1, 1) := by decide +kernel
theorem dC_tradeWithShown_25 : decode mC_tradeWithShown.2.1 25 = .ok (.getfield 163, 3) := by decide +kernel
theorem dC_tradeWithShown_28 : decode mC_tradeWithShown.2.1 28 = .ok (.ifCond .ne (18), 3) := by decide +kernel
theorem dC_tradeWithShown_31 : decode mC_tradeWithShown.2.1 31 = .ok (.aload_n 0, 1) := by decide +kernel
theorem dC_tradeWithShown_32 : decode mC_tradeWithShown.2.1 32 = .ok (.aload_n 1, 1) := by decide +kernel
theorem dC_tradeWithShown_33 : decode mC_tradeWithShown.2.1 33 = .ok (.aload_n 2, 1) := by decide +kernel
theorem dC_tradeWithShown_34 : decode mC_tradeWithShown.2.1 34 = .ok (.aload_n 2, 1) := by decide +kernel
theorem dC_tradeWithShown_35 : decode mC_tradeWithShown.2.1 35 = .ok (.getfield 146, 3) := by decide +kernel
theorem dC_tradeWithShown_38 : decode mC_tradeWithShown.2.1 38 = .ok (.iload 4, 2) := by decide +kernel
theorem dC_tradeWithShown_40 : decode mC_tradeWithShown.2.1 40 = .ok (.invokevirtual 230, 3) := by decide +kernel
theorem dC_tradeWithShown_43 : decode mC_tradeWithShown.2.1 43 = .ok (.goto (15), 3) := by decide +kernel
theorem dC_tradeWithShown_46 : decode mC_tradeWithShown.2.1 46 = .ok (.aload_n 0, 1) := by decide +kernel
theorem dC_tradeWithShown_47 : decode mC_tradeWithShown.2.1 47 = .ok (.aload_n 2, 1) := by decide +kernel
theorem dC_tradeWithShown_48 : decode mC_tradeWithShown.2.1 48 = .ok (.aload_n 1, 1) := by decide +kernel
theorem dC_tradeWithShown_49 : decode mC_tradeWithShown.2.1 49 = .ok (.aload_n 2, 1) := by decide +kernel
theorem dC_tradeWithShown_50 : decode mC_tradeWithShown.2.1 50 = .ok (.getfield 146, 3) := by decide +kernel
theorem dC_tradeWithShown_53 : decode mC_tradeWithShown.2.1 53 = .ok (.iload 4, 2) := by decide +kernel
theorem dC_tradeWithShown_55 : decode mC_tradeWithShown.2.1 55 = .ok (.invokevirtual 230, 3) := by decide +kernel
theorem dC_tradeWithShown_58 : decode mC_tradeWithShown.2.1 58 = .ok (.aload_n 2, 1) := by decide +kernel
theorem dC_tradeWithShown_59 : decode mC_tradeWithShown.2.1 59 = .ok (.getfield 107, 3) := by decide +kernel
theorem dC_tradeWithShown_62 : decode mC_tradeWithShown.2.1 62 = .ok (.ifCond .ne (12), 3) := by decide +kernel
theorem dC_tradeWithShown_65 : decode mC_tradeWithShown.2.1 65 = .ok (.aload_n 0, 1) := by decide +kernel
theorem dC_tradeWithShown_66 : decode mC_tradeWithShown.2.1 66 = .ok (.aload_n 2, 1) := by decide +kernel
theorem dC_tradeWithShown_67 : decode mC_tradeWithShown.2.1 67 = .ok (.iconst 1, 1) := by decide +kernel
theorem dC_tradeWithShown_68 : decode mC_tradeWithShown.2.1 68 = .ok (.invokevirtual 103, 3) := by decide +kernel
theorem dC_tradeWithShown_71 : decode mC_tradeWithShown.2.1 71 = .ok (.goto (24), 3) := by decide +kernel
theorem dC_tradeWithShown_74 : decode mC_tradeWithShown.2.1 74 = .ok (.aload_n 2, 1) := by decide +kernel
theorem dC_tradeWithShown_75 : decode mC_tradeWithShown.2.1 75 = .ok (.getfield 110, 3) := by decide +kernel
theorem dC_tradeWithShown_78 : decode mC_tradeWithShown.2.1 78 = .ok (.ifCond .ne (17), 3) := by decide +kernel
theorem dC_tradeWithShown_81 : decode mC_tradeWithShown.2.1 81 = .ok (.aload_n 3, 1) := by decide +kernel
theorem dC_tradeWithShown_82 : decode mC_tradeWithShown.2.1 82 = .ok (.aload_n 2, 1) := by decide +kernel
theorem dC_tradeWithShown_83 : decode mC_tradeWithShown.2.1 83 = .ok (.invokevirtual 234, 3) := by decide +kernel
theorem dC_tradeWithShown_86 : decode mC_tradeWithShown.2.1 86 = .ok (.aload_n 2, 1) := by decide +kernel
theorem dC_tradeWithShown_87 : decode mC_tradeWithShown.2.1 87 = .ok (.invokevirtual 213, 3) := by decide +kernel
theorem dC_tradeWithShown_90 : decode mC_tradeWithShown.2.1 90 = .ok (.aload_n 3, 1) := by decide +kernel
theorem dC_tradeWithShown_91 : decode mC_tradeWithShown.2.1 91 = .ok (.aload_n 2, 1) := by decide +kernel
theorem dC_tradeWithShown_92 : decode mC_tradeWithShown.2.1 92 = .ok (.invokevirtual 216, 3) := by decide +kernel
theorem dC_tradeWithShown_95 : decode mC_tradeWithShown.2.1 95 = .ok (.return_, 1) := by decide +kernel
theorem dM_min_0 : decode mM_min.2.1 0 = .ok (.iload_n 0, 1) := by decide +kernel
theorem dM_min_1 : decode mM_min.2.1 1 = .ok (.iload_n 1, 1) := by decide +kernel
theorem dM_min_2 : decode mM_min.2.1 2 = .ok (.if_icmp .gt (7), 3) := by decide +kernel
theorem dM_min_5 : decode mM_min.2.1 5 = .ok (.iload_n 0, 1) := by decide +kernel
theorem dM_min_6 : decode mM_min.2.1 6 = .ok (.goto (4), 3) := by decide +kernel
theorem dM_min_9 : decode mM_min.2.1 9 = .ok (.iload_n 1, 1) := by decide +kernel
theorem dM_min_10 : decode mM_min.2.1 10 = .ok (.ireturn, 1) := by decide +kernel
theorem dC_exchange_0 : decode mC_exchange.2.1 0 = .ok (.aload_n 1, 1) := by decide +kernel
theorem dC_exchange_1 : decode mC_exchange.2.1 1 = .ok (.dup, 1) := by decide +kernel
theorem dC_exchange_2 : decode mC_exchange.2.1 2 = .ok (.getfield 107, 3) := by decide +kernel
theorem dC_exchange_5 : decode mC_exchange.2.1 5 = .ok (.iload 4, 2) := by decide +kernel
theorem dC_exchange_7 : decode mC_exchange.2.1 7 = .ok (.isub, 1) := by decide +kernel
theorem dC_exchange_8 : decode mC_exchange.2.1 8 = .ok (.putfield 107, 3) := by decide +kernel
theorem dC_exchange_11 : decode mC_exchange.2.1 11 = .ok (.aload_n 2, 1) := by decide +kernel
theorem dC_exchange_12 : decode mC_exchange.2.1 12 = .ok (.dup, 1) := by decide +kernel
theorem dC_exchange_13 : decode mC_exchange.2.1 13 = .ok (.getfield 107, 3) := by decide +kernel
theorem dC_exchange_16 : decode mC_exchange.2.1 16 = .ok (.iload 4, 2) := by decide +kernel
theorem dC_exchange_18 : decode mC_exchange.2.1 18 = .ok (.isub, 1) := by decide +kernel
theorem dC_exchange_19 : decode mC_exchange.2.1 19 = .ok (.putfield 107, 3) := by decide +kernel
theorem dC_exchange_22 : decode mC_exchange.2.1 22 = .ok (.aload_n 0, 1) := by decide +kernel
theorem dC_exchange_23 : decode mC_exchange.2.1 23 = .ok (.getfield 11, 3) := by decide +kernel
theorem dC_exchange_26 : decode mC_exchange.2.1 26 = .ok (.aload_n 1, 1) := by decide +kernel
theorem dC_exchange_27 : decode mC_exchange.2.1 27 = .ok (.getfield 185, 3) := by decide +kernel
theorem dC_exchange_30 : decode mC_exchange.2.1 30 = .ok (.aaload, 1) := by decide +kernel
theorem dC_exchange_31 : decode mC_exchange.2.1 31 = .ok (.aload_n 1, 1) := by decide +kernel
theorem dC_exchange_32 : decode mC_exchange.2.1 32 = .ok (.getfield 160, 3) := by decide +kernel
theorem dC_exchange_35 : decode mC_exchange.2.1 35 = .ok (.iload 4, 2) := by decide +kernel
theorem dC_exchange_37 : decode mC_exchange.2.1 37 = .ok (.iload_n 3, 1) := by decide +kernel
theorem dC_exchange_38 : decode mC_exchange.2.1 38 = .ok (.invokevirtual 240, 3) := by decide +kernel
theorem dC_exchange_41 : decode mC_exchange.2.1 41 = .ok (.aload_n 0, 1) := by decide +kernel
theorem dC_exchange_42 : decode mC_exchange.2.1 42 = .ok (.getfield 11, 3) := by decide +kernel
theorem dC_exchange_45 : decode mC_exchange.2.1 45 = .ok (.aload_n 2, 1) := by decide +kernel
theorem dC_exchange_46 : decode mC_exchange.2.1 46 = .ok (.getfield 185, 3) := by decide +kernel
theorem dC_exchange_49 : decode mC_exchange.2.1 49 = .ok (.aaload, 1) := by decide +kernel
theorem dC_exchange_50 : decode mC_exchange.2.1 50 = .ok (.aload_n 2, 1) := by decide +kernel
theorem dC_exchange_51 : decode mC_exchange.2.1 51 = .ok (.getfield 160, 3) := by decide +kernel
theorem dC_exchange_54 : decode mC_exchange.2.1 54 = .ok (.iload 4, 2) := by decide +kernel
theorem dC_exchange_56 : decode mC_exchange.2.1 56 = .ok (.ineg, 1) := by decide +kernel
theorem dC_exchange_57 : decode mC_exchange.2.1 57 = .ok (.iload_n 3, 1) := by decide +kernel
theorem dC_exchange_58 : decode mC_exchange.2.1 58 = .ok (.invokevirtual 240, 3) := by decide +kernel
theorem dC_exchange_61 : decode mC_exchange.2.1 61 = .ok (.aload_n 0, 1) := by decide +kernel
theorem dC_exchange_62 : decode mC_exchange.2.1 62 = .ok (.getfield 17, 3) := by decide +kernel
theorem dC_exchange_65 : decode mC_exchange.2.1 65 = .ok (.aload_n 1, 1) := by decide +kernel
theorem dC_exchange_66 : decode mC_exchange.2.1 66 = .ok (.getfield 160, 3) := by decide +kernel
theorem dC_exchange_69 : decode mC_exchange.2.1 69 = .ok (.aaload, 1) := by decide +kernel
theorem dC_exchange_70 : decode mC_exchange.2.1 70 = .ok (.iload_n 3, 1) := by decide +kernel
theorem dC_exchange_71 : decode mC_exchange.2.1 71 = .ok (.putfield 244, 3) := by decide +kernel
theorem dC_exchange_74 : decode mC_exchange.2.1 74 = .ok (.aload_n 0, 1) := by decide +kernel
theorem dC_exchange_75 : decode mC_exchange.2.1 75 = .ok (.getfield 30, 3) := by decide +kernel
theorem dC_exchange_78 : decode mC_exchange.2.1 78 = .ok (.aload_n 1, 1) := by decide +kernel
theorem dC_exchange_79 : decode mC_exchange.2.1 79 = .ok (.getfield 96, 3) := by decide +kernel
theorem dC_exchange_82 : decode mC_exchange.2.1 82 = .ok (.aload_n 2, 1) := by decide +kernel
theorem dC_exchange_83 : decode mC_exchange.2.1 83 = .ok (.getfield 96, 3) := by decide +kernel
theorem dC_exchange_86 : decode mC_exchange.2.1 86 = .ok (.iload_n 3, 1) := by decide +kernel
theorem dC_exchange_87 : decode mC_exchange.2.1 87 = .ok (.iload 4, 2) := by decide +kernel
theorem dC_exchange_89 : decode mC_exchange.2.1 89 = .ok (.invokevirtual 247, 3) := by decide +kernel
theorem dC_exchange_92 : decode mC_exchange.2.1 92 = .ok (.return_, 1) := by decide +kernel
theorem dA_enter_0 : decode mA_enter.2.1 0 = .ok (.aload_n 0, 1) := by decide +kernel
theorem dA_enter_1 : decode mA_enter.2.1 1 = .ok (.getfield 9, 3) := by decide +kernel
theorem dA_enter_4 : decode mA_enter.2.1 4 = .ok (.iload_n 1, 1) := by decide +kernel
theorem dA_enter_5 : decode mA_enter.2.1 5 = .ok (.dup2, 1) := by decide +kernel
theorem dA_enter_6 : decode mA_enter.2.1 6 = .ok (.iaload, 1) := by decide +kernel
theorem dA_enter_7 : decode mA_enter.2.1 7 = .ok (.iload_n 2, 1) := by decide +kernel
theorem dA_enter_8 : decode mA_enter.2.1 8 = .ok (.iadd, 1) := by decide +kernel
theorem dA_enter_9 : decode mA_enter.2.1 9 = .ok (.iastore, 1) := by decide +kernel
theorem dA_enter_10 : decode mA_enter.2.1 10 = .ok (.aload_n 0, 1) := by decide +kernel
theorem dA_enter_11 : decode mA_enter.2.1 11 = .ok (.dup, 1) := by decide +kernel
theorem dA_enter_12 : decode mA_enter.2.1 12 = .ok (.getfield 19, 3) := by decide +kernel
theorem dA_enter_15 : decode mA_enter.2.1 15 = .ok (.iload_n 2, 1) := by decide +kernel
theorem dA_enter_16 : decode mA_enter.2.1 16 = .ok (.i2l, 1) := by decide +kernel
theorem dA_enter_17 : decode mA_enter.2.1 17 = .ok (.iload_n 3, 1) := by decide +kernel
theorem dA_enter_18 : decode mA_enter.2.1 18 = .ok (.i2l, 1) := by decide +kernel
theorem dA_enter_19 : decode mA_enter.2.1 19 = .ok (.lmul, 1) := by decide +kernel
theorem dA_enter_20 : decode mA_enter.2.1 20 = .ok (.lsub, 1) := by decide +kernel
theorem dA_enter_21 : decode mA_enter.2.1 21 = .ok (.putfield 19, 3) := by decide +kernel
theorem dA_enter_24 : decode mA_enter.2.1 24 = .ok (.return_, 1) := by decide +kernel
theorem dT_write_0 : decode mT_write.2.1 0 = .ok (.aload_n 0, 1) := by decide +kernel
theorem dT_write_1 : decode mT_write.2.1 1 = .ok (.getfield 15, 3) := by decide +kernel
theorem dT_write_4 : decode mT_write.2.1 4 = .ok (.bipush (100), 2) := by decide +kernel
theorem dT_write_6 : decode mT_write.2.1 6 = .ok (.irem, 1) := by decide +kernel
theorem dT_write_7 : decode mT_write.2.1 7 = .ok (.iconst 4, 1) := by decide +kernel
theorem dT_write_8 : decode mT_write.2.1 8 = .ok (.imul, 1) := by decide +kernel
theorem dT_write_9 : decode mT_write.2.1 9 = .ok (.istore 5, 2) := by decide +kernel
theorem dT_write_11 : decode mT_write.2.1 11 = .ok (.aload_n 0, 1) := by decide +kernel
theorem dT_write_12 : decode mT_write.2.1 12 = .ok (.getfield 9, 3) := by decide +kernel
theorem dT_write_15 : decode mT_write.2.1 15 = .ok (.iload 5, 2) := by decide +kernel
theorem dT_write_17 : decode mT_write.2.1 17 = .ok (.iload_n 1, 1) := by decide +kernel
theorem dT_write_18 : decode mT_write.2.1 18 = .ok (.iastore, 1) := by decide +kernel
theorem dT_write_19 : decode mT_write.2.1 19 = .ok (.aload_n 0, 1) := by decide +kernel
theorem dT_write_20 : decode mT_write.2.1 20 = .ok (.getfield 9, 3) := by decide +kernel
theorem dT_write_23 : decode mT_write.2.1 23 = .ok (.iload 5, 2) := by decide +kernel
theorem dT_write_25 : decode mT_write.2.1 25 = .ok (.iconst 1, 1) := by decide +kernel
theorem dT_write_26 : decode mT_write.2.1 26 = .ok (.iadd, 1) := by decide +kernel
theorem dT_write_27 : decode mT_write.2.1 27 = .ok (.iload_n 2, 1) := by decide +kernel
theorem dT_write_28 : decode mT_write.2.1 28 = .ok (.iastore, 1) := by decide +kernel
theorem dT_write_29 : decode mT_write.2.1 29 = .ok (.aload_n 0, 1) := by decide +kernel
theorem dT_write_30 : decode mT_write.2.1 30 = .ok (.getfield 9, 3) := by decide +kernel
theorem dT_write_33 : decode mT_write.2.1 33 = .ok (.iload 5, 2) := by decide +kernel
theorem dT_write_35 : decode mT_write.2.1 35 = .ok (.iconst 2, 1) := by decide +kernel
theorem dT_write_36 : decode mT_write.2.1 36 = .ok (.iadd, 1) := by decide +kernel
theorem dT_write_37 : decode mT_write.2.1 37 = .ok (.iload_n 3, 1) := by decide +kernel
theorem dT_write_38 : decode mT_write.2.1 38 = .ok (.iastore, 1) := by decide +kernel
theorem dT_write_39 : decode mT_write.2.1 39 = .ok (.aload_n 0, 1) := by decide +kernel
theorem dT_write_40 : decode mT_write.2.1 40 = .ok (.getfield 9, 3) := by decide +kernel
theorem dT_write_43 : decode mT_write.2.1 43 = .ok (.iload 5, 2) := by decide +kernel
theorem dT_write_45 : decode mT_write.2.1 45 = .ok (.iconst 3, 1) := by decide +kernel
theorem dT_write_46 : decode mT_write.2.1 46 = .ok (.iadd, 1) := by decide +kernel
theorem dT_write_47 : decode mT_write.2.1 47 = .ok (.iload 4, 2) := by decide +kernel
theorem dT_write_49 : decode mT_write.2.1 49 = .ok (.iastore, 1) := by decide +kernel
theorem dT_write_50 : decode mT_write.2.1 50 = .ok (.aload_n 0, 1) := by decide +kernel
theorem dT_write_51 : decode mT_write.2.1 51 = .ok (.dup, 1) := by decide +kernel
theorem dT_write_52 : decode mT_write.2.1 52 = .ok (.getfield 15, 3) := by decide +kernel
theorem dT_write_55 : decode mT_write.2.1 55 = .ok (.iconst 1, 1) := by decide +kernel
theorem dT_write_56 : decode mT_write.2.1 56 = .ok (.iadd, 1) := by decide +kernel
theorem dT_write_57 : decode mT_write.2.1 57 = .ok (.putfield 15, 3) := by decide +kernel
theorem dT_write_60 : decode mT_write.2.1 60 = .ok (.return_, 1) := by decide +kernel
theorem dO_showAnew_0 : decode mO_showAnew.2.1 0 = .ok (.aload_n 0, 1) := by decide +kernel
theorem dO_showAnew_1 : decode mO_showAnew.2.1 1 = .ok (.aload_n 0, 1) := by decide +kernel
theorem dO_showAnew_2 : decode mO_showAnew.2.1 2 = .ok (.getfield 41, 3) := by decide +kernel
theorem dO_showAnew_5 : decode mO_showAnew.2.1 5 = .ok (.iconst 5, 1) := by decide +kernel
theorem dO_showAnew_6 : decode mO_showAnew.2.1 6 = .ok (.if_icmp .ne (14), 3) := by decide +kernel
theorem dO_showAnew_9 : decode mO_showAnew.2.1 9 = .ok (.iconst 5, 1) := by decide +kernel
theorem dO_showAnew_10 : decode mO_showAnew.2.1 10 = .ok (.aload_n 0, 1) := by decide +kernel
theorem dO_showAnew_11 : decode mO_showAnew.2.1 11 = .ok (.getfield 47, 3) := by decide +kernel
theorem dO_showAnew_14 : decode mO_showAnew.2.1 14 = .ok (.invokestatic 50, 3) := by decide +kernel
theorem dO_showAnew_17 : decode mO_showAnew.2.1 17 = .ok (.goto (7), 3) := by decide +kernel
theorem dO_showAnew_20 : decode mO_showAnew.2.1 20 = .ok (.aload_n 0, 1) := by decide +kernel
theorem dO_showAnew_21 : decode mO_showAnew.2.1 21 = .ok (.getfield 47, 3) := by decide +kernel
theorem dO_showAnew_24 : decode mO_showAnew.2.1 24 = .ok (.putfield 9, 3) := by decide +kernel
theorem dO_showAnew_27 : decode mO_showAnew.2.1 27 = .ok (.return_, 1) := by decide +kernel
theorem dD_join_0 : decode mD_join.2.1 0 = .ok (.aconst_null, 1) := by decide +kernel
theorem dD_join_1 : decode mD_join.2.1 1 = .ok (.astore_n 2, 1) := by decide +kernel
theorem dD_join_2 : decode mD_join.2.1 2 = .ok (.aload_n 0, 1) := by decide +kernel
theorem dD_join_3 : decode mD_join.2.1 3 = .ok (.getfield 9, 3) := by decide +kernel
theorem dD_join_6 : decode mD_join.2.1 6 = .ok (.astore_n 3, 1) := by decide +kernel
theorem dD_join_7 : decode mD_join.2.1 7 = .ok (.aload_n 3, 1) := by decide +kernel
theorem dD_join_8 : decode mD_join.2.1 8 = .ok (.ifnull (21), 3) := by decide +kernel
theorem dD_join_11 : decode mD_join.2.1 11 = .ok (.aload_n 1, 1) := by decide +kernel
theorem dD_join_12 : decode mD_join.2.1 12 = .ok (.aload_n 3, 1) := by decide +kernel
theorem dD_join_13 : decode mD_join.2.1 13 = .ok (.invokestatic 15, 3) := by decide +kernel
theorem dD_join_16 : decode mD_join.2.1 16 = .ok (.ifCond .ne (13), 3) := by decide +kernel
theorem dD_join_19 : decode mD_join.2.1 19 = .ok (.aload_n 3, 1) := by decide +kernel
theorem dD_join_20 : decode mD_join.2.1 20 = .ok (.astore_n 2, 1) := by decide +kernel
theorem dD_join_21 : decode mD_join.2.1 21 = .ok (.aload_n 3, 1) := by decide +kernel
theorem dD_join_22 : decode mD_join.2.1 22 = .ok (.getfield 19, 3) := by decide +kernel
theorem dD_join_25 : decode mD_join.2.1 25 = .ok (.astore_n 3, 1) := by decide +kernel
theorem dD_join_26 : decode mD_join.2.1 26 = .ok (.goto (-19), 3) := by decide +kernel
theorem dD_join_29 : decode mD_join.2.1 29 = .ok (.aload_n 1, 1) := by decide +kernel
theorem dD_join_30 : decode mD_join.2.1 30 = .ok (.aload_n 3, 1) := by decide +kernel
theorem dD_join_31 : decode mD_join.2.1 31 = .ok (.putfield 19, 3) := by decide +kernel
theorem dD_join_34 : decode mD_join.2.1 34 = .ok (.aload_n 0, 1) := by decide +kernel
theorem dD_join_35 : decode mD_join.2.1 35 = .ok (.aload_n 2, 1) := by decide +kernel
theorem dD_join_36 : decode mD_join.2.1 36 = .ok (.aload_n 1, 1) := by decide +kernel
theorem dD_join_37 : decode mD_join.2.1 37 = .ok (.invokevirtual 24, 3) := by decide +kernel
theorem dD_join_40 : decode mD_join.2.1 40 = .ok (.return_, 1) := by decide +kernel
theorem dD_isBetter_0 : decode mD_isBetter.2.1 0 = .ok (.aload_n 0, 1) := by decide +kernel
theorem dD_isBetter_1 : decode mD_isBetter.2.1 1 = .ok (.getfield 35, 3) := by decide +kernel
theorem dD_isBetter_4 : decode mD_isBetter.2.1 4 = .ok (.aload_n 1, 1) := by decide +kernel
theorem dD_isBetter_5 : decode mD_isBetter.2.1 5 = .ok (.getfield 35, 3) := by decide +kernel
theorem dD_isBetter_8 : decode mD_isBetter.2.1 8 = .ok (.if_icmp .eq (18), 3) := by decide +kernel
theorem dD_isBetter_11 : decode mD_isBetter.2.1 11 = .ok (.aload_n 0, 1) := by decide +kernel
theorem dD_isBetter_12 : decode mD_isBetter.2.1 12 = .ok (.aload_n 1, 1) := by decide +kernel
theorem dD_isBetter_13 : decode mD_isBetter.2.1 13 = .ok (.getfield 35, 3) := by decide +kernel
theorem dD_isBetter_16 : decode mD_isBetter.2.1 16 = .ok (.invokevirtual 38, 3) := by decide +kernel
theorem dD_isBetter_19 : decode mD_isBetter.2.1 19 = .ok (.ifCond .eq (7), 3) := by decide +kernel
theorem dD_isBetter_22 : decode mD_isBetter.2.1 22 = .ok (.iconst 1, 1) := by decide +kernel
theorem dD_isBetter_23 : decode mD_isBetter.2.1 23 = .ok (.goto (4), 3) := by decide +kernel
theorem dD_isBetter_26 : decode mD_isBetter.2.1 26 = .ok (.iconst 0, 1) := by decide +kernel
theorem dD_isBetter_27 : decode mD_isBetter.2.1 27 = .ok (.ireturn, 1) := by decide +kernel
theorem dC_cancel_0 : decode mC_cancel.2.1 0 = .ok (.aload_n 0, 1) := by decide +kernel
theorem dC_cancel_1 : decode mC_cancel.2.1 1 = .ok (.iload_n 1, 1) := by decide +kernel
theorem dC_cancel_2 : decode mC_cancel.2.1 2 = .ok (.iload_n 2, 1) := by decide +kernel
theorem dC_cancel_3 : decode mC_cancel.2.1 3 = .ok (.invokevirtual 99, 3) := by decide +kernel
theorem dC_cancel_6 : decode mC_cancel.2.1 6 = .ok (.astore_n 3, 1) := by decide +kernel
theorem dC_cancel_7 : decode mC_cancel.2.1 7 = .ok (.aload_n 3, 1) := by decide +kernel
theorem dC_cancel_8 : decode mC_cancel.2.1 8 = .ok (.ifnonnull (5), 3) := by decide +kernel
theorem dC_cancel_11 : decode mC_cancel.2.1 11 = .ok (.iconst 0, 1) := by decide +kernel
theorem dC_cancel_12 : decode mC_cancel.2.1 12 = .ok (.ireturn, 1) := by decide +kernel
theorem dC_cancel_13 : decode mC_cancel.2.1 13 = .ok (.aload_n 0, 1) := by decide +kernel
theorem dC_cancel_14 : decode mC_cancel.2.1 14 = .ok (.aload_n 3, 1) := by decide +kernel
theorem dC_cancel_15 : decode mC_cancel.2.1 15 = .ok (.iconst 2, 1) := by decide +kernel
theorem dC_cancel_16 : decode mC_cancel.2.1 16 = .ok (.invokevirtual 103, 3) := by decide +kernel
theorem dC_cancel_19 : decode mC_cancel.2.1 19 = .ok (.iconst 1, 1) := by decide +kernel
theorem dC_cancel_20 : decode mC_cancel.2.1 20 = .ok (.ireturn, 1) := by decide +kernel
theorem dC_findResting_0 : decode mC_findResting.2.1 0 = .ok (.aload_n 0, 1) := by decide +kernel
theorem dC_findResting_1 : decode mC_findResting.2.1 1 = .ok (.iload_n 2, 1) := by decide +kernel
theorem dC_findResting_2 : decode mC_findResting.2.1 2 = .ok (.invokevirtual 153, 3) := by decide +kernel
theorem dC_findResting_5 : decode mC_findResting.2.1 5 = .ok (.astore_n 3, 1) := by decide +kernel
theorem dC_findResting_6 : decode mC_findResting.2.1 6 = .ok (.aload_n 3, 1) := by decide +kernel
theorem dC_findResting_7 : decode mC_findResting.2.1 7 = .ok (.ifnull (22), 3) := by decide +kernel
theorem dC_findResting_10 : decode mC_findResting.2.1 10 = .ok (.aload_n 3, 1) := by decide +kernel
theorem dC_findResting_11 : decode mC_findResting.2.1 11 = .ok (.getfield 185, 3) := by decide +kernel
theorem dC_findResting_14 : decode mC_findResting.2.1 14 = .ok (.iload_n 1, 1) := by decide +kernel
theorem dC_findResting_15 : decode mC_findResting.2.1 15 = .ok (.if_icmp .ne (14), 3) := by decide +kernel
theorem dC_findResting_18 : decode mC_findResting.2.1 18 = .ok (.aload_n 3, 1) := by decide +kernel
theorem dC_findResting_19 : decode mC_findResting.2.1 19 = .ok (.getfield 157, 3) := by decide +kernel
theorem dC_findResting_22 : decode mC_findResting.2.1 22 = .ok (.ifCond .ne (7), 3) := by decide +kernel
theorem dC_findResting_25 : decode mC_findResting.2.1 25 = .ok (.aload_n 3, 1) := by decide +kernel
theorem dC_findResting_26 : decode mC_findResting.2.1 26 = .ok (.goto (4), 3) := by decide +kernel
theorem dC_findResting_29 : decode mC_findResting.2.1 29 = .ok (.aconst_null, 1) := by decide +kernel
theorem dC_findResting_30 : decode mC_findResting.2.1 30 = .ok (.areturn, 1) := by decide +kernel
theorem dC_find_0 : decode mC_find.2.1 0 = .ok (.iload_n 1, 1) := by decide +kernel
theorem dC_find_1 : decode mC_find.2.1 1 = .ok (.ifCond .lt (20), 3) := by decide +kernel
