/-! decode rows -/
theorem d_B_init_0 : decode b_B_init 0 = .ok (.aload_n 0, 1) := by decide +kernel
theorem d_B_init_1 : decode b_B_init 1 = .ok (.invokespecial 1, 3) := by decide +kernel
theorem d_B_init_4 : decode b_B_init 4 = .ok (.aload_n 0, 1) := by decide +kernel
theorem d_B_init_5 : decode b_B_init 5 = .ok (.new 7, 3) := by decide +kernel
theorem d_B_init_8 : decode b_B_init 8 = .ok (.dup, 1) := by decide +kernel
theorem d_B_init_9 : decode b_B_init 9 = .ok (.invokespecial 9, 3) := by decide +kernel
theorem d_B_init_12 : decode b_B_init 12 = .ok (.putfield 10, 3) := by decide +kernel
theorem d_B_init_15 : decode b_B_init 15 = .ok (.aload_n 0, 1) := by decide +kernel
theorem d_B_init_16 : decode b_B_init 16 = .ok (.new 16, 3) := by decide +kernel
theorem d_B_init_19 : decode b_B_init 19 = .ok (.dup, 1) := by decide +kernel
theorem d_B_init_20 : decode b_B_init 20 = .ok (.invokespecial 18, 3) := by decide +kernel
theorem d_B_init_23 : decode b_B_init 23 = .ok (.putfield 19, 3) := by decide +kernel
theorem d_B_init_26 : decode b_B_init 26 = .ok (.aload_n 0, 1) := by decide +kernel
theorem d_B_init_27 : decode b_B_init 27 = .ok (.new 16, 3) := by decide +kernel
theorem d_B_init_30 : decode b_B_init 30 = .ok (.dup, 1) := by decide +kernel
theorem d_B_init_31 : decode b_B_init 31 = .ok (.invokespecial 18, 3) := by decide +kernel
theorem d_B_init_34 : decode b_B_init 34 = .ok (.putfield 23, 3) := by decide +kernel
theorem d_B_init_37 : decode b_B_init 37 = .ok (.aload_n 0, 1) := by decide +kernel
theorem d_B_init_38 : decode b_B_init 38 = .ok (.new 26, 3) := by decide +kernel
theorem d_B_init_41 : decode b_B_init 41 = .ok (.dup, 1) := by decide +kernel
theorem d_B_init_42 : decode b_B_init 42 = .ok (.invokespecial 28, 3) := by decide +kernel
theorem d_B_init_45 : decode b_B_init 45 = .ok (.putfield 29, 3) := by decide +kernel
theorem d_B_init_48 : decode b_B_init 48 = .ok (.aload_n 0, 1) := by decide +kernel
theorem d_B_init_49 : decode b_B_init 49 = .ok (.new 33, 3) := by decide +kernel
theorem d_B_init_52 : decode b_B_init 52 = .ok (.dup, 1) := by decide +kernel
theorem d_B_init_53 : decode b_B_init 53 = .ok (.invokespecial 35, 3) := by decide +kernel
theorem d_B_init_56 : decode b_B_init 56 = .ok (.putfield 36, 3) := by decide +kernel
theorem d_B_init_59 : decode b_B_init 59 = .ok (.aload_n 0, 1) := by decide +kernel
theorem d_B_init_60 : decode b_B_init 60 = .ok (.iconst 0, 1) := by decide +kernel
theorem d_B_init_61 : decode b_B_init 61 = .ok (.putfield 40, 3) := by decide +kernel
theorem d_B_init_64 : decode b_B_init 64 = .ok (.aload_n 0, 1) := by decide +kernel
theorem d_B_init_65 : decode b_B_init 65 = .ok (.sipush 1000, 3) := by decide +kernel
theorem d_B_init_68 : decode b_B_init 68 = .ok (.putfield 44, 3) := by decide +kernel
theorem d_B_init_71 : decode b_B_init 71 = .ok (.aload_n 0, 1) := by decide +kernel
theorem d_B_init_72 : decode b_B_init 72 = .ok (.iconst 0, 1) := by decide +kernel
theorem d_B_init_73 : decode b_B_init 73 = .ok (.putfield 47, 3) := by decide +kernel
theorem d_B_init_76 : decode b_B_init 76 = .ok (.aload_n 0, 1) := by decide +kernel
theorem d_B_init_77 : decode b_B_init 77 = .ok (.iconst 0, 1) := by decide +kernel
theorem d_B_init_78 : decode b_B_init 78 = .ok (.putfield 50, 3) := by decide +kernel
theorem d_B_init_81 : decode b_B_init 81 = .ok (.return_, 1) := by decide +kernel
theorem d_B_call_0 : decode b_B_call 0 = .ok (.aload_n 0, 1) := by decide +kernel
theorem d_B_call_1 : decode b_B_call 1 = .ok (.getfield 40, 3) := by decide +kernel
theorem d_B_call_4 : decode b_B_call 4 = .ok (.istore_n 1, 1) := by decide +kernel
theorem d_B_call_5 : decode b_B_call 5 = .ok (.aload_n 0, 1) := by decide +kernel
theorem d_B_call_6 : decode b_B_call 6 = .ok (.iconst 0, 1) := by decide +kernel
theorem d_B_call_7 : decode b_B_call 7 = .ok (.putfield 40, 3) := by decide +kernel
theorem d_B_call_10 : decode b_B_call 10 = .ok (.iload_n 1, 1) := by decide +kernel
theorem d_B_call_11 : decode b_B_call 11 = .ok (.ireturn, 1) := by decide +kernel
theorem d_B_at_0 : decode b_B_at 0 = .ok (.aload_n 0, 1) := by decide +kernel
theorem d_B_at_1 : decode b_B_at 1 = .ok (.iload_n 1, 1) := by decide +kernel
theorem d_B_at_2 : decode b_B_at 2 = .ok (.invokevirtual 138, 3) := by decide +kernel
theorem d_B_at_5 : decode b_B_at 5 = .ok (.getfield 145, 3) := by decide +kernel
theorem d_B_at_8 : decode b_B_at 8 = .ok (.astore_n 3, 1) := by decide +kernel
theorem d_B_at_9 : decode b_B_at 9 = .ok (.iload_n 2, 1) := by decide +kernel
theorem d_B_at_10 : decode b_B_at 10 = .ok (.ifCond .lt 11, 3) := by decide +kernel
theorem d_B_at_13 : decode b_B_at 13 = .ok (.iload_n 2, 1) := by decide +kernel
theorem d_B_at_14 : decode b_B_at 14 = .ok (.aload_n 3, 1) := by decide +kernel
theorem d_B_at_15 : decode b_B_at 15 = .ok (.invokevirtual 76, 3) := by decide +kernel
theorem d_B_at_18 : decode b_B_at 18 = .ok (.if_icmp .lt 7, 3) := by decide +kernel
theorem d_B_at_21 : decode b_B_at 21 = .ok (.iconst (-1), 1) := by decide +kernel
theorem d_B_at_22 : decode b_B_at 22 = .ok (.goto 14, 3) := by decide +kernel
theorem d_B_at_25 : decode b_B_at 25 = .ok (.aload_n 3, 1) := by decide +kernel
theorem d_B_at_26 : decode b_B_at 26 = .ok (.iload_n 2, 1) := by decide +kernel
theorem d_B_at_27 : decode b_B_at 27 = .ok (.invokevirtual 117, 3) := by decide +kernel
theorem d_B_at_30 : decode b_B_at 30 = .ok (.checkcast 83, 3) := by decide +kernel
theorem d_B_at_33 : decode b_B_at 33 = .ok (.getfield 100, 3) := by decide +kernel
theorem d_B_at_36 : decode b_B_at 36 = .ok (.ireturn, 1) := by decide +kernel
theorem d_B_side_0 : decode b_B_side 0 = .ok (.iload_n 1, 1) := by decide +kernel
theorem d_B_side_1 : decode b_B_side 1 = .ok (.ifCond .eq 10, 3) := by decide +kernel
theorem d_B_side_4 : decode b_B_side 4 = .ok (.aload_n 0, 1) := by decide +kernel
theorem d_B_side_5 : decode b_B_side 5 = .ok (.getfield 19, 3) := by decide +kernel
theorem d_B_side_8 : decode b_B_side 8 = .ok (.goto 7, 3) := by decide +kernel
theorem d_B_side_11 : decode b_B_side 11 = .ok (.aload_n 0, 1) := by decide +kernel
theorem d_B_side_12 : decode b_B_side 12 = .ok (.getfield 23, 3) := by decide +kernel
theorem d_B_side_15 : decode b_B_side 15 = .ok (.areturn, 1) := by decide +kernel
theorem d_B_trade_0 : decode b_B_trade 0 = .ok (.aload_n 0, 1) := by decide +kernel
theorem d_B_trade_1 : decode b_B_trade 1 = .ok (.getfield 29, 3) := by decide +kernel
theorem d_B_trade_4 : decode b_B_trade 4 = .ok (.iload_n 1, 1) := by decide +kernel
theorem d_B_trade_5 : decode b_B_trade 5 = .ok (.iload_n 2, 1) := by decide +kernel
theorem d_B_trade_6 : decode b_B_trade 6 = .ok (.invokevirtual 179, 3) := by decide +kernel
theorem d_B_trade_9 : decode b_B_trade 9 = .ok (.ireturn, 1) := by decide +kernel
theorem d_B_told_0 : decode b_B_told 0 = .ok (.iload_n 1, 1) := by decide +kernel
theorem d_B_told_1 : decode b_B_told 1 = .ok (.tableswitch 118 0 7 #[47, 53, 59, 65, 74, 86, 98, 110], 47) := by decide +kernel
theorem d_B_told_48 : decode b_B_told 48 = .ok (.aload_n 0, 1) := by decide +kernel
theorem d_B_told_49 : decode b_B_told 49 = .ok (.getfield 40, 3) := by decide +kernel
theorem d_B_told_52 : decode b_B_told 52 = .ok (.i2l, 1) := by decide +kernel
theorem d_B_told_53 : decode b_B_told 53 = .ok (.lreturn, 1) := by decide +kernel
theorem d_B_told_54 : decode b_B_told 54 = .ok (.aload_n 0, 1) := by decide +kernel
theorem d_B_told_55 : decode b_B_told 55 = .ok (.getfield 44, 3) := by decide +kernel
theorem d_B_told_58 : decode b_B_told 58 = .ok (.i2l, 1) := by decide +kernel
theorem d_B_told_59 : decode b_B_told 59 = .ok (.lreturn, 1) := by decide +kernel
theorem d_B_told_60 : decode b_B_told 60 = .ok (.aload_n 0, 1) := by decide +kernel
theorem d_B_told_61 : decode b_B_told 61 = .ok (.getfield 47, 3) := by decide +kernel
theorem d_B_told_64 : decode b_B_told 64 = .ok (.i2l, 1) := by decide +kernel
theorem d_B_told_65 : decode b_B_told 65 = .ok (.lreturn, 1) := by decide +kernel
theorem d_B_told_66 : decode b_B_told 66 = .ok (.aload_n 0, 1) := by decide +kernel
theorem d_B_told_67 : decode b_B_told 67 = .ok (.getfield 10, 3) := by decide +kernel
theorem d_B_told_70 : decode b_B_told 70 = .ok (.invokevirtual 76, 3) := by decide +kernel
theorem d_B_told_73 : decode b_B_told 73 = .ok (.i2l, 1) := by decide +kernel
theorem d_B_told_74 : decode b_B_told 74 = .ok (.lreturn, 1) := by decide +kernel
theorem d_B_told_75 : decode b_B_told 75 = .ok (.aload_n 0, 1) := by decide +kernel
theorem d_B_told_76 : decode b_B_told 76 = .ok (.getfield 19, 3) := by decide +kernel
theorem d_B_told_79 : decode b_B_told 79 = .ok (.getfield 145, 3) := by decide +kernel
theorem d_B_told_82 : decode b_B_told 82 = .ok (.invokevirtual 76, 3) := by decide +kernel
theorem d_B_told_85 : decode b_B_told 85 = .ok (.i2l, 1) := by decide +kernel
theorem d_B_told_86 : decode b_B_told 86 = .ok (.lreturn, 1) := by decide +kernel
theorem d_B_told_87 : decode b_B_told 87 = .ok (.aload_n 0, 1) := by decide +kernel
theorem d_B_told_88 : decode b_B_told 88 = .ok (.getfield 23, 3) := by decide +kernel
theorem d_B_told_91 : decode b_B_told 91 = .ok (.getfield 145, 3) := by decide +kernel
theorem d_B_told_94 : decode b_B_told 94 = .ok (.invokevirtual 76, 3) := by decide +kernel
theorem d_B_told_97 : decode b_B_told 97 = .ok (.i2l, 1) := by decide +kernel
theorem d_B_told_98 : decode b_B_told 98 = .ok (.lreturn, 1) := by decide +kernel
theorem d_B_told_99 : decode b_B_told 99 = .ok (.aload_n 0, 1) := by decide +kernel
theorem d_B_told_100 : decode b_B_told 100 = .ok (.getfield 29, 3) := by decide +kernel
theorem d_B_told_103 : decode b_B_told 103 = .ok (.getfield 183, 3) := by decide +kernel
theorem d_B_told_106 : decode b_B_told 106 = .ok (.invokevirtual 76, 3) := by decide +kernel
theorem d_B_told_109 : decode b_B_told 109 = .ok (.i2l, 1) := by decide +kernel
theorem d_B_told_110 : decode b_B_told 110 = .ok (.lreturn, 1) := by decide +kernel
theorem d_B_told_111 : decode b_B_told 111 = .ok (.aload_n 0, 1) := by decide +kernel
theorem d_B_told_112 : decode b_B_told 112 = .ok (.getfield 29, 3) := by decide +kernel
theorem d_B_told_115 : decode b_B_told 115 = .ok (.getfield 186, 3) := by decide +kernel
theorem d_B_told_118 : decode b_B_told 118 = .ok (.lreturn, 1) := by decide +kernel
theorem d_B_told_119 : decode b_B_told 119 = .ok (.ldc2_w 189, 3) := by decide +kernel
theorem d_B_told_122 : decode b_B_told 122 = .ok (.lreturn, 1) := by decide +kernel
theorem d_B_astray_0 : decode b_B_astray 0 = .ok (.aload_n 0, 1) := by decide +kernel
theorem d_B_astray_1 : decode b_B_astray 1 = .ok (.iconst 1, 1) := by decide +kernel
theorem d_B_astray_2 : decode b_B_astray 2 = .ok (.invokevirtual 191, 3) := by decide +kernel
theorem d_B_astray_5 : decode b_B_astray 5 = .ok (.aload_n 0, 1) := by decide +kernel
theorem d_B_astray_6 : decode b_B_astray 6 = .ok (.iconst 0, 1) := by decide +kernel
theorem d_B_astray_7 : decode b_B_astray 7 = .ok (.invokevirtual 191, 3) := by decide +kernel
theorem d_B_astray_10 : decode b_B_astray 10 = .ok (.iadd, 1) := by decide +kernel
theorem d_B_astray_11 : decode b_B_astray 11 = .ok (.aload_n 0, 1) := by decide +kernel
theorem d_B_astray_12 : decode b_B_astray 12 = .ok (.invokevirtual 195, 3) := by decide +kernel
theorem d_B_astray_15 : decode b_B_astray 15 = .ok (.iadd, 1) := by decide +kernel
theorem d_B_astray_16 : decode b_B_astray 16 = .ok (.ireturn, 1) := by decide +kernel
theorem d_B_astrayInLine_0 : decode b_B_astrayInLine 0 = .ok (.aload_n 0, 1) := by decide +kernel
theorem d_B_astrayInLine_1 : decode b_B_astrayInLine 1 = .ok (.iload_n 1, 1) := by decide +kernel
theorem d_B_astrayInLine_2 : decode b_B_astrayInLine 2 = .ok (.invokevirtual 138, 3) := by decide +kernel
theorem d_B_astrayInLine_5 : decode b_B_astrayInLine 5 = .ok (.getfield 145, 3) := by decide +kernel
theorem d_B_astrayInLine_8 : decode b_B_astrayInLine 8 = .ok (.astore_n 2, 1) := by decide +kernel
theorem d_B_astrayInLine_9 : decode b_B_astrayInLine 9 = .ok (.iconst 0, 1) := by decide +kernel
theorem d_B_astrayInLine_10 : decode b_B_astrayInLine 10 = .ok (.istore_n 3, 1) := by decide +kernel
theorem d_B_astrayInLine_11 : decode b_B_astrayInLine 11 = .ok (.iconst 0, 1) := by decide +kernel
theorem d_B_astrayInLine_12 : decode b_B_astrayInLine 12 = .ok (.istore 4, 2) := by decide +kernel
theorem d_B_astrayInLine_14 : decode b_B_astrayInLine 14 = .ok (.iload 4, 2) := by decide +kernel
theorem d_B_astrayInLine_16 : decode b_B_astrayInLine 16 = .ok (.aload_n 2, 1) := by decide +kernel
theorem d_B_astrayInLine_17 : decode b_B_astrayInLine 17 = .ok (.invokevirtual 76, 3) := by decide +kernel
theorem d_B_astrayInLine_20 : decode b_B_astrayInLine 20 = .ok (.if_icmp .ge 85, 3) := by decide +kernel
theorem d_B_astrayInLine_23 : decode b_B_astrayInLine 23 = .ok (.aload_n 2, 1) := by decide +kernel
theorem d_B_astrayInLine_24 : decode b_B_astrayInLine 24 = .ok (.iload 4, 2) := by decide +kernel
theorem d_B_astrayInLine_26 : decode b_B_astrayInLine 26 = .ok (.invokevirtual 117, 3) := by decide +kernel
theorem d_B_astrayInLine_29 : decode b_B_astrayInLine 29 = .ok (.checkcast 83, 3) := by decide +kernel
theorem d_B_astrayInLine_32 : decode b_B_astrayInLine 32 = .ok (.astore 5, 2) := by decide +kernel
theorem d_B_astrayInLine_34 : decode b_B_astrayInLine 34 = .ok (.aload 5, 2) := by decide +kernel
theorem d_B_astrayInLine_36 : decode b_B_astrayInLine 36 = .ok (.getfield 134, 3) := by decide +kernel
theorem d_B_astrayInLine_39 : decode b_B_astrayInLine 39 = .ok (.iload_n 1, 1) := by decide +kernel
theorem d_B_astrayInLine_40 : decode b_B_astrayInLine 40 = .ok (.if_icmp .ne 27, 3) := by decide +kernel
theorem d_B_astrayInLine_43 : decode b_B_astrayInLine 43 = .ok (.iload 4, 2) := by decide +kernel
theorem d_B_astrayInLine_45 : decode b_B_astrayInLine 45 = .ok (.ifCond .le 26, 3) := by decide +kernel
theorem d_B_astrayInLine_48 : decode b_B_astrayInLine 48 = .ok (.aload_n 2, 1) := by decide +kernel
theorem d_B_astrayInLine_49 : decode b_B_astrayInLine 49 = .ok (.iload 4, 2) := by decide +kernel
theorem d_B_astrayInLine_51 : decode b_B_astrayInLine 51 = .ok (.iconst 1, 1) := by decide +kernel
theorem d_B_astrayInLine_52 : decode b_B_astrayInLine 52 = .ok (.isub, 1) := by decide +kernel
theorem d_B_astrayInLine_53 : decode b_B_astrayInLine 53 = .ok (.invokevirtual 117, 3) := by decide +kernel
theorem d_B_astrayInLine_56 : decode b_B_astrayInLine 56 = .ok (.checkcast 83, 3) := by decide +kernel
theorem d_B_astrayInLine_59 : decode b_B_astrayInLine 59 = .ok (.aload 5, 2) := by decide +kernel
theorem d_B_astrayInLine_61 : decode b_B_astrayInLine 61 = .ok (.invokevirtual 256, 3) := by decide +kernel
theorem d_B_astrayInLine_64 : decode b_B_astrayInLine 64 = .ok (.ifCond .ne 7, 3) := by decide +kernel
theorem d_B_astrayInLine_67 : decode b_B_astrayInLine 67 = .ok (.iconst 1, 1) := by decide +kernel
theorem d_B_astrayInLine_68 : decode b_B_astrayInLine 68 = .ok (.goto 4, 3) := by decide +kernel
theorem d_B_astrayInLine_71 : decode b_B_astrayInLine 71 = .ok (.iconst 0, 1) := by decide +kernel
theorem d_B_astrayInLine_72 : decode b_B_astrayInLine 72 = .ok (.istore 6, 2) := by decide +kernel
theorem d_B_astrayInLine_74 : decode b_B_astrayInLine 74 = .ok (.iload 6, 2) := by decide +kernel
theorem d_B_astrayInLine_76 : decode b_B_astrayInLine 76 = .ok (.ifCond .ne 20, 3) := by decide +kernel
theorem d_B_astrayInLine_79 : decode b_B_astrayInLine 79 = .ok (.aload 5, 2) := by decide +kernel
theorem d_B_astrayInLine_81 : decode b_B_astrayInLine 81 = .ok (.invokevirtual 259, 3) := by decide +kernel
theorem d_B_astrayInLine_84 : decode b_B_astrayInLine 84 = .ok (.ifCond .ne 12, 3) := by decide +kernel
theorem d_B_astrayInLine_87 : decode b_B_astrayInLine 87 = .ok (.aload_n 0, 1) := by decide +kernel
theorem d_B_astrayInLine_88 : decode b_B_astrayInLine 88 = .ok (.aload 5, 2) := by decide +kernel
theorem d_B_astrayInLine_90 : decode b_B_astrayInLine 90 = .ok (.invokevirtual 262, 3) := by decide +kernel
theorem d_B_astrayInLine_93 : decode b_B_astrayInLine 93 = .ok (.ifCond .eq 6, 3) := by decide +kernel
theorem d_B_astrayInLine_96 : decode b_B_astrayInLine 96 = .ok (.iinc 3 1, 3) := by decide +kernel
theorem d_B_astrayInLine_99 : decode b_B_astrayInLine 99 = .ok (.iinc 4 1, 3) := by decide +kernel
theorem d_B_astrayInLine_102 : decode b_B_astrayInLine 102 = .ok (.goto (-88), 3) := by decide +kernel
theorem d_B_astrayInLine_105 : decode b_B_astrayInLine 105 = .ok (.iload_n 3, 1) := by decide +kernel
theorem d_B_astrayInLine_106 : decode b_B_astrayInLine 106 = .ok (.ireturn, 1) := by decide +kernel
theorem d_B_couldTrade_0 : decode b_B_couldTrade 0 = .ok (.aload_n 0, 1) := by decide +kernel
theorem d_B_couldTrade_1 : decode b_B_couldTrade 1 = .ok (.aload_n 1, 1) := by decide +kernel
theorem d_B_couldTrade_2 : decode b_B_couldTrade 2 = .ok (.getfield 134, 3) := by decide +kernel
theorem d_B_couldTrade_5 : decode b_B_couldTrade 5 = .ok (.ifCond .ne 7, 3) := by decide +kernel
theorem d_B_couldTrade_8 : decode b_B_couldTrade 8 = .ok (.iconst 1, 1) := by decide +kernel
theorem d_B_couldTrade_9 : decode b_B_couldTrade 9 = .ok (.goto 4, 3) := by decide +kernel
theorem d_B_couldTrade_12 : decode b_B_couldTrade 12 = .ok (.iconst 0, 1) := by decide +kernel
theorem d_B_couldTrade_13 : decode b_B_couldTrade 13 = .ok (.invokevirtual 138, 3) := by decide +kernel
theorem d_B_couldTrade_16 : decode b_B_couldTrade 16 = .ok (.invokevirtual 221, 3) := by decide +kernel
theorem d_B_couldTrade_19 : decode b_B_couldTrade 19 = .ok (.astore_n 2, 1) := by decide +kernel
theorem d_B_couldTrade_20 : decode b_B_couldTrade 20 = .ok (.aload_n 0, 1) := by decide +kernel
theorem d_B_couldTrade_21 : decode b_B_couldTrade 21 = .ok (.getfield 40, 3) := by decide +kernel
theorem d_B_couldTrade_24 : decode b_B_couldTrade 24 = .ok (.iconst 1, 1) := by decide +kernel
theorem d_B_couldTrade_25 : decode b_B_couldTrade 25 = .ok (.if_icmp .ne 29, 3) := by decide +kernel
theorem d_B_couldTrade_28 : decode b_B_couldTrade 28 = .ok (.aload_n 0, 1) := by decide +kernel
theorem d_B_couldTrade_29 : decode b_B_couldTrade 29 = .ok (.getfield 47, 3) := by decide +kernel
theorem d_B_couldTrade_32 : decode b_B_couldTrade 32 = .ok (.ifCond .ne 22, 3) := by decide +kernel
theorem d_B_couldTrade_35 : decode b_B_couldTrade 35 = .ok (.aload_n 2, 1) := by decide +kernel
theorem d_B_couldTrade_36 : decode b_B_couldTrade 36 = .ok (.ifnull 18, 3) := by decide +kernel
theorem d_B_couldTrade_39 : decode b_B_couldTrade 39 = .ok (.aload_n 1, 1) := by decide +kernel
theorem d_B_couldTrade_40 : decode b_B_couldTrade 40 = .ok (.aload_n 2, 1) := by decide +kernel
theorem d_B_couldTrade_41 : decode b_B_couldTrade 41 = .ok (.getfield 127, 3) := by decide +kernel
theorem d_B_couldTrade_44 : decode b_B_couldTrade 44 = .ok (.invokevirtual 215, 3) := by decide +kernel
theorem d_B_couldTrade_47 : decode b_B_couldTrade 47 = .ok (.ifCond .eq 7, 3) := by decide +kernel
theorem d_B_couldTrade_50 : decode b_B_couldTrade 50 = .ok (.iconst 1, 1) := by decide +kernel
theorem d_B_couldTrade_51 : decode b_B_couldTrade 51 = .ok (.goto 4, 3) := by decide +kernel
theorem d_B_couldTrade_54 : decode b_B_couldTrade 54 = .ok (.iconst 0, 1) := by decide +kernel
theorem d_B_couldTrade_55 : decode b_B_couldTrade 55 = .ok (.ireturn, 1) := by decide +kernel
theorem d_B_astrayOutOfLine_0 : decode b_B_astrayOutOfLine 0 = .ok (.iconst 0, 1) := by decide +kernel
theorem d_B_astrayOutOfLine_1 : decode b_B_astrayOutOfLine 1 = .ok (.istore_n 1, 1) := by decide +kernel
theorem d_B_astrayOutOfLine_2 : decode b_B_astrayOutOfLine 2 = .ok (.iconst 0, 1) := by decide +kernel
theorem d_B_astrayOutOfLine_3 : decode b_B_astrayOutOfLine 3 = .ok (.istore_n 2, 1) := by decide +kernel
theorem d_B_astrayOutOfLine_4 : decode b_B_astrayOutOfLine 4 = .ok (.iconst 0, 1) := by decide +kernel
theorem d_B_astrayOutOfLine_5 : decode b_B_astrayOutOfLine 5 = .ok (.istore_n 3, 1) := by decide +kernel
theorem d_B_astrayOutOfLine_6 : decode b_B_astrayOutOfLine 6 = .ok (.iload_n 3, 1) := by decide +kernel
theorem d_B_astrayOutOfLine_7 : decode b_B_astrayOutOfLine 7 = .ok (.aload_n 0, 1) := by decide +kernel
theorem d_B_astrayOutOfLine_8 : decode b_B_astrayOutOfLine 8 = .ok (.getfield 10, 3) := by decide +kernel
theorem d_B_astrayOutOfLine_11 : decode b_B_astrayOutOfLine 11 = .ok (.invokevirtual 76, 3) := by decide +kernel
theorem d_B_astrayOutOfLine_14 : decode b_B_astrayOutOfLine 14 = .ok (.if_icmp .ge 55, 3) := by decide +kernel
theorem d_B_astrayOutOfLine_17 : decode b_B_astrayOutOfLine 17 = .ok (.aload_n 0, 1) := by decide +kernel
theorem d_B_astrayOutOfLine_18 : decode b_B_astrayOutOfLine 18 = .ok (.getfield 10, 3) := by decide +kernel
theorem d_B_astrayOutOfLine_21 : decode b_B_astrayOutOfLine 21 = .ok (.iload_n 3, 1) := by decide +kernel
theorem d_B_astrayOutOfLine_22 : decode b_B_astrayOutOfLine 22 = .ok (.invokevirtual 117, 3) := by decide +kernel
theorem d_B_astrayOutOfLine_25 : decode b_B_astrayOutOfLine 25 = .ok (.checkcast 83, 3) := by decide +kernel
theorem d_B_astrayOutOfLine_28 : decode b_B_astrayOutOfLine 28 = .ok (.astore 4, 2) := by decide +kernel
theorem d_B_astrayOutOfLine_30 : decode b_B_astrayOutOfLine 30 = .ok (.aload 4, 2) := by decide +kernel
theorem d_B_astrayOutOfLine_32 : decode b_B_astrayOutOfLine 32 = .ok (.invokevirtual 107, 3) := by decide +kernel
theorem d_B_astrayOutOfLine_35 : decode b_B_astrayOutOfLine 35 = .ok (.ifCond .eq 9, 3) := by decide +kernel
theorem d_B_astrayOutOfLine_38 : decode b_B_astrayOutOfLine 38 = .ok (.iinc 2 1, 3) := by decide +kernel
theorem d_B_astrayOutOfLine_41 : decode b_B_astrayOutOfLine 41 = .ok (.goto 22, 3) := by decide +kernel
theorem d_B_astrayOutOfLine_44 : decode b_B_astrayOutOfLine 44 = .ok (.aload 4, 2) := by decide +kernel
theorem d_B_astrayOutOfLine_46 : decode b_B_astrayOutOfLine 46 = .ok (.getfield 111, 3) := by decide +kernel
theorem d_B_astrayOutOfLine_49 : decode b_B_astrayOutOfLine 49 = .ok (.ifCond .ne 11, 3) := by decide +kernel
theorem d_B_astrayOutOfLine_52 : decode b_B_astrayOutOfLine 52 = .ok (.aload 4, 2) := by decide +kernel
theorem d_B_astrayOutOfLine_54 : decode b_B_astrayOutOfLine 54 = .ok (.getfield 167, 3) := by decide +kernel
theorem d_B_astrayOutOfLine_57 : decode b_B_astrayOutOfLine 57 = .ok (.ifCond .eq 6, 3) := by decide +kernel
theorem d_B_astrayOutOfLine_60 : decode b_B_astrayOutOfLine 60 = .ok (.iinc 1 1, 3) := by decide +kernel
theorem d_B_astrayOutOfLine_63 : decode b_B_astrayOutOfLine 63 = .ok (.iinc 3 1, 3) := by decide +kernel
theorem d_B_astrayOutOfLine_66 : decode b_B_astrayOutOfLine 66 = .ok (.goto (-60), 3) := by decide +kernel
theorem d_B_astrayOutOfLine_69 : decode b_B_astrayOutOfLine 69 = .ok (.iload_n 1, 1) := by decide +kernel
theorem d_B_astrayOutOfLine_70 : decode b_B_astrayOutOfLine 70 = .ok (.iload_n 2, 1) := by decide +kernel
theorem d_B_astrayOutOfLine_71 : decode b_B_astrayOutOfLine 71 = .ok (.aload_n 0, 1) := by decide +kernel
theorem d_B_astrayOutOfLine_72 : decode b_B_astrayOutOfLine 72 = .ok (.getfield 19, 3) := by decide +kernel
theorem d_B_astrayOutOfLine_75 : decode b_B_astrayOutOfLine 75 = .ok (.getfield 145, 3) := by decide +kernel
theorem d_B_astrayOutOfLine_78 : decode b_B_astrayOutOfLine 78 = .ok (.invokevirtual 76, 3) := by decide +kernel
theorem d_B_astrayOutOfLine_81 : decode b_B_astrayOutOfLine 81 = .ok (.isub, 1) := by decide +kernel
theorem d_B_astrayOutOfLine_82 : decode b_B_astrayOutOfLine 82 = .ok (.aload_n 0, 1) := by decide +kernel
theorem d_B_astrayOutOfLine_83 : decode b_B_astrayOutOfLine 83 = .ok (.getfield 23, 3) := by decide +kernel
theorem d_B_astrayOutOfLine_86 : decode b_B_astrayOutOfLine 86 = .ok (.getfield 145, 3) := by decide +kernel
theorem d_B_astrayOutOfLine_89 : decode b_B_astrayOutOfLine 89 = .ok (.invokevirtual 76, 3) := by decide +kernel
theorem d_B_astrayOutOfLine_92 : decode b_B_astrayOutOfLine 92 = .ok (.isub, 1) := by decide +kernel
theorem d_B_astrayOutOfLine_93 : decode b_B_astrayOutOfLine 93 = .ok (.invokestatic 199, 3) := by decide +kernel
theorem d_B_astrayOutOfLine_96 : decode b_B_astrayOutOfLine 96 = .ok (.iadd, 1) := by decide +kernel
theorem d_B_astrayOutOfLine_97 : decode b_B_astrayOutOfLine 97 = .ok (.ireturn, 1) := by decide +kernel
theorem d_B_place_0 : decode b_B_place 0 = .ok (.iload_n 1, 1) := by decide +kernel
theorem d_B_place_1 : decode b_B_place 1 = .ok (.invokestatic 53, 3) := by decide +kernel
theorem d_B_place_4 : decode b_B_place 4 = .ok (.ifCond .eq 18, 3) := by decide +kernel
theorem d_B_place_7 : decode b_B_place 7 = .ok (.iload_n 3, 1) := by decide +kernel
theorem d_B_place_8 : decode b_B_place 8 = .ok (.invokestatic 57, 3) := by decide +kernel
theorem d_B_place_11 : decode b_B_place 11 = .ok (.ifCond .eq 11, 3) := by decide +kernel
theorem d_B_place_14 : decode b_B_place 14 = .ok (.iload 4, 2) := by decide +kernel
theorem d_B_place_16 : decode b_B_place 16 = .ok (.invokestatic 60, 3) := by decide +kernel
theorem d_B_place_19 : decode b_B_place 19 = .ok (.ifCond .ne 11, 3) := by decide +kernel
theorem d_B_place_22 : decode b_B_place 22 = .ok (.new 63, 3) := by decide +kernel
theorem d_B_place_25 : decode b_B_place 25 = .ok (.dup, 1) := by decide +kernel
theorem d_B_place_26 : decode b_B_place 26 = .ok (.invokespecial 65, 3) := by decide +kernel
theorem d_B_place_29 : decode b_B_place 29 = .ok (.athrow, 1) := by decide +kernel
theorem d_B_place_30 : decode b_B_place 30 = .ok (.iload 5, 2) := by decide +kernel
theorem d_B_place_32 : decode b_B_place 32 = .ok (.invokestatic 66, 3) := by decide +kernel
theorem d_B_place_35 : decode b_B_place 35 = .ok (.ifCond .eq 21, 3) := by decide +kernel
theorem d_B_place_38 : decode b_B_place 38 = .ok (.iload 4, 2) := by decide +kernel
theorem d_B_place_40 : decode b_B_place 40 = .ok (.iload 5, 2) := by decide +kernel
theorem d_B_place_42 : decode b_B_place 42 = .ok (.invokestatic 69, 3) := by decide +kernel
theorem d_B_place_45 : decode b_B_place 45 = .ok (.ifCond .eq 11, 3) := by decide +kernel
theorem d_B_place_48 : decode b_B_place 48 = .ok (.iload 6, 2) := by decide +kernel
theorem d_B_place_50 : decode b_B_place 50 = .ok (.invokestatic 73, 3) := by decide +kernel
theorem d_B_place_53 : decode b_B_place 53 = .ok (.ifCond .ne 11, 3) := by decide +kernel
theorem d_B_place_56 : decode b_B_place 56 = .ok (.new 63, 3) := by decide +kernel
theorem d_B_place_59 : decode b_B_place 59 = .ok (.dup, 1) := by decide +kernel
theorem d_B_place_60 : decode b_B_place 60 = .ok (.invokespecial 65, 3) := by decide +kernel
theorem d_B_place_63 : decode b_B_place 63 = .ok (.athrow, 1) := by decide +kernel
theorem d_B_place_64 : decode b_B_place 64 = .ok (.iload 5, 2) := by decide +kernel
theorem d_B_place_66 : decode b_B_place 66 = .ok (.ifCond .eq 16, 3) := by decide +kernel
theorem d_B_place_69 : decode b_B_place 69 = .ok (.iload 6, 2) := by decide +kernel
theorem d_B_place_71 : decode b_B_place 71 = .ok (.ifCond .eq 11, 3) := by decide +kernel
theorem d_B_place_74 : decode b_B_place 74 = .ok (.new 63, 3) := by decide +kernel
theorem d_B_place_77 : decode b_B_place 77 = .ok (.dup, 1) := by decide +kernel
theorem d_B_place_78 : decode b_B_place 78 = .ok (.invokespecial 65, 3) := by decide +kernel
theorem d_B_place_81 : decode b_B_place 81 = .ok (.athrow, 1) := by decide +kernel
theorem d_B_place_82 : decode b_B_place 82 = .ok (.iload 6, 2) := by decide +kernel
theorem d_B_place_84 : decode b_B_place 84 = .ok (.ifCond .eq 15, 3) := by decide +kernel
theorem d_B_place_87 : decode b_B_place 87 = .ok (.aload_n 0, 1) := by decide +kernel
theorem d_B_place_88 : decode b_B_place 88 = .ok (.getfield 40, 3) := by decide +kernel
theorem d_B_place_91 : decode b_B_place 91 = .ok (.iconst 1, 1) := by decide +kernel
theorem d_B_place_92 : decode b_B_place 92 = .ok (.if_icmp .eq 7, 3) := by decide +kernel
theorem d_B_place_95 : decode b_B_place 95 = .ok (.iconst 1, 1) := by decide +kernel
theorem d_B_place_96 : decode b_B_place 96 = .ok (.goto 4, 3) := by decide +kernel
theorem d_B_place_99 : decode b_B_place 99 = .ok (.iconst 0, 1) := by decide +kernel
theorem d_B_place_100 : decode b_B_place 100 = .ok (.istore 7, 2) := by decide +kernel
theorem d_B_place_102 : decode b_B_place 102 = .ok (.aload_n 0, 1) := by decide +kernel
theorem d_B_place_103 : decode b_B_place 103 = .ok (.getfield 10, 3) := by decide +kernel
theorem d_B_place_106 : decode b_B_place 106 = .ok (.invokevirtual 76, 3) := by decide +kernel
theorem d_B_place_109 : decode b_B_place 109 = .ok (.sipush 250, 3) := by decide +kernel
theorem d_B_place_112 : decode b_B_place 112 = .ok (.if_icmp .ge 16, 3) := by decide +kernel
theorem d_B_place_115 : decode b_B_place 115 = .ok (.aload_n 0, 1) := by decide +kernel
theorem d_B_place_116 : decode b_B_place 116 = .ok (.getfield 40, 3) := by decide +kernel
theorem d_B_place_119 : decode b_B_place 119 = .ok (.iconst 2, 1) := by decide +kernel
theorem d_B_place_120 : decode b_B_place 120 = .ok (.if_icmp .eq 8, 3) := by decide +kernel
theorem d_B_place_123 : decode b_B_place 123 = .ok (.iload 7, 2) := by decide +kernel
theorem d_B_place_125 : decode b_B_place 125 = .ok (.ifCond .eq 11, 3) := by decide +kernel
theorem d_B_place_128 : decode b_B_place 128 = .ok (.new 80, 3) := by decide +kernel
theorem d_B_place_131 : decode b_B_place 131 = .ok (.dup, 1) := by decide +kernel
theorem d_B_place_132 : decode b_B_place 132 = .ok (.invokespecial 82, 3) := by decide +kernel
theorem d_B_place_135 : decode b_B_place 135 = .ok (.athrow, 1) := by decide +kernel
theorem d_B_place_136 : decode b_B_place 136 = .ok (.new 83, 3) := by decide +kernel
theorem d_B_place_139 : decode b_B_place 139 = .ok (.dup, 1) := by decide +kernel
theorem d_B_place_140 : decode b_B_place 140 = .ok (.aload_n 0, 1) := by decide +kernel
theorem d_B_place_141 : decode b_B_place 141 = .ok (.getfield 10, 3) := by decide +kernel
theorem d_B_place_144 : decode b_B_place 144 = .ok (.invokevirtual 76, 3) := by decide +kernel
theorem d_B_place_147 : decode b_B_place 147 = .ok (.iload_n 1, 1) := by decide +kernel
theorem d_B_place_148 : decode b_B_place 148 = .ok (.iload_n 2, 1) := by decide +kernel
theorem d_B_place_149 : decode b_B_place 149 = .ok (.iload 5, 2) := by decide +kernel
theorem d_B_place_151 : decode b_B_place 151 = .ok (.iload 6, 2) := by decide +kernel
theorem d_B_place_153 : decode b_B_place 153 = .ok (.invokespecial 85, 3) := by decide +kernel
theorem d_B_place_156 : decode b_B_place 156 = .ok (.astore 8, 2) := by decide +kernel
theorem d_B_place_158 : decode b_B_place 158 = .ok (.aload 8, 2) := by decide +kernel
theorem d_B_place_160 : decode b_B_place 160 = .ok (.iload_n 3, 1) := by decide +kernel
theorem d_B_place_161 : decode b_B_place 161 = .ok (.iload 4, 2) := by decide +kernel
theorem d_B_place_163 : decode b_B_place 163 = .ok (.invokevirtual 88, 3) := by decide +kernel
theorem d_B_place_166 : decode b_B_place 166 = .ok (.aload_n 0, 1) := by decide +kernel
theorem d_B_place_167 : decode b_B_place 167 = .ok (.getfield 10, 3) := by decide +kernel
theorem d_B_place_170 : decode b_B_place 170 = .ok (.aload 8, 2) := by decide +kernel
theorem d_B_place_172 : decode b_B_place 172 = .ok (.invokevirtual 92, 3) := by decide +kernel
theorem d_B_place_175 : decode b_B_place 175 = .ok (.pop, 1) := by decide +kernel
theorem d_B_place_176 : decode b_B_place 176 = .ok (.aload_n 0, 1) := by decide +kernel
theorem d_B_place_177 : decode b_B_place 177 = .ok (.aload 8, 2) := by decide +kernel
theorem d_B_place_179 : decode b_B_place 179 = .ok (.invokevirtual 96, 3) := by decide +kernel
theorem d_B_place_182 : decode b_B_place 182 = .ok (.aload 8, 2) := by decide +kernel
theorem d_B_place_184 : decode b_B_place 184 = .ok (.getfield 100, 3) := by decide +kernel
theorem d_B_place_187 : decode b_B_place 187 = .ok (.ireturn, 1) := by decide +kernel
theorem d_B_isOwner_0 : decode b_B_isOwner 0 = .ok (.iload_n 0, 1) := by decide +kernel
theorem d_B_isOwner_1 : decode b_B_isOwner 1 = .ok (.ifCond .lt 13, 3) := by decide +kernel
theorem d_B_isOwner_4 : decode b_B_isOwner 4 = .ok (.iload_n 0, 1) := by decide +kernel
theorem d_B_isOwner_5 : decode b_B_isOwner 5 = .ok (.bipush 9, 2) := by decide +kernel
theorem d_B_isOwner_7 : decode b_B_isOwner 7 = .ok (.if_icmp .gt 7, 3) := by decide +kernel
theorem d_B_isOwner_10 : decode b_B_isOwner 10 = .ok (.iconst 1, 1) := by decide +kernel
theorem d_B_isOwner_11 : decode b_B_isOwner 11 = .ok (.goto 4, 3) := by decide +kernel
theorem d_B_isOwner_14 : decode b_B_isOwner 14 = .ok (.iconst 0, 1) := by decide +kernel
theorem d_B_isOwner_15 : decode b_B_isOwner 15 = .ok (.ireturn, 1) := by decide +kernel
theorem d_B_isPriceOrMarket_0 : decode b_B_isPriceOrMarket 0 = .ok (.iload_n 0, 1) := by decide +kernel
theorem d_B_isPriceOrMarket_1 : decode b_B_isPriceOrMarket 1 = .ok (.ifCond .lt 14, 3) := by decide +kernel
theorem d_B_isPriceOrMarket_4 : decode b_B_isPriceOrMarket 4 = .ok (.iload_n 0, 1) := by decide +kernel
theorem d_B_isPriceOrMarket_5 : decode b_B_isPriceOrMarket 5 = .ok (.sipush 2000, 3) := by decide +kernel
theorem d_B_isPriceOrMarket_8 : decode b_B_isPriceOrMarket 8 = .ok (.if_icmp .gt 7, 3) := by decide +kernel
theorem d_B_isPriceOrMarket_11 : decode b_B_isPriceOrMarket 11 = .ok (.iconst 1, 1) := by decide +kernel
theorem d_B_isPriceOrMarket_12 : decode b_B_isPriceOrMarket 12 = .ok (.goto 4, 3) := by decide +kernel
theorem d_B_isPriceOrMarket_15 : decode b_B_isPriceOrMarket 15 = .ok (.iconst 0, 1) := by decide +kernel
theorem d_B_isPriceOrMarket_16 : decode b_B_isPriceOrMarket 16 = .ok (.ireturn, 1) := by decide +kernel
theorem d_B_isQuantity_0 : decode b_B_isQuantity 0 = .ok (.iload_n 0, 1) := by decide +kernel
theorem d_B_isQuantity_1 : decode b_B_isQuantity 1 = .ok (.iconst 1, 1) := by decide +kernel
theorem d_B_isQuantity_2 : decode b_B_isQuantity 2 = .ok (.if_icmp .lt 13, 3) := by decide +kernel
theorem d_B_isQuantity_5 : decode b_B_isQuantity 5 = .ok (.iload_n 0, 1) := by decide +kernel
theorem d_B_isQuantity_6 : decode b_B_isQuantity 6 = .ok (.ldc 198, 2) := by decide +kernel
theorem d_B_isQuantity_8 : decode b_B_isQuantity 8 = .ok (.if_icmp .gt 7, 3) := by decide +kernel
theorem d_B_isQuantity_11 : decode b_B_isQuantity 11 = .ok (.iconst 1, 1) := by decide +kernel
theorem d_B_isQuantity_12 : decode b_B_isQuantity 12 = .ok (.goto 4, 3) := by decide +kernel
theorem d_B_isQuantity_15 : decode b_B_isQuantity 15 = .ok (.iconst 0, 1) := by decide +kernel
theorem d_B_isQuantity_16 : decode b_B_isQuantity 16 = .ok (.ireturn, 1) := by decide +kernel
theorem d_B_isPeak_0 : decode b_B_isPeak 0 = .ok (.iload_n 0, 1) := by decide +kernel
theorem d_B_isPeak_1 : decode b_B_isPeak 1 = .ok (.ifCond .lt 13, 3) := by decide +kernel
theorem d_B_isPeak_4 : decode b_B_isPeak 4 = .ok (.iload_n 0, 1) := by decide +kernel
theorem d_B_isPeak_5 : decode b_B_isPeak 5 = .ok (.ldc 198, 2) := by decide +kernel
theorem d_B_isPeak_7 : decode b_B_isPeak 7 = .ok (.if_icmp .gt 7, 3) := by decide +kernel
theorem d_B_isPeak_10 : decode b_B_isPeak 10 = .ok (.iconst 1, 1) := by decide +kernel
theorem d_B_isPeak_11 : decode b_B_isPeak 11 = .ok (.goto 4, 3) := by decide +kernel
theorem d_B_isPeak_14 : decode b_B_isPeak 14 = .ok (.iconst 0, 1) := by decide +kernel
theorem d_B_isPeak_15 : decode b_B_isPeak 15 = .ok (.ireturn, 1) := by decide +kernel
theorem d_B_fitsPeak_0 : decode b_B_fitsPeak 0 = .ok (.iload_n 1, 1) := by decide +kernel
theorem d_B_fitsPeak_1 : decode b_B_fitsPeak 1 = .ok (.ifCond .eq 11, 3) := by decide +kernel
theorem d_B_fitsPeak_4 : decode b_B_fitsPeak 4 = .ok (.iload_n 0, 1) := by decide +kernel
theorem d_B_fitsPeak_5 : decode b_B_fitsPeak 5 = .ok (.bipush 50, 2) := by decide +kernel
theorem d_B_fitsPeak_7 : decode b_B_fitsPeak 7 = .ok (.iload_n 1, 1) := by decide +kernel
theorem d_B_fitsPeak_8 : decode b_B_fitsPeak 8 = .ok (.imul, 1) := by decide +kernel
theorem d_B_fitsPeak_9 : decode b_B_fitsPeak 9 = .ok (.if_icmp .gt 7, 3) := by decide +kernel
theorem d_B_fitsPeak_12 : decode b_B_fitsPeak 12 = .ok (.iconst 1, 1) := by decide +kernel
theorem d_B_fitsPeak_13 : decode b_B_fitsPeak 13 = .ok (.goto 4, 3) := by decide +kernel
theorem d_B_fitsPeak_16 : decode b_B_fitsPeak 16 = .ok (.iconst 0, 1) := by decide +kernel
theorem d_B_fitsPeak_17 : decode b_B_fitsPeak 17 = .ok (.ireturn, 1) := by decide +kernel
theorem d_B_isLife_0 : decode b_B_isLife 0 = .ok (.iload_n 0, 1) := by decide +kernel
theorem d_B_isLife_1 : decode b_B_isLife 1 = .ok (.ifCond .lt 12, 3) := by decide +kernel
theorem d_B_isLife_4 : decode b_B_isLife 4 = .ok (.iload_n 0, 1) := by decide +kernel
theorem d_B_isLife_5 : decode b_B_isLife 5 = .ok (.iconst 2, 1) := by decide +kernel
theorem d_B_isLife_6 : decode b_B_isLife 6 = .ok (.if_icmp .gt 7, 3) := by decide +kernel
theorem d_B_isLife_9 : decode b_B_isLife 9 = .ok (.iconst 1, 1) := by decide +kernel
theorem d_B_isLife_10 : decode b_B_isLife 10 = .ok (.goto 4, 3) := by decide +kernel
theorem d_B_isLife_13 : decode b_B_isLife 13 = .ok (.iconst 0, 1) := by decide +kernel
theorem d_B_isLife_14 : decode b_B_isLife 14 = .ok (.ireturn, 1) := by decide +kernel
theorem d_B_come_0 : decode b_B_come 0 = .ok (.aload_n 0, 1) := by decide +kernel
theorem d_B_come_1 : decode b_B_come 1 = .ok (.getfield 40, 3) := by decide +kernel
theorem d_B_come_4 : decode b_B_come 4 = .ok (.iconst 1, 1) := by decide +kernel
theorem d_B_come_5 : decode b_B_come 5 = .ok (.if_icmp .eq 9, 3) := by decide +kernel
theorem d_B_come_8 : decode b_B_come 8 = .ok (.aload_n 0, 1) := by decide +kernel
theorem d_B_come_9 : decode b_B_come 9 = .ok (.aload_n 1, 1) := by decide +kernel
theorem d_B_come_10 : decode b_B_come 10 = .ok (.invokevirtual 205, 3) := by decide +kernel
theorem d_B_come_13 : decode b_B_come 13 = .ok (.return_, 1) := by decide +kernel
theorem d_B_come_14 : decode b_B_come 14 = .ok (.aload_n 1, 1) := by decide +kernel
theorem d_B_come_15 : decode b_B_come 15 = .ok (.getfield 173, 3) := by decide +kernel
theorem d_B_come_18 : decode b_B_come 18 = .ok (.iconst 2, 1) := by decide +kernel
theorem d_B_come_19 : decode b_B_come 19 = .ok (.if_icmp .ne 11, 3) := by decide +kernel
theorem d_B_come_22 : decode b_B_come 22 = .ok (.aload_n 0, 1) := by decide +kernel
theorem d_B_come_23 : decode b_B_come 23 = .ok (.aload_n 1, 1) := by decide +kernel
theorem d_B_come_24 : decode b_B_come 24 = .ok (.invokevirtual 208, 3) := by decide +kernel
theorem d_B_come_27 : decode b_B_come 27 = .ok (.ifCond .eq 8, 3) := by decide +kernel
theorem d_B_come_30 : decode b_B_come 30 = .ok (.aload_n 0, 1) := by decide +kernel
theorem d_B_come_31 : decode b_B_come 31 = .ok (.aload_n 1, 1) := by decide +kernel
theorem d_B_come_32 : decode b_B_come 32 = .ok (.invokevirtual 212, 3) := by decide +kernel
theorem d_B_come_35 : decode b_B_come 35 = .ok (.aload_n 1, 1) := by decide +kernel
theorem d_B_come_36 : decode b_B_come 36 = .ok (.getfield 173, 3) := by decide +kernel
theorem d_B_come_39 : decode b_B_come 39 = .ok (.ifCond .ne 22, 3) := by decide +kernel
theorem d_B_come_42 : decode b_B_come 42 = .ok (.aload_n 1, 1) := by decide +kernel
theorem d_B_come_43 : decode b_B_come 43 = .ok (.getfield 127, 3) := by decide +kernel
theorem d_B_come_46 : decode b_B_come 46 = .ok (.ifCond .ne 11, 3) := by decide +kernel
theorem d_B_come_49 : decode b_B_come 49 = .ok (.aload_n 0, 1) := by decide +kernel
theorem d_B_come_50 : decode b_B_come 50 = .ok (.getfield 40, 3) := by decide +kernel
theorem d_B_come_53 : decode b_B_come 53 = .ok (.iconst 2, 1) := by decide +kernel
theorem d_B_come_54 : decode b_B_come 54 = .ok (.if_icmp .ne 7, 3) := by decide +kernel
theorem d_B_come_57 : decode b_B_come 57 = .ok (.iconst 1, 1) := by decide +kernel
theorem d_B_come_58 : decode b_B_come 58 = .ok (.goto 4, 3) := by decide +kernel
theorem d_B_come_61 : decode b_B_come 61 = .ok (.iconst 0, 1) := by decide +kernel
theorem d_B_come_62 : decode b_B_come 62 = .ok (.istore_n 2, 1) := by decide +kernel
theorem d_B_come_63 : decode b_B_come 63 = .ok (.aload_n 1, 1) := by decide +kernel
theorem d_B_come_64 : decode b_B_come 64 = .ok (.getfield 111, 3) := by decide +kernel
theorem d_B_come_67 : decode b_B_come 67 = .ok (.ifCond .le 15, 3) := by decide +kernel
theorem d_B_come_70 : decode b_B_come 70 = .ok (.iload_n 2, 1) := by decide +kernel
theorem d_B_come_71 : decode b_B_come 71 = .ok (.ifCond .eq 11, 3) := by decide +kernel
theorem d_B_come_74 : decode b_B_come 74 = .ok (.aload_n 0, 1) := by decide +kernel
theorem d_B_come_75 : decode b_B_come 75 = .ok (.aload_n 1, 1) := by decide +kernel
theorem d_B_come_76 : decode b_B_come 76 = .ok (.invokevirtual 205, 3) := by decide +kernel
theorem d_B_come_79 : decode b_B_come 79 = .ok (.goto 8, 3) := by decide +kernel
theorem d_B_come_82 : decode b_B_come 82 = .ok (.aload_n 0, 1) := by decide +kernel
theorem d_B_come_83 : decode b_B_come 83 = .ok (.aload_n 1, 1) := by decide +kernel
theorem d_B_come_84 : decode b_B_come 84 = .ok (.invokevirtual 114, 3) := by decide +kernel
theorem d_B_come_87 : decode b_B_come 87 = .ok (.return_, 1) := by decide +kernel
theorem d_B_rest_0 : decode b_B_rest 0 = .ok (.aload_n 1, 1) := by decide +kernel
theorem d_B_rest_1 : decode b_B_rest 1 = .ok (.aload_n 1, 1) := by decide +kernel
theorem d_B_rest_2 : decode b_B_rest 2 = .ok (.invokevirtual 249, 3) := by decide +kernel
theorem d_B_rest_5 : decode b_B_rest 5 = .ok (.putfield 167, 3) := by decide +kernel
theorem d_B_rest_8 : decode b_B_rest 8 = .ok (.aload_n 0, 1) := by decide +kernel
theorem d_B_rest_9 : decode b_B_rest 9 = .ok (.aload_n 1, 1) := by decide +kernel
theorem d_B_rest_10 : decode b_B_rest 10 = .ok (.getfield 134, 3) := by decide +kernel
theorem d_B_rest_13 : decode b_B_rest 13 = .ok (.invokevirtual 138, 3) := by decide +kernel
theorem d_B_rest_16 : decode b_B_rest 16 = .ok (.aload_n 1, 1) := by decide +kernel
theorem d_B_rest_17 : decode b_B_rest 17 = .ok (.aload_n 0, 1) := by decide +kernel
theorem d_B_rest_18 : decode b_B_rest 18 = .ok (.getfield 50, 3) := by decide +kernel
theorem d_B_rest_21 : decode b_B_rest 21 = .ok (.invokevirtual 252, 3) := by decide +kernel
theorem d_B_rest_24 : decode b_B_rest 24 = .ok (.aload_n 0, 1) := by decide +kernel
theorem d_B_rest_25 : decode b_B_rest 25 = .ok (.dup, 1) := by decide +kernel
theorem d_B_rest_26 : decode b_B_rest 26 = .ok (.getfield 50, 3) := by decide +kernel
theorem d_B_rest_29 : decode b_B_rest 29 = .ok (.iconst 1, 1) := by decide +kernel
theorem d_B_rest_30 : decode b_B_rest 30 = .ok (.iadd, 1) := by decide +kernel
theorem d_B_rest_31 : decode b_B_rest 31 = .ok (.putfield 50, 3) := by decide +kernel
theorem d_B_rest_34 : decode b_B_rest 34 = .ok (.return_, 1) := by decide +kernel
theorem d_B_couldGoWhole_0 : decode b_B_couldGoWhole 0 = .ok (.aload_n 0, 1) := by decide +kernel
theorem d_B_couldGoWhole_1 : decode b_B_couldGoWhole 1 = .ok (.aload_n 1, 1) := by decide +kernel
theorem d_B_couldGoWhole_2 : decode b_B_couldGoWhole 2 = .ok (.getfield 134, 3) := by decide +kernel
theorem d_B_couldGoWhole_5 : decode b_B_couldGoWhole 5 = .ok (.ifCond .ne 7, 3) := by decide +kernel
theorem d_B_couldGoWhole_8 : decode b_B_couldGoWhole 8 = .ok (.iconst 1, 1) := by decide +kernel
theorem d_B_couldGoWhole_9 : decode b_B_couldGoWhole 9 = .ok (.goto 4, 3) := by decide +kernel
theorem d_B_couldGoWhole_12 : decode b_B_couldGoWhole 12 = .ok (.iconst 0, 1) := by decide +kernel
theorem d_B_couldGoWhole_13 : decode b_B_couldGoWhole 13 = .ok (.invokevirtual 138, 3) := by decide +kernel
theorem d_B_couldGoWhole_16 : decode b_B_couldGoWhole 16 = .ok (.getfield 145, 3) := by decide +kernel
theorem d_B_couldGoWhole_19 : decode b_B_couldGoWhole 19 = .ok (.astore_n 2, 1) := by decide +kernel
theorem d_B_couldGoWhole_20 : decode b_B_couldGoWhole 20 = .ok (.lconst 0, 1) := by decide +kernel
theorem d_B_couldGoWhole_21 : decode b_B_couldGoWhole 21 = .ok (.lstore_n 3, 1) := by decide +kernel
theorem d_B_couldGoWhole_22 : decode b_B_couldGoWhole 22 = .ok (.iconst 0, 1) := by decide +kernel
theorem d_B_couldGoWhole_23 : decode b_B_couldGoWhole 23 = .ok (.istore 5, 2) := by decide +kernel
theorem d_B_couldGoWhole_25 : decode b_B_couldGoWhole 25 = .ok (.iload 5, 2) := by decide +kernel
theorem d_B_couldGoWhole_27 : decode b_B_couldGoWhole 27 = .ok (.aload_n 2, 1) := by decide +kernel
theorem d_B_couldGoWhole_28 : decode b_B_couldGoWhole 28 = .ok (.invokevirtual 76, 3) := by decide +kernel
theorem d_B_couldGoWhole_31 : decode b_B_couldGoWhole 31 = .ok (.if_icmp .ge 56, 3) := by decide +kernel
theorem d_B_couldGoWhole_34 : decode b_B_couldGoWhole 34 = .ok (.aload_n 2, 1) := by decide +kernel
theorem d_B_couldGoWhole_35 : decode b_B_couldGoWhole 35 = .ok (.iload 5, 2) := by decide +kernel
theorem d_B_couldGoWhole_37 : decode b_B_couldGoWhole 37 = .ok (.invokevirtual 117, 3) := by decide +kernel
theorem d_B_couldGoWhole_40 : decode b_B_couldGoWhole 40 = .ok (.checkcast 83, 3) := by decide +kernel
theorem d_B_couldGoWhole_43 : decode b_B_couldGoWhole 43 = .ok (.astore 6, 2) := by decide +kernel
theorem d_B_couldGoWhole_45 : decode b_B_couldGoWhole 45 = .ok (.aload_n 1, 1) := by decide +kernel
theorem d_B_couldGoWhole_46 : decode b_B_couldGoWhole 46 = .ok (.aload 6, 2) := by decide +kernel
theorem d_B_couldGoWhole_48 : decode b_B_couldGoWhole 48 = .ok (.getfield 127, 3) := by decide +kernel
theorem d_B_couldGoWhole_51 : decode b_B_couldGoWhole 51 = .ok (.invokevirtual 215, 3) := by decide +kernel
theorem d_B_couldGoWhole_54 : decode b_B_couldGoWhole 54 = .ok (.ifCond .eq 33, 3) := by decide +kernel
theorem d_B_couldGoWhole_57 : decode b_B_couldGoWhole 57 = .ok (.aload_n 0, 1) := by decide +kernel
theorem d_B_couldGoWhole_58 : decode b_B_couldGoWhole 58 = .ok (.aload 6, 2) := by decide +kernel
theorem d_B_couldGoWhole_60 : decode b_B_couldGoWhole 60 = .ok (.getfield 127, 3) := by decide +kernel
theorem d_B_couldGoWhole_63 : decode b_B_couldGoWhole 63 = .ok (.invokevirtual 218, 3) := by decide +kernel
theorem d_B_couldGoWhole_66 : decode b_B_couldGoWhole 66 = .ok (.ifCond .eq 6, 3) := by decide +kernel
theorem d_B_couldGoWhole_69 : decode b_B_couldGoWhole 69 = .ok (.goto 18, 3) := by decide +kernel
theorem d_B_couldGoWhole_72 : decode b_B_couldGoWhole 72 = .ok (.lload_n 3, 1) := by decide +kernel
theorem d_B_couldGoWhole_73 : decode b_B_couldGoWhole 73 = .ok (.aload 6, 2) := by decide +kernel
theorem d_B_couldGoWhole_75 : decode b_B_couldGoWhole 75 = .ok (.getfield 111, 3) := by decide +kernel
theorem d_B_couldGoWhole_78 : decode b_B_couldGoWhole 78 = .ok (.i2l, 1) := by decide +kernel
theorem d_B_couldGoWhole_79 : decode b_B_couldGoWhole 79 = .ok (.ladd, 1) := by decide +kernel
theorem d_B_couldGoWhole_80 : decode b_B_couldGoWhole 80 = .ok (.lstore_n 3, 1) := by decide +kernel
theorem d_B_couldGoWhole_81 : decode b_B_couldGoWhole 81 = .ok (.iinc 5 1, 3) := by decide +kernel
theorem d_B_couldGoWhole_84 : decode b_B_couldGoWhole 84 = .ok (.goto (-59), 3) := by decide +kernel
theorem d_B_couldGoWhole_87 : decode b_B_couldGoWhole 87 = .ok (.lload_n 3, 1) := by decide +kernel
theorem d_B_couldGoWhole_88 : decode b_B_couldGoWhole 88 = .ok (.aload_n 1, 1) := by decide +kernel
theorem d_B_couldGoWhole_89 : decode b_B_couldGoWhole 89 = .ok (.getfield 111, 3) := by decide +kernel
theorem d_B_couldGoWhole_92 : decode b_B_couldGoWhole 92 = .ok (.i2l, 1) := by decide +kernel
theorem d_B_couldGoWhole_93 : decode b_B_couldGoWhole 93 = .ok (.lcmp, 1) := by decide +kernel
theorem d_B_couldGoWhole_94 : decode b_B_couldGoWhole 94 = .ok (.ifCond .lt 7, 3) := by decide +kernel
theorem d_B_couldGoWhole_97 : decode b_B_couldGoWhole 97 = .ok (.iconst 1, 1) := by decide +kernel
theorem d_B_couldGoWhole_98 : decode b_B_couldGoWhole 98 = .ok (.goto 4, 3) := by decide +kernel
theorem d_B_couldGoWhole_101 : decode b_B_couldGoWhole 101 = .ok (.iconst 0, 1) := by decide +kernel
theorem d_B_couldGoWhole_102 : decode b_B_couldGoWhole 102 = .ok (.ireturn, 1) := by decide +kernel
theorem d_B_isBeyondBand_0 : decode b_B_isBeyondBand 0 = .ok (.aload_n 0, 1) := by decide +kernel
theorem d_B_isBeyondBand_1 : decode b_B_isBeyondBand 1 = .ok (.getfield 47, 3) := by decide +kernel
theorem d_B_isBeyondBand_4 : decode b_B_isBeyondBand 4 = .ok (.ifCond .eq 23, 3) := by decide +kernel
theorem d_B_isBeyondBand_7 : decode b_B_isBeyondBand 7 = .ok (.iload_n 1, 1) := by decide +kernel
theorem d_B_isBeyondBand_8 : decode b_B_isBeyondBand 8 = .ok (.aload_n 0, 1) := by decide +kernel
theorem d_B_isBeyondBand_9 : decode b_B_isBeyondBand 9 = .ok (.getfield 44, 3) := by decide +kernel
theorem d_B_isBeyondBand_12 : decode b_B_isBeyondBand 12 = .ok (.isub, 1) := by decide +kernel
theorem d_B_isBeyondBand_13 : decode b_B_isBeyondBand 13 = .ok (.invokestatic 199, 3) := by decide +kernel
theorem d_B_isBeyondBand_16 : decode b_B_isBeyondBand 16 = .ok (.aload_n 0, 1) := by decide +kernel
theorem d_B_isBeyondBand_17 : decode b_B_isBeyondBand 17 = .ok (.getfield 47, 3) := by decide +kernel
theorem d_B_isBeyondBand_20 : decode b_B_isBeyondBand 20 = .ok (.if_icmp .le 7, 3) := by decide +kernel
theorem d_B_isBeyondBand_23 : decode b_B_isBeyondBand 23 = .ok (.iconst 1, 1) := by decide +kernel
theorem d_B_isBeyondBand_24 : decode b_B_isBeyondBand 24 = .ok (.goto 4, 3) := by decide +kernel
theorem d_B_isBeyondBand_27 : decode b_B_isBeyondBand 27 = .ok (.iconst 0, 1) := by decide +kernel
theorem d_B_isBeyondBand_28 : decode b_B_isBeyondBand 28 = .ok (.ireturn, 1) := by decide +kernel
theorem d_B_meet_0 : decode b_B_meet 0 = .ok (.aload_n 0, 1) := by decide +kernel
theorem d_B_meet_1 : decode b_B_meet 1 = .ok (.aload_n 1, 1) := by decide +kernel
theorem d_B_meet_2 : decode b_B_meet 2 = .ok (.getfield 134, 3) := by decide +kernel
theorem d_B_meet_5 : decode b_B_meet 5 = .ok (.ifCond .ne 7, 3) := by decide +kernel
theorem d_B_meet_8 : decode b_B_meet 8 = .ok (.iconst 1, 1) := by decide +kernel
theorem d_B_meet_9 : decode b_B_meet 9 = .ok (.goto 4, 3) := by decide +kernel
theorem d_B_meet_12 : decode b_B_meet 12 = .ok (.iconst 0, 1) := by decide +kernel
theorem d_B_meet_13 : decode b_B_meet 13 = .ok (.invokevirtual 138, 3) := by decide +kernel
theorem d_B_meet_16 : decode b_B_meet 16 = .ok (.astore_n 2, 1) := by decide +kernel
theorem d_B_meet_17 : decode b_B_meet 17 = .ok (.iconst 0, 1) := by decide +kernel
theorem d_B_meet_18 : decode b_B_meet 18 = .ok (.istore_n 3, 1) := by decide +kernel
theorem d_B_meet_19 : decode b_B_meet 19 = .ok (.iload_n 3, 1) := by decide +kernel
theorem d_B_meet_20 : decode b_B_meet 20 = .ok (.ldc 198, 2) := by decide +kernel
theorem d_B_meet_22 : decode b_B_meet 22 = .ok (.if_icmp .ge 65, 3) := by decide +kernel
theorem d_B_meet_25 : decode b_B_meet 25 = .ok (.aload_n 1, 1) := by decide +kernel
theorem d_B_meet_26 : decode b_B_meet 26 = .ok (.getfield 111, 3) := by decide +kernel
theorem d_B_meet_29 : decode b_B_meet 29 = .ok (.ifCond .le 58, 3) := by decide +kernel
theorem d_B_meet_32 : decode b_B_meet 32 = .ok (.aload_n 2, 1) := by decide +kernel
theorem d_B_meet_33 : decode b_B_meet 33 = .ok (.invokevirtual 221, 3) := by decide +kernel
theorem d_B_meet_36 : decode b_B_meet 36 = .ok (.astore 4, 2) := by decide +kernel
theorem d_B_meet_38 : decode b_B_meet 38 = .ok (.aload 4, 2) := by decide +kernel
theorem d_B_meet_40 : decode b_B_meet 40 = .ok (.ifnull 15, 3) := by decide +kernel
theorem d_B_meet_43 : decode b_B_meet 43 = .ok (.aload_n 1, 1) := by decide +kernel
theorem d_B_meet_44 : decode b_B_meet 44 = .ok (.aload 4, 2) := by decide +kernel
theorem d_B_meet_46 : decode b_B_meet 46 = .ok (.getfield 127, 3) := by decide +kernel
theorem d_B_meet_49 : decode b_B_meet 49 = .ok (.invokevirtual 215, 3) := by decide +kernel
theorem d_B_meet_52 : decode b_B_meet 52 = .ok (.ifCond .ne 4, 3) := by decide +kernel
theorem d_B_meet_55 : decode b_B_meet 55 = .ok (.return_, 1) := by decide +kernel
theorem d_B_meet_56 : decode b_B_meet 56 = .ok (.aload_n 0, 1) := by decide +kernel
theorem d_B_meet_57 : decode b_B_meet 57 = .ok (.aload 4, 2) := by decide +kernel
theorem d_B_meet_59 : decode b_B_meet 59 = .ok (.getfield 127, 3) := by decide +kernel
theorem d_B_meet_62 : decode b_B_meet 62 = .ok (.invokevirtual 218, 3) := by decide +kernel
theorem d_B_meet_65 : decode b_B_meet 65 = .ok (.ifCond .eq 9, 3) := by decide +kernel
theorem d_B_meet_68 : decode b_B_meet 68 = .ok (.aload_n 0, 1) := by decide +kernel
theorem d_B_meet_69 : decode b_B_meet 69 = .ok (.iconst 2, 1) := by decide +kernel
theorem d_B_meet_70 : decode b_B_meet 70 = .ok (.putfield 40, 3) := by decide +kernel
theorem d_B_meet_73 : decode b_B_meet 73 = .ok (.return_, 1) := by decide +kernel
theorem d_B_meet_74 : decode b_B_meet 74 = .ok (.aload_n 0, 1) := by decide +kernel
theorem d_B_meet_75 : decode b_B_meet 75 = .ok (.aload_n 1, 1) := by decide +kernel
theorem d_B_meet_76 : decode b_B_meet 76 = .ok (.aload 4, 2) := by decide +kernel
theorem d_B_meet_78 : decode b_B_meet 78 = .ok (.invokevirtual 225, 3) := by decide +kernel
theorem d_B_meet_81 : decode b_B_meet 81 = .ok (.iinc 3 1, 3) := by decide +kernel
theorem d_B_meet_84 : decode b_B_meet 84 = .ok (.goto (-65), 3) := by decide +kernel
theorem d_B_meet_87 : decode b_B_meet 87 = .ok (.return_, 1) := by decide +kernel
theorem d_B_tradeWithShown_0 : decode b_B_tradeWithShown 0 = .ok (.aload_n 1, 1) := by decide +kernel
theorem d_B_tradeWithShown_1 : decode b_B_tradeWithShown 1 = .ok (.getfield 111, 3) := by decide +kernel
theorem d_B_tradeWithShown_4 : decode b_B_tradeWithShown 4 = .ok (.aload_n 2, 1) := by decide +kernel
theorem d_B_tradeWithShown_5 : decode b_B_tradeWithShown 5 = .ok (.getfield 167, 3) := by decide +kernel
theorem d_B_tradeWithShown_8 : decode b_B_tradeWithShown 8 = .ok (.invokestatic 229, 3) := by decide +kernel
theorem d_B_tradeWithShown_11 : decode b_B_tradeWithShown 11 = .ok (.istore_n 3, 1) := by decide +kernel
theorem d_B_tradeWithShown_12 : decode b_B_tradeWithShown 12 = .ok (.aload_n 2, 1) := by decide +kernel
theorem d_B_tradeWithShown_13 : decode b_B_tradeWithShown 13 = .ok (.dup, 1) := by decide +kernel
theorem d_B_tradeWithShown_14 : decode b_B_tradeWithShown 14 = .ok (.getfield 167, 3) := by decide +kernel
theorem d_B_tradeWithShown_17 : decode b_B_tradeWithShown 17 = .ok (.iload_n 3, 1) := by decide +kernel
theorem d_B_tradeWithShown_18 : decode b_B_tradeWithShown 18 = .ok (.isub, 1) := by decide +kernel
theorem d_B_tradeWithShown_19 : decode b_B_tradeWithShown 19 = .ok (.putfield 167, 3) := by decide +kernel
theorem d_B_tradeWithShown_22 : decode b_B_tradeWithShown 22 = .ok (.aload_n 1, 1) := by decide +kernel
theorem d_B_tradeWithShown_23 : decode b_B_tradeWithShown 23 = .ok (.getfield 134, 3) := by decide +kernel
theorem d_B_tradeWithShown_26 : decode b_B_tradeWithShown 26 = .ok (.ifCond .eq 17, 3) := by decide +kernel
theorem d_B_tradeWithShown_29 : decode b_B_tradeWithShown 29 = .ok (.aload_n 0, 1) := by decide +kernel
theorem d_B_tradeWithShown_30 : decode b_B_tradeWithShown 30 = .ok (.aload_n 1, 1) := by decide +kernel
theorem d_B_tradeWithShown_31 : decode b_B_tradeWithShown 31 = .ok (.aload_n 2, 1) := by decide +kernel
theorem d_B_tradeWithShown_32 : decode b_B_tradeWithShown 32 = .ok (.aload_n 2, 1) := by decide +kernel
theorem d_B_tradeWithShown_33 : decode b_B_tradeWithShown 33 = .ok (.getfield 127, 3) := by decide +kernel
theorem d_B_tradeWithShown_36 : decode b_B_tradeWithShown 36 = .ok (.iload_n 3, 1) := by decide +kernel
theorem d_B_tradeWithShown_37 : decode b_B_tradeWithShown 37 = .ok (.invokevirtual 232, 3) := by decide +kernel
theorem d_B_tradeWithShown_40 : decode b_B_tradeWithShown 40 = .ok (.goto 14, 3) := by decide +kernel
theorem d_B_tradeWithShown_43 : decode b_B_tradeWithShown 43 = .ok (.aload_n 0, 1) := by decide +kernel
theorem d_B_tradeWithShown_44 : decode b_B_tradeWithShown 44 = .ok (.aload_n 2, 1) := by decide +kernel
theorem d_B_tradeWithShown_45 : decode b_B_tradeWithShown 45 = .ok (.aload_n 1, 1) := by decide +kernel
theorem d_B_tradeWithShown_46 : decode b_B_tradeWithShown 46 = .ok (.aload_n 2, 1) := by decide +kernel
theorem d_B_tradeWithShown_47 : decode b_B_tradeWithShown 47 = .ok (.getfield 127, 3) := by decide +kernel
theorem d_B_tradeWithShown_50 : decode b_B_tradeWithShown 50 = .ok (.iload_n 3, 1) := by decide +kernel
theorem d_B_tradeWithShown_51 : decode b_B_tradeWithShown 51 = .ok (.invokevirtual 232, 3) := by decide +kernel
theorem d_B_tradeWithShown_54 : decode b_B_tradeWithShown 54 = .ok (.aload_n 2, 1) := by decide +kernel
theorem d_B_tradeWithShown_55 : decode b_B_tradeWithShown 55 = .ok (.getfield 111, 3) := by decide +kernel
theorem d_B_tradeWithShown_58 : decode b_B_tradeWithShown 58 = .ok (.ifCond .ne 11, 3) := by decide +kernel
theorem d_B_tradeWithShown_61 : decode b_B_tradeWithShown 61 = .ok (.aload_n 0, 1) := by decide +kernel
theorem d_B_tradeWithShown_62 : decode b_B_tradeWithShown 62 = .ok (.aload_n 2, 1) := by decide +kernel
theorem d_B_tradeWithShown_63 : decode b_B_tradeWithShown 63 = .ok (.invokevirtual 114, 3) := by decide +kernel
theorem d_B_tradeWithShown_66 : decode b_B_tradeWithShown 66 = .ok (.goto 27, 3) := by decide +kernel
theorem d_B_tradeWithShown_69 : decode b_B_tradeWithShown 69 = .ok (.aload_n 2, 1) := by decide +kernel
theorem d_B_tradeWithShown_70 : decode b_B_tradeWithShown 70 = .ok (.getfield 167, 3) := by decide +kernel
theorem d_B_tradeWithShown_73 : decode b_B_tradeWithShown 73 = .ok (.ifCond .ne 20, 3) := by decide +kernel
theorem d_B_tradeWithShown_76 : decode b_B_tradeWithShown 76 = .ok (.aload_n 0, 1) := by decide +kernel
theorem d_B_tradeWithShown_77 : decode b_B_tradeWithShown 77 = .ok (.aload_n 2, 1) := by decide +kernel
theorem d_B_tradeWithShown_78 : decode b_B_tradeWithShown 78 = .ok (.getfield 134, 3) := by decide +kernel
theorem d_B_tradeWithShown_81 : decode b_B_tradeWithShown 81 = .ok (.invokevirtual 138, 3) := by decide +kernel
theorem d_B_tradeWithShown_84 : decode b_B_tradeWithShown 84 = .ok (.aload_n 2, 1) := by decide +kernel
theorem d_B_tradeWithShown_85 : decode b_B_tradeWithShown 85 = .ok (.invokevirtual 142, 3) := by decide +kernel
theorem d_B_tradeWithShown_88 : decode b_B_tradeWithShown 88 = .ok (.aload_n 0, 1) := by decide +kernel
theorem d_B_tradeWithShown_89 : decode b_B_tradeWithShown 89 = .ok (.aload_n 2, 1) := by decide +kernel
theorem d_B_tradeWithShown_90 : decode b_B_tradeWithShown 90 = .ok (.invokevirtual 205, 3) := by decide +kernel
theorem d_B_tradeWithShown_93 : decode b_B_tradeWithShown 93 = .ok (.return_, 1) := by decide +kernel
theorem d_B_exchange_0 : decode b_B_exchange 0 = .ok (.aload_n 1, 1) := by decide +kernel
theorem d_B_exchange_1 : decode b_B_exchange 1 = .ok (.iload 4, 2) := by decide +kernel
theorem d_B_exchange_3 : decode b_B_exchange 3 = .ok (.invokevirtual 242, 3) := by decide +kernel
theorem d_B_exchange_6 : decode b_B_exchange 6 = .ok (.aload_n 2, 1) := by decide +kernel
theorem d_B_exchange_7 : decode b_B_exchange 7 = .ok (.iload 4, 2) := by decide +kernel
theorem d_B_exchange_9 : decode b_B_exchange 9 = .ok (.invokevirtual 242, 3) := by decide +kernel
theorem d_B_exchange_12 : decode b_B_exchange 12 = .ok (.aload_n 0, 1) := by decide +kernel
theorem d_B_exchange_13 : decode b_B_exchange 13 = .ok (.getfield 29, 3) := by decide +kernel
theorem d_B_exchange_16 : decode b_B_exchange 16 = .ok (.aload_n 1, 1) := by decide +kernel
theorem d_B_exchange_17 : decode b_B_exchange 17 = .ok (.getfield 100, 3) := by decide +kernel
theorem d_B_exchange_20 : decode b_B_exchange 20 = .ok (.aload_n 2, 1) := by decide +kernel
theorem d_B_exchange_21 : decode b_B_exchange 21 = .ok (.getfield 100, 3) := by decide +kernel
theorem d_B_exchange_24 : decode b_B_exchange 24 = .ok (.iload_n 3, 1) := by decide +kernel
theorem d_B_exchange_25 : decode b_B_exchange 25 = .ok (.iload 4, 2) := by decide +kernel
theorem d_B_exchange_27 : decode b_B_exchange 27 = .ok (.invokevirtual 245, 3) := by decide +kernel
theorem d_B_exchange_30 : decode b_B_exchange 30 = .ok (.return_, 1) := by decide +kernel
theorem d_B_finish_0 : decode b_B_finish 0 = .ok (.aload_n 1, 1) := by decide +kernel
theorem d_B_finish_1 : decode b_B_finish 1 = .ok (.invokevirtual 107, 3) := by decide +kernel
theorem d_B_finish_4 : decode b_B_finish 4 = .ok (.ifCond .eq 15, 3) := by decide +kernel
theorem d_B_finish_7 : decode b_B_finish 7 = .ok (.aload_n 0, 1) := by decide +kernel
theorem d_B_finish_8 : decode b_B_finish 8 = .ok (.aload_n 1, 1) := by decide +kernel
theorem d_B_finish_9 : decode b_B_finish 9 = .ok (.getfield 134, 3) := by decide +kernel
theorem d_B_finish_12 : decode b_B_finish 12 = .ok (.invokevirtual 138, 3) := by decide +kernel
theorem d_B_finish_15 : decode b_B_finish 15 = .ok (.aload_n 1, 1) := by decide +kernel
theorem d_B_finish_16 : decode b_B_finish 16 = .ok (.invokevirtual 142, 3) := by decide +kernel
theorem d_B_finish_19 : decode b_B_finish 19 = .ok (.aload_n 1, 1) := by decide +kernel
theorem d_B_finish_20 : decode b_B_finish 20 = .ok (.iconst 0, 1) := by decide +kernel
theorem d_B_finish_21 : decode b_B_finish 21 = .ok (.putfield 111, 3) := by decide +kernel
theorem d_B_finish_24 : decode b_B_finish 24 = .ok (.aload_n 1, 1) := by decide +kernel
theorem d_B_finish_25 : decode b_B_finish 25 = .ok (.iconst 0, 1) := by decide +kernel
theorem d_B_finish_26 : decode b_B_finish 26 = .ok (.putfield 167, 3) := by decide +kernel
theorem d_B_finish_29 : decode b_B_finish 29 = .ok (.return_, 1) := by decide +kernel
theorem d_B_cancel_0 : decode b_B_cancel 0 = .ok (.aload_n 0, 1) := by decide +kernel
theorem d_B_cancel_1 : decode b_B_cancel 1 = .ok (.iload_n 1, 1) := by decide +kernel
theorem d_B_cancel_2 : decode b_B_cancel 2 = .ok (.invokevirtual 103, 3) := by decide +kernel
theorem d_B_cancel_5 : decode b_B_cancel 5 = .ok (.astore_n 2, 1) := by decide +kernel
theorem d_B_cancel_6 : decode b_B_cancel 6 = .ok (.aload_n 2, 1) := by decide +kernel
theorem d_B_cancel_7 : decode b_B_cancel 7 = .ok (.invokevirtual 107, 3) := by decide +kernel
theorem d_B_cancel_10 : decode b_B_cancel 10 = .ok (.ifCond .ne 11, 3) := by decide +kernel
theorem d_B_cancel_13 : decode b_B_cancel 13 = .ok (.new 80, 3) := by decide +kernel
theorem d_B_cancel_16 : decode b_B_cancel 16 = .ok (.dup, 1) := by decide +kernel
theorem d_B_cancel_17 : decode b_B_cancel 17 = .ok (.invokespecial 82, 3) := by decide +kernel
theorem d_B_cancel_20 : decode b_B_cancel 20 = .ok (.athrow, 1) := by decide +kernel
theorem d_B_cancel_21 : decode b_B_cancel 21 = .ok (.aload_n 2, 1) := by decide +kernel
theorem d_B_cancel_22 : decode b_B_cancel 22 = .ok (.getfield 111, 3) := by decide +kernel
theorem d_B_cancel_25 : decode b_B_cancel 25 = .ok (.istore_n 3, 1) := by decide +kernel
theorem d_B_cancel_26 : decode b_B_cancel 26 = .ok (.aload_n 0, 1) := by decide +kernel
theorem d_B_cancel_27 : decode b_B_cancel 27 = .ok (.aload_n 2, 1) := by decide +kernel
theorem d_B_cancel_28 : decode b_B_cancel 28 = .ok (.invokevirtual 114, 3) := by decide +kernel
theorem d_B_cancel_31 : decode b_B_cancel 31 = .ok (.iload_n 3, 1) := by decide +kernel
theorem d_B_cancel_32 : decode b_B_cancel 32 = .ok (.ireturn, 1) := by decide +kernel
theorem d_B_known_0 : decode b_B_known 0 = .ok (.iload_n 1, 1) := by decide +kernel
theorem d_B_known_1 : decode b_B_known 1 = .ok (.ifCond .lt 14, 3) := by decide +kernel
theorem d_B_known_4 : decode b_B_known 4 = .ok (.iload_n 1, 1) := by decide +kernel
theorem d_B_known_5 : decode b_B_known 5 = .ok (.aload_n 0, 1) := by decide +kernel
theorem d_B_known_6 : decode b_B_known 6 = .ok (.getfield 10, 3) := by decide +kernel
theorem d_B_known_9 : decode b_B_known 9 = .ok (.invokevirtual 76, 3) := by decide +kernel
theorem d_B_known_12 : decode b_B_known 12 = .ok (.if_icmp .lt 11, 3) := by decide +kernel
theorem d_B_known_15 : decode b_B_known 15 = .ok (.new 63, 3) := by decide +kernel
theorem d_B_known_18 : decode b_B_known 18 = .ok (.dup, 1) := by decide +kernel
theorem d_B_known_19 : decode b_B_known 19 = .ok (.invokespecial 65, 3) := by decide +kernel
theorem d_B_known_22 : decode b_B_known 22 = .ok (.athrow, 1) := by decide +kernel
theorem d_B_known_23 : decode b_B_known 23 = .ok (.aload_n 0, 1) := by decide +kernel
theorem d_B_known_24 : decode b_B_known 24 = .ok (.getfield 10, 3) := by decide +kernel
theorem d_B_known_27 : decode b_B_known 27 = .ok (.iload_n 1, 1) := by decide +kernel
theorem d_B_known_28 : decode b_B_known 28 = .ok (.invokevirtual 117, 3) := by decide +kernel
theorem d_B_known_31 : decode b_B_known 31 = .ok (.checkcast 83, 3) := by decide +kernel
theorem d_B_known_34 : decode b_B_known 34 = .ok (.areturn, 1) := by decide +kernel
theorem d_B_cancelAll_0 : decode b_B_cancelAll 0 = .ok (.iload_n 1, 1) := by decide +kernel
theorem d_B_cancelAll_1 : decode b_B_cancelAll 1 = .ok (.invokestatic 53, 3) := by decide +kernel
theorem d_B_cancelAll_4 : decode b_B_cancelAll 4 = .ok (.ifCond .ne 11, 3) := by decide +kernel
theorem d_B_cancelAll_7 : decode b_B_cancelAll 7 = .ok (.new 63, 3) := by decide +kernel
theorem d_B_cancelAll_10 : decode b_B_cancelAll 10 = .ok (.dup, 1) := by decide +kernel
theorem d_B_cancelAll_11 : decode b_B_cancelAll 11 = .ok (.invokespecial 65, 3) := by decide +kernel
theorem d_B_cancelAll_14 : decode b_B_cancelAll 14 = .ok (.athrow, 1) := by decide +kernel
theorem d_B_cancelAll_15 : decode b_B_cancelAll 15 = .ok (.iconst 0, 1) := by decide +kernel
theorem d_B_cancelAll_16 : decode b_B_cancelAll 16 = .ok (.istore_n 2, 1) := by decide +kernel
theorem d_B_cancelAll_17 : decode b_B_cancelAll 17 = .ok (.iconst 0, 1) := by decide +kernel
theorem d_B_cancelAll_18 : decode b_B_cancelAll 18 = .ok (.istore_n 3, 1) := by decide +kernel
theorem d_B_cancelAll_19 : decode b_B_cancelAll 19 = .ok (.iload_n 3, 1) := by decide +kernel
theorem d_B_cancelAll_20 : decode b_B_cancelAll 20 = .ok (.aload_n 0, 1) := by decide +kernel
theorem d_B_cancelAll_21 : decode b_B_cancelAll 21 = .ok (.getfield 10, 3) := by decide +kernel
theorem d_B_cancelAll_24 : decode b_B_cancelAll 24 = .ok (.invokevirtual 76, 3) := by decide +kernel
theorem d_B_cancelAll_27 : decode b_B_cancelAll 27 = .ok (.if_icmp .ge 48, 3) := by decide +kernel
theorem d_B_cancelAll_30 : decode b_B_cancelAll 30 = .ok (.aload_n 0, 1) := by decide +kernel
theorem d_B_cancelAll_31 : decode b_B_cancelAll 31 = .ok (.getfield 10, 3) := by decide +kernel
theorem d_B_cancelAll_34 : decode b_B_cancelAll 34 = .ok (.iload_n 3, 1) := by decide +kernel
theorem d_B_cancelAll_35 : decode b_B_cancelAll 35 = .ok (.invokevirtual 117, 3) := by decide +kernel
theorem d_B_cancelAll_38 : decode b_B_cancelAll 38 = .ok (.checkcast 83, 3) := by decide +kernel
theorem d_B_cancelAll_41 : decode b_B_cancelAll 41 = .ok (.astore 4, 2) := by decide +kernel
theorem d_B_cancelAll_43 : decode b_B_cancelAll 43 = .ok (.aload 4, 2) := by decide +kernel
theorem d_B_cancelAll_45 : decode b_B_cancelAll 45 = .ok (.getfield 121, 3) := by decide +kernel
theorem d_B_cancelAll_48 : decode b_B_cancelAll 48 = .ok (.iload_n 1, 1) := by decide +kernel
theorem d_B_cancelAll_49 : decode b_B_cancelAll 49 = .ok (.if_icmp .ne 20, 3) := by decide +kernel
theorem d_B_cancelAll_52 : decode b_B_cancelAll 52 = .ok (.aload 4, 2) := by decide +kernel
theorem d_B_cancelAll_54 : decode b_B_cancelAll 54 = .ok (.invokevirtual 107, 3) := by decide +kernel
theorem d_B_cancelAll_57 : decode b_B_cancelAll 57 = .ok (.ifCond .eq 12, 3) := by decide +kernel
theorem d_B_cancelAll_60 : decode b_B_cancelAll 60 = .ok (.aload_n 0, 1) := by decide +kernel
theorem d_B_cancelAll_61 : decode b_B_cancelAll 61 = .ok (.aload 4, 2) := by decide +kernel
theorem d_B_cancelAll_63 : decode b_B_cancelAll 63 = .ok (.invokevirtual 114, 3) := by decide +kernel
theorem d_B_cancelAll_66 : decode b_B_cancelAll 66 = .ok (.iinc 2 1, 3) := by decide +kernel
theorem d_B_cancelAll_69 : decode b_B_cancelAll 69 = .ok (.iinc 3 1, 3) := by decide +kernel
theorem d_B_cancelAll_72 : decode b_B_cancelAll 72 = .ok (.goto (-53), 3) := by decide +kernel
theorem d_B_cancelAll_75 : decode b_B_cancelAll 75 = .ok (.iload_n 2, 1) := by decide +kernel
theorem d_B_cancelAll_76 : decode b_B_cancelAll 76 = .ok (.ireturn, 1) := by decide +kernel
theorem d_B_amend_0 : decode b_B_amend 0 = .ok (.aload_n 0, 1) := by decide +kernel
theorem d_B_amend_1 : decode b_B_amend 1 = .ok (.iload_n 1, 1) := by decide +kernel
theorem d_B_amend_2 : decode b_B_amend 2 = .ok (.invokevirtual 103, 3) := by decide +kernel
theorem d_B_amend_5 : decode b_B_amend 5 = .ok (.astore 4, 2) := by decide +kernel
theorem d_B_amend_7 : decode b_B_amend 7 = .ok (.iload_n 2, 1) := by decide +kernel
theorem d_B_amend_8 : decode b_B_amend 8 = .ok (.invokestatic 57, 3) := by decide +kernel
theorem d_B_amend_11 : decode b_B_amend 11 = .ok (.ifCond .eq 22, 3) := by decide +kernel
theorem d_B_amend_14 : decode b_B_amend 14 = .ok (.iload_n 3, 1) := by decide +kernel
theorem d_B_amend_15 : decode b_B_amend 15 = .ok (.invokestatic 60, 3) := by decide +kernel
theorem d_B_amend_18 : decode b_B_amend 18 = .ok (.ifCond .eq 15, 3) := by decide +kernel
theorem d_B_amend_21 : decode b_B_amend 21 = .ok (.iload_n 3, 1) := by decide +kernel
theorem d_B_amend_22 : decode b_B_amend 22 = .ok (.aload 4, 2) := by decide +kernel
theorem d_B_amend_24 : decode b_B_amend 24 = .ok (.getfield 124, 3) := by decide +kernel
theorem d_B_amend_27 : decode b_B_amend 27 = .ok (.invokestatic 69, 3) := by decide +kernel
theorem d_B_amend_30 : decode b_B_amend 30 = .ok (.ifCond .ne 11, 3) := by decide +kernel
theorem d_B_amend_33 : decode b_B_amend 33 = .ok (.new 63, 3) := by decide +kernel
theorem d_B_amend_36 : decode b_B_amend 36 = .ok (.dup, 1) := by decide +kernel
theorem d_B_amend_37 : decode b_B_amend 37 = .ok (.invokespecial 65, 3) := by decide +kernel
theorem d_B_amend_40 : decode b_B_amend 40 = .ok (.athrow, 1) := by decide +kernel
theorem d_B_amend_41 : decode b_B_amend 41 = .ok (.aload 4, 2) := by decide +kernel
theorem d_B_amend_43 : decode b_B_amend 43 = .ok (.invokevirtual 107, 3) := by decide +kernel
theorem d_B_amend_46 : decode b_B_amend 46 = .ok (.ifCond .eq 11, 3) := by decide +kernel
theorem d_B_amend_49 : decode b_B_amend 49 = .ok (.aload_n 0, 1) := by decide +kernel
theorem d_B_amend_50 : decode b_B_amend 50 = .ok (.getfield 40, 3) := by decide +kernel
theorem d_B_amend_53 : decode b_B_amend 53 = .ok (.iconst 2, 1) := by decide +kernel
theorem d_B_amend_54 : decode b_B_amend 54 = .ok (.if_icmp .ne 11, 3) := by decide +kernel
theorem d_B_amend_57 : decode b_B_amend 57 = .ok (.new 80, 3) := by decide +kernel
theorem d_B_amend_60 : decode b_B_amend 60 = .ok (.dup, 1) := by decide +kernel
theorem d_B_amend_61 : decode b_B_amend 61 = .ok (.invokespecial 82, 3) := by decide +kernel
theorem d_B_amend_64 : decode b_B_amend 64 = .ok (.athrow, 1) := by decide +kernel
theorem d_B_amend_65 : decode b_B_amend 65 = .ok (.iload_n 2, 1) := by decide +kernel
theorem d_B_amend_66 : decode b_B_amend 66 = .ok (.aload 4, 2) := by decide +kernel
theorem d_B_amend_68 : decode b_B_amend 68 = .ok (.getfield 127, 3) := by decide +kernel
theorem d_B_amend_71 : decode b_B_amend 71 = .ok (.if_icmp .ne 21, 3) := by decide +kernel
theorem d_B_amend_74 : decode b_B_amend 74 = .ok (.iload_n 3, 1) := by decide +kernel
theorem d_B_amend_75 : decode b_B_amend 75 = .ok (.aload 4, 2) := by decide +kernel
theorem d_B_amend_77 : decode b_B_amend 77 = .ok (.getfield 111, 3) := by decide +kernel
theorem d_B_amend_80 : decode b_B_amend 80 = .ok (.if_icmp .gt 12, 3) := by decide +kernel
theorem d_B_amend_83 : decode b_B_amend 83 = .ok (.aload 4, 2) := by decide +kernel
theorem d_B_amend_85 : decode b_B_amend 85 = .ok (.iload_n 3, 1) := by decide +kernel
theorem d_B_amend_86 : decode b_B_amend 86 = .ok (.invokevirtual 130, 3) := by decide +kernel
theorem d_B_amend_89 : decode b_B_amend 89 = .ok (.goto 30, 3) := by decide +kernel
theorem d_B_amend_92 : decode b_B_amend 92 = .ok (.aload_n 0, 1) := by decide +kernel
theorem d_B_amend_93 : decode b_B_amend 93 = .ok (.aload 4, 2) := by decide +kernel
theorem d_B_amend_95 : decode b_B_amend 95 = .ok (.getfield 134, 3) := by decide +kernel
theorem d_B_amend_98 : decode b_B_amend 98 = .ok (.invokevirtual 138, 3) := by decide +kernel
theorem d_B_amend_101 : decode b_B_amend 101 = .ok (.aload 4, 2) := by decide +kernel
theorem d_B_amend_103 : decode b_B_amend 103 = .ok (.invokevirtual 142, 3) := by decide +kernel
theorem d_B_amend_106 : decode b_B_amend 106 = .ok (.aload 4, 2) := by decide +kernel
theorem d_B_amend_108 : decode b_B_amend 108 = .ok (.iload_n 2, 1) := by decide +kernel
theorem d_B_amend_109 : decode b_B_amend 109 = .ok (.iload_n 3, 1) := by decide +kernel
theorem d_B_amend_110 : decode b_B_amend 110 = .ok (.invokevirtual 88, 3) := by decide +kernel
theorem d_B_amend_113 : decode b_B_amend 113 = .ok (.aload_n 0, 1) := by decide +kernel
theorem d_B_amend_114 : decode b_B_amend 114 = .ok (.aload 4, 2) := by decide +kernel
theorem d_B_amend_116 : decode b_B_amend 116 = .ok (.invokevirtual 96, 3) := by decide +kernel
theorem d_B_amend_119 : decode b_B_amend 119 = .ok (.aload 4, 2) := by decide +kernel
theorem d_B_amend_121 : decode b_B_amend 121 = .ok (.invokevirtual 107, 3) := by decide +kernel
theorem d_B_amend_124 : decode b_B_amend 124 = .ok (.ireturn, 1) := by decide +kernel
theorem d_B_open_0 : decode b_B_open 0 = .ok (.aload_n 0, 1) := by decide +kernel
theorem d_B_open_1 : decode b_B_open 1 = .ok (.getfield 40, 3) := by decide +kernel
theorem d_B_open_4 : decode b_B_open 4 = .ok (.iconst 1, 1) := by decide +kernel
theorem d_B_open_5 : decode b_B_open 5 = .ok (.if_icmp .ne 11, 3) := by decide +kernel
theorem d_B_open_8 : decode b_B_open 8 = .ok (.new 80, 3) := by decide +kernel
theorem d_B_open_11 : decode b_B_open 11 = .ok (.dup, 1) := by decide +kernel
theorem d_B_open_12 : decode b_B_open 12 = .ok (.invokespecial 82, 3) := by decide +kernel
theorem d_B_open_15 : decode b_B_open 15 = .ok (.athrow, 1) := by decide +kernel
theorem d_B_open_16 : decode b_B_open 16 = .ok (.aload_n 0, 1) := by decide +kernel
theorem d_B_open_17 : decode b_B_open 17 = .ok (.getfield 36, 3) := by decide +kernel
theorem d_B_open_20 : decode b_B_open 20 = .ok (.aload_n 0, 1) := by decide +kernel
theorem d_B_open_21 : decode b_B_open 21 = .ok (.getfield 19, 3) := by decide +kernel
theorem d_B_open_24 : decode b_B_open 24 = .ok (.getfield 145, 3) := by decide +kernel
theorem d_B_open_27 : decode b_B_open 27 = .ok (.aload_n 0, 1) := by decide +kernel
theorem d_B_open_28 : decode b_B_open 28 = .ok (.getfield 23, 3) := by decide +kernel
theorem d_B_open_31 : decode b_B_open 31 = .ok (.getfield 145, 3) := by decide +kernel
theorem d_B_open_34 : decode b_B_open 34 = .ok (.aload_n 0, 1) := by decide +kernel
theorem d_B_open_35 : decode b_B_open 35 = .ok (.getfield 44, 3) := by decide +kernel
theorem d_B_open_38 : decode b_B_open 38 = .ok (.invokevirtual 148, 3) := by decide +kernel
theorem d_B_open_41 : decode b_B_open 41 = .ok (.aload_n 0, 1) := by decide +kernel
theorem d_B_open_42 : decode b_B_open 42 = .ok (.getfield 36, 3) := by decide +kernel
theorem d_B_open_45 : decode b_B_open 45 = .ok (.getfield 152, 3) := by decide +kernel
theorem d_B_open_48 : decode b_B_open 48 = .ok (.lconst 0, 1) := by decide +kernel
theorem d_B_open_49 : decode b_B_open 49 = .ok (.lcmp, 1) := by decide +kernel
theorem d_B_open_50 : decode b_B_open 50 = .ok (.ifCond .le 32, 3) := by decide +kernel
theorem d_B_open_53 : decode b_B_open 53 = .ok (.aload_n 0, 1) := by decide +kernel
theorem d_B_open_54 : decode b_B_open 54 = .ok (.aload_n 0, 1) := by decide +kernel
theorem d_B_open_55 : decode b_B_open 55 = .ok (.getfield 36, 3) := by decide +kernel
theorem d_B_open_58 : decode b_B_open 58 = .ok (.getfield 156, 3) := by decide +kernel
theorem d_B_open_61 : decode b_B_open 61 = .ok (.aload_n 0, 1) := by decide +kernel
theorem d_B_open_62 : decode b_B_open 62 = .ok (.getfield 36, 3) := by decide +kernel
theorem d_B_open_65 : decode b_B_open 65 = .ok (.getfield 152, 3) := by decide +kernel
theorem d_B_open_68 : decode b_B_open 68 = .ok (.invokevirtual 157, 3) := by decide +kernel
theorem d_B_open_71 : decode b_B_open 71 = .ok (.aload_n 0, 1) := by decide +kernel
theorem d_B_open_72 : decode b_B_open 72 = .ok (.aload_n 0, 1) := by decide +kernel
theorem d_B_open_73 : decode b_B_open 73 = .ok (.getfield 36, 3) := by decide +kernel
theorem d_B_open_76 : decode b_B_open 76 = .ok (.getfield 156, 3) := by decide +kernel
theorem d_B_open_79 : decode b_B_open 79 = .ok (.putfield 44, 3) := by decide +kernel
theorem d_B_open_82 : decode b_B_open 82 = .ok (.iconst 0, 1) := by decide +kernel
theorem d_B_open_83 : decode b_B_open 83 = .ok (.istore_n 1, 1) := by decide +kernel
theorem d_B_open_84 : decode b_B_open 84 = .ok (.iload_n 1, 1) := by decide +kernel
theorem d_B_open_85 : decode b_B_open 85 = .ok (.aload_n 0, 1) := by decide +kernel
theorem d_B_open_86 : decode b_B_open 86 = .ok (.getfield 10, 3) := by decide +kernel
theorem d_B_open_89 : decode b_B_open 89 = .ok (.invokevirtual 76, 3) := by decide +kernel
theorem d_B_open_92 : decode b_B_open 92 = .ok (.if_icmp .ge 24, 3) := by decide +kernel
theorem d_B_open_95 : decode b_B_open 95 = .ok (.aload_n 0, 1) := by decide +kernel
theorem d_B_open_96 : decode b_B_open 96 = .ok (.aload_n 0, 1) := by decide +kernel
theorem d_B_open_97 : decode b_B_open 97 = .ok (.getfield 10, 3) := by decide +kernel
theorem d_B_open_100 : decode b_B_open 100 = .ok (.iload_n 1, 1) := by decide +kernel
theorem d_B_open_101 : decode b_B_open 101 = .ok (.invokevirtual 117, 3) := by decide +kernel
theorem d_B_open_104 : decode b_B_open 104 = .ok (.checkcast 83, 3) := by decide +kernel
theorem d_B_open_107 : decode b_B_open 107 = .ok (.invokevirtual 161, 3) := by decide +kernel
theorem d_B_open_110 : decode b_B_open 110 = .ok (.iinc 1 1, 3) := by decide +kernel
theorem d_B_open_113 : decode b_B_open 113 = .ok (.goto (-29), 3) := by decide +kernel
theorem d_B_open_116 : decode b_B_open 116 = .ok (.aload_n 0, 1) := by decide +kernel
theorem d_B_open_117 : decode b_B_open 117 = .ok (.iconst 1, 1) := by decide +kernel
theorem d_B_open_118 : decode b_B_open 118 = .ok (.putfield 40, 3) := by decide +kernel
theorem d_B_open_121 : decode b_B_open 121 = .ok (.aload_n 0, 1) := by decide +kernel
theorem d_B_open_122 : decode b_B_open 122 = .ok (.getfield 36, 3) := by decide +kernel
theorem d_B_open_125 : decode b_B_open 125 = .ok (.getfield 152, 3) := by decide +kernel
theorem d_B_open_128 : decode b_B_open 128 = .ok (.lreturn, 1) := by decide +kernel
theorem d_B_tradeAtOnePrice_0 : decode b_B_tradeAtOnePrice 0 = .ok (.lload_n 2, 1) := by decide +kernel
theorem d_B_tradeAtOnePrice_1 : decode b_B_tradeAtOnePrice 1 = .ok (.lstore 4, 2) := by decide +kernel
theorem d_B_tradeAtOnePrice_3 : decode b_B_tradeAtOnePrice 3 = .ok (.iconst 0, 1) := by decide +kernel
theorem d_B_tradeAtOnePrice_4 : decode b_B_tradeAtOnePrice 4 = .ok (.istore 6, 2) := by decide +kernel
theorem d_B_tradeAtOnePrice_6 : decode b_B_tradeAtOnePrice 6 = .ok (.iload 6, 2) := by decide +kernel
theorem d_B_tradeAtOnePrice_8 : decode b_B_tradeAtOnePrice 8 = .ok (.sipush 250, 3) := by decide +kernel
theorem d_B_tradeAtOnePrice_11 : decode b_B_tradeAtOnePrice 11 = .ok (.if_icmp .ge 98, 3) := by decide +kernel
theorem d_B_tradeAtOnePrice_14 : decode b_B_tradeAtOnePrice 14 = .ok (.lload 4, 2) := by decide +kernel
theorem d_B_tradeAtOnePrice_16 : decode b_B_tradeAtOnePrice 16 = .ok (.lconst 0, 1) := by decide +kernel
theorem d_B_tradeAtOnePrice_17 : decode b_B_tradeAtOnePrice 17 = .ok (.lcmp, 1) := by decide +kernel
theorem d_B_tradeAtOnePrice_18 : decode b_B_tradeAtOnePrice 18 = .ok (.ifCond .le 91, 3) := by decide +kernel
theorem d_B_tradeAtOnePrice_21 : decode b_B_tradeAtOnePrice 21 = .ok (.aload_n 0, 1) := by decide +kernel
theorem d_B_tradeAtOnePrice_22 : decode b_B_tradeAtOnePrice 22 = .ok (.getfield 19, 3) := by decide +kernel
theorem d_B_tradeAtOnePrice_25 : decode b_B_tradeAtOnePrice 25 = .ok (.invokevirtual 221, 3) := by decide +kernel
theorem d_B_tradeAtOnePrice_28 : decode b_B_tradeAtOnePrice 28 = .ok (.astore 7, 2) := by decide +kernel
theorem d_B_tradeAtOnePrice_30 : decode b_B_tradeAtOnePrice 30 = .ok (.aload_n 0, 1) := by decide +kernel
theorem d_B_tradeAtOnePrice_31 : decode b_B_tradeAtOnePrice 31 = .ok (.getfield 23, 3) := by decide +kernel
theorem d_B_tradeAtOnePrice_34 : decode b_B_tradeAtOnePrice 34 = .ok (.invokevirtual 221, 3) := by decide +kernel
theorem d_B_tradeAtOnePrice_37 : decode b_B_tradeAtOnePrice 37 = .ok (.astore 8, 2) := by decide +kernel
theorem d_B_tradeAtOnePrice_39 : decode b_B_tradeAtOnePrice 39 = .ok (.aload 7, 2) := by decide +kernel
theorem d_B_tradeAtOnePrice_41 : decode b_B_tradeAtOnePrice 41 = .ok (.ifnull 8, 3) := by decide +kernel
theorem d_B_tradeAtOnePrice_44 : decode b_B_tradeAtOnePrice 44 = .ok (.aload 8, 2) := by decide +kernel
theorem d_B_tradeAtOnePrice_46 : decode b_B_tradeAtOnePrice 46 = .ok (.ifnonnull 4, 3) := by decide +kernel
theorem d_B_tradeAtOnePrice_49 : decode b_B_tradeAtOnePrice 49 = .ok (.return_, 1) := by decide +kernel
theorem d_B_tradeAtOnePrice_50 : decode b_B_tradeAtOnePrice 50 = .ok (.lload 4, 2) := by decide +kernel
theorem d_B_tradeAtOnePrice_52 : decode b_B_tradeAtOnePrice 52 = .ok (.aload 7, 2) := by decide +kernel
theorem d_B_tradeAtOnePrice_54 : decode b_B_tradeAtOnePrice 54 = .ok (.getfield 111, 3) := by decide +kernel
theorem d_B_tradeAtOnePrice_57 : decode b_B_tradeAtOnePrice 57 = .ok (.aload 8, 2) := by decide +kernel
theorem d_B_tradeAtOnePrice_59 : decode b_B_tradeAtOnePrice 59 = .ok (.getfield 111, 3) := by decide +kernel
theorem d_B_tradeAtOnePrice_62 : decode b_B_tradeAtOnePrice 62 = .ok (.invokestatic 229, 3) := by decide +kernel
theorem d_B_tradeAtOnePrice_65 : decode b_B_tradeAtOnePrice 65 = .ok (.i2l, 1) := by decide +kernel
theorem d_B_tradeAtOnePrice_66 : decode b_B_tradeAtOnePrice 66 = .ok (.invokestatic 236, 3) := by decide +kernel
theorem d_B_tradeAtOnePrice_69 : decode b_B_tradeAtOnePrice 69 = .ok (.l2i, 1) := by decide +kernel
theorem d_B_tradeAtOnePrice_70 : decode b_B_tradeAtOnePrice 70 = .ok (.istore 9, 2) := by decide +kernel
theorem d_B_tradeAtOnePrice_72 : decode b_B_tradeAtOnePrice 72 = .ok (.aload_n 0, 1) := by decide +kernel
theorem d_B_tradeAtOnePrice_73 : decode b_B_tradeAtOnePrice 73 = .ok (.aload 7, 2) := by decide +kernel
theorem d_B_tradeAtOnePrice_75 : decode b_B_tradeAtOnePrice 75 = .ok (.aload 8, 2) := by decide +kernel
theorem d_B_tradeAtOnePrice_77 : decode b_B_tradeAtOnePrice 77 = .ok (.iload_n 1, 1) := by decide +kernel
theorem d_B_tradeAtOnePrice_78 : decode b_B_tradeAtOnePrice 78 = .ok (.iload 9, 2) := by decide +kernel
theorem d_B_tradeAtOnePrice_80 : decode b_B_tradeAtOnePrice 80 = .ok (.invokevirtual 232, 3) := by decide +kernel
theorem d_B_tradeAtOnePrice_83 : decode b_B_tradeAtOnePrice 83 = .ok (.aload_n 0, 1) := by decide +kernel
theorem d_B_tradeAtOnePrice_84 : decode b_B_tradeAtOnePrice 84 = .ok (.aload 7, 2) := by decide +kernel
theorem d_B_tradeAtOnePrice_86 : decode b_B_tradeAtOnePrice 86 = .ok (.invokevirtual 239, 3) := by decide +kernel
theorem d_B_tradeAtOnePrice_89 : decode b_B_tradeAtOnePrice 89 = .ok (.aload_n 0, 1) := by decide +kernel
theorem d_B_tradeAtOnePrice_90 : decode b_B_tradeAtOnePrice 90 = .ok (.aload 8, 2) := by decide +kernel
theorem d_B_tradeAtOnePrice_92 : decode b_B_tradeAtOnePrice 92 = .ok (.invokevirtual 239, 3) := by decide +kernel
theorem d_B_tradeAtOnePrice_95 : decode b_B_tradeAtOnePrice 95 = .ok (.lload 4, 2) := by decide +kernel
theorem d_B_tradeAtOnePrice_97 : decode b_B_tradeAtOnePrice 97 = .ok (.iload 9, 2) := by decide +kernel
theorem d_B_tradeAtOnePrice_99 : decode b_B_tradeAtOnePrice 99 = .ok (.i2l, 1) := by decide +kernel
theorem d_B_tradeAtOnePrice_100 : decode b_B_tradeAtOnePrice 100 = .ok (.lsub, 1) := by decide +kernel
theorem d_B_tradeAtOnePrice_101 : decode b_B_tradeAtOnePrice 101 = .ok (.lstore 4, 2) := by decide +kernel
theorem d_B_tradeAtOnePrice_103 : decode b_B_tradeAtOnePrice 103 = .ok (.iinc 6 1, 3) := by decide +kernel
theorem d_B_tradeAtOnePrice_106 : decode b_B_tradeAtOnePrice 106 = .ok (.goto (-100), 3) := by decide +kernel
theorem d_B_tradeAtOnePrice_109 : decode b_B_tradeAtOnePrice 109 = .ok (.return_, 1) := by decide +kernel
theorem d_B_finishIfNothingLeft_0 : decode b_B_finishIfNothingLeft 0 = .ok (.aload_n 1, 1) := by decide +kernel
theorem d_B_finishIfNothingLeft_1 : decode b_B_finishIfNothingLeft 1 = .ok (.getfield 111, 3) := by decide +kernel
theorem d_B_finishIfNothingLeft_4 : decode b_B_finishIfNothingLeft 4 = .ok (.ifCond .ne 8, 3) := by decide +kernel
theorem d_B_finishIfNothingLeft_7 : decode b_B_finishIfNothingLeft 7 = .ok (.aload_n 0, 1) := by decide +kernel
theorem d_B_finishIfNothingLeft_8 : decode b_B_finishIfNothingLeft 8 = .ok (.aload_n 1, 1) := by decide +kernel
theorem d_B_finishIfNothingLeft_9 : decode b_B_finishIfNothingLeft 9 = .ok (.invokevirtual 114, 3) := by decide +kernel
theorem d_B_finishIfNothingLeft_12 : decode b_B_finishIfNothingLeft 12 = .ok (.return_, 1) := by decide +kernel
theorem d_B_startGoingOn_0 : decode b_B_startGoingOn 0 = .ok (.aload_n 1, 1) := by decide +kernel
theorem d_B_startGoingOn_1 : decode b_B_startGoingOn 1 = .ok (.invokevirtual 107, 3) := by decide +kernel
theorem d_B_startGoingOn_4 : decode b_B_startGoingOn 4 = .ok (.ifCond .ne 4, 3) := by decide +kernel
theorem d_B_startGoingOn_7 : decode b_B_startGoingOn 7 = .ok (.return_, 1) := by decide +kernel
theorem d_B_startGoingOn_8 : decode b_B_startGoingOn 8 = .ok (.aload_n 1, 1) := by decide +kernel
theorem d_B_startGoingOn_9 : decode b_B_startGoingOn 9 = .ok (.getfield 127, 3) := by decide +kernel
theorem d_B_startGoingOn_12 : decode b_B_startGoingOn 12 = .ok (.ifCond .ne 11, 3) := by decide +kernel
theorem d_B_startGoingOn_15 : decode b_B_startGoingOn 15 = .ok (.aload_n 0, 1) := by decide +kernel
theorem d_B_startGoingOn_16 : decode b_B_startGoingOn 16 = .ok (.aload_n 1, 1) := by decide +kernel
theorem d_B_startGoingOn_17 : decode b_B_startGoingOn 17 = .ok (.invokevirtual 114, 3) := by decide +kernel
theorem d_B_startGoingOn_20 : decode b_B_startGoingOn 20 = .ok (.goto 11, 3) := by decide +kernel
theorem d_B_startGoingOn_23 : decode b_B_startGoingOn 23 = .ok (.aload_n 1, 1) := by decide +kernel
theorem d_B_startGoingOn_24 : decode b_B_startGoingOn 24 = .ok (.aload_n 1, 1) := by decide +kernel
theorem d_B_startGoingOn_25 : decode b_B_startGoingOn 25 = .ok (.invokevirtual 249, 3) := by decide +kernel
theorem d_B_startGoingOn_28 : decode b_B_startGoingOn 28 = .ok (.putfield 167, 3) := by decide +kernel
theorem d_B_startGoingOn_31 : decode b_B_startGoingOn 31 = .ok (.return_, 1) := by decide +kernel
theorem d_B_band_0 : decode b_B_band 0 = .ok (.iload_n 1, 1) := by decide +kernel
theorem d_B_band_1 : decode b_B_band 1 = .ok (.iconst 1, 1) := by decide +kernel
theorem d_B_band_2 : decode b_B_band 2 = .ok (.if_icmp .lt 21, 3) := by decide +kernel
theorem d_B_band_5 : decode b_B_band 5 = .ok (.iload_n 1, 1) := by decide +kernel
theorem d_B_band_6 : decode b_B_band 6 = .ok (.sipush 2000, 3) := by decide +kernel
theorem d_B_band_9 : decode b_B_band 9 = .ok (.if_icmp .gt 14, 3) := by decide +kernel
theorem d_B_band_12 : decode b_B_band 12 = .ok (.iload_n 2, 1) := by decide +kernel
theorem d_B_band_13 : decode b_B_band 13 = .ok (.ifCond .lt 10, 3) := by decide +kernel
theorem d_B_band_16 : decode b_B_band 16 = .ok (.iload_n 2, 1) := by decide +kernel
theorem d_B_band_17 : decode b_B_band 17 = .ok (.sipush 2000, 3) := by decide +kernel
theorem d_B_band_20 : decode b_B_band 20 = .ok (.if_icmp .le 11, 3) := by decide +kernel
theorem d_B_band_23 : decode b_B_band 23 = .ok (.new 63, 3) := by decide +kernel
theorem d_B_band_26 : decode b_B_band 26 = .ok (.dup, 1) := by decide +kernel
theorem d_B_band_27 : decode b_B_band 27 = .ok (.invokespecial 65, 3) := by decide +kernel
theorem d_B_band_30 : decode b_B_band 30 = .ok (.athrow, 1) := by decide +kernel
theorem d_B_band_31 : decode b_B_band 31 = .ok (.aload_n 0, 1) := by decide +kernel
theorem d_B_band_32 : decode b_B_band 32 = .ok (.getfield 44, 3) := by decide +kernel
theorem d_B_band_35 : decode b_B_band 35 = .ok (.istore_n 3, 1) := by decide +kernel
theorem d_B_band_36 : decode b_B_band 36 = .ok (.aload_n 0, 1) := by decide +kernel
theorem d_B_band_37 : decode b_B_band 37 = .ok (.iload_n 1, 1) := by decide +kernel
theorem d_B_band_38 : decode b_B_band 38 = .ok (.putfield 44, 3) := by decide +kernel
theorem d_B_band_41 : decode b_B_band 41 = .ok (.aload_n 0, 1) := by decide +kernel
theorem d_B_band_42 : decode b_B_band 42 = .ok (.iload_n 2, 1) := by decide +kernel
theorem d_B_band_43 : decode b_B_band 43 = .ok (.putfield 47, 3) := by decide +kernel
theorem d_B_band_46 : decode b_B_band 46 = .ok (.iload_n 3, 1) := by decide +kernel
theorem d_B_band_47 : decode b_B_band 47 = .ok (.ireturn, 1) := by decide +kernel
theorem d_B_clearing_0 : decode b_B_clearing 0 = .ok (.iload_n 1, 1) := by decide +kernel
theorem d_B_clearing_1 : decode b_B_clearing 1 = .ok (.ifCond .lt 8, 3) := by decide +kernel
theorem d_B_clearing_4 : decode b_B_clearing 4 = .ok (.iload_n 1, 1) := by decide +kernel
theorem d_B_clearing_5 : decode b_B_clearing 5 = .ok (.iconst 2, 1) := by decide +kernel
theorem d_B_clearing_6 : decode b_B_clearing 6 = .ok (.if_icmp .le 11, 3) := by decide +kernel
theorem d_B_clearing_9 : decode b_B_clearing 9 = .ok (.new 63, 3) := by decide +kernel
theorem d_B_clearing_12 : decode b_B_clearing 12 = .ok (.dup, 1) := by decide +kernel
theorem d_B_clearing_13 : decode b_B_clearing 13 = .ok (.invokespecial 65, 3) := by decide +kernel
theorem d_B_clearing_16 : decode b_B_clearing 16 = .ok (.athrow, 1) := by decide +kernel
theorem d_B_clearing_17 : decode b_B_clearing 17 = .ok (.aload_n 0, 1) := by decide +kernel
theorem d_B_clearing_18 : decode b_B_clearing 18 = .ok (.getfield 36, 3) := by decide +kernel
theorem d_B_clearing_21 : decode b_B_clearing 21 = .ok (.aload_n 0, 1) := by decide +kernel
theorem d_B_clearing_22 : decode b_B_clearing 22 = .ok (.getfield 19, 3) := by decide +kernel
theorem d_B_clearing_25 : decode b_B_clearing 25 = .ok (.getfield 145, 3) := by decide +kernel
theorem d_B_clearing_28 : decode b_B_clearing 28 = .ok (.aload_n 0, 1) := by decide +kernel
theorem d_B_clearing_29 : decode b_B_clearing 29 = .ok (.getfield 23, 3) := by decide +kernel
theorem d_B_clearing_32 : decode b_B_clearing 32 = .ok (.getfield 145, 3) := by decide +kernel
theorem d_B_clearing_35 : decode b_B_clearing 35 = .ok (.aload_n 0, 1) := by decide +kernel
theorem d_B_clearing_36 : decode b_B_clearing 36 = .ok (.getfield 44, 3) := by decide +kernel
theorem d_B_clearing_39 : decode b_B_clearing 39 = .ok (.invokevirtual 148, 3) := by decide +kernel
theorem d_B_clearing_42 : decode b_B_clearing 42 = .ok (.iload_n 1, 1) := by decide +kernel
theorem d_B_clearing_43 : decode b_B_clearing 43 = .ok (.ifCond .ne 12, 3) := by decide +kernel
theorem d_B_clearing_46 : decode b_B_clearing 46 = .ok (.aload_n 0, 1) := by decide +kernel
theorem d_B_clearing_47 : decode b_B_clearing 47 = .ok (.getfield 36, 3) := by decide +kernel
theorem d_B_clearing_50 : decode b_B_clearing 50 = .ok (.getfield 156, 3) := by decide +kernel
theorem d_B_clearing_53 : decode b_B_clearing 53 = .ok (.i2l, 1) := by decide +kernel
theorem d_B_clearing_54 : decode b_B_clearing 54 = .ok (.lreturn, 1) := by decide +kernel
theorem d_B_clearing_55 : decode b_B_clearing 55 = .ok (.iload_n 1, 1) := by decide +kernel
theorem d_B_clearing_56 : decode b_B_clearing 56 = .ok (.iconst 1, 1) := by decide +kernel
theorem d_B_clearing_57 : decode b_B_clearing 57 = .ok (.if_icmp .ne 13, 3) := by decide +kernel
theorem d_B_clearing_60 : decode b_B_clearing 60 = .ok (.aload_n 0, 1) := by decide +kernel
theorem d_B_clearing_61 : decode b_B_clearing 61 = .ok (.getfield 36, 3) := by decide +kernel
theorem d_B_clearing_64 : decode b_B_clearing 64 = .ok (.getfield 152, 3) := by decide +kernel
theorem d_B_clearing_67 : decode b_B_clearing 67 = .ok (.goto 10, 3) := by decide +kernel
theorem d_B_clearing_70 : decode b_B_clearing 70 = .ok (.aload_n 0, 1) := by decide +kernel
theorem d_B_clearing_71 : decode b_B_clearing 71 = .ok (.getfield 36, 3) := by decide +kernel
theorem d_B_clearing_74 : decode b_B_clearing 74 = .ok (.getfield 164, 3) := by decide +kernel
theorem d_B_clearing_77 : decode b_B_clearing 77 = .ok (.lreturn, 1) := by decide +kernel
theorem d_B_order_0 : decode b_B_order 0 = .ok (.aload_n 0, 1) := by decide +kernel
theorem d_B_order_1 : decode b_B_order 1 = .ok (.iload_n 1, 1) := by decide +kernel
theorem d_B_order_2 : decode b_B_order 2 = .ok (.invokevirtual 103, 3) := by decide +kernel
theorem d_B_order_5 : decode b_B_order 5 = .ok (.astore_n 3, 1) := by decide +kernel
theorem d_B_order_6 : decode b_B_order 6 = .ok (.iload_n 2, 1) := by decide +kernel
theorem d_B_order_7 : decode b_B_order 7 = .ok (.tableswitch 102 0 8 #[49, 54, 67, 72, 77, 82, 87, 92, 97], 49) := by decide +kernel
theorem d_B_order_56 : decode b_B_order 56 = .ok (.aload_n 3, 1) := by decide +kernel
theorem d_B_order_57 : decode b_B_order 57 = .ok (.getfield 121, 3) := by decide +kernel
theorem d_B_order_60 : decode b_B_order 60 = .ok (.ireturn, 1) := by decide +kernel
theorem d_B_order_61 : decode b_B_order 61 = .ok (.aload_n 3, 1) := by decide +kernel
theorem d_B_order_62 : decode b_B_order 62 = .ok (.getfield 134, 3) := by decide +kernel
theorem d_B_order_65 : decode b_B_order 65 = .ok (.ifCond .eq 7, 3) := by decide +kernel
theorem d_B_order_68 : decode b_B_order 68 = .ok (.iconst 1, 1) := by decide +kernel
theorem d_B_order_69 : decode b_B_order 69 = .ok (.goto 4, 3) := by decide +kernel
theorem d_B_order_72 : decode b_B_order 72 = .ok (.iconst 0, 1) := by decide +kernel
theorem d_B_order_73 : decode b_B_order 73 = .ok (.ireturn, 1) := by decide +kernel
theorem d_B_order_74 : decode b_B_order 74 = .ok (.aload_n 3, 1) := by decide +kernel
theorem d_B_order_75 : decode b_B_order 75 = .ok (.getfield 127, 3) := by decide +kernel
theorem d_B_order_78 : decode b_B_order 78 = .ok (.ireturn, 1) := by decide +kernel
theorem d_B_order_79 : decode b_B_order 79 = .ok (.aload_n 3, 1) := by decide +kernel
theorem d_B_order_80 : decode b_B_order 80 = .ok (.getfield 111, 3) := by decide +kernel
theorem d_B_order_83 : decode b_B_order 83 = .ok (.ireturn, 1) := by decide +kernel
theorem d_B_order_84 : decode b_B_order 84 = .ok (.aload_n 3, 1) := by decide +kernel
theorem d_B_order_85 : decode b_B_order 85 = .ok (.getfield 167, 3) := by decide +kernel
theorem d_B_order_88 : decode b_B_order 88 = .ok (.ireturn, 1) := by decide +kernel
theorem d_B_order_89 : decode b_B_order 89 = .ok (.aload_n 3, 1) := by decide +kernel
theorem d_B_order_90 : decode b_B_order 90 = .ok (.getfield 170, 3) := by decide +kernel
theorem d_B_order_93 : decode b_B_order 93 = .ok (.ireturn, 1) := by decide +kernel
theorem d_B_order_94 : decode b_B_order 94 = .ok (.aload_n 3, 1) := by decide +kernel
theorem d_B_order_95 : decode b_B_order 95 = .ok (.getfield 173, 3) := by decide +kernel
theorem d_B_order_98 : decode b_B_order 98 = .ok (.ireturn, 1) := by decide +kernel
theorem d_B_order_99 : decode b_B_order 99 = .ok (.aload_n 3, 1) := by decide +kernel
theorem d_B_order_100 : decode b_B_order 100 = .ok (.getfield 176, 3) := by decide +kernel
theorem d_B_order_103 : decode b_B_order 103 = .ok (.ireturn, 1) := by decide +kernel
theorem d_B_order_104 : decode b_B_order 104 = .ok (.aload_n 3, 1) := by decide +kernel
theorem d_B_order_105 : decode b_B_order 105 = .ok (.getfield 124, 3) := by decide +kernel
theorem d_B_order_108 : decode b_B_order 108 = .ok (.ireturn, 1) := by decide +kernel
theorem d_B_order_109 : decode b_B_order 109 = .ok (.new 63, 3) := by decide +kernel
theorem d_B_order_112 : decode b_B_order 112 = .ok (.dup, 1) := by decide +kernel
theorem d_B_order_113 : decode b_B_order 113 = .ok (.invokespecial 65, 3) := by decide +kernel
theorem d_B_order_116 : decode b_B_order 116 = .ok (.athrow, 1) := by decide +kernel
theorem d_B_depth_0 : decode b_B_depth 0 = .ok (.iload_n 2, 1) := by decide +kernel
theorem d_B_depth_1 : decode b_B_depth 1 = .ok (.invokestatic 57, 3) := by decide +kernel
theorem d_B_depth_4 : decode b_B_depth 4 = .ok (.ifCond .ne 11, 3) := by decide +kernel
theorem d_B_depth_7 : decode b_B_depth 7 = .ok (.new 63, 3) := by decide +kernel
theorem d_B_depth_10 : decode b_B_depth 10 = .ok (.dup, 1) := by decide +kernel
theorem d_B_depth_11 : decode b_B_depth 11 = .ok (.invokespecial 65, 3) := by decide +kernel
theorem d_B_depth_14 : decode b_B_depth 14 = .ok (.athrow, 1) := by decide +kernel
theorem d_B_depth_15 : decode b_B_depth 15 = .ok (.aload_n 0, 1) := by decide +kernel
theorem d_B_depth_16 : decode b_B_depth 16 = .ok (.iload_n 1, 1) := by decide +kernel
theorem d_B_depth_17 : decode b_B_depth 17 = .ok (.invokevirtual 138, 3) := by decide +kernel
theorem d_B_depth_20 : decode b_B_depth 20 = .ok (.getfield 145, 3) := by decide +kernel
theorem d_B_depth_23 : decode b_B_depth 23 = .ok (.astore 4, 2) := by decide +kernel
theorem d_B_depth_25 : decode b_B_depth 25 = .ok (.lconst 0, 1) := by decide +kernel
theorem d_B_depth_26 : decode b_B_depth 26 = .ok (.lstore 5, 2) := by decide +kernel
theorem d_B_depth_28 : decode b_B_depth 28 = .ok (.iconst 0, 1) := by decide +kernel
theorem d_B_depth_29 : decode b_B_depth 29 = .ok (.istore 7, 2) := by decide +kernel
theorem d_B_depth_31 : decode b_B_depth 31 = .ok (.iload 7, 2) := by decide +kernel
theorem d_B_depth_33 : decode b_B_depth 33 = .ok (.aload 4, 2) := by decide +kernel
theorem d_B_depth_35 : decode b_B_depth 35 = .ok (.invokevirtual 76, 3) := by decide +kernel
theorem d_B_depth_38 : decode b_B_depth 38 = .ok (.if_icmp .ge 54, 3) := by decide +kernel
theorem d_B_depth_41 : decode b_B_depth 41 = .ok (.aload 4, 2) := by decide +kernel
theorem d_B_depth_43 : decode b_B_depth 43 = .ok (.iload 7, 2) := by decide +kernel
theorem d_B_depth_45 : decode b_B_depth 45 = .ok (.invokevirtual 117, 3) := by decide +kernel
theorem d_B_depth_48 : decode b_B_depth 48 = .ok (.checkcast 83, 3) := by decide +kernel
theorem d_B_depth_51 : decode b_B_depth 51 = .ok (.astore 8, 2) := by decide +kernel
theorem d_B_depth_53 : decode b_B_depth 53 = .ok (.aload 8, 2) := by decide +kernel
theorem d_B_depth_55 : decode b_B_depth 55 = .ok (.getfield 127, 3) := by decide +kernel
theorem d_B_depth_58 : decode b_B_depth 58 = .ok (.iload_n 2, 1) := by decide +kernel
theorem d_B_depth_59 : decode b_B_depth 59 = .ok (.if_icmp .ne 27, 3) := by decide +kernel
theorem d_B_depth_62 : decode b_B_depth 62 = .ok (.lload 5, 2) := by decide +kernel
theorem d_B_depth_64 : decode b_B_depth 64 = .ok (.iload_n 3, 1) := by decide +kernel
theorem d_B_depth_65 : decode b_B_depth 65 = .ok (.ifCond .eq 12, 3) := by decide +kernel
theorem d_B_depth_68 : decode b_B_depth 68 = .ok (.aload 8, 2) := by decide +kernel
theorem d_B_depth_70 : decode b_B_depth 70 = .ok (.getfield 111, 3) := by decide +kernel
theorem d_B_depth_73 : decode b_B_depth 73 = .ok (.i2l, 1) := by decide +kernel
theorem d_B_depth_74 : decode b_B_depth 74 = .ok (.goto 9, 3) := by decide +kernel
theorem d_B_depth_77 : decode b_B_depth 77 = .ok (.aload 8, 2) := by decide +kernel
theorem d_B_depth_79 : decode b_B_depth 79 = .ok (.getfield 167, 3) := by decide +kernel
theorem d_B_depth_82 : decode b_B_depth 82 = .ok (.i2l, 1) := by decide +kernel
theorem d_B_depth_83 : decode b_B_depth 83 = .ok (.ladd, 1) := by decide +kernel
theorem d_B_depth_84 : decode b_B_depth 84 = .ok (.lstore 5, 2) := by decide +kernel
theorem d_B_depth_86 : decode b_B_depth 86 = .ok (.iinc 7 1, 3) := by decide +kernel
theorem d_B_depth_89 : decode b_B_depth 89 = .ok (.goto (-58), 3) := by decide +kernel
theorem d_B_depth_92 : decode b_B_depth 92 = .ok (.lload 5, 2) := by decide +kernel
theorem d_B_depth_94 : decode b_B_depth 94 = .ok (.lreturn, 1) := by decide +kernel
