/-! decode rows -/
theorem d_S_init_0 : decode b_S_init 0 = .ok (.aload_n 0, 1) := by decide +kernel
theorem d_S_init_1 : decode b_S_init 1 = .ok (.invokespecial 3, 3) := by decide +kernel
theorem d_S_init_4 : decode b_S_init 4 = .ok (.aload_n 0, 1) := by decide +kernel
theorem d_S_init_5 : decode b_S_init 5 = .ok (.new 9, 3) := by decide +kernel
theorem d_S_init_8 : decode b_S_init 8 = .ok (.dup, 1) := by decide +kernel
theorem d_S_init_9 : decode b_S_init 9 = .ok (.invokespecial 11, 3) := by decide +kernel
theorem d_S_init_12 : decode b_S_init 12 = .ok (.putfield 12, 3) := by decide +kernel
theorem d_S_init_15 : decode b_S_init 15 = .ok (.return_, 1) := by decide +kernel
theorem d_G_init_0 : decode b_G_init 0 = .ok (.aload_n 0, 1) := by decide +kernel
theorem d_G_init_1 : decode b_G_init 1 = .ok (.invokespecial 3, 3) := by decide +kernel
theorem d_G_init_4 : decode b_G_init 4 = .ok (.aload_n 0, 1) := by decide +kernel
theorem d_G_init_5 : decode b_G_init 5 = .ok (.new 9, 3) := by decide +kernel
theorem d_G_init_8 : decode b_G_init 8 = .ok (.dup, 1) := by decide +kernel
theorem d_G_init_9 : decode b_G_init 9 = .ok (.invokespecial 11, 3) := by decide +kernel
theorem d_G_init_12 : decode b_G_init 12 = .ok (.putfield 12, 3) := by decide +kernel
theorem d_G_init_15 : decode b_G_init 15 = .ok (.return_, 1) := by decide +kernel
theorem d_A_init_0 : decode b_A_init 0 = .ok (.aload_n 0, 1) := by decide +kernel
theorem d_A_init_1 : decode b_A_init 1 = .ok (.invokespecial 3, 3) := by decide +kernel
theorem d_A_init_4 : decode b_A_init 4 = .ok (.return_, 1) := by decide +kernel
theorem d_G_tell_0 : decode b_G_tell 0 = .ok (.iload_n 1, 1) := by decide +kernel
theorem d_G_tell_1 : decode b_G_tell 1 = .ok (.ifCond .lt 14, 3) := by decide +kernel
theorem d_G_tell_4 : decode b_G_tell 4 = .ok (.iload_n 1, 1) := by decide +kernel
theorem d_G_tell_5 : decode b_G_tell 5 = .ok (.aload_n 0, 1) := by decide +kernel
theorem d_G_tell_6 : decode b_G_tell 6 = .ok (.getfield 12, 3) := by decide +kernel
theorem d_G_tell_9 : decode b_G_tell 9 = .ok (.invokevirtual 22, 3) := by decide +kernel
theorem d_G_tell_12 : decode b_G_tell 12 = .ok (.if_icmp .lt 5, 3) := by decide +kernel
theorem d_G_tell_15 : decode b_G_tell 15 = .ok (.iconst (-1), 1) := by decide +kernel
theorem d_G_tell_16 : decode b_G_tell 16 = .ok (.ireturn, 1) := by decide +kernel
theorem d_G_tell_17 : decode b_G_tell 17 = .ok (.aload_n 0, 1) := by decide +kernel
theorem d_G_tell_18 : decode b_G_tell 18 = .ok (.getfield 12, 3) := by decide +kernel
theorem d_G_tell_21 : decode b_G_tell 21 = .ok (.iload_n 1, 1) := by decide +kernel
theorem d_G_tell_22 : decode b_G_tell 22 = .ok (.invokevirtual 36, 3) := by decide +kernel
theorem d_G_tell_25 : decode b_G_tell 25 = .ok (.checkcast 27, 3) := by decide +kernel
theorem d_G_tell_28 : decode b_G_tell 28 = .ok (.astore_n 3, 1) := by decide +kernel
theorem d_G_tell_29 : decode b_G_tell 29 = .ok (.iload_n 2, 1) := by decide +kernel
theorem d_G_tell_30 : decode b_G_tell 30 = .ok (.tableswitch 50 0 3 #[30, 35, 40, 45], 30) := by decide +kernel
theorem d_G_tell_60 : decode b_G_tell 60 = .ok (.aload_n 3, 1) := by decide +kernel
theorem d_G_tell_61 : decode b_G_tell 61 = .ok (.getfield 40, 3) := by decide +kernel
theorem d_G_tell_64 : decode b_G_tell 64 = .ok (.ireturn, 1) := by decide +kernel
theorem d_G_tell_65 : decode b_G_tell 65 = .ok (.aload_n 3, 1) := by decide +kernel
theorem d_G_tell_66 : decode b_G_tell 66 = .ok (.getfield 44, 3) := by decide +kernel
theorem d_G_tell_69 : decode b_G_tell 69 = .ok (.ireturn, 1) := by decide +kernel
theorem d_G_tell_70 : decode b_G_tell 70 = .ok (.aload_n 3, 1) := by decide +kernel
theorem d_G_tell_71 : decode b_G_tell 71 = .ok (.getfield 47, 3) := by decide +kernel
theorem d_G_tell_74 : decode b_G_tell 74 = .ok (.ireturn, 1) := by decide +kernel
theorem d_G_tell_75 : decode b_G_tell 75 = .ok (.aload_n 3, 1) := by decide +kernel
theorem d_G_tell_76 : decode b_G_tell 76 = .ok (.getfield 50, 3) := by decide +kernel
theorem d_G_tell_79 : decode b_G_tell 79 = .ok (.ireturn, 1) := by decide +kernel
theorem d_G_tell_80 : decode b_G_tell 80 = .ok (.iconst (-1), 1) := by decide +kernel
theorem d_G_tell_81 : decode b_G_tell 81 = .ok (.ireturn, 1) := by decide +kernel
theorem d_O_standsBefore_0 : decode b_O_standsBefore 0 = .ok (.aload_n 0, 1) := by decide +kernel
theorem d_O_standsBefore_1 : decode b_O_standsBefore 1 = .ok (.getfield 31, 3) := by decide +kernel
theorem d_O_standsBefore_4 : decode b_O_standsBefore 4 = .ok (.aload_n 1, 1) := by decide +kernel
theorem d_O_standsBefore_5 : decode b_O_standsBefore 5 = .ok (.getfield 31, 3) := by decide +kernel
theorem d_O_standsBefore_8 : decode b_O_standsBefore 8 = .ok (.if_icmp .ne 20, 3) := by decide +kernel
theorem d_O_standsBefore_11 : decode b_O_standsBefore 11 = .ok (.aload_n 0, 1) := by decide +kernel
theorem d_O_standsBefore_12 : decode b_O_standsBefore 12 = .ok (.getfield 28, 3) := by decide +kernel
theorem d_O_standsBefore_15 : decode b_O_standsBefore 15 = .ok (.aload_n 1, 1) := by decide +kernel
theorem d_O_standsBefore_16 : decode b_O_standsBefore 16 = .ok (.getfield 28, 3) := by decide +kernel
theorem d_O_standsBefore_19 : decode b_O_standsBefore 19 = .ok (.if_icmp .ge 7, 3) := by decide +kernel
theorem d_O_standsBefore_22 : decode b_O_standsBefore 22 = .ok (.iconst 1, 1) := by decide +kernel
theorem d_O_standsBefore_23 : decode b_O_standsBefore 23 = .ok (.goto 4, 3) := by decide +kernel
theorem d_O_standsBefore_26 : decode b_O_standsBefore 26 = .ok (.iconst 0, 1) := by decide +kernel
theorem d_O_standsBefore_27 : decode b_O_standsBefore 27 = .ok (.ireturn, 1) := by decide +kernel
theorem d_O_standsBefore_28 : decode b_O_standsBefore 28 = .ok (.aload_n 0, 1) := by decide +kernel
theorem d_O_standsBefore_29 : decode b_O_standsBefore 29 = .ok (.getfield 31, 3) := by decide +kernel
theorem d_O_standsBefore_32 : decode b_O_standsBefore 32 = .ok (.ifCond .eq 10, 3) := by decide +kernel
theorem d_O_standsBefore_35 : decode b_O_standsBefore 35 = .ok (.aload_n 1, 1) := by decide +kernel
theorem d_O_standsBefore_36 : decode b_O_standsBefore 36 = .ok (.getfield 31, 3) := by decide +kernel
theorem d_O_standsBefore_39 : decode b_O_standsBefore 39 = .ok (.ifCond .ne 16, 3) := by decide +kernel
theorem d_O_standsBefore_42 : decode b_O_standsBefore 42 = .ok (.aload_n 0, 1) := by decide +kernel
theorem d_O_standsBefore_43 : decode b_O_standsBefore 43 = .ok (.getfield 31, 3) := by decide +kernel
theorem d_O_standsBefore_46 : decode b_O_standsBefore 46 = .ok (.ifCond .ne 7, 3) := by decide +kernel
theorem d_O_standsBefore_49 : decode b_O_standsBefore 49 = .ok (.iconst 1, 1) := by decide +kernel
theorem d_O_standsBefore_50 : decode b_O_standsBefore 50 = .ok (.goto 4, 3) := by decide +kernel
theorem d_O_standsBefore_53 : decode b_O_standsBefore 53 = .ok (.iconst 0, 1) := by decide +kernel
theorem d_O_standsBefore_54 : decode b_O_standsBefore 54 = .ok (.ireturn, 1) := by decide +kernel
theorem d_O_standsBefore_55 : decode b_O_standsBefore 55 = .ok (.aload_n 0, 1) := by decide +kernel
theorem d_O_standsBefore_56 : decode b_O_standsBefore 56 = .ok (.getfield 18, 3) := by decide +kernel
theorem d_O_standsBefore_59 : decode b_O_standsBefore 59 = .ok (.ifCond .eq 22, 3) := by decide +kernel
theorem d_O_standsBefore_62 : decode b_O_standsBefore 62 = .ok (.aload_n 0, 1) := by decide +kernel
theorem d_O_standsBefore_63 : decode b_O_standsBefore 63 = .ok (.getfield 31, 3) := by decide +kernel
theorem d_O_standsBefore_66 : decode b_O_standsBefore 66 = .ok (.aload_n 1, 1) := by decide +kernel
theorem d_O_standsBefore_67 : decode b_O_standsBefore 67 = .ok (.getfield 31, 3) := by decide +kernel
theorem d_O_standsBefore_70 : decode b_O_standsBefore 70 = .ok (.if_icmp .le 7, 3) := by decide +kernel
theorem d_O_standsBefore_73 : decode b_O_standsBefore 73 = .ok (.iconst 1, 1) := by decide +kernel
theorem d_O_standsBefore_74 : decode b_O_standsBefore 74 = .ok (.goto 23, 3) := by decide +kernel
theorem d_O_standsBefore_77 : decode b_O_standsBefore 77 = .ok (.iconst 0, 1) := by decide +kernel
theorem d_O_standsBefore_78 : decode b_O_standsBefore 78 = .ok (.goto 19, 3) := by decide +kernel
theorem d_O_standsBefore_81 : decode b_O_standsBefore 81 = .ok (.aload_n 0, 1) := by decide +kernel
theorem d_O_standsBefore_82 : decode b_O_standsBefore 82 = .ok (.getfield 31, 3) := by decide +kernel
theorem d_O_standsBefore_85 : decode b_O_standsBefore 85 = .ok (.aload_n 1, 1) := by decide +kernel
theorem d_O_standsBefore_86 : decode b_O_standsBefore 86 = .ok (.getfield 31, 3) := by decide +kernel
theorem d_O_standsBefore_89 : decode b_O_standsBefore 89 = .ok (.if_icmp .ge 7, 3) := by decide +kernel
theorem d_O_standsBefore_92 : decode b_O_standsBefore 92 = .ok (.iconst 1, 1) := by decide +kernel
theorem d_O_standsBefore_93 : decode b_O_standsBefore 93 = .ok (.goto 4, 3) := by decide +kernel
theorem d_O_standsBefore_96 : decode b_O_standsBefore 96 = .ok (.iconst 0, 1) := by decide +kernel
theorem d_O_standsBefore_97 : decode b_O_standsBefore 97 = .ok (.ireturn, 1) := by decide +kernel
theorem d_O_isWrongAtRest_0 : decode b_O_isWrongAtRest 0 = .ok (.aload_n 0, 1) := by decide +kernel
theorem d_O_isWrongAtRest_1 : decode b_O_isWrongAtRest 1 = .ok (.getfield 37, 3) := by decide +kernel
theorem d_O_isWrongAtRest_4 : decode b_O_isWrongAtRest 4 = .ok (.iconst 1, 1) := by decide +kernel
theorem d_O_isWrongAtRest_5 : decode b_O_isWrongAtRest 5 = .ok (.if_icmp .lt 32, 3) := by decide +kernel
theorem d_O_isWrongAtRest_8 : decode b_O_isWrongAtRest 8 = .ok (.aload_n 0, 1) := by decide +kernel
theorem d_O_isWrongAtRest_9 : decode b_O_isWrongAtRest 9 = .ok (.getfield 37, 3) := by decide +kernel
theorem d_O_isWrongAtRest_12 : decode b_O_isWrongAtRest 12 = .ok (.aload_n 0, 1) := by decide +kernel
theorem d_O_isWrongAtRest_13 : decode b_O_isWrongAtRest 13 = .ok (.invokevirtual 49, 3) := by decide +kernel
theorem d_O_isWrongAtRest_16 : decode b_O_isWrongAtRest 16 = .ok (.if_icmp .gt 21, 3) := by decide +kernel
theorem d_O_isWrongAtRest_19 : decode b_O_isWrongAtRest 19 = .ok (.aload_n 0, 1) := by decide +kernel
theorem d_O_isWrongAtRest_20 : decode b_O_isWrongAtRest 20 = .ok (.getfield 22, 3) := by decide +kernel
theorem d_O_isWrongAtRest_23 : decode b_O_isWrongAtRest 23 = .ok (.ifCond .ne 18, 3) := by decide +kernel
theorem d_O_isWrongAtRest_26 : decode b_O_isWrongAtRest 26 = .ok (.aload_n 0, 1) := by decide +kernel
theorem d_O_isWrongAtRest_27 : decode b_O_isWrongAtRest 27 = .ok (.getfield 37, 3) := by decide +kernel
theorem d_O_isWrongAtRest_30 : decode b_O_isWrongAtRest 30 = .ok (.aload_n 0, 1) := by decide +kernel
theorem d_O_isWrongAtRest_31 : decode b_O_isWrongAtRest 31 = .ok (.getfield 34, 3) := by decide +kernel
theorem d_O_isWrongAtRest_34 : decode b_O_isWrongAtRest 34 = .ok (.if_icmp .eq 7, 3) := by decide +kernel
theorem d_O_isWrongAtRest_37 : decode b_O_isWrongAtRest 37 = .ok (.iconst 1, 1) := by decide +kernel
theorem d_O_isWrongAtRest_38 : decode b_O_isWrongAtRest 38 = .ok (.goto 4, 3) := by decide +kernel
theorem d_O_isWrongAtRest_41 : decode b_O_isWrongAtRest 41 = .ok (.iconst 0, 1) := by decide +kernel
theorem d_O_isWrongAtRest_42 : decode b_O_isWrongAtRest 42 = .ok (.istore_n 1, 1) := by decide +kernel
theorem d_O_isWrongAtRest_43 : decode b_O_isWrongAtRest 43 = .ok (.aload_n 0, 1) := by decide +kernel
theorem d_O_isWrongAtRest_44 : decode b_O_isWrongAtRest 44 = .ok (.invokevirtual 53, 3) := by decide +kernel
theorem d_O_isWrongAtRest_47 : decode b_O_isWrongAtRest 47 = .ok (.ifCond .eq 24, 3) := by decide +kernel
theorem d_O_isWrongAtRest_50 : decode b_O_isWrongAtRest 50 = .ok (.aload_n 0, 1) := by decide +kernel
theorem d_O_isWrongAtRest_51 : decode b_O_isWrongAtRest 51 = .ok (.getfield 34, 3) := by decide +kernel
theorem d_O_isWrongAtRest_54 : decode b_O_isWrongAtRest 54 = .ok (.iconst 1, 1) := by decide +kernel
theorem d_O_isWrongAtRest_55 : decode b_O_isWrongAtRest 55 = .ok (.if_icmp .lt 16, 3) := by decide +kernel
theorem d_O_isWrongAtRest_58 : decode b_O_isWrongAtRest 58 = .ok (.aload_n 0, 1) := by decide +kernel
theorem d_O_isWrongAtRest_59 : decode b_O_isWrongAtRest 59 = .ok (.getfield 34, 3) := by decide +kernel
theorem d_O_isWrongAtRest_62 : decode b_O_isWrongAtRest 62 = .ok (.ldc 57, 2) := by decide +kernel
theorem d_O_isWrongAtRest_64 : decode b_O_isWrongAtRest 64 = .ok (.if_icmp .gt 7, 3) := by decide +kernel
theorem d_O_isWrongAtRest_67 : decode b_O_isWrongAtRest 67 = .ok (.iload_n 1, 1) := by decide +kernel
theorem d_O_isWrongAtRest_68 : decode b_O_isWrongAtRest 68 = .ok (.ifCond .eq 7, 3) := by decide +kernel
theorem d_O_isWrongAtRest_71 : decode b_O_isWrongAtRest 71 = .ok (.iconst 1, 1) := by decide +kernel
theorem d_O_isWrongAtRest_72 : decode b_O_isWrongAtRest 72 = .ok (.goto 4, 3) := by decide +kernel
theorem d_O_isWrongAtRest_75 : decode b_O_isWrongAtRest 75 = .ok (.iconst 0, 1) := by decide +kernel
theorem d_O_isWrongAtRest_76 : decode b_O_isWrongAtRest 76 = .ok (.ireturn, 1) := by decide +kernel
theorem d_O_mayShow_0 : decode b_O_mayShow 0 = .ok (.aload_n 0, 1) := by decide +kernel
theorem d_O_mayShow_1 : decode b_O_mayShow 1 = .ok (.getfield 22, 3) := by decide +kernel
theorem d_O_mayShow_4 : decode b_O_mayShow 4 = .ok (.ifCond .ne 10, 3) := by decide +kernel
theorem d_O_mayShow_7 : decode b_O_mayShow 7 = .ok (.aload_n 0, 1) := by decide +kernel
theorem d_O_mayShow_8 : decode b_O_mayShow 8 = .ok (.getfield 34, 3) := by decide +kernel
theorem d_O_mayShow_11 : decode b_O_mayShow 11 = .ok (.goto 14, 3) := by decide +kernel
theorem d_O_mayShow_14 : decode b_O_mayShow 14 = .ok (.aload_n 0, 1) := by decide +kernel
theorem d_O_mayShow_15 : decode b_O_mayShow 15 = .ok (.getfield 34, 3) := by decide +kernel
theorem d_O_mayShow_18 : decode b_O_mayShow 18 = .ok (.aload_n 0, 1) := by decide +kernel
theorem d_O_mayShow_19 : decode b_O_mayShow 19 = .ok (.getfield 22, 3) := by decide +kernel
theorem d_O_mayShow_22 : decode b_O_mayShow 22 = .ok (.invokestatic 40, 3) := by decide +kernel
theorem d_O_mayShow_25 : decode b_O_mayShow 25 = .ok (.ireturn, 1) := by decide +kernel
theorem d_O_rests_0 : decode b_O_rests 0 = .ok (.aload_n 0, 1) := by decide +kernel
theorem d_O_rests_1 : decode b_O_rests 1 = .ok (.getfield 28, 3) := by decide +kernel
theorem d_O_rests_4 : decode b_O_rests 4 = .ok (.iconst (-1), 1) := by decide +kernel
theorem d_O_rests_5 : decode b_O_rests 5 = .ok (.if_icmp .eq 7, 3) := by decide +kernel
theorem d_O_rests_8 : decode b_O_rests 8 = .ok (.iconst 1, 1) := by decide +kernel
theorem d_O_rests_9 : decode b_O_rests 9 = .ok (.goto 4, 3) := by decide +kernel
theorem d_O_rests_12 : decode b_O_rests 12 = .ok (.iconst 0, 1) := by decide +kernel
theorem d_O_rests_13 : decode b_O_rests 13 = .ok (.ireturn, 1) := by decide +kernel
theorem d_S_first_0 : decode b_S_first 0 = .ok (.aload_n 0, 1) := by decide +kernel
theorem d_S_first_1 : decode b_S_first 1 = .ok (.getfield 12, 3) := by decide +kernel
theorem d_S_first_4 : decode b_S_first 4 = .ok (.invokevirtual 18, 3) := by decide +kernel
theorem d_S_first_7 : decode b_S_first 7 = .ok (.ifCond .eq 7, 3) := by decide +kernel
theorem d_S_first_10 : decode b_S_first 10 = .ok (.aconst_null, 1) := by decide +kernel
theorem d_S_first_11 : decode b_S_first 11 = .ok (.goto 14, 3) := by decide +kernel
theorem d_S_first_14 : decode b_S_first 14 = .ok (.aload_n 0, 1) := by decide +kernel
theorem d_S_first_15 : decode b_S_first 15 = .ok (.getfield 12, 3) := by decide +kernel
theorem d_S_first_18 : decode b_S_first 18 = .ok (.iconst 0, 1) := by decide +kernel
theorem d_S_first_19 : decode b_S_first 19 = .ok (.invokevirtual 22, 3) := by decide +kernel
theorem d_S_first_22 : decode b_S_first 22 = .ok (.checkcast 26, 3) := by decide +kernel
theorem d_S_first_25 : decode b_S_first 25 = .ok (.areturn, 1) := by decide +kernel
theorem d_O_takes_0 : decode b_O_takes 0 = .ok (.aload_n 0, 1) := by decide +kernel
theorem d_O_takes_1 : decode b_O_takes 1 = .ok (.getfield 31, 3) := by decide +kernel
theorem d_O_takes_4 : decode b_O_takes 4 = .ok (.ifCond .ne 5, 3) := by decide +kernel
theorem d_O_takes_7 : decode b_O_takes 7 = .ok (.iconst 1, 1) := by decide +kernel
theorem d_O_takes_8 : decode b_O_takes 8 = .ok (.ireturn, 1) := by decide +kernel
theorem d_O_takes_9 : decode b_O_takes 9 = .ok (.aload_n 0, 1) := by decide +kernel
theorem d_O_takes_10 : decode b_O_takes 10 = .ok (.getfield 18, 3) := by decide +kernel
theorem d_O_takes_13 : decode b_O_takes 13 = .ok (.ifCond .eq 19, 3) := by decide +kernel
theorem d_O_takes_16 : decode b_O_takes 16 = .ok (.iload_n 1, 1) := by decide +kernel
theorem d_O_takes_17 : decode b_O_takes 17 = .ok (.aload_n 0, 1) := by decide +kernel
theorem d_O_takes_18 : decode b_O_takes 18 = .ok (.getfield 31, 3) := by decide +kernel
theorem d_O_takes_21 : decode b_O_takes 21 = .ok (.if_icmp .gt 7, 3) := by decide +kernel
theorem d_O_takes_24 : decode b_O_takes 24 = .ok (.iconst 1, 1) := by decide +kernel
theorem d_O_takes_25 : decode b_O_takes 25 = .ok (.goto 20, 3) := by decide +kernel
theorem d_O_takes_28 : decode b_O_takes 28 = .ok (.iconst 0, 1) := by decide +kernel
theorem d_O_takes_29 : decode b_O_takes 29 = .ok (.goto 16, 3) := by decide +kernel
theorem d_O_takes_32 : decode b_O_takes 32 = .ok (.iload_n 1, 1) := by decide +kernel
theorem d_O_takes_33 : decode b_O_takes 33 = .ok (.aload_n 0, 1) := by decide +kernel
theorem d_O_takes_34 : decode b_O_takes 34 = .ok (.getfield 31, 3) := by decide +kernel
theorem d_O_takes_37 : decode b_O_takes 37 = .ok (.if_icmp .lt 7, 3) := by decide +kernel
theorem d_O_takes_40 : decode b_O_takes 40 = .ok (.iconst 1, 1) := by decide +kernel
theorem d_O_takes_41 : decode b_O_takes 41 = .ok (.goto 4, 3) := by decide +kernel
theorem d_O_takes_44 : decode b_O_takes 44 = .ok (.iconst 0, 1) := by decide +kernel
theorem d_O_takes_45 : decode b_O_takes 45 = .ok (.ireturn, 1) := by decide +kernel
theorem d_O_init_0 : decode b_O_init 0 = .ok (.aload_n 0, 1) := by decide +kernel
theorem d_O_init_1 : decode b_O_init 1 = .ok (.invokespecial 3, 3) := by decide +kernel
theorem d_O_init_4 : decode b_O_init 4 = .ok (.aload_n 0, 1) := by decide +kernel
theorem d_O_init_5 : decode b_O_init 5 = .ok (.iload_n 1, 1) := by decide +kernel
theorem d_O_init_6 : decode b_O_init 6 = .ok (.putfield 9, 3) := by decide +kernel
theorem d_O_init_9 : decode b_O_init 9 = .ok (.aload_n 0, 1) := by decide +kernel
theorem d_O_init_10 : decode b_O_init 10 = .ok (.iload_n 2, 1) := by decide +kernel
theorem d_O_init_11 : decode b_O_init 11 = .ok (.putfield 15, 3) := by decide +kernel
theorem d_O_init_14 : decode b_O_init 14 = .ok (.aload_n 0, 1) := by decide +kernel
theorem d_O_init_15 : decode b_O_init 15 = .ok (.iload_n 3, 1) := by decide +kernel
theorem d_O_init_16 : decode b_O_init 16 = .ok (.putfield 18, 3) := by decide +kernel
theorem d_O_init_19 : decode b_O_init 19 = .ok (.aload_n 0, 1) := by decide +kernel
theorem d_O_init_20 : decode b_O_init 20 = .ok (.iload 4, 2) := by decide +kernel
theorem d_O_init_22 : decode b_O_init 22 = .ok (.putfield 22, 3) := by decide +kernel
theorem d_O_init_25 : decode b_O_init 25 = .ok (.aload_n 0, 1) := by decide +kernel
theorem d_O_init_26 : decode b_O_init 26 = .ok (.iload 5, 2) := by decide +kernel
theorem d_O_init_28 : decode b_O_init 28 = .ok (.putfield 25, 3) := by decide +kernel
theorem d_O_init_31 : decode b_O_init 31 = .ok (.aload_n 0, 1) := by decide +kernel
theorem d_O_init_32 : decode b_O_init 32 = .ok (.iconst (-1), 1) := by decide +kernel
theorem d_O_init_33 : decode b_O_init 33 = .ok (.putfield 28, 3) := by decide +kernel
theorem d_O_init_36 : decode b_O_init 36 = .ok (.return_, 1) := by decide +kernel
theorem d_O_ask_0 : decode b_O_ask 0 = .ok (.aload_n 0, 1) := by decide +kernel
theorem d_O_ask_1 : decode b_O_ask 1 = .ok (.iload_n 1, 1) := by decide +kernel
theorem d_O_ask_2 : decode b_O_ask 2 = .ok (.putfield 31, 3) := by decide +kernel
theorem d_O_ask_5 : decode b_O_ask 5 = .ok (.aload_n 0, 1) := by decide +kernel
theorem d_O_ask_6 : decode b_O_ask 6 = .ok (.iload_n 2, 1) := by decide +kernel
theorem d_O_ask_7 : decode b_O_ask 7 = .ok (.putfield 34, 3) := by decide +kernel
theorem d_O_ask_10 : decode b_O_ask 10 = .ok (.return_, 1) := by decide +kernel
theorem d_S_enter_0 : decode b_S_enter 0 = .ok (.aload_n 1, 1) := by decide +kernel
theorem d_S_enter_1 : decode b_S_enter 1 = .ok (.iload_n 2, 1) := by decide +kernel
theorem d_S_enter_2 : decode b_S_enter 2 = .ok (.putfield 28, 3) := by decide +kernel
theorem d_S_enter_5 : decode b_S_enter 5 = .ok (.aload_n 0, 1) := by decide +kernel
theorem d_S_enter_6 : decode b_S_enter 6 = .ok (.getfield 12, 3) := by decide +kernel
theorem d_S_enter_9 : decode b_S_enter 9 = .ok (.invokevirtual 32, 3) := by decide +kernel
theorem d_S_enter_12 : decode b_S_enter 12 = .ok (.istore_n 3, 1) := by decide +kernel
theorem d_S_enter_13 : decode b_S_enter 13 = .ok (.iload_n 3, 1) := by decide +kernel
theorem d_S_enter_14 : decode b_S_enter 14 = .ok (.ifCond .le 29, 3) := by decide +kernel
theorem d_S_enter_17 : decode b_S_enter 17 = .ok (.aload_n 1, 1) := by decide +kernel
theorem d_S_enter_18 : decode b_S_enter 18 = .ok (.aload_n 0, 1) := by decide +kernel
theorem d_S_enter_19 : decode b_S_enter 19 = .ok (.getfield 12, 3) := by decide +kernel
theorem d_S_enter_22 : decode b_S_enter 22 = .ok (.iload_n 3, 1) := by decide +kernel
theorem d_S_enter_23 : decode b_S_enter 23 = .ok (.iconst 1, 1) := by decide +kernel
theorem d_S_enter_24 : decode b_S_enter 24 = .ok (.isub, 1) := by decide +kernel
theorem d_S_enter_25 : decode b_S_enter 25 = .ok (.invokevirtual 22, 3) := by decide +kernel
theorem d_S_enter_28 : decode b_S_enter 28 = .ok (.checkcast 26, 3) := by decide +kernel
theorem d_S_enter_31 : decode b_S_enter 31 = .ok (.invokevirtual 36, 3) := by decide +kernel
theorem d_S_enter_34 : decode b_S_enter 34 = .ok (.ifCond .eq 9, 3) := by decide +kernel
theorem d_S_enter_37 : decode b_S_enter 37 = .ok (.iinc 3 (-1), 3) := by decide +kernel
theorem d_S_enter_40 : decode b_S_enter 40 = .ok (.goto (-27), 3) := by decide +kernel
theorem d_S_enter_43 : decode b_S_enter 43 = .ok (.aload_n 0, 1) := by decide +kernel
theorem d_S_enter_44 : decode b_S_enter 44 = .ok (.getfield 12, 3) := by decide +kernel
theorem d_S_enter_47 : decode b_S_enter 47 = .ok (.iload_n 3, 1) := by decide +kernel
theorem d_S_enter_48 : decode b_S_enter 48 = .ok (.aload_n 1, 1) := by decide +kernel
theorem d_S_enter_49 : decode b_S_enter 49 = .ok (.invokevirtual 40, 3) := by decide +kernel
theorem d_S_enter_52 : decode b_S_enter 52 = .ok (.return_, 1) := by decide +kernel
theorem d_O_give_0 : decode b_O_give 0 = .ok (.aload_n 0, 1) := by decide +kernel
theorem d_O_give_1 : decode b_O_give 1 = .ok (.dup, 1) := by decide +kernel
theorem d_O_give_2 : decode b_O_give 2 = .ok (.getfield 34, 3) := by decide +kernel
theorem d_O_give_5 : decode b_O_give 5 = .ok (.iload_n 1, 1) := by decide +kernel
theorem d_O_give_6 : decode b_O_give 6 = .ok (.isub, 1) := by decide +kernel
theorem d_O_give_7 : decode b_O_give 7 = .ok (.putfield 34, 3) := by decide +kernel
theorem d_O_give_10 : decode b_O_give 10 = .ok (.aload_n 0, 1) := by decide +kernel
theorem d_O_give_11 : decode b_O_give 11 = .ok (.dup, 1) := by decide +kernel
theorem d_O_give_12 : decode b_O_give 12 = .ok (.getfield 46, 3) := by decide +kernel
theorem d_O_give_15 : decode b_O_give 15 = .ok (.iload_n 1, 1) := by decide +kernel
theorem d_O_give_16 : decode b_O_give 16 = .ok (.iadd, 1) := by decide +kernel
theorem d_O_give_17 : decode b_O_give 17 = .ok (.putfield 46, 3) := by decide +kernel
theorem d_O_give_20 : decode b_O_give 20 = .ok (.return_, 1) := by decide +kernel
theorem d_G_keep_0 : decode b_G_keep 0 = .ok (.aload_n 0, 1) := by decide +kernel
theorem d_G_keep_1 : decode b_G_keep 1 = .ok (.dup, 1) := by decide +kernel
theorem d_G_keep_2 : decode b_G_keep 2 = .ok (.getfield 18, 3) := by decide +kernel
theorem d_G_keep_5 : decode b_G_keep 5 = .ok (.iload 4, 2) := by decide +kernel
theorem d_G_keep_7 : decode b_G_keep 7 = .ok (.i2l, 1) := by decide +kernel
theorem d_G_keep_8 : decode b_G_keep 8 = .ok (.ladd, 1) := by decide +kernel
theorem d_G_keep_9 : decode b_G_keep 9 = .ok (.putfield 18, 3) := by decide +kernel
theorem d_G_keep_12 : decode b_G_keep 12 = .ok (.aload_n 0, 1) := by decide +kernel
theorem d_G_keep_13 : decode b_G_keep 13 = .ok (.getfield 12, 3) := by decide +kernel
theorem d_G_keep_16 : decode b_G_keep 16 = .ok (.invokevirtual 22, 3) := by decide +kernel
theorem d_G_keep_19 : decode b_G_keep 19 = .ok (.ldc 26, 2) := by decide +kernel
theorem d_G_keep_21 : decode b_G_keep 21 = .ok (.if_icmp .ge 23, 3) := by decide +kernel
theorem d_G_keep_24 : decode b_G_keep 24 = .ok (.aload_n 0, 1) := by decide +kernel
theorem d_G_keep_25 : decode b_G_keep 25 = .ok (.getfield 12, 3) := by decide +kernel
theorem d_G_keep_28 : decode b_G_keep 28 = .ok (.new 27, 3) := by decide +kernel
theorem d_G_keep_31 : decode b_G_keep 31 = .ok (.dup, 1) := by decide +kernel
theorem d_G_keep_32 : decode b_G_keep 32 = .ok (.iload_n 1, 1) := by decide +kernel
theorem d_G_keep_33 : decode b_G_keep 33 = .ok (.iload_n 2, 1) := by decide +kernel
theorem d_G_keep_34 : decode b_G_keep 34 = .ok (.iload_n 3, 1) := by decide +kernel
theorem d_G_keep_35 : decode b_G_keep 35 = .ok (.iload 4, 2) := by decide +kernel
theorem d_G_keep_37 : decode b_G_keep 37 = .ok (.invokespecial 29, 3) := by decide +kernel
theorem d_G_keep_40 : decode b_G_keep 40 = .ok (.invokevirtual 32, 3) := by decide +kernel
theorem d_G_keep_43 : decode b_G_keep 43 = .ok (.pop, 1) := by decide +kernel
theorem d_G_keep_44 : decode b_G_keep 44 = .ok (.return_, 1) := by decide +kernel
theorem d_R_init_0 : decode b_R_init 0 = .ok (.aload_n 0, 1) := by decide +kernel
theorem d_R_init_1 : decode b_R_init 1 = .ok (.invokespecial 1, 3) := by decide +kernel
theorem d_R_init_4 : decode b_R_init 4 = .ok (.aload_n 0, 1) := by decide +kernel
theorem d_R_init_5 : decode b_R_init 5 = .ok (.iload_n 1, 1) := by decide +kernel
theorem d_R_init_6 : decode b_R_init 6 = .ok (.putfield 7, 3) := by decide +kernel
theorem d_R_init_9 : decode b_R_init 9 = .ok (.aload_n 0, 1) := by decide +kernel
theorem d_R_init_10 : decode b_R_init 10 = .ok (.iload_n 2, 1) := by decide +kernel
theorem d_R_init_11 : decode b_R_init 11 = .ok (.putfield 13, 3) := by decide +kernel
theorem d_R_init_14 : decode b_R_init 14 = .ok (.aload_n 0, 1) := by decide +kernel
theorem d_R_init_15 : decode b_R_init 15 = .ok (.iload_n 3, 1) := by decide +kernel
theorem d_R_init_16 : decode b_R_init 16 = .ok (.putfield 16, 3) := by decide +kernel
theorem d_R_init_19 : decode b_R_init 19 = .ok (.aload_n 0, 1) := by decide +kernel
theorem d_R_init_20 : decode b_R_init 20 = .ok (.iload 4, 2) := by decide +kernel
theorem d_R_init_22 : decode b_R_init 22 = .ok (.putfield 19, 3) := by decide +kernel
theorem d_R_init_25 : decode b_R_init 25 = .ok (.return_, 1) := by decide +kernel
theorem d_S_leave_0 : decode b_S_leave 0 = .ok (.aload_n 1, 1) := by decide +kernel
theorem d_S_leave_1 : decode b_S_leave 1 = .ok (.iconst (-1), 1) := by decide +kernel
theorem d_S_leave_2 : decode b_S_leave 2 = .ok (.putfield 28, 3) := by decide +kernel
theorem d_S_leave_5 : decode b_S_leave 5 = .ok (.iconst 0, 1) := by decide +kernel
theorem d_S_leave_6 : decode b_S_leave 6 = .ok (.istore_n 2, 1) := by decide +kernel
theorem d_S_leave_7 : decode b_S_leave 7 = .ok (.iload_n 2, 1) := by decide +kernel
theorem d_S_leave_8 : decode b_S_leave 8 = .ok (.aload_n 0, 1) := by decide +kernel
theorem d_S_leave_9 : decode b_S_leave 9 = .ok (.getfield 12, 3) := by decide +kernel
theorem d_S_leave_12 : decode b_S_leave 12 = .ok (.invokevirtual 32, 3) := by decide +kernel
theorem d_S_leave_15 : decode b_S_leave 15 = .ok (.if_icmp .ge 31, 3) := by decide +kernel
theorem d_S_leave_18 : decode b_S_leave 18 = .ok (.aload_n 0, 1) := by decide +kernel
theorem d_S_leave_19 : decode b_S_leave 19 = .ok (.getfield 12, 3) := by decide +kernel
theorem d_S_leave_22 : decode b_S_leave 22 = .ok (.iload_n 2, 1) := by decide +kernel
theorem d_S_leave_23 : decode b_S_leave 23 = .ok (.invokevirtual 22, 3) := by decide +kernel
theorem d_S_leave_26 : decode b_S_leave 26 = .ok (.aload_n 1, 1) := by decide +kernel
theorem d_S_leave_27 : decode b_S_leave 27 = .ok (.if_acmp .ne 13, 3) := by decide +kernel
theorem d_S_leave_30 : decode b_S_leave 30 = .ok (.aload_n 0, 1) := by decide +kernel
theorem d_S_leave_31 : decode b_S_leave 31 = .ok (.getfield 12, 3) := by decide +kernel
theorem d_S_leave_34 : decode b_S_leave 34 = .ok (.iload_n 2, 1) := by decide +kernel
theorem d_S_leave_35 : decode b_S_leave 35 = .ok (.invokevirtual 44, 3) := by decide +kernel
theorem d_S_leave_38 : decode b_S_leave 38 = .ok (.pop, 1) := by decide +kernel
theorem d_S_leave_39 : decode b_S_leave 39 = .ok (.return_, 1) := by decide +kernel
theorem d_S_leave_40 : decode b_S_leave 40 = .ok (.iinc 2 1, 3) := by decide +kernel
theorem d_S_leave_43 : decode b_S_leave 43 = .ok (.goto (-36), 3) := by decide +kernel
theorem d_S_leave_46 : decode b_S_leave 46 = .ok (.return_, 1) := by decide +kernel
theorem d_O_lessen_0 : decode b_O_lessen 0 = .ok (.aload_n 0, 1) := by decide +kernel
theorem d_O_lessen_1 : decode b_O_lessen 1 = .ok (.iload_n 1, 1) := by decide +kernel
theorem d_O_lessen_2 : decode b_O_lessen 2 = .ok (.putfield 34, 3) := by decide +kernel
theorem d_O_lessen_5 : decode b_O_lessen 5 = .ok (.aload_n 0, 1) := by decide +kernel
theorem d_O_lessen_6 : decode b_O_lessen 6 = .ok (.aload_n 0, 1) := by decide +kernel
theorem d_O_lessen_7 : decode b_O_lessen 7 = .ok (.getfield 37, 3) := by decide +kernel
theorem d_O_lessen_10 : decode b_O_lessen 10 = .ok (.iload_n 1, 1) := by decide +kernel
theorem d_O_lessen_11 : decode b_O_lessen 11 = .ok (.invokestatic 40, 3) := by decide +kernel
theorem d_O_lessen_14 : decode b_O_lessen 14 = .ok (.putfield 37, 3) := by decide +kernel
theorem d_O_lessen_17 : decode b_O_lessen 17 = .ok (.return_, 1) := by decide +kernel
theorem d_A_workOut_0 : decode b_A_workOut 0 = .ok (.aload_n 0, 1) := by decide +kernel
theorem d_A_workOut_1 : decode b_A_workOut 1 = .ok (.iconst (-1), 1) := by decide +kernel
theorem d_A_workOut_2 : decode b_A_workOut 2 = .ok (.putfield 9, 3) := by decide +kernel
theorem d_A_workOut_5 : decode b_A_workOut 5 = .ok (.aload_n 0, 1) := by decide +kernel
theorem d_A_workOut_6 : decode b_A_workOut 6 = .ok (.lconst 0, 1) := by decide +kernel
theorem d_A_workOut_7 : decode b_A_workOut 7 = .ok (.putfield 15, 3) := by decide +kernel
theorem d_A_workOut_10 : decode b_A_workOut 10 = .ok (.aload_n 0, 1) := by decide +kernel
theorem d_A_workOut_11 : decode b_A_workOut 11 = .ok (.lconst 0, 1) := by decide +kernel
theorem d_A_workOut_12 : decode b_A_workOut 12 = .ok (.putfield 19, 3) := by decide +kernel
theorem d_A_workOut_15 : decode b_A_workOut 15 = .ok (.aload_n 1, 1) := by decide +kernel
theorem d_A_workOut_16 : decode b_A_workOut 16 = .ok (.invokevirtual 22, 3) := by decide +kernel
theorem d_A_workOut_19 : decode b_A_workOut 19 = .ok (.istore 4, 2) := by decide +kernel
theorem d_A_workOut_21 : decode b_A_workOut 21 = .ok (.iconst 0, 1) := by decide +kernel
theorem d_A_workOut_22 : decode b_A_workOut 22 = .ok (.istore 5, 2) := by decide +kernel
theorem d_A_workOut_24 : decode b_A_workOut 24 = .ok (.aload_n 1, 1) := by decide +kernel
theorem d_A_workOut_25 : decode b_A_workOut 25 = .ok (.invokestatic 28, 3) := by decide +kernel
theorem d_A_workOut_28 : decode b_A_workOut 28 = .ok (.lstore 6, 2) := by decide +kernel
theorem d_A_workOut_30 : decode b_A_workOut 30 = .ok (.lconst 0, 1) := by decide +kernel
theorem d_A_workOut_31 : decode b_A_workOut 31 = .ok (.lstore 8, 2) := by decide +kernel
theorem d_A_workOut_33 : decode b_A_workOut 33 = .ok (.iconst 1, 1) := by decide +kernel
theorem d_A_workOut_34 : decode b_A_workOut 34 = .ok (.istore 10, 2) := by decide +kernel
theorem d_A_workOut_36 : decode b_A_workOut 36 = .ok (.iload 10, 2) := by decide +kernel
theorem d_A_workOut_38 : decode b_A_workOut 38 = .ok (.sipush 2000, 3) := by decide +kernel
theorem d_A_workOut_41 : decode b_A_workOut 41 = .ok (.if_icmp .gt 118, 3) := by decide +kernel
theorem d_A_workOut_44 : decode b_A_workOut 44 = .ok (.iload 4, 2) := by decide +kernel
theorem d_A_workOut_46 : decode b_A_workOut 46 = .ok (.ifCond .le 46, 3) := by decide +kernel
theorem d_A_workOut_49 : decode b_A_workOut 49 = .ok (.aload_n 1, 1) := by decide +kernel
theorem d_A_workOut_50 : decode b_A_workOut 50 = .ok (.iload 4, 2) := by decide +kernel
theorem d_A_workOut_52 : decode b_A_workOut 52 = .ok (.iconst 1, 1) := by decide +kernel
theorem d_A_workOut_53 : decode b_A_workOut 53 = .ok (.isub, 1) := by decide +kernel
theorem d_A_workOut_54 : decode b_A_workOut 54 = .ok (.invokevirtual 32, 3) := by decide +kernel
theorem d_A_workOut_57 : decode b_A_workOut 57 = .ok (.checkcast 36, 3) := by decide +kernel
theorem d_A_workOut_60 : decode b_A_workOut 60 = .ok (.iload 10, 2) := by decide +kernel
theorem d_A_workOut_62 : decode b_A_workOut 62 = .ok (.invokevirtual 38, 3) := by decide +kernel
theorem d_A_workOut_65 : decode b_A_workOut 65 = .ok (.ifCond .ne 27, 3) := by decide +kernel
theorem d_A_workOut_68 : decode b_A_workOut 68 = .ok (.iinc 4 (-1), 3) := by decide +kernel
theorem d_A_workOut_71 : decode b_A_workOut 71 = .ok (.lload 6, 2) := by decide +kernel
theorem d_A_workOut_73 : decode b_A_workOut 73 = .ok (.aload_n 1, 1) := by decide +kernel
theorem d_A_workOut_74 : decode b_A_workOut 74 = .ok (.iload 4, 2) := by decide +kernel
theorem d_A_workOut_76 : decode b_A_workOut 76 = .ok (.invokevirtual 32, 3) := by decide +kernel
theorem d_A_workOut_79 : decode b_A_workOut 79 = .ok (.checkcast 36, 3) := by decide +kernel
theorem d_A_workOut_82 : decode b_A_workOut 82 = .ok (.getfield 42, 3) := by decide +kernel
theorem d_A_workOut_85 : decode b_A_workOut 85 = .ok (.i2l, 1) := by decide +kernel
theorem d_A_workOut_86 : decode b_A_workOut 86 = .ok (.lsub, 1) := by decide +kernel
theorem d_A_workOut_87 : decode b_A_workOut 87 = .ok (.lstore 6, 2) := by decide +kernel
theorem d_A_workOut_89 : decode b_A_workOut 89 = .ok (.goto (-45), 3) := by decide +kernel
theorem d_A_workOut_92 : decode b_A_workOut 92 = .ok (.iload 5, 2) := by decide +kernel
theorem d_A_workOut_94 : decode b_A_workOut 94 = .ok (.aload_n 2, 1) := by decide +kernel
theorem d_A_workOut_95 : decode b_A_workOut 95 = .ok (.invokevirtual 22, 3) := by decide +kernel
theorem d_A_workOut_98 : decode b_A_workOut 98 = .ok (.if_icmp .ge 44, 3) := by decide +kernel
theorem d_A_workOut_101 : decode b_A_workOut 101 = .ok (.aload_n 2, 1) := by decide +kernel
theorem d_A_workOut_102 : decode b_A_workOut 102 = .ok (.iload 5, 2) := by decide +kernel
theorem d_A_workOut_104 : decode b_A_workOut 104 = .ok (.invokevirtual 32, 3) := by decide +kernel
theorem d_A_workOut_107 : decode b_A_workOut 107 = .ok (.checkcast 36, 3) := by decide +kernel
theorem d_A_workOut_110 : decode b_A_workOut 110 = .ok (.iload 10, 2) := by decide +kernel
theorem d_A_workOut_112 : decode b_A_workOut 112 = .ok (.invokevirtual 38, 3) := by decide +kernel
theorem d_A_workOut_115 : decode b_A_workOut 115 = .ok (.ifCond .eq 27, 3) := by decide +kernel
theorem d_A_workOut_118 : decode b_A_workOut 118 = .ok (.lload 8, 2) := by decide +kernel
theorem d_A_workOut_120 : decode b_A_workOut 120 = .ok (.aload_n 2, 1) := by decide +kernel
theorem d_A_workOut_121 : decode b_A_workOut 121 = .ok (.iload 5, 2) := by decide +kernel
theorem d_A_workOut_123 : decode b_A_workOut 123 = .ok (.invokevirtual 32, 3) := by decide +kernel
theorem d_A_workOut_126 : decode b_A_workOut 126 = .ok (.checkcast 36, 3) := by decide +kernel
theorem d_A_workOut_129 : decode b_A_workOut 129 = .ok (.getfield 42, 3) := by decide +kernel
theorem d_A_workOut_132 : decode b_A_workOut 132 = .ok (.i2l, 1) := by decide +kernel
theorem d_A_workOut_133 : decode b_A_workOut 133 = .ok (.ladd, 1) := by decide +kernel
theorem d_A_workOut_134 : decode b_A_workOut 134 = .ok (.lstore 8, 2) := by decide +kernel
theorem d_A_workOut_136 : decode b_A_workOut 136 = .ok (.iinc 5 1, 3) := by decide +kernel
theorem d_A_workOut_139 : decode b_A_workOut 139 = .ok (.goto (-47), 3) := by decide +kernel
theorem d_A_workOut_142 : decode b_A_workOut 142 = .ok (.aload_n 0, 1) := by decide +kernel
theorem d_A_workOut_143 : decode b_A_workOut 143 = .ok (.iload 10, 2) := by decide +kernel
theorem d_A_workOut_145 : decode b_A_workOut 145 = .ok (.lload 6, 2) := by decide +kernel
theorem d_A_workOut_147 : decode b_A_workOut 147 = .ok (.lload 8, 2) := by decide +kernel
theorem d_A_workOut_149 : decode b_A_workOut 149 = .ok (.iload_n 3, 1) := by decide +kernel
theorem d_A_workOut_150 : decode b_A_workOut 150 = .ok (.invokevirtual 45, 3) := by decide +kernel
theorem d_A_workOut_153 : decode b_A_workOut 153 = .ok (.iinc 10 1, 3) := by decide +kernel
theorem d_A_workOut_156 : decode b_A_workOut 156 = .ok (.goto (-120), 3) := by decide +kernel
theorem d_A_workOut_159 : decode b_A_workOut 159 = .ok (.return_, 1) := by decide +kernel
theorem d_A_leftOf_0 : decode b_A_leftOf 0 = .ok (.lconst 0, 1) := by decide +kernel
theorem d_A_leftOf_1 : decode b_A_leftOf 1 = .ok (.lstore_n 1, 1) := by decide +kernel
theorem d_A_leftOf_2 : decode b_A_leftOf 2 = .ok (.iconst 0, 1) := by decide +kernel
theorem d_A_leftOf_3 : decode b_A_leftOf 3 = .ok (.istore_n 3, 1) := by decide +kernel
theorem d_A_leftOf_4 : decode b_A_leftOf 4 = .ok (.iload_n 3, 1) := by decide +kernel
theorem d_A_leftOf_5 : decode b_A_leftOf 5 = .ok (.aload_n 0, 1) := by decide +kernel
theorem d_A_leftOf_6 : decode b_A_leftOf 6 = .ok (.invokevirtual 22, 3) := by decide +kernel
theorem d_A_leftOf_9 : decode b_A_leftOf 9 = .ok (.if_icmp .ge 24, 3) := by decide +kernel
theorem d_A_leftOf_12 : decode b_A_leftOf 12 = .ok (.lload_n 1, 1) := by decide +kernel
theorem d_A_leftOf_13 : decode b_A_leftOf 13 = .ok (.aload_n 0, 1) := by decide +kernel
theorem d_A_leftOf_14 : decode b_A_leftOf 14 = .ok (.iload_n 3, 1) := by decide +kernel
theorem d_A_leftOf_15 : decode b_A_leftOf 15 = .ok (.invokevirtual 32, 3) := by decide +kernel
theorem d_A_leftOf_18 : decode b_A_leftOf 18 = .ok (.checkcast 36, 3) := by decide +kernel
theorem d_A_leftOf_21 : decode b_A_leftOf 21 = .ok (.getfield 42, 3) := by decide +kernel
theorem d_A_leftOf_24 : decode b_A_leftOf 24 = .ok (.i2l, 1) := by decide +kernel
theorem d_A_leftOf_25 : decode b_A_leftOf 25 = .ok (.ladd, 1) := by decide +kernel
theorem d_A_leftOf_26 : decode b_A_leftOf 26 = .ok (.lstore_n 1, 1) := by decide +kernel
theorem d_A_leftOf_27 : decode b_A_leftOf 27 = .ok (.iinc 3 1, 3) := by decide +kernel
theorem d_A_leftOf_30 : decode b_A_leftOf 30 = .ok (.goto (-26), 3) := by decide +kernel
theorem d_A_leftOf_33 : decode b_A_leftOf 33 = .ok (.lload_n 1, 1) := by decide +kernel
theorem d_A_leftOf_34 : decode b_A_leftOf 34 = .ok (.lreturn, 1) := by decide +kernel
theorem d_A_weigh_0 : decode b_A_weigh 0 = .ok (.lload_n 2, 1) := by decide +kernel
theorem d_A_weigh_1 : decode b_A_weigh 1 = .ok (.lload 4, 2) := by decide +kernel
theorem d_A_weigh_3 : decode b_A_weigh 3 = .ok (.invokestatic 49, 3) := by decide +kernel
theorem d_A_weigh_6 : decode b_A_weigh 6 = .ok (.lstore 7, 2) := by decide +kernel
theorem d_A_weigh_8 : decode b_A_weigh 8 = .ok (.lload_n 2, 1) := by decide +kernel
theorem d_A_weigh_9 : decode b_A_weigh 9 = .ok (.lload 4, 2) := by decide +kernel
theorem d_A_weigh_11 : decode b_A_weigh 11 = .ok (.lsub, 1) := by decide +kernel
theorem d_A_weigh_12 : decode b_A_weigh 12 = .ok (.lstore 9, 2) := by decide +kernel
theorem d_A_weigh_14 : decode b_A_weigh 14 = .ok (.lload 7, 2) := by decide +kernel
theorem d_A_weigh_16 : decode b_A_weigh 16 = .ok (.lconst 0, 1) := by decide +kernel
theorem d_A_weigh_17 : decode b_A_weigh 17 = .ok (.lcmp, 1) := by decide +kernel
theorem d_A_weigh_18 : decode b_A_weigh 18 = .ok (.ifCond .le 34, 3) := by decide +kernel
theorem d_A_weigh_21 : decode b_A_weigh 21 = .ok (.aload_n 0, 1) := by decide +kernel
theorem d_A_weigh_22 : decode b_A_weigh 22 = .ok (.iload_n 1, 1) := by decide +kernel
theorem d_A_weigh_23 : decode b_A_weigh 23 = .ok (.lload 7, 2) := by decide +kernel
theorem d_A_weigh_25 : decode b_A_weigh 25 = .ok (.lload 9, 2) := by decide +kernel
theorem d_A_weigh_27 : decode b_A_weigh 27 = .ok (.iload 6, 2) := by decide +kernel
theorem d_A_weigh_29 : decode b_A_weigh 29 = .ok (.invokevirtual 55, 3) := by decide +kernel
theorem d_A_weigh_32 : decode b_A_weigh 32 = .ok (.ifCond .eq 20, 3) := by decide +kernel
theorem d_A_weigh_35 : decode b_A_weigh 35 = .ok (.aload_n 0, 1) := by decide +kernel
theorem d_A_weigh_36 : decode b_A_weigh 36 = .ok (.iload_n 1, 1) := by decide +kernel
theorem d_A_weigh_37 : decode b_A_weigh 37 = .ok (.putfield 9, 3) := by decide +kernel
theorem d_A_weigh_40 : decode b_A_weigh 40 = .ok (.aload_n 0, 1) := by decide +kernel
theorem d_A_weigh_41 : decode b_A_weigh 41 = .ok (.lload 7, 2) := by decide +kernel
theorem d_A_weigh_43 : decode b_A_weigh 43 = .ok (.putfield 15, 3) := by decide +kernel
theorem d_A_weigh_46 : decode b_A_weigh 46 = .ok (.aload_n 0, 1) := by decide +kernel
theorem d_A_weigh_47 : decode b_A_weigh 47 = .ok (.lload 9, 2) := by decide +kernel
theorem d_A_weigh_49 : decode b_A_weigh 49 = .ok (.putfield 19, 3) := by decide +kernel
theorem d_A_weigh_52 : decode b_A_weigh 52 = .ok (.return_, 1) := by decide +kernel
theorem d_A_isBetter_0 : decode b_A_isBetter 0 = .ok (.lload_n 2, 1) := by decide +kernel
theorem d_A_isBetter_1 : decode b_A_isBetter 1 = .ok (.aload_n 0, 1) := by decide +kernel
theorem d_A_isBetter_2 : decode b_A_isBetter 2 = .ok (.getfield 15, 3) := by decide +kernel
theorem d_A_isBetter_5 : decode b_A_isBetter 5 = .ok (.lcmp, 1) := by decide +kernel
theorem d_A_isBetter_6 : decode b_A_isBetter 6 = .ok (.ifCond .eq 18, 3) := by decide +kernel
theorem d_A_isBetter_9 : decode b_A_isBetter 9 = .ok (.lload_n 2, 1) := by decide +kernel
theorem d_A_isBetter_10 : decode b_A_isBetter 10 = .ok (.aload_n 0, 1) := by decide +kernel
theorem d_A_isBetter_11 : decode b_A_isBetter 11 = .ok (.getfield 15, 3) := by decide +kernel
theorem d_A_isBetter_14 : decode b_A_isBetter 14 = .ok (.lcmp, 1) := by decide +kernel
theorem d_A_isBetter_15 : decode b_A_isBetter 15 = .ok (.ifCond .le 7, 3) := by decide +kernel
theorem d_A_isBetter_18 : decode b_A_isBetter 18 = .ok (.iconst 1, 1) := by decide +kernel
theorem d_A_isBetter_19 : decode b_A_isBetter 19 = .ok (.goto 4, 3) := by decide +kernel
theorem d_A_isBetter_22 : decode b_A_isBetter 22 = .ok (.iconst 0, 1) := by decide +kernel
theorem d_A_isBetter_23 : decode b_A_isBetter 23 = .ok (.ireturn, 1) := by decide +kernel
theorem d_A_isBetter_24 : decode b_A_isBetter 24 = .ok (.lload 4, 2) := by decide +kernel
theorem d_A_isBetter_26 : decode b_A_isBetter 26 = .ok (.invokestatic 59, 3) := by decide +kernel
theorem d_A_isBetter_29 : decode b_A_isBetter 29 = .ok (.aload_n 0, 1) := by decide +kernel
theorem d_A_isBetter_30 : decode b_A_isBetter 30 = .ok (.getfield 19, 3) := by decide +kernel
theorem d_A_isBetter_33 : decode b_A_isBetter 33 = .ok (.invokestatic 59, 3) := by decide +kernel
theorem d_A_isBetter_36 : decode b_A_isBetter 36 = .ok (.lcmp, 1) := by decide +kernel
theorem d_A_isBetter_37 : decode b_A_isBetter 37 = .ok (.ifCond .eq 25, 3) := by decide +kernel
theorem d_A_isBetter_40 : decode b_A_isBetter 40 = .ok (.lload 4, 2) := by decide +kernel
theorem d_A_isBetter_42 : decode b_A_isBetter 42 = .ok (.invokestatic 59, 3) := by decide +kernel
theorem d_A_isBetter_45 : decode b_A_isBetter 45 = .ok (.aload_n 0, 1) := by decide +kernel
theorem d_A_isBetter_46 : decode b_A_isBetter 46 = .ok (.getfield 19, 3) := by decide +kernel
theorem d_A_isBetter_49 : decode b_A_isBetter 49 = .ok (.invokestatic 59, 3) := by decide +kernel
theorem d_A_isBetter_52 : decode b_A_isBetter 52 = .ok (.lcmp, 1) := by decide +kernel
theorem d_A_isBetter_53 : decode b_A_isBetter 53 = .ok (.ifCond .ge 7, 3) := by decide +kernel
theorem d_A_isBetter_56 : decode b_A_isBetter 56 = .ok (.iconst 1, 1) := by decide +kernel
theorem d_A_isBetter_57 : decode b_A_isBetter 57 = .ok (.goto 4, 3) := by decide +kernel
theorem d_A_isBetter_60 : decode b_A_isBetter 60 = .ok (.iconst 0, 1) := by decide +kernel
theorem d_A_isBetter_61 : decode b_A_isBetter 61 = .ok (.ireturn, 1) := by decide +kernel
theorem d_A_isBetter_62 : decode b_A_isBetter 62 = .ok (.iload_n 1, 1) := by decide +kernel
theorem d_A_isBetter_63 : decode b_A_isBetter 63 = .ok (.iload 6, 2) := by decide +kernel
theorem d_A_isBetter_65 : decode b_A_isBetter 65 = .ok (.isub, 1) := by decide +kernel
theorem d_A_isBetter_66 : decode b_A_isBetter 66 = .ok (.invokestatic 63, 3) := by decide +kernel
theorem d_A_isBetter_69 : decode b_A_isBetter 69 = .ok (.aload_n 0, 1) := by decide +kernel
theorem d_A_isBetter_70 : decode b_A_isBetter 70 = .ok (.getfield 9, 3) := by decide +kernel
theorem d_A_isBetter_73 : decode b_A_isBetter 73 = .ok (.iload 6, 2) := by decide +kernel
theorem d_A_isBetter_75 : decode b_A_isBetter 75 = .ok (.isub, 1) := by decide +kernel
theorem d_A_isBetter_76 : decode b_A_isBetter 76 = .ok (.invokestatic 63, 3) := by decide +kernel
theorem d_A_isBetter_79 : decode b_A_isBetter 79 = .ok (.if_icmp .ge 7, 3) := by decide +kernel
theorem d_A_isBetter_82 : decode b_A_isBetter 82 = .ok (.iconst 1, 1) := by decide +kernel
theorem d_A_isBetter_83 : decode b_A_isBetter 83 = .ok (.goto 4, 3) := by decide +kernel
theorem d_A_isBetter_86 : decode b_A_isBetter 86 = .ok (.iconst 0, 1) := by decide +kernel
theorem d_A_isBetter_87 : decode b_A_isBetter 87 = .ok (.ireturn, 1) := by decide +kernel
