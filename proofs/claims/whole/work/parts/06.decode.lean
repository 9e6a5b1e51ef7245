theorem dX0_init_0 : decode cX0_init 0 = .ok (.aload_n 0, 1) := by decide +kernel
theorem dX0_init_1 : decode cX0_init 1 = .ok (.invokespecial 3, 3) := by decide +kernel
theorem dX0_init_4 : decode cX0_init 4 = .ok (.aload_n 0, 1) := by decide +kernel
theorem dX0_init_5 : decode cX0_init 5 = .ok (.bipush 6, 2) := by decide +kernel
theorem dX0_init_7 : decode cX0_init 7 = .ok (.newarray .int, 2) := by decide +kernel
theorem dX0_init_9 : decode cX0_init 9 = .ok (.putfield 9, 3) := by decide +kernel
theorem dX0_init_12 : decode cX0_init 12 = .ok (.aload_n 0, 1) := by decide +kernel
theorem dX0_init_13 : decode cX0_init 13 = .ok (.bipush 6, 2) := by decide +kernel
theorem dX0_init_15 : decode cX0_init 15 = .ok (.newarray .int, 2) := by decide +kernel
theorem dX0_init_17 : decode cX0_init 17 = .ok (.putfield 15, 3) := by decide +kernel
theorem dX0_init_20 : decode cX0_init 20 = .ok (.aload_n 0, 1) := by decide +kernel
theorem dX0_init_21 : decode cX0_init 21 = .ok (.bipush 6, 2) := by decide +kernel
theorem dX0_init_23 : decode cX0_init 23 = .ok (.newarray .int, 2) := by decide +kernel
theorem dX0_init_25 : decode cX0_init 25 = .ok (.putfield 18, 3) := by decide +kernel
theorem dX0_init_28 : decode cX0_init 28 = .ok (.aload_n 0, 1) := by decide +kernel
theorem dX0_init_29 : decode cX0_init 29 = .ok (.aload_n 1, 1) := by decide +kernel
theorem dX0_init_30 : decode cX0_init 30 = .ok (.putfield 21, 3) := by decide +kernel
theorem dX0_init_33 : decode cX0_init 33 = .ok (.aload_n 0, 1) := by decide +kernel
theorem dX0_init_34 : decode cX0_init 34 = .ok (.aload_n 2, 1) := by decide +kernel
theorem dX0_init_35 : decode cX0_init 35 = .ok (.putfield 25, 3) := by decide +kernel
theorem dX0_init_38 : decode cX0_init 38 = .ok (.aload_n 0, 1) := by decide +kernel
theorem dX0_init_39 : decode cX0_init 39 = .ok (.aload_n 3, 1) := by decide +kernel
theorem dX0_init_40 : decode cX0_init 40 = .ok (.putfield 29, 3) := by decide +kernel
theorem dX0_init_43 : decode cX0_init 43 = .ok (.return_, 1) := by decide +kernel
theorem dX0_findAll_0 : decode cX0_findAll 0 = .ok (.aload_n 0, 1) := by decide +kernel
theorem dX0_findAll_1 : decode cX0_findAll 1 = .ok (.getfield 29, 3) := by decide +kernel
theorem dX0_findAll_4 : decode cX0_findAll 4 = .ok (.invokevirtual 33, 3) := by decide +kernel
theorem dX0_findAll_7 : decode cX0_findAll 7 = .ok (.aload_n 0, 1) := by decide +kernel
theorem dX0_findAll_8 : decode cX0_findAll 8 = .ok (.invokevirtual 38, 3) := by decide +kernel
theorem dX0_findAll_11 : decode cX0_findAll 11 = .ok (.aload_n 0, 1) := by decide +kernel
theorem dX0_findAll_12 : decode cX0_findAll 12 = .ok (.invokevirtual 41, 3) := by decide +kernel
theorem dX0_findAll_15 : decode cX0_findAll 15 = .ok (.aload_n 0, 1) := by decide +kernel
theorem dX0_findAll_16 : decode cX0_findAll 16 = .ok (.iconst 0, 1) := by decide +kernel
theorem dX0_findAll_17 : decode cX0_findAll 17 = .ok (.invokevirtual 44, 3) := by decide +kernel
theorem dX0_findAll_20 : decode cX0_findAll 20 = .ok (.return_, 1) := by decide +kernel
theorem dX0_letAllAsk_0 : decode cX0_letAllAsk 0 = .ok (.aload_n 0, 1) := by decide +kernel
theorem dX0_letAllAsk_1 : decode cX0_letAllAsk 1 = .ok (.getfield 9, 3) := by decide +kernel
theorem dX0_letAllAsk_4 : decode cX0_letAllAsk 4 = .ok (.iconst 0, 1) := by decide +kernel
theorem dX0_letAllAsk_5 : decode cX0_letAllAsk 5 = .ok (.invokestatic 48, 3) := by decide +kernel
theorem dX0_letAllAsk_8 : decode cX0_letAllAsk 8 = .ok (.aload_n 0, 1) := by decide +kernel
theorem dX0_letAllAsk_9 : decode cX0_letAllAsk 9 = .ok (.invokevirtual 54, 3) := by decide +kernel
theorem dX0_letAllAsk_12 : decode cX0_letAllAsk 12 = .ok (.istore_n 1, 1) := by decide +kernel
theorem dX0_letAllAsk_13 : decode cX0_letAllAsk 13 = .ok (.iconst 0, 1) := by decide +kernel
theorem dX0_letAllAsk_14 : decode cX0_letAllAsk 14 = .ok (.istore_n 2, 1) := by decide +kernel
theorem dX0_letAllAsk_15 : decode cX0_letAllAsk 15 = .ok (.iload_n 2, 1) := by decide +kernel
theorem dX0_letAllAsk_16 : decode cX0_letAllAsk 16 = .ok (.bipush 36, 2) := by decide +kernel
theorem dX0_letAllAsk_18 : decode cX0_letAllAsk 18 = .ok (.if_icmp .ge 24, 3) := by decide +kernel
theorem dX0_letAllAsk_21 : decode cX0_letAllAsk 21 = .ok (.iload_n 1, 1) := by decide +kernel
theorem dX0_letAllAsk_22 : decode cX0_letAllAsk 22 = .ok (.iconst (-1), 1) := by decide +kernel
theorem dX0_letAllAsk_23 : decode cX0_letAllAsk 23 = .ok (.if_icmp .eq 19, 3) := by decide +kernel
theorem dX0_letAllAsk_26 : decode cX0_letAllAsk 26 = .ok (.aload_n 0, 1) := by decide +kernel
theorem dX0_letAllAsk_27 : decode cX0_letAllAsk 27 = .ok (.iload_n 1, 1) := by decide +kernel
theorem dX0_letAllAsk_28 : decode cX0_letAllAsk 28 = .ok (.invokevirtual 58, 3) := by decide +kernel
theorem dX0_letAllAsk_31 : decode cX0_letAllAsk 31 = .ok (.aload_n 0, 1) := by decide +kernel
theorem dX0_letAllAsk_32 : decode cX0_letAllAsk 32 = .ok (.invokevirtual 54, 3) := by decide +kernel
theorem dX0_letAllAsk_35 : decode cX0_letAllAsk 35 = .ok (.istore_n 1, 1) := by decide +kernel
theorem dX0_letAllAsk_36 : decode cX0_letAllAsk 36 = .ok (.iinc 2 1, 3) := by decide +kernel
theorem dX0_letAllAsk_39 : decode cX0_letAllAsk 39 = .ok (.goto (-24), 3) := by decide +kernel
theorem dX0_letAllAsk_42 : decode cX0_letAllAsk 42 = .ok (.return_, 1) := by decide +kernel
theorem dX0_nextAsker_0 : decode cX0_nextAsker 0 = .ok (.iconst 0, 1) := by decide +kernel
theorem dX0_nextAsker_1 : decode cX0_nextAsker 1 = .ok (.istore_n 1, 1) := by decide +kernel
theorem dX0_nextAsker_2 : decode cX0_nextAsker 2 = .ok (.iload_n 1, 1) := by decide +kernel
theorem dX0_nextAsker_3 : decode cX0_nextAsker 3 = .ok (.aload_n 0, 1) := by decide +kernel
theorem dX0_nextAsker_4 : decode cX0_nextAsker 4 = .ok (.getfield 21, 3) := by decide +kernel
theorem dX0_nextAsker_7 : decode cX0_nextAsker 7 = .ok (.getfield 61, 3) := by decide +kernel
theorem dX0_nextAsker_10 : decode cX0_nextAsker 10 = .ok (.if_icmp .ge 45, 3) := by decide +kernel
theorem dX0_nextAsker_13 : decode cX0_nextAsker 13 = .ok (.aload_n 0, 1) := by decide +kernel
theorem dX0_nextAsker_14 : decode cX0_nextAsker 14 = .ok (.getfield 29, 3) := by decide +kernel
theorem dX0_nextAsker_17 : decode cX0_nextAsker 17 = .ok (.getfield 67, 3) := by decide +kernel
theorem dX0_nextAsker_20 : decode cX0_nextAsker 20 = .ok (.iload_n 1, 1) := by decide +kernel
theorem dX0_nextAsker_21 : decode cX0_nextAsker 21 = .ok (.iaload, 1) := by decide +kernel
theorem dX0_nextAsker_22 : decode cX0_nextAsker 22 = .ok (.iconst (-1), 1) := by decide +kernel
theorem dX0_nextAsker_23 : decode cX0_nextAsker 23 = .ok (.if_icmp .ne 26, 3) := by decide +kernel
theorem dX0_nextAsker_26 : decode cX0_nextAsker 26 = .ok (.aload_n 0, 1) := by decide +kernel
theorem dX0_nextAsker_27 : decode cX0_nextAsker 27 = .ok (.getfield 9, 3) := by decide +kernel
theorem dX0_nextAsker_30 : decode cX0_nextAsker 30 = .ok (.iload_n 1, 1) := by decide +kernel
theorem dX0_nextAsker_31 : decode cX0_nextAsker 31 = .ok (.iaload, 1) := by decide +kernel
theorem dX0_nextAsker_32 : decode cX0_nextAsker 32 = .ok (.aload_n 0, 1) := by decide +kernel
theorem dX0_nextAsker_33 : decode cX0_nextAsker 33 = .ok (.getfield 21, 3) := by decide +kernel
theorem dX0_nextAsker_36 : decode cX0_nextAsker 36 = .ok (.getfield 70, 3) := by decide +kernel
theorem dX0_nextAsker_39 : decode cX0_nextAsker 39 = .ok (.getfield 74, 3) := by decide +kernel
theorem dX0_nextAsker_42 : decode cX0_nextAsker 42 = .ok (.iload_n 1, 1) := by decide +kernel
theorem dX0_nextAsker_43 : decode cX0_nextAsker 43 = .ok (.iaload, 1) := by decide +kernel
theorem dX0_nextAsker_44 : decode cX0_nextAsker 44 = .ok (.if_icmp .ge 5, 3) := by decide +kernel
theorem dX0_nextAsker_47 : decode cX0_nextAsker 47 = .ok (.iload_n 1, 1) := by decide +kernel
theorem dX0_nextAsker_48 : decode cX0_nextAsker 48 = .ok (.ireturn, 1) := by decide +kernel
theorem dX0_nextAsker_49 : decode cX0_nextAsker 49 = .ok (.iinc 1 1, 3) := by decide +kernel
theorem dX0_nextAsker_52 : decode cX0_nextAsker 52 = .ok (.goto (-50), 3) := by decide +kernel
theorem dX0_nextAsker_55 : decode cX0_nextAsker 55 = .ok (.iconst (-1), 1) := by decide +kernel
theorem dX0_nextAsker_56 : decode cX0_nextAsker 56 = .ok (.ireturn, 1) := by decide +kernel
theorem dX0_ask_0 : decode cX0_ask 0 = .ok (.aload_n 0, 1) := by decide +kernel
theorem dX0_ask_1 : decode cX0_ask 1 = .ok (.getfield 21, 3) := by decide +kernel
theorem dX0_ask_4 : decode cX0_ask 4 = .ok (.getfield 70, 3) := by decide +kernel
theorem dX0_ask_7 : decode cX0_ask 7 = .ok (.iload_n 1, 1) := by decide +kernel
theorem dX0_ask_8 : decode cX0_ask 8 = .ok (.aload_n 0, 1) := by decide +kernel
theorem dX0_ask_9 : decode cX0_ask 9 = .ok (.getfield 9, 3) := by decide +kernel
theorem dX0_ask_12 : decode cX0_ask 12 = .ok (.iload_n 1, 1) := by decide +kernel
theorem dX0_ask_13 : decode cX0_ask 13 = .ok (.iaload, 1) := by decide +kernel
theorem dX0_ask_14 : decode cX0_ask 14 = .ok (.invokevirtual 79, 3) := by decide +kernel
theorem dX0_ask_17 : decode cX0_ask 17 = .ok (.istore_n 2, 1) := by decide +kernel
theorem dX0_ask_18 : decode cX0_ask 18 = .ok (.aload_n 0, 1) := by decide +kernel
theorem dX0_ask_19 : decode cX0_ask 19 = .ok (.getfield 9, 3) := by decide +kernel
theorem dX0_ask_22 : decode cX0_ask 22 = .ok (.iload_n 1, 1) := by decide +kernel
theorem dX0_ask_23 : decode cX0_ask 23 = .ok (.dup2, 1) := by decide +kernel
theorem dX0_ask_24 : decode cX0_ask 24 = .ok (.iaload, 1) := by decide +kernel
theorem dX0_ask_25 : decode cX0_ask 25 = .ok (.iconst 1, 1) := by decide +kernel
theorem dX0_ask_26 : decode cX0_ask 26 = .ok (.iadd, 1) := by decide +kernel
theorem dX0_ask_27 : decode cX0_ask 27 = .ok (.iastore, 1) := by decide +kernel
theorem dX0_ask_28 : decode cX0_ask 28 = .ok (.iload_n 2, 1) := by decide +kernel
theorem dX0_ask_29 : decode cX0_ask 29 = .ok (.iconst (-1), 1) := by decide +kernel
theorem dX0_ask_30 : decode cX0_ask 30 = .ok (.if_icmp .eq 15, 3) := by decide +kernel
theorem dX0_ask_33 : decode cX0_ask 33 = .ok (.aload_n 0, 1) := by decide +kernel
theorem dX0_ask_34 : decode cX0_ask 34 = .ok (.getfield 21, 3) := by decide +kernel
theorem dX0_ask_37 : decode cX0_ask 37 = .ok (.iload_n 1, 1) := by decide +kernel
theorem dX0_ask_38 : decode cX0_ask 38 = .ok (.iload_n 2, 1) := by decide +kernel
theorem dX0_ask_39 : decode cX0_ask 39 = .ok (.invokevirtual 83, 3) := by decide +kernel
theorem dX0_ask_42 : decode cX0_ask 42 = .ok (.ifCond .ne 4, 3) := by decide +kernel
theorem dX0_ask_45 : decode cX0_ask 45 = .ok (.return_, 1) := by decide +kernel
theorem dX0_ask_46 : decode cX0_ask 46 = .ok (.aload_n 0, 1) := by decide +kernel
theorem dX0_ask_47 : decode cX0_ask 47 = .ok (.getfield 29, 3) := by decide +kernel
theorem dX0_ask_50 : decode cX0_ask 50 = .ok (.getfield 67, 3) := by decide +kernel
theorem dX0_ask_53 : decode cX0_ask 53 = .ok (.iload_n 1, 1) := by decide +kernel
theorem dX0_ask_54 : decode cX0_ask 54 = .ok (.iload_n 2, 1) := by decide +kernel
theorem dX0_ask_55 : decode cX0_ask 55 = .ok (.iastore, 1) := by decide +kernel
theorem dX0_ask_56 : decode cX0_ask 56 = .ok (.aload_n 0, 1) := by decide +kernel
theorem dX0_ask_57 : decode cX0_ask 57 = .ok (.getfield 29, 3) := by decide +kernel
theorem dX0_ask_60 : decode cX0_ask 60 = .ok (.iload_n 2, 1) := by decide +kernel
theorem dX0_ask_61 : decode cX0_ask 61 = .ok (.invokevirtual 87, 3) := by decide +kernel
theorem dX0_ask_64 : decode cX0_ask 64 = .ok (.istore_n 3, 1) := by decide +kernel
theorem dX0_ask_65 : decode cX0_ask 65 = .ok (.iload_n 3, 1) := by decide +kernel
theorem dX0_ask_66 : decode cX0_ask 66 = .ok (.iconst (-1), 1) := by decide +kernel
theorem dX0_ask_67 : decode cX0_ask 67 = .ok (.if_icmp .eq 33, 3) := by decide +kernel
theorem dX0_ask_70 : decode cX0_ask 70 = .ok (.aload_n 0, 1) := by decide +kernel
theorem dX0_ask_71 : decode cX0_ask 71 = .ok (.getfield 29, 3) := by decide +kernel
theorem dX0_ask_74 : decode cX0_ask 74 = .ok (.iload_n 2, 1) := by decide +kernel
theorem dX0_ask_75 : decode cX0_ask 75 = .ok (.invokevirtual 91, 3) := by decide +kernel
theorem dX0_ask_78 : decode cX0_ask 78 = .ok (.aload_n 0, 1) := by decide +kernel
theorem dX0_ask_79 : decode cX0_ask 79 = .ok (.getfield 21, 3) := by decide +kernel
theorem dX0_ask_82 : decode cX0_ask 82 = .ok (.getfield 94, 3) := by decide +kernel
theorem dX0_ask_85 : decode cX0_ask 85 = .ok (.iload_n 2, 1) := by decide +kernel
theorem dX0_ask_86 : decode cX0_ask 86 = .ok (.iaload, 1) := by decide +kernel
theorem dX0_ask_87 : decode cX0_ask 87 = .ok (.if_icmp .le 13, 3) := by decide +kernel
theorem dX0_ask_90 : decode cX0_ask 90 = .ok (.aload_n 0, 1) := by decide +kernel
theorem dX0_ask_91 : decode cX0_ask 91 = .ok (.getfield 29, 3) := by decide +kernel
theorem dX0_ask_94 : decode cX0_ask 94 = .ok (.getfield 67, 3) := by decide +kernel
theorem dX0_ask_97 : decode cX0_ask 97 = .ok (.iload_n 3, 1) := by decide +kernel
theorem dX0_ask_98 : decode cX0_ask 98 = .ok (.iconst (-1), 1) := by decide +kernel
theorem dX0_ask_99 : decode cX0_ask 99 = .ok (.iastore, 1) := by decide +kernel
theorem dX0_ask_100 : decode cX0_ask 100 = .ok (.return_, 1) := by decide +kernel
theorem dX0_noteLimits_0 : decode cX0_noteLimits 0 = .ok (.iconst 0, 1) := by decide +kernel
theorem dX0_noteLimits_1 : decode cX0_noteLimits 1 = .ok (.istore_n 1, 1) := by decide +kernel
theorem dX0_noteLimits_2 : decode cX0_noteLimits 2 = .ok (.iload_n 1, 1) := by decide +kernel
theorem dX0_noteLimits_3 : decode cX0_noteLimits 3 = .ok (.aload_n 0, 1) := by decide +kernel
theorem dX0_noteLimits_4 : decode cX0_noteLimits 4 = .ok (.getfield 21, 3) := by decide +kernel
theorem dX0_noteLimits_7 : decode cX0_noteLimits 7 = .ok (.getfield 61, 3) := by decide +kernel
theorem dX0_noteLimits_10 : decode cX0_noteLimits 10 = .ok (.if_icmp .ge 32, 3) := by decide +kernel
theorem dX0_noteLimits_13 : decode cX0_noteLimits 13 = .ok (.aload_n 0, 1) := by decide +kernel
theorem dX0_noteLimits_14 : decode cX0_noteLimits 14 = .ok (.getfield 15, 3) := by decide +kernel
theorem dX0_noteLimits_17 : decode cX0_noteLimits 17 = .ok (.iload_n 1, 1) := by decide +kernel
theorem dX0_noteLimits_18 : decode cX0_noteLimits 18 = .ok (.aload_n 0, 1) := by decide +kernel
theorem dX0_noteLimits_19 : decode cX0_noteLimits 19 = .ok (.getfield 21, 3) := by decide +kernel
theorem dX0_noteLimits_22 : decode cX0_noteLimits 22 = .ok (.iload_n 1, 1) := by decide +kernel
theorem dX0_noteLimits_23 : decode cX0_noteLimits 23 = .ok (.aload_n 0, 1) := by decide +kernel
theorem dX0_noteLimits_24 : decode cX0_noteLimits 24 = .ok (.getfield 29, 3) := by decide +kernel
theorem dX0_noteLimits_27 : decode cX0_noteLimits 27 = .ok (.getfield 67, 3) := by decide +kernel
theorem dX0_noteLimits_30 : decode cX0_noteLimits 30 = .ok (.iload_n 1, 1) := by decide +kernel
theorem dX0_noteLimits_31 : decode cX0_noteLimits 31 = .ok (.iaload, 1) := by decide +kernel
theorem dX0_noteLimits_32 : decode cX0_noteLimits 32 = .ok (.invokevirtual 97, 3) := by decide +kernel
theorem dX0_noteLimits_35 : decode cX0_noteLimits 35 = .ok (.iastore, 1) := by decide +kernel
theorem dX0_noteLimits_36 : decode cX0_noteLimits 36 = .ok (.iinc 1 1, 3) := by decide +kernel
theorem dX0_noteLimits_39 : decode cX0_noteLimits 39 = .ok (.goto (-37), 3) := by decide +kernel
theorem dX0_noteLimits_42 : decode cX0_noteLimits 42 = .ok (.iconst 0, 1) := by decide +kernel
theorem dX0_noteLimits_43 : decode cX0_noteLimits 43 = .ok (.istore_n 1, 1) := by decide +kernel
theorem dX0_noteLimits_44 : decode cX0_noteLimits 44 = .ok (.iload_n 1, 1) := by decide +kernel
theorem dX0_noteLimits_45 : decode cX0_noteLimits 45 = .ok (.aload_n 0, 1) := by decide +kernel
theorem dX0_noteLimits_46 : decode cX0_noteLimits 46 = .ok (.getfield 21, 3) := by decide +kernel
theorem dX0_noteLimits_49 : decode cX0_noteLimits 49 = .ok (.getfield 100, 3) := by decide +kernel
theorem dX0_noteLimits_52 : decode cX0_noteLimits 52 = .ok (.if_icmp .ge 23, 3) := by decide +kernel
theorem dX0_noteLimits_55 : decode cX0_noteLimits 55 = .ok (.aload_n 0, 1) := by decide +kernel
theorem dX0_noteLimits_56 : decode cX0_noteLimits 56 = .ok (.getfield 18, 3) := by decide +kernel
theorem dX0_noteLimits_59 : decode cX0_noteLimits 59 = .ok (.iload_n 1, 1) := by decide +kernel
theorem dX0_noteLimits_60 : decode cX0_noteLimits 60 = .ok (.aload_n 0, 1) := by decide +kernel
theorem dX0_noteLimits_61 : decode cX0_noteLimits 61 = .ok (.getfield 29, 3) := by decide +kernel
theorem dX0_noteLimits_64 : decode cX0_noteLimits 64 = .ok (.iload_n 1, 1) := by decide +kernel
theorem dX0_noteLimits_65 : decode cX0_noteLimits 65 = .ok (.invokevirtual 91, 3) := by decide +kernel
theorem dX0_noteLimits_68 : decode cX0_noteLimits 68 = .ok (.iastore, 1) := by decide +kernel
theorem dX0_noteLimits_69 : decode cX0_noteLimits 69 = .ok (.iinc 1 1, 3) := by decide +kernel
theorem dX0_noteLimits_72 : decode cX0_noteLimits 72 = .ok (.goto (-28), 3) := by decide +kernel
theorem dX0_noteLimits_75 : decode cX0_noteLimits 75 = .ok (.return_, 1) := by decide +kernel
theorem dX0_seatFrom_0 : decode cX0_seatFrom 0 = .ok (.aload_n 0, 1) := by decide +kernel
theorem dX0_seatFrom_1 : decode cX0_seatFrom 1 = .ok (.iload_n 1, 1) := by decide +kernel
theorem dX0_seatFrom_2 : decode cX0_seatFrom 2 = .ok (.invokevirtual 103, 3) := by decide +kernel
theorem dX0_seatFrom_5 : decode cX0_seatFrom 5 = .ok (.istore_n 2, 1) := by decide +kernel
theorem dX0_seatFrom_6 : decode cX0_seatFrom 6 = .ok (.iload_n 2, 1) := by decide +kernel
theorem dX0_seatFrom_7 : decode cX0_seatFrom 7 = .ok (.iconst (-1), 1) := by decide +kernel
theorem dX0_seatFrom_8 : decode cX0_seatFrom 8 = .ok (.if_icmp .ne 27, 3) := by decide +kernel
theorem dX0_seatFrom_11 : decode cX0_seatFrom 11 = .ok (.aload_n 0, 1) := by decide +kernel
theorem dX0_seatFrom_12 : decode cX0_seatFrom 12 = .ok (.getfield 29, 3) := by decide +kernel
theorem dX0_seatFrom_15 : decode cX0_seatFrom 15 = .ok (.iconst 0, 1) := by decide +kernel
theorem dX0_seatFrom_16 : decode cX0_seatFrom 16 = .ok (.invokevirtual 106, 3) := by decide +kernel
theorem dX0_seatFrom_19 : decode cX0_seatFrom 19 = .ok (.iconst (-1), 1) := by decide +kernel
theorem dX0_seatFrom_20 : decode cX0_seatFrom 20 = .ok (.if_icmp .ne 14, 3) := by decide +kernel
theorem dX0_seatFrom_23 : decode cX0_seatFrom 23 = .ok (.aload_n 0, 1) := by decide +kernel
theorem dX0_seatFrom_24 : decode cX0_seatFrom 24 = .ok (.getfield 25, 3) := by decide +kernel
theorem dX0_seatFrom_27 : decode cX0_seatFrom 27 = .ok (.aload_n 0, 1) := by decide +kernel
theorem dX0_seatFrom_28 : decode cX0_seatFrom 28 = .ok (.getfield 29, 3) := by decide +kernel
theorem dX0_seatFrom_31 : decode cX0_seatFrom 31 = .ok (.invokevirtual 109, 3) := by decide +kernel
theorem dX0_seatFrom_34 : decode cX0_seatFrom 34 = .ok (.return_, 1) := by decide +kernel
theorem dX0_seatFrom_35 : decode cX0_seatFrom 35 = .ok (.aload_n 0, 1) := by decide +kernel
theorem dX0_seatFrom_36 : decode cX0_seatFrom 36 = .ok (.getfield 15, 3) := by decide +kernel
theorem dX0_seatFrom_39 : decode cX0_seatFrom 39 = .ok (.iload_n 2, 1) := by decide +kernel
theorem dX0_seatFrom_40 : decode cX0_seatFrom 40 = .ok (.iaload, 1) := by decide +kernel
theorem dX0_seatFrom_41 : decode cX0_seatFrom 41 = .ok (.istore_n 3, 1) := by decide +kernel
theorem dX0_seatFrom_42 : decode cX0_seatFrom 42 = .ok (.iload_n 3, 1) := by decide +kernel
theorem dX0_seatFrom_43 : decode cX0_seatFrom 43 = .ok (.aload_n 0, 1) := by decide +kernel
theorem dX0_seatFrom_44 : decode cX0_seatFrom 44 = .ok (.getfield 21, 3) := by decide +kernel
theorem dX0_seatFrom_47 : decode cX0_seatFrom 47 = .ok (.getfield 70, 3) := by decide +kernel
theorem dX0_seatFrom_50 : decode cX0_seatFrom 50 = .ok (.getfield 74, 3) := by decide +kernel
theorem dX0_seatFrom_53 : decode cX0_seatFrom 53 = .ok (.iload_n 2, 1) := by decide +kernel
theorem dX0_seatFrom_54 : decode cX0_seatFrom 54 = .ok (.iaload, 1) := by decide +kernel
theorem dX0_seatFrom_55 : decode cX0_seatFrom 55 = .ok (.if_icmp .ge 26, 3) := by decide +kernel
theorem dX0_seatFrom_58 : decode cX0_seatFrom 58 = .ok (.aload_n 0, 1) := by decide +kernel
theorem dX0_seatFrom_59 : decode cX0_seatFrom 59 = .ok (.iload_n 2, 1) := by decide +kernel
theorem dX0_seatFrom_60 : decode cX0_seatFrom 60 = .ok (.aload_n 0, 1) := by decide +kernel
theorem dX0_seatFrom_61 : decode cX0_seatFrom 61 = .ok (.getfield 21, 3) := by decide +kernel
theorem dX0_seatFrom_64 : decode cX0_seatFrom 64 = .ok (.getfield 70, 3) := by decide +kernel
theorem dX0_seatFrom_67 : decode cX0_seatFrom 67 = .ok (.iload_n 2, 1) := by decide +kernel
theorem dX0_seatFrom_68 : decode cX0_seatFrom 68 = .ok (.iload_n 3, 1) := by decide +kernel
theorem dX0_seatFrom_69 : decode cX0_seatFrom 69 = .ok (.invokevirtual 79, 3) := by decide +kernel
theorem dX0_seatFrom_72 : decode cX0_seatFrom 72 = .ok (.invokevirtual 115, 3) := by decide +kernel
theorem dX0_seatFrom_75 : decode cX0_seatFrom 75 = .ok (.iinc 3 1, 3) := by decide +kernel
theorem dX0_seatFrom_78 : decode cX0_seatFrom 78 = .ok (.goto (-36), 3) := by decide +kernel
theorem dX0_seatFrom_81 : decode cX0_seatFrom 81 = .ok (.return_, 1) := by decide +kernel
theorem dX0_nextToSeat_0 : decode cX0_nextToSeat 0 = .ok (.iload_n 1, 1) := by decide +kernel
theorem dX0_nextToSeat_1 : decode cX0_nextToSeat 1 = .ok (.istore_n 2, 1) := by decide +kernel
theorem dX0_nextToSeat_2 : decode cX0_nextToSeat 2 = .ok (.iload_n 2, 1) := by decide +kernel
theorem dX0_nextToSeat_3 : decode cX0_nextToSeat 3 = .ok (.aload_n 0, 1) := by decide +kernel
theorem dX0_nextToSeat_4 : decode cX0_nextToSeat 4 = .ok (.getfield 21, 3) := by decide +kernel
theorem dX0_nextToSeat_7 : decode cX0_nextToSeat 7 = .ok (.getfield 61, 3) := by decide +kernel
theorem dX0_nextToSeat_10 : decode cX0_nextToSeat 10 = .ok (.if_icmp .ge 21, 3) := by decide +kernel
theorem dX0_nextToSeat_13 : decode cX0_nextToSeat 13 = .ok (.aload_n 0, 1) := by decide +kernel
theorem dX0_nextToSeat_14 : decode cX0_nextToSeat 14 = .ok (.getfield 15, 3) := by decide +kernel
theorem dX0_nextToSeat_17 : decode cX0_nextToSeat 17 = .ok (.iload_n 2, 1) := by decide +kernel
theorem dX0_nextToSeat_18 : decode cX0_nextToSeat 18 = .ok (.iaload, 1) := by decide +kernel
theorem dX0_nextToSeat_19 : decode cX0_nextToSeat 19 = .ok (.iconst (-1), 1) := by decide +kernel
theorem dX0_nextToSeat_20 : decode cX0_nextToSeat 20 = .ok (.if_icmp .eq 5, 3) := by decide +kernel
theorem dX0_nextToSeat_23 : decode cX0_nextToSeat 23 = .ok (.iload_n 2, 1) := by decide +kernel
theorem dX0_nextToSeat_24 : decode cX0_nextToSeat 24 = .ok (.ireturn, 1) := by decide +kernel
theorem dX0_nextToSeat_25 : decode cX0_nextToSeat 25 = .ok (.iinc 2 1, 3) := by decide +kernel
theorem dX0_nextToSeat_28 : decode cX0_nextToSeat 28 = .ok (.goto (-26), 3) := by decide +kernel
theorem dX0_nextToSeat_31 : decode cX0_nextToSeat 31 = .ok (.iconst (-1), 1) := by decide +kernel
theorem dX0_nextToSeat_32 : decode cX0_nextToSeat 32 = .ok (.ireturn, 1) := by decide +kernel
theorem dX0_trySeat_0 : decode cX0_trySeat 0 = .ok (.iload_n 2, 1) := by decide +kernel
theorem dX0_trySeat_1 : decode cX0_trySeat 1 = .ok (.iconst (-1), 1) := by decide +kernel
theorem dX0_trySeat_2 : decode cX0_trySeat 2 = .ok (.if_icmp .eq 24, 3) := by decide +kernel
theorem dX0_trySeat_5 : decode cX0_trySeat 5 = .ok (.aload_n 0, 1) := by decide +kernel
theorem dX0_trySeat_6 : decode cX0_trySeat 6 = .ok (.getfield 18, 3) := by decide +kernel
theorem dX0_trySeat_9 : decode cX0_trySeat 9 = .ok (.iload_n 2, 1) := by decide +kernel
theorem dX0_trySeat_10 : decode cX0_trySeat 10 = .ok (.iaload, 1) := by decide +kernel
theorem dX0_trySeat_11 : decode cX0_trySeat 11 = .ok (.ifCond .eq 15, 3) := by decide +kernel
theorem dX0_trySeat_14 : decode cX0_trySeat 14 = .ok (.aload_n 0, 1) := by decide +kernel
theorem dX0_trySeat_15 : decode cX0_trySeat 15 = .ok (.getfield 21, 3) := by decide +kernel
theorem dX0_trySeat_18 : decode cX0_trySeat 18 = .ok (.iload_n 1, 1) := by decide +kernel
theorem dX0_trySeat_19 : decode cX0_trySeat 19 = .ok (.iload_n 2, 1) := by decide +kernel
theorem dX0_trySeat_20 : decode cX0_trySeat 20 = .ok (.invokevirtual 83, 3) := by decide +kernel
theorem dX0_trySeat_23 : decode cX0_trySeat 23 = .ok (.ifCond .ne 4, 3) := by decide +kernel
theorem dX0_trySeat_26 : decode cX0_trySeat 26 = .ok (.return_, 1) := by decide +kernel
theorem dX0_trySeat_27 : decode cX0_trySeat 27 = .ok (.aload_n 0, 1) := by decide +kernel
theorem dX0_trySeat_28 : decode cX0_trySeat 28 = .ok (.getfield 29, 3) := by decide +kernel
theorem dX0_trySeat_31 : decode cX0_trySeat 31 = .ok (.getfield 67, 3) := by decide +kernel
theorem dX0_trySeat_34 : decode cX0_trySeat 34 = .ok (.iload_n 1, 1) := by decide +kernel
theorem dX0_trySeat_35 : decode cX0_trySeat 35 = .ok (.iload_n 2, 1) := by decide +kernel
theorem dX0_trySeat_36 : decode cX0_trySeat 36 = .ok (.iastore, 1) := by decide +kernel
theorem dX0_trySeat_37 : decode cX0_trySeat 37 = .ok (.aload_n 0, 1) := by decide +kernel
theorem dX0_trySeat_38 : decode cX0_trySeat 38 = .ok (.getfield 18, 3) := by decide +kernel
theorem dX0_trySeat_41 : decode cX0_trySeat 41 = .ok (.iload_n 2, 1) := by decide +kernel
theorem dX0_trySeat_42 : decode cX0_trySeat 42 = .ok (.dup2, 1) := by decide +kernel
theorem dX0_trySeat_43 : decode cX0_trySeat 43 = .ok (.iaload, 1) := by decide +kernel
theorem dX0_trySeat_44 : decode cX0_trySeat 44 = .ok (.iconst 1, 1) := by decide +kernel
theorem dX0_trySeat_45 : decode cX0_trySeat 45 = .ok (.isub, 1) := by decide +kernel
theorem dX0_trySeat_46 : decode cX0_trySeat 46 = .ok (.iastore, 1) := by decide +kernel
theorem dX0_trySeat_47 : decode cX0_trySeat 47 = .ok (.aload_n 0, 1) := by decide +kernel
theorem dX0_trySeat_48 : decode cX0_trySeat 48 = .ok (.iload_n 1, 1) := by decide +kernel
theorem dX0_trySeat_49 : decode cX0_trySeat 49 = .ok (.invokevirtual 119, 3) := by decide +kernel
theorem dX0_trySeat_52 : decode cX0_trySeat 52 = .ok (.ifCond .ne 10, 3) := by decide +kernel
theorem dX0_trySeat_55 : decode cX0_trySeat 55 = .ok (.aload_n 0, 1) := by decide +kernel
theorem dX0_trySeat_56 : decode cX0_trySeat 56 = .ok (.iload_n 1, 1) := by decide +kernel
theorem dX0_trySeat_57 : decode cX0_trySeat 57 = .ok (.iconst 1, 1) := by decide +kernel
theorem dX0_trySeat_58 : decode cX0_trySeat 58 = .ok (.iadd, 1) := by decide +kernel
theorem dX0_trySeat_59 : decode cX0_trySeat 59 = .ok (.invokevirtual 44, 3) := by decide +kernel
theorem dX0_trySeat_62 : decode cX0_trySeat 62 = .ok (.aload_n 0, 1) := by decide +kernel
theorem dX0_trySeat_63 : decode cX0_trySeat 63 = .ok (.getfield 18, 3) := by decide +kernel
theorem dX0_trySeat_66 : decode cX0_trySeat 66 = .ok (.iload_n 2, 1) := by decide +kernel
theorem dX0_trySeat_67 : decode cX0_trySeat 67 = .ok (.dup2, 1) := by decide +kernel
theorem dX0_trySeat_68 : decode cX0_trySeat 68 = .ok (.iaload, 1) := by decide +kernel
theorem dX0_trySeat_69 : decode cX0_trySeat 69 = .ok (.iconst 1, 1) := by decide +kernel
theorem dX0_trySeat_70 : decode cX0_trySeat 70 = .ok (.iadd, 1) := by decide +kernel
theorem dX0_trySeat_71 : decode cX0_trySeat 71 = .ok (.iastore, 1) := by decide +kernel
theorem dX0_trySeat_72 : decode cX0_trySeat 72 = .ok (.return_, 1) := by decide +kernel
theorem dX0_hasRivals_0 : decode cX0_hasRivals 0 = .ok (.iconst 0, 1) := by decide +kernel
theorem dX0_hasRivals_1 : decode cX0_hasRivals 1 = .ok (.istore_n 2, 1) := by decide +kernel
theorem dX0_hasRivals_2 : decode cX0_hasRivals 2 = .ok (.iload_n 2, 1) := by decide +kernel
theorem dX0_hasRivals_3 : decode cX0_hasRivals 3 = .ok (.iload_n 1, 1) := by decide +kernel
theorem dX0_hasRivals_4 : decode cX0_hasRivals 4 = .ok (.if_icmp .ge 35, 3) := by decide +kernel
theorem dX0_hasRivals_7 : decode cX0_hasRivals 7 = .ok (.aload_n 0, 1) := by decide +kernel
theorem dX0_hasRivals_8 : decode cX0_hasRivals 8 = .ok (.getfield 29, 3) := by decide +kernel
theorem dX0_hasRivals_11 : decode cX0_hasRivals 11 = .ok (.iload_n 1, 1) := by decide +kernel
theorem dX0_hasRivals_12 : decode cX0_hasRivals 12 = .ok (.iload_n 2, 1) := by decide +kernel
theorem dX0_hasRivals_13 : decode cX0_hasRivals 13 = .ok (.invokevirtual 123, 3) := by decide +kernel
theorem dX0_hasRivals_16 : decode cX0_hasRivals 16 = .ok (.ifCond .ne 15, 3) := by decide +kernel
theorem dX0_hasRivals_19 : decode cX0_hasRivals 19 = .ok (.aload_n 0, 1) := by decide +kernel
theorem dX0_hasRivals_20 : decode cX0_hasRivals 20 = .ok (.getfield 29, 3) := by decide +kernel
theorem dX0_hasRivals_23 : decode cX0_hasRivals 23 = .ok (.iload_n 2, 1) := by decide +kernel
theorem dX0_hasRivals_24 : decode cX0_hasRivals 24 = .ok (.iload_n 1, 1) := by decide +kernel
theorem dX0_hasRivals_25 : decode cX0_hasRivals 25 = .ok (.invokevirtual 123, 3) := by decide +kernel
theorem dX0_hasRivals_28 : decode cX0_hasRivals 28 = .ok (.ifCond .eq 5, 3) := by decide +kernel
theorem dX0_hasRivals_31 : decode cX0_hasRivals 31 = .ok (.iconst 1, 1) := by decide +kernel
theorem dX0_hasRivals_32 : decode cX0_hasRivals 32 = .ok (.ireturn, 1) := by decide +kernel
theorem dX0_hasRivals_33 : decode cX0_hasRivals 33 = .ok (.iinc 2 1, 3) := by decide +kernel
theorem dX0_hasRivals_36 : decode cX0_hasRivals 36 = .ok (.goto (-34), 3) := by decide +kernel
theorem dX0_hasRivals_39 : decode cX0_hasRivals 39 = .ok (.iconst 0, 1) := by decide +kernel
theorem dX0_hasRivals_40 : decode cX0_hasRivals 40 = .ok (.ireturn, 1) := by decide +kernel
theorem dX1_init_0 : decode cX1_init 0 = .ok (.aload_n 0, 1) := by decide +kernel
theorem dX1_init_1 : decode cX1_init 1 = .ok (.invokespecial 3, 3) := by decide +kernel
theorem dX1_init_4 : decode cX1_init 4 = .ok (.aload_n 0, 1) := by decide +kernel
theorem dX1_init_5 : decode cX1_init 5 = .ok (.new 9, 3) := by decide +kernel
theorem dX1_init_8 : decode cX1_init 8 = .ok (.dup, 1) := by decide +kernel
theorem dX1_init_9 : decode cX1_init 9 = .ok (.invokespecial 11, 3) := by decide +kernel
theorem dX1_init_12 : decode cX1_init 12 = .ok (.putfield 12, 3) := by decide +kernel
theorem dX1_init_15 : decode cX1_init 15 = .ok (.aload_n 0, 1) := by decide +kernel
theorem dX1_init_16 : decode cX1_init 16 = .ok (.new 9, 3) := by decide +kernel
theorem dX1_init_19 : decode cX1_init 19 = .ok (.dup, 1) := by decide +kernel
theorem dX1_init_20 : decode cX1_init 20 = .ok (.invokespecial 11, 3) := by decide +kernel
theorem dX1_init_23 : decode cX1_init 23 = .ok (.putfield 18, 3) := by decide +kernel
theorem dX1_init_26 : decode cX1_init 26 = .ok (.aload_n 0, 1) := by decide +kernel
theorem dX1_init_27 : decode cX1_init 27 = .ok (.bipush 6, 2) := by decide +kernel
theorem dX1_init_29 : decode cX1_init 29 = .ok (.newarray .int, 2) := by decide +kernel
theorem dX1_init_31 : decode cX1_init 31 = .ok (.putfield 21, 3) := by decide +kernel
theorem dX1_init_34 : decode cX1_init 34 = .ok (.aload_n 0, 1) := by decide +kernel
theorem dX1_init_35 : decode cX1_init 35 = .ok (.iconst 1, 1) := by decide +kernel
theorem dX1_init_36 : decode cX1_init 36 = .ok (.iconst 1, 1) := by decide +kernel
theorem dX1_init_37 : decode cX1_init 37 = .ok (.invokevirtual 25, 3) := by decide +kernel
theorem dX1_init_40 : decode cX1_init 40 = .ok (.return_, 1) := by decide +kernel
theorem dX1_open_0 : decode cX1_open 0 = .ok (.aload_n 0, 1) := by decide +kernel
theorem dX1_open_1 : decode cX1_open 1 = .ok (.iload_n 1, 1) := by decide +kernel
theorem dX1_open_2 : decode cX1_open 2 = .ok (.putfield 29, 3) := by decide +kernel
theorem dX1_open_5 : decode cX1_open 5 = .ok (.aload_n 0, 1) := by decide +kernel
theorem dX1_open_6 : decode cX1_open 6 = .ok (.iload_n 2, 1) := by decide +kernel
theorem dX1_open_7 : decode cX1_open 7 = .ok (.putfield 33, 3) := by decide +kernel
theorem dX1_open_10 : decode cX1_open 10 = .ok (.aload_n 0, 1) := by decide +kernel
theorem dX1_open_11 : decode cX1_open 11 = .ok (.getfield 12, 3) := by decide +kernel
theorem dX1_open_14 : decode cX1_open 14 = .ok (.aload_n 0, 1) := by decide +kernel
theorem dX1_open_15 : decode cX1_open 15 = .ok (.getfield 29, 3) := by decide +kernel
theorem dX1_open_18 : decode cX1_open 18 = .ok (.aload_n 0, 1) := by decide +kernel
theorem dX1_open_19 : decode cX1_open 19 = .ok (.getfield 33, 3) := by decide +kernel
theorem dX1_open_22 : decode cX1_open 22 = .ok (.invokevirtual 36, 3) := by decide +kernel
theorem dX1_open_25 : decode cX1_open 25 = .ok (.aload_n 0, 1) := by decide +kernel
theorem dX1_open_26 : decode cX1_open 26 = .ok (.getfield 18, 3) := by decide +kernel
theorem dX1_open_29 : decode cX1_open 29 = .ok (.aload_n 0, 1) := by decide +kernel
theorem dX1_open_30 : decode cX1_open 30 = .ok (.getfield 33, 3) := by decide +kernel
theorem dX1_open_33 : decode cX1_open 33 = .ok (.aload_n 0, 1) := by decide +kernel
theorem dX1_open_34 : decode cX1_open 34 = .ok (.getfield 29, 3) := by decide +kernel
theorem dX1_open_37 : decode cX1_open 37 = .ok (.invokevirtual 36, 3) := by decide +kernel
theorem dX1_open_40 : decode cX1_open 40 = .ok (.aload_n 0, 1) := by decide +kernel
theorem dX1_open_41 : decode cX1_open 41 = .ok (.getfield 21, 3) := by decide +kernel
theorem dX1_open_44 : decode cX1_open 44 = .ok (.iconst 1, 1) := by decide +kernel
theorem dX1_open_45 : decode cX1_open 45 = .ok (.invokestatic 37, 3) := by decide +kernel
theorem dX1_open_48 : decode cX1_open 48 = .ok (.return_, 1) := by decide +kernel
theorem dX1_hasResident_0 : decode cX1_hasResident 0 = .ok (.iload_n 1, 1) := by decide +kernel
theorem dX1_hasResident_1 : decode cX1_hasResident 1 = .ok (.ifCond .lt 15, 3) := by decide +kernel
theorem dX1_hasResident_4 : decode cX1_hasResident 4 = .ok (.iload_n 1, 1) := by decide +kernel
theorem dX1_hasResident_5 : decode cX1_hasResident 5 = .ok (.aload_n 0, 1) := by decide +kernel
theorem dX1_hasResident_6 : decode cX1_hasResident 6 = .ok (.getfield 29, 3) := by decide +kernel
theorem dX1_hasResident_9 : decode cX1_hasResident 9 = .ok (.if_icmp .ge 7, 3) := by decide +kernel
theorem dX1_hasResident_12 : decode cX1_hasResident 12 = .ok (.iconst 1, 1) := by decide +kernel
theorem dX1_hasResident_13 : decode cX1_hasResident 13 = .ok (.goto 4, 3) := by decide +kernel
theorem dX1_hasResident_16 : decode cX1_hasResident 16 = .ok (.iconst 0, 1) := by decide +kernel
theorem dX1_hasResident_17 : decode cX1_hasResident 17 = .ok (.ireturn, 1) := by decide +kernel
theorem dX1_hasHospital_0 : decode cX1_hasHospital 0 = .ok (.iload_n 1, 1) := by decide +kernel
theorem dX1_hasHospital_1 : decode cX1_hasHospital 1 = .ok (.ifCond .lt 15, 3) := by decide +kernel
theorem dX1_hasHospital_4 : decode cX1_hasHospital 4 = .ok (.iload_n 1, 1) := by decide +kernel
theorem dX1_hasHospital_5 : decode cX1_hasHospital 5 = .ok (.aload_n 0, 1) := by decide +kernel
theorem dX1_hasHospital_6 : decode cX1_hasHospital 6 = .ok (.getfield 33, 3) := by decide +kernel
theorem dX1_hasHospital_9 : decode cX1_hasHospital 9 = .ok (.if_icmp .ge 7, 3) := by decide +kernel
theorem dX1_hasHospital_12 : decode cX1_hasHospital 12 = .ok (.iconst 1, 1) := by decide +kernel
theorem dX1_hasHospital_13 : decode cX1_hasHospital 13 = .ok (.goto 4, 3) := by decide +kernel
theorem dX1_hasHospital_16 : decode cX1_hasHospital 16 = .ok (.iconst 0, 1) := by decide +kernel
theorem dX1_hasHospital_17 : decode cX1_hasHospital 17 = .ok (.ireturn, 1) := by decide +kernel
theorem dX1_listsOf_0 : decode cX1_listsOf 0 = .ok (.iload_n 1, 1) := by decide +kernel
theorem dX1_listsOf_1 : decode cX1_listsOf 1 = .ok (.ifCond .ne 8, 3) := by decide +kernel
theorem dX1_listsOf_4 : decode cX1_listsOf 4 = .ok (.aload_n 0, 1) := by decide +kernel
theorem dX1_listsOf_5 : decode cX1_listsOf 5 = .ok (.getfield 12, 3) := by decide +kernel
theorem dX1_listsOf_8 : decode cX1_listsOf 8 = .ok (.areturn, 1) := by decide +kernel
theorem dX1_listsOf_9 : decode cX1_listsOf 9 = .ok (.iload_n 1, 1) := by decide +kernel
theorem dX1_listsOf_10 : decode cX1_listsOf 10 = .ok (.iconst 1, 1) := by decide +kernel
theorem dX1_listsOf_11 : decode cX1_listsOf 11 = .ok (.if_icmp .ne 10, 3) := by decide +kernel
theorem dX1_listsOf_14 : decode cX1_listsOf 14 = .ok (.aload_n 0, 1) := by decide +kernel
theorem dX1_listsOf_15 : decode cX1_listsOf 15 = .ok (.getfield 18, 3) := by decide +kernel
theorem dX1_listsOf_18 : decode cX1_listsOf 18 = .ok (.goto 4, 3) := by decide +kernel
theorem dX1_listsOf_21 : decode cX1_listsOf 21 = .ok (.aconst_null, 1) := by decide +kernel
theorem dX1_listsOf_22 : decode cX1_listsOf 22 = .ok (.areturn, 1) := by decide +kernel
theorem dX1_isPair_0 : decode cX1_isPair 0 = .ok (.aload_n 0, 1) := by decide +kernel
theorem dX1_isPair_1 : decode cX1_isPair 1 = .ok (.getfield 12, 3) := by decide +kernel
theorem dX1_isPair_4 : decode cX1_isPair 4 = .ok (.getfield 43, 3) := by decide +kernel
theorem dX1_isPair_7 : decode cX1_isPair 7 = .ok (.iload_n 1, 1) := by decide +kernel
theorem dX1_isPair_8 : decode cX1_isPair 8 = .ok (.aaload, 1) := by decide +kernel
theorem dX1_isPair_9 : decode cX1_isPair 9 = .ok (.iload_n 2, 1) := by decide +kernel
theorem dX1_isPair_10 : decode cX1_isPair 10 = .ok (.iaload, 1) := by decide +kernel
theorem dX1_isPair_11 : decode cX1_isPair 11 = .ok (.iconst (-1), 1) := by decide +kernel
theorem dX1_isPair_12 : decode cX1_isPair 12 = .ok (.if_icmp .eq 22, 3) := by decide +kernel
theorem dX1_isPair_15 : decode cX1_isPair 15 = .ok (.aload_n 0, 1) := by decide +kernel
theorem dX1_isPair_16 : decode cX1_isPair 16 = .ok (.getfield 18, 3) := by decide +kernel
theorem dX1_isPair_19 : decode cX1_isPair 19 = .ok (.getfield 43, 3) := by decide +kernel
theorem dX1_isPair_22 : decode cX1_isPair 22 = .ok (.iload_n 2, 1) := by decide +kernel
theorem dX1_isPair_23 : decode cX1_isPair 23 = .ok (.aaload, 1) := by decide +kernel
theorem dX1_isPair_24 : decode cX1_isPair 24 = .ok (.iload_n 1, 1) := by decide +kernel
theorem dX1_isPair_25 : decode cX1_isPair 25 = .ok (.iaload, 1) := by decide +kernel
theorem dX1_isPair_26 : decode cX1_isPair 26 = .ok (.iconst (-1), 1) := by decide +kernel
theorem dX1_isPair_27 : decode cX1_isPair 27 = .ok (.if_icmp .eq 7, 3) := by decide +kernel
theorem dX1_isPair_30 : decode cX1_isPair 30 = .ok (.iconst 1, 1) := by decide +kernel
theorem dX1_isPair_31 : decode cX1_isPair 31 = .ok (.goto 4, 3) := by decide +kernel
theorem dX1_isPair_34 : decode cX1_isPair 34 = .ok (.iconst 0, 1) := by decide +kernel
theorem dX1_isPair_35 : decode cX1_isPair 35 = .ok (.ireturn, 1) := by decide +kernel
theorem dX1_countPairs_0 : decode cX1_countPairs 0 = .ok (.iconst 0, 1) := by decide +kernel
theorem dX1_countPairs_1 : decode cX1_countPairs 1 = .ok (.istore_n 1, 1) := by decide +kernel
theorem dX1_countPairs_2 : decode cX1_countPairs 2 = .ok (.iconst 0, 1) := by decide +kernel
theorem dX1_countPairs_3 : decode cX1_countPairs 3 = .ok (.istore_n 2, 1) := by decide +kernel
theorem dX1_countPairs_4 : decode cX1_countPairs 4 = .ok (.iload_n 2, 1) := by decide +kernel
theorem dX1_countPairs_5 : decode cX1_countPairs 5 = .ok (.aload_n 0, 1) := by decide +kernel
theorem dX1_countPairs_6 : decode cX1_countPairs 6 = .ok (.getfield 29, 3) := by decide +kernel
theorem dX1_countPairs_9 : decode cX1_countPairs 9 = .ok (.if_icmp .ge 37, 3) := by decide +kernel
theorem dX1_countPairs_12 : decode cX1_countPairs 12 = .ok (.iconst 0, 1) := by decide +kernel
theorem dX1_countPairs_13 : decode cX1_countPairs 13 = .ok (.istore_n 3, 1) := by decide +kernel
theorem dX1_countPairs_14 : decode cX1_countPairs 14 = .ok (.iload_n 3, 1) := by decide +kernel
theorem dX1_countPairs_15 : decode cX1_countPairs 15 = .ok (.aload_n 0, 1) := by decide +kernel
theorem dX1_countPairs_16 : decode cX1_countPairs 16 = .ok (.getfield 33, 3) := by decide +kernel
theorem dX1_countPairs_19 : decode cX1_countPairs 19 = .ok (.if_icmp .ge 21, 3) := by decide +kernel
theorem dX1_countPairs_22 : decode cX1_countPairs 22 = .ok (.aload_n 0, 1) := by decide +kernel
theorem dX1_countPairs_23 : decode cX1_countPairs 23 = .ok (.iload_n 2, 1) := by decide +kernel
theorem dX1_countPairs_24 : decode cX1_countPairs 24 = .ok (.iload_n 3, 1) := by decide +kernel
theorem dX1_countPairs_25 : decode cX1_countPairs 25 = .ok (.invokevirtual 47, 3) := by decide +kernel
theorem dX1_countPairs_28 : decode cX1_countPairs 28 = .ok (.ifCond .eq 6, 3) := by decide +kernel
theorem dX1_countPairs_31 : decode cX1_countPairs 31 = .ok (.iinc 1 1, 3) := by decide +kernel
theorem dX1_countPairs_34 : decode cX1_countPairs 34 = .ok (.iinc 3 1, 3) := by decide +kernel
theorem dX1_countPairs_37 : decode cX1_countPairs 37 = .ok (.goto (-23), 3) := by decide +kernel
theorem dX1_countPairs_40 : decode cX1_countPairs 40 = .ok (.iinc 2 1, 3) := by decide +kernel
theorem dX1_countPairs_43 : decode cX1_countPairs 43 = .ok (.goto (-39), 3) := by decide +kernel
theorem dX1_countPairs_46 : decode cX1_countPairs 46 = .ok (.iload_n 1, 1) := by decide +kernel
theorem dX1_countPairs_47 : decode cX1_countPairs 47 = .ok (.ireturn, 1) := by decide +kernel
theorem dX1_placeOfHospital_0 : decode cX1_placeOfHospital 0 = .ok (.iload_n 2, 1) := by decide +kernel
theorem dX1_placeOfHospital_1 : decode cX1_placeOfHospital 1 = .ok (.iconst (-1), 1) := by decide +kernel
theorem dX1_placeOfHospital_2 : decode cX1_placeOfHospital 2 = .ok (.if_icmp .ne 7, 3) := by decide +kernel
theorem dX1_placeOfHospital_5 : decode cX1_placeOfHospital 5 = .ok (.iconst (-1), 1) := by decide +kernel
theorem dX1_placeOfHospital_6 : decode cX1_placeOfHospital 6 = .ok (.goto 14, 3) := by decide +kernel
theorem dX1_placeOfHospital_9 : decode cX1_placeOfHospital 9 = .ok (.aload_n 0, 1) := by decide +kernel
theorem dX1_placeOfHospital_10 : decode cX1_placeOfHospital 10 = .ok (.getfield 12, 3) := by decide +kernel
theorem dX1_placeOfHospital_13 : decode cX1_placeOfHospital 13 = .ok (.getfield 43, 3) := by decide +kernel
theorem dX1_placeOfHospital_16 : decode cX1_placeOfHospital 16 = .ok (.iload_n 1, 1) := by decide +kernel
theorem dX1_placeOfHospital_17 : decode cX1_placeOfHospital 17 = .ok (.aaload, 1) := by decide +kernel
theorem dX1_placeOfHospital_18 : decode cX1_placeOfHospital 18 = .ok (.iload_n 2, 1) := by decide +kernel
theorem dX1_placeOfHospital_19 : decode cX1_placeOfHospital 19 = .ok (.iaload, 1) := by decide +kernel
theorem dX1_placeOfHospital_20 : decode cX1_placeOfHospital 20 = .ok (.ireturn, 1) := by decide +kernel
theorem dX1_placeOfResident_0 : decode cX1_placeOfResident 0 = .ok (.aload_n 0, 1) := by decide +kernel
theorem dX1_placeOfResident_1 : decode cX1_placeOfResident 1 = .ok (.getfield 18, 3) := by decide +kernel
theorem dX1_placeOfResident_4 : decode cX1_placeOfResident 4 = .ok (.getfield 43, 3) := by decide +kernel
theorem dX1_placeOfResident_7 : decode cX1_placeOfResident 7 = .ok (.iload_n 1, 1) := by decide +kernel
theorem dX1_placeOfResident_8 : decode cX1_placeOfResident 8 = .ok (.aaload, 1) := by decide +kernel
theorem dX1_placeOfResident_9 : decode cX1_placeOfResident 9 = .ok (.iload_n 2, 1) := by decide +kernel
theorem dX1_placeOfResident_10 : decode cX1_placeOfResident 10 = .ok (.iaload, 1) := by decide +kernel
theorem dX1_placeOfResident_11 : decode cX1_placeOfResident 11 = .ok (.ireturn, 1) := by decide +kernel
theorem dX2_init_0 : decode cX2_init 0 = .ok (.aload_n 0, 1) := by decide +kernel
theorem dX2_init_1 : decode cX2_init 1 = .ok (.invokespecial 3, 3) := by decide +kernel
theorem dX2_init_4 : decode cX2_init 4 = .ok (.aload_n 0, 1) := by decide +kernel
theorem dX2_init_5 : decode cX2_init 5 = .ok (.bipush 6, 2) := by decide +kernel
theorem dX2_init_7 : decode cX2_init 7 = .ok (.bipush 6, 2) := by decide +kernel
theorem dX2_init_9 : decode cX2_init 9 = .ok (.multianewarray 9 2, 4) := by decide +kernel
theorem dX2_init_13 : decode cX2_init 13 = .ok (.putfield 11, 3) := by decide +kernel
theorem dX2_init_16 : decode cX2_init 16 = .ok (.aload_n 0, 1) := by decide +kernel
theorem dX2_init_17 : decode cX2_init 17 = .ok (.bipush 6, 2) := by decide +kernel
theorem dX2_init_19 : decode cX2_init 19 = .ok (.newarray .int, 2) := by decide +kernel
theorem dX2_init_21 : decode cX2_init 21 = .ok (.putfield 16, 3) := by decide +kernel
theorem dX2_init_24 : decode cX2_init 24 = .ok (.return_, 1) := by decide +kernel
theorem dX2_open_0 : decode cX2_open 0 = .ok (.aload_n 0, 1) := by decide +kernel
theorem dX2_open_1 : decode cX2_open 1 = .ok (.iload_n 1, 1) := by decide +kernel
theorem dX2_open_2 : decode cX2_open 2 = .ok (.putfield 20, 3) := by decide +kernel
theorem dX2_open_5 : decode cX2_open 5 = .ok (.aload_n 0, 1) := by decide +kernel
theorem dX2_open_6 : decode cX2_open 6 = .ok (.iload_n 2, 1) := by decide +kernel
theorem dX2_open_7 : decode cX2_open 7 = .ok (.putfield 24, 3) := by decide +kernel
theorem dX2_open_10 : decode cX2_open 10 = .ok (.iconst 0, 1) := by decide +kernel
theorem dX2_open_11 : decode cX2_open 11 = .ok (.istore_n 3, 1) := by decide +kernel
theorem dX2_open_12 : decode cX2_open 12 = .ok (.iload_n 3, 1) := by decide +kernel
theorem dX2_open_13 : decode cX2_open 13 = .ok (.bipush 6, 2) := by decide +kernel
theorem dX2_open_15 : decode cX2_open 15 = .ok (.if_icmp .ge 15, 3) := by decide +kernel
theorem dX2_open_18 : decode cX2_open 18 = .ok (.aload_n 0, 1) := by decide +kernel
theorem dX2_open_19 : decode cX2_open 19 = .ok (.iload_n 3, 1) := by decide +kernel
theorem dX2_open_20 : decode cX2_open 20 = .ok (.invokevirtual 27, 3) := by decide +kernel
theorem dX2_open_23 : decode cX2_open 23 = .ok (.pop, 1) := by decide +kernel
theorem dX2_open_24 : decode cX2_open 24 = .ok (.iinc 3 1, 3) := by decide +kernel
theorem dX2_open_27 : decode cX2_open 27 = .ok (.goto (-15), 3) := by decide +kernel
theorem dX2_open_30 : decode cX2_open 30 = .ok (.return_, 1) := by decide +kernel
theorem dX2_hasOwner_0 : decode cX2_hasOwner 0 = .ok (.iload_n 1, 1) := by decide +kernel
theorem dX2_hasOwner_1 : decode cX2_hasOwner 1 = .ok (.ifCond .lt 15, 3) := by decide +kernel
theorem dX2_hasOwner_4 : decode cX2_hasOwner 4 = .ok (.iload_n 1, 1) := by decide +kernel
theorem dX2_hasOwner_5 : decode cX2_hasOwner 5 = .ok (.aload_n 0, 1) := by decide +kernel
theorem dX2_hasOwner_6 : decode cX2_hasOwner 6 = .ok (.getfield 20, 3) := by decide +kernel
theorem dX2_hasOwner_9 : decode cX2_hasOwner 9 = .ok (.if_icmp .ge 7, 3) := by decide +kernel
theorem dX2_hasOwner_12 : decode cX2_hasOwner 12 = .ok (.iconst 1, 1) := by decide +kernel
theorem dX2_hasOwner_13 : decode cX2_hasOwner 13 = .ok (.goto 4, 3) := by decide +kernel
theorem dX2_hasOwner_16 : decode cX2_hasOwner 16 = .ok (.iconst 0, 1) := by decide +kernel
theorem dX2_hasOwner_17 : decode cX2_hasOwner 17 = .ok (.ireturn, 1) := by decide +kernel
theorem dX2_canAdd_0 : decode cX2_canAdd 0 = .ok (.aload_n 0, 1) := by decide +kernel
theorem dX2_canAdd_1 : decode cX2_canAdd 1 = .ok (.iload_n 1, 1) := by decide +kernel
theorem dX2_canAdd_2 : decode cX2_canAdd 2 = .ok (.invokevirtual 31, 3) := by decide +kernel
theorem dX2_canAdd_5 : decode cX2_canAdd 5 = .ok (.ifCond .eq 31, 3) := by decide +kernel
theorem dX2_canAdd_8 : decode cX2_canAdd 8 = .ok (.iload_n 2, 1) := by decide +kernel
theorem dX2_canAdd_9 : decode cX2_canAdd 9 = .ok (.ifCond .lt 27, 3) := by decide +kernel
theorem dX2_canAdd_12 : decode cX2_canAdd 12 = .ok (.iload_n 2, 1) := by decide +kernel
theorem dX2_canAdd_13 : decode cX2_canAdd 13 = .ok (.aload_n 0, 1) := by decide +kernel
theorem dX2_canAdd_14 : decode cX2_canAdd 14 = .ok (.getfield 24, 3) := by decide +kernel
theorem dX2_canAdd_17 : decode cX2_canAdd 17 = .ok (.if_icmp .ge 19, 3) := by decide +kernel
theorem dX2_canAdd_20 : decode cX2_canAdd 20 = .ok (.aload_n 0, 1) := by decide +kernel
theorem dX2_canAdd_21 : decode cX2_canAdd 21 = .ok (.getfield 11, 3) := by decide +kernel
theorem dX2_canAdd_24 : decode cX2_canAdd 24 = .ok (.iload_n 1, 1) := by decide +kernel
theorem dX2_canAdd_25 : decode cX2_canAdd 25 = .ok (.aaload, 1) := by decide +kernel
theorem dX2_canAdd_26 : decode cX2_canAdd 26 = .ok (.iload_n 2, 1) := by decide +kernel
theorem dX2_canAdd_27 : decode cX2_canAdd 27 = .ok (.iaload, 1) := by decide +kernel
theorem dX2_canAdd_28 : decode cX2_canAdd 28 = .ok (.iconst (-1), 1) := by decide +kernel
theorem dX2_canAdd_29 : decode cX2_canAdd 29 = .ok (.if_icmp .ne 7, 3) := by decide +kernel
theorem dX2_canAdd_32 : decode cX2_canAdd 32 = .ok (.iconst 1, 1) := by decide +kernel
theorem dX2_canAdd_33 : decode cX2_canAdd 33 = .ok (.goto 4, 3) := by decide +kernel
theorem dX2_canAdd_36 : decode cX2_canAdd 36 = .ok (.iconst 0, 1) := by decide +kernel
theorem dX2_canAdd_37 : decode cX2_canAdd 37 = .ok (.ireturn, 1) := by decide +kernel
theorem dX2_add_0 : decode cX2_add 0 = .ok (.aload_n 0, 1) := by decide +kernel
theorem dX2_add_1 : decode cX2_add 1 = .ok (.getfield 11, 3) := by decide +kernel
theorem dX2_add_4 : decode cX2_add 4 = .ok (.iload_n 1, 1) := by decide +kernel
theorem dX2_add_5 : decode cX2_add 5 = .ok (.aaload, 1) := by decide +kernel
theorem dX2_add_6 : decode cX2_add 6 = .ok (.iload_n 2, 1) := by decide +kernel
theorem dX2_add_7 : decode cX2_add 7 = .ok (.aload_n 0, 1) := by decide +kernel
theorem dX2_add_8 : decode cX2_add 8 = .ok (.getfield 16, 3) := by decide +kernel
theorem dX2_add_11 : decode cX2_add 11 = .ok (.iload_n 1, 1) := by decide +kernel
theorem dX2_add_12 : decode cX2_add 12 = .ok (.iaload, 1) := by decide +kernel
theorem dX2_add_13 : decode cX2_add 13 = .ok (.iastore, 1) := by decide +kernel
theorem dX2_add_14 : decode cX2_add 14 = .ok (.aload_n 0, 1) := by decide +kernel
theorem dX2_add_15 : decode cX2_add 15 = .ok (.getfield 16, 3) := by decide +kernel
theorem dX2_add_18 : decode cX2_add 18 = .ok (.iload_n 1, 1) := by decide +kernel
theorem dX2_add_19 : decode cX2_add 19 = .ok (.dup2, 1) := by decide +kernel
theorem dX2_add_20 : decode cX2_add 20 = .ok (.iaload, 1) := by decide +kernel
theorem dX2_add_21 : decode cX2_add 21 = .ok (.iconst 1, 1) := by decide +kernel
theorem dX2_add_22 : decode cX2_add 22 = .ok (.iadd, 1) := by decide +kernel
theorem dX2_add_23 : decode cX2_add 23 = .ok (.iastore, 1) := by decide +kernel
theorem dX2_add_24 : decode cX2_add 24 = .ok (.aload_n 0, 1) := by decide +kernel
theorem dX2_add_25 : decode cX2_add 25 = .ok (.getfield 16, 3) := by decide +kernel
theorem dX2_add_28 : decode cX2_add 28 = .ok (.iload_n 1, 1) := by decide +kernel
theorem dX2_add_29 : decode cX2_add 29 = .ok (.iaload, 1) := by decide +kernel
theorem dX2_add_30 : decode cX2_add 30 = .ok (.ireturn, 1) := by decide +kernel
theorem dX2_empty_0 : decode cX2_empty 0 = .ok (.aload_n 0, 1) := by decide +kernel
theorem dX2_empty_1 : decode cX2_empty 1 = .ok (.getfield 16, 3) := by decide +kernel
theorem dX2_empty_4 : decode cX2_empty 4 = .ok (.iload_n 1, 1) := by decide +kernel
theorem dX2_empty_5 : decode cX2_empty 5 = .ok (.iaload, 1) := by decide +kernel
theorem dX2_empty_6 : decode cX2_empty 6 = .ok (.istore_n 2, 1) := by decide +kernel
theorem dX2_empty_7 : decode cX2_empty 7 = .ok (.aload_n 0, 1) := by decide +kernel
theorem dX2_empty_8 : decode cX2_empty 8 = .ok (.getfield 11, 3) := by decide +kernel
theorem dX2_empty_11 : decode cX2_empty 11 = .ok (.iload_n 1, 1) := by decide +kernel
theorem dX2_empty_12 : decode cX2_empty 12 = .ok (.aaload, 1) := by decide +kernel
theorem dX2_empty_13 : decode cX2_empty 13 = .ok (.iconst (-1), 1) := by decide +kernel
theorem dX2_empty_14 : decode cX2_empty 14 = .ok (.invokestatic 35, 3) := by decide +kernel
theorem dX2_empty_17 : decode cX2_empty 17 = .ok (.aload_n 0, 1) := by decide +kernel
theorem dX2_empty_18 : decode cX2_empty 18 = .ok (.getfield 16, 3) := by decide +kernel
theorem dX2_empty_21 : decode cX2_empty 21 = .ok (.iload_n 1, 1) := by decide +kernel
theorem dX2_empty_22 : decode cX2_empty 22 = .ok (.iconst 0, 1) := by decide +kernel
theorem dX2_empty_23 : decode cX2_empty 23 = .ok (.iastore, 1) := by decide +kernel
theorem dX2_empty_24 : decode cX2_empty 24 = .ok (.iload_n 2, 1) := by decide +kernel
theorem dX2_empty_25 : decode cX2_empty 25 = .ok (.ireturn, 1) := by decide +kernel
theorem dX2_at_0 : decode cX2_at 0 = .ok (.iconst 0, 1) := by decide +kernel
theorem dX2_at_1 : decode cX2_at 1 = .ok (.istore_n 3, 1) := by decide +kernel
theorem dX2_at_2 : decode cX2_at 2 = .ok (.iload_n 3, 1) := by decide +kernel
theorem dX2_at_3 : decode cX2_at 3 = .ok (.aload_n 0, 1) := by decide +kernel
theorem dX2_at_4 : decode cX2_at 4 = .ok (.getfield 24, 3) := by decide +kernel
theorem dX2_at_7 : decode cX2_at 7 = .ok (.if_icmp .ge 27, 3) := by decide +kernel
theorem dX2_at_10 : decode cX2_at 10 = .ok (.iload_n 2, 1) := by decide +kernel
theorem dX2_at_11 : decode cX2_at 11 = .ok (.ifCond .lt 17, 3) := by decide +kernel
theorem dX2_at_14 : decode cX2_at 14 = .ok (.aload_n 0, 1) := by decide +kernel
theorem dX2_at_15 : decode cX2_at 15 = .ok (.getfield 11, 3) := by decide +kernel
theorem dX2_at_18 : decode cX2_at 18 = .ok (.iload_n 1, 1) := by decide +kernel
theorem dX2_at_19 : decode cX2_at 19 = .ok (.aaload, 1) := by decide +kernel
theorem dX2_at_20 : decode cX2_at 20 = .ok (.iload_n 3, 1) := by decide +kernel
theorem dX2_at_21 : decode cX2_at 21 = .ok (.iaload, 1) := by decide +kernel
theorem dX2_at_22 : decode cX2_at 22 = .ok (.iload_n 2, 1) := by decide +kernel
theorem dX2_at_23 : decode cX2_at 23 = .ok (.if_icmp .ne 5, 3) := by decide +kernel
theorem dX2_at_26 : decode cX2_at 26 = .ok (.iload_n 3, 1) := by decide +kernel
theorem dX2_at_27 : decode cX2_at 27 = .ok (.ireturn, 1) := by decide +kernel
theorem dX2_at_28 : decode cX2_at 28 = .ok (.iinc 3 1, 3) := by decide +kernel
theorem dX2_at_31 : decode cX2_at 31 = .ok (.goto (-29), 3) := by decide +kernel
theorem dX2_at_34 : decode cX2_at 34 = .ok (.iconst (-1), 1) := by decide +kernel
theorem dX2_at_35 : decode cX2_at 35 = .ok (.ireturn, 1) := by decide +kernel
theorem dX3_init_0 : decode cX3_init 0 = .ok (.aload_n 0, 1) := by decide +kernel
theorem dX3_init_1 : decode cX3_init 1 = .ok (.invokespecial 3, 3) := by decide +kernel
theorem dX3_init_4 : decode cX3_init 4 = .ok (.aload_n 0, 1) := by decide +kernel
theorem dX3_init_5 : decode cX3_init 5 = .ok (.bipush 6, 2) := by decide +kernel
theorem dX3_init_7 : decode cX3_init 7 = .ok (.newarray .int, 2) := by decide +kernel
theorem dX3_init_9 : decode cX3_init 9 = .ok (.putfield 9, 3) := by decide +kernel
theorem dX3_init_12 : decode cX3_init 12 = .ok (.aload_n 0, 1) := by decide +kernel
theorem dX3_init_13 : decode cX3_init 13 = .ok (.aload_n 1, 1) := by decide +kernel
theorem dX3_init_14 : decode cX3_init 14 = .ok (.putfield 15, 3) := by decide +kernel
theorem dX3_init_17 : decode cX3_init 17 = .ok (.aload_n 0, 1) := by decide +kernel
theorem dX3_init_18 : decode cX3_init 18 = .ok (.invokevirtual 19, 3) := by decide +kernel
theorem dX3_init_21 : decode cX3_init 21 = .ok (.return_, 1) := by decide +kernel
theorem dX3_clear_0 : decode cX3_clear 0 = .ok (.aload_n 0, 1) := by decide +kernel
theorem dX3_clear_1 : decode cX3_clear 1 = .ok (.getfield 9, 3) := by decide +kernel
theorem dX3_clear_4 : decode cX3_clear 4 = .ok (.iconst (-1), 1) := by decide +kernel
theorem dX3_clear_5 : decode cX3_clear 5 = .ok (.invokestatic 22, 3) := by decide +kernel
theorem dX3_clear_8 : decode cX3_clear 8 = .ok (.return_, 1) := by decide +kernel
theorem dX3_countAt_0 : decode cX3_countAt 0 = .ok (.iconst 0, 1) := by decide +kernel
theorem dX3_countAt_1 : decode cX3_countAt 1 = .ok (.istore_n 2, 1) := by decide +kernel
theorem dX3_countAt_2 : decode cX3_countAt 2 = .ok (.iconst 0, 1) := by decide +kernel
theorem dX3_countAt_3 : decode cX3_countAt 3 = .ok (.istore_n 3, 1) := by decide +kernel
theorem dX3_countAt_4 : decode cX3_countAt 4 = .ok (.iload_n 3, 1) := by decide +kernel
theorem dX3_countAt_5 : decode cX3_countAt 5 = .ok (.aload_n 0, 1) := by decide +kernel
theorem dX3_countAt_6 : decode cX3_countAt 6 = .ok (.getfield 15, 3) := by decide +kernel
theorem dX3_countAt_9 : decode cX3_countAt 9 = .ok (.getfield 28, 3) := by decide +kernel
theorem dX3_countAt_12 : decode cX3_countAt 12 = .ok (.if_icmp .ge 22, 3) := by decide +kernel
theorem dX3_countAt_15 : decode cX3_countAt 15 = .ok (.aload_n 0, 1) := by decide +kernel
theorem dX3_countAt_16 : decode cX3_countAt 16 = .ok (.getfield 9, 3) := by decide +kernel
theorem dX3_countAt_19 : decode cX3_countAt 19 = .ok (.iload_n 3, 1) := by decide +kernel
theorem dX3_countAt_20 : decode cX3_countAt 20 = .ok (.iaload, 1) := by decide +kernel
theorem dX3_countAt_21 : decode cX3_countAt 21 = .ok (.iload_n 1, 1) := by decide +kernel
theorem dX3_countAt_22 : decode cX3_countAt 22 = .ok (.if_icmp .ne 6, 3) := by decide +kernel
theorem dX3_countAt_25 : decode cX3_countAt 25 = .ok (.iinc 2 1, 3) := by decide +kernel
theorem dX3_countAt_28 : decode cX3_countAt 28 = .ok (.iinc 3 1, 3) := by decide +kernel
theorem dX3_countAt_31 : decode cX3_countAt 31 = .ok (.goto (-27), 3) := by decide +kernel
theorem dX3_countAt_34 : decode cX3_countAt 34 = .ok (.iload_n 2, 1) := by decide +kernel
theorem dX3_countAt_35 : decode cX3_countAt 35 = .ok (.ireturn, 1) := by decide +kernel
theorem dX3_lastAt_0 : decode cX3_lastAt 0 = .ok (.iconst (-1), 1) := by decide +kernel
theorem dX3_lastAt_1 : decode cX3_lastAt 1 = .ok (.istore_n 2, 1) := by decide +kernel
theorem dX3_lastAt_2 : decode cX3_lastAt 2 = .ok (.iconst 0, 1) := by decide +kernel
theorem dX3_lastAt_3 : decode cX3_lastAt 3 = .ok (.istore_n 3, 1) := by decide +kernel
theorem dX3_lastAt_4 : decode cX3_lastAt 4 = .ok (.iload_n 3, 1) := by decide +kernel
theorem dX3_lastAt_5 : decode cX3_lastAt 5 = .ok (.aload_n 0, 1) := by decide +kernel
theorem dX3_lastAt_6 : decode cX3_lastAt 6 = .ok (.getfield 15, 3) := by decide +kernel
theorem dX3_lastAt_9 : decode cX3_lastAt 9 = .ok (.getfield 28, 3) := by decide +kernel
theorem dX3_lastAt_12 : decode cX3_lastAt 12 = .ok (.if_icmp .ge 47, 3) := by decide +kernel
theorem dX3_lastAt_15 : decode cX3_lastAt 15 = .ok (.aload_n 0, 1) := by decide +kernel
theorem dX3_lastAt_16 : decode cX3_lastAt 16 = .ok (.getfield 9, 3) := by decide +kernel
theorem dX3_lastAt_19 : decode cX3_lastAt 19 = .ok (.iload_n 3, 1) := by decide +kernel
theorem dX3_lastAt_20 : decode cX3_lastAt 20 = .ok (.iaload, 1) := by decide +kernel
theorem dX3_lastAt_21 : decode cX3_lastAt 21 = .ok (.iload_n 1, 1) := by decide +kernel
theorem dX3_lastAt_22 : decode cX3_lastAt 22 = .ok (.if_icmp .ne 31, 3) := by decide +kernel
theorem dX3_lastAt_25 : decode cX3_lastAt 25 = .ok (.iload_n 2, 1) := by decide +kernel
theorem dX3_lastAt_26 : decode cX3_lastAt 26 = .ok (.iconst (-1), 1) := by decide +kernel
theorem dX3_lastAt_27 : decode cX3_lastAt 27 = .ok (.if_icmp .eq 24, 3) := by decide +kernel
theorem dX3_lastAt_30 : decode cX3_lastAt 30 = .ok (.aload_n 0, 1) := by decide +kernel
theorem dX3_lastAt_31 : decode cX3_lastAt 31 = .ok (.getfield 15, 3) := by decide +kernel
theorem dX3_lastAt_34 : decode cX3_lastAt 34 = .ok (.iload_n 1, 1) := by decide +kernel
theorem dX3_lastAt_35 : decode cX3_lastAt 35 = .ok (.iload_n 3, 1) := by decide +kernel
theorem dX3_lastAt_36 : decode cX3_lastAt 36 = .ok (.invokevirtual 34, 3) := by decide +kernel
theorem dX3_lastAt_39 : decode cX3_lastAt 39 = .ok (.aload_n 0, 1) := by decide +kernel
theorem dX3_lastAt_40 : decode cX3_lastAt 40 = .ok (.getfield 15, 3) := by decide +kernel
theorem dX3_lastAt_43 : decode cX3_lastAt 43 = .ok (.iload_n 1, 1) := by decide +kernel
theorem dX3_lastAt_44 : decode cX3_lastAt 44 = .ok (.iload_n 2, 1) := by decide +kernel
theorem dX3_lastAt_45 : decode cX3_lastAt 45 = .ok (.invokevirtual 34, 3) := by decide +kernel
theorem dX3_lastAt_48 : decode cX3_lastAt 48 = .ok (.if_icmp .le 5, 3) := by decide +kernel
theorem dX3_lastAt_51 : decode cX3_lastAt 51 = .ok (.iload_n 3, 1) := by decide +kernel
theorem dX3_lastAt_52 : decode cX3_lastAt 52 = .ok (.istore_n 2, 1) := by decide +kernel
theorem dX3_lastAt_53 : decode cX3_lastAt 53 = .ok (.iinc 3 1, 3) := by decide +kernel
theorem dX3_lastAt_56 : decode cX3_lastAt 56 = .ok (.goto (-52), 3) := by decide +kernel
theorem dX3_lastAt_59 : decode cX3_lastAt 59 = .ok (.iload_n 2, 1) := by decide +kernel
theorem dX3_lastAt_60 : decode cX3_lastAt 60 = .ok (.ireturn, 1) := by decide +kernel
theorem dX3_isMatching_0 : decode cX3_isMatching 0 = .ok (.iconst 0, 1) := by decide +kernel
theorem dX3_isMatching_1 : decode cX3_isMatching 1 = .ok (.istore_n 1, 1) := by decide +kernel
theorem dX3_isMatching_2 : decode cX3_isMatching 2 = .ok (.iload_n 1, 1) := by decide +kernel
theorem dX3_isMatching_3 : decode cX3_isMatching 3 = .ok (.aload_n 0, 1) := by decide +kernel
theorem dX3_isMatching_4 : decode cX3_isMatching 4 = .ok (.getfield 15, 3) := by decide +kernel
theorem dX3_isMatching_7 : decode cX3_isMatching 7 = .ok (.getfield 28, 3) := by decide +kernel
theorem dX3_isMatching_10 : decode cX3_isMatching 10 = .ok (.if_icmp .ge 52, 3) := by decide +kernel
theorem dX3_isMatching_13 : decode cX3_isMatching 13 = .ok (.aload_n 0, 1) := by decide +kernel
theorem dX3_isMatching_14 : decode cX3_isMatching 14 = .ok (.getfield 9, 3) := by decide +kernel
theorem dX3_isMatching_17 : decode cX3_isMatching 17 = .ok (.iload_n 1, 1) := by decide +kernel
theorem dX3_isMatching_18 : decode cX3_isMatching 18 = .ok (.iaload, 1) := by decide +kernel
theorem dX3_isMatching_19 : decode cX3_isMatching 19 = .ok (.istore_n 2, 1) := by decide +kernel
theorem dX3_isMatching_20 : decode cX3_isMatching 20 = .ok (.iload_n 2, 1) := by decide +kernel
theorem dX3_isMatching_21 : decode cX3_isMatching 21 = .ok (.iconst (-1), 1) := by decide +kernel
theorem dX3_isMatching_22 : decode cX3_isMatching 22 = .ok (.if_icmp .eq 34, 3) := by decide +kernel
theorem dX3_isMatching_25 : decode cX3_isMatching 25 = .ok (.aload_n 0, 1) := by decide +kernel
theorem dX3_isMatching_26 : decode cX3_isMatching 26 = .ok (.getfield 15, 3) := by decide +kernel
theorem dX3_isMatching_29 : decode cX3_isMatching 29 = .ok (.iload_n 1, 1) := by decide +kernel
theorem dX3_isMatching_30 : decode cX3_isMatching 30 = .ok (.iload_n 2, 1) := by decide +kernel
theorem dX3_isMatching_31 : decode cX3_isMatching 31 = .ok (.invokevirtual 38, 3) := by decide +kernel
theorem dX3_isMatching_34 : decode cX3_isMatching 34 = .ok (.ifCond .eq 20, 3) := by decide +kernel
theorem dX3_isMatching_37 : decode cX3_isMatching 37 = .ok (.aload_n 0, 1) := by decide +kernel
theorem dX3_isMatching_38 : decode cX3_isMatching 38 = .ok (.iload_n 2, 1) := by decide +kernel
theorem dX3_isMatching_39 : decode cX3_isMatching 39 = .ok (.invokevirtual 42, 3) := by decide +kernel
theorem dX3_isMatching_42 : decode cX3_isMatching 42 = .ok (.aload_n 0, 1) := by decide +kernel
theorem dX3_isMatching_43 : decode cX3_isMatching 43 = .ok (.getfield 15, 3) := by decide +kernel
theorem dX3_isMatching_46 : decode cX3_isMatching 46 = .ok (.getfield 46, 3) := by decide +kernel
theorem dX3_isMatching_49 : decode cX3_isMatching 49 = .ok (.iload_n 2, 1) := by decide +kernel
theorem dX3_isMatching_50 : decode cX3_isMatching 50 = .ok (.iaload, 1) := by decide +kernel
theorem dX3_isMatching_51 : decode cX3_isMatching 51 = .ok (.if_icmp .le 5, 3) := by decide +kernel
theorem dX3_isMatching_54 : decode cX3_isMatching 54 = .ok (.iconst 0, 1) := by decide +kernel
theorem dX3_isMatching_55 : decode cX3_isMatching 55 = .ok (.ireturn, 1) := by decide +kernel
theorem dX3_isMatching_56 : decode cX3_isMatching 56 = .ok (.iinc 1 1, 3) := by decide +kernel
theorem dX3_isMatching_59 : decode cX3_isMatching 59 = .ok (.goto (-57), 3) := by decide +kernel
theorem dX3_isMatching_62 : decode cX3_isMatching 62 = .ok (.iconst 1, 1) := by decide +kernel
theorem dX3_isMatching_63 : decode cX3_isMatching 63 = .ok (.ireturn, 1) := by decide +kernel
theorem dX3_isStable_0 : decode cX3_isStable 0 = .ok (.aload_n 0, 1) := by decide +kernel
theorem dX3_isStable_1 : decode cX3_isStable 1 = .ok (.invokevirtual 49, 3) := by decide +kernel
theorem dX3_isStable_4 : decode cX3_isStable 4 = .ok (.ifCond .eq 16, 3) := by decide +kernel
theorem dX3_isStable_7 : decode cX3_isStable 7 = .ok (.aload_n 0, 1) := by decide +kernel
theorem dX3_isStable_8 : decode cX3_isStable 8 = .ok (.iconst 0, 1) := by decide +kernel
theorem dX3_isStable_9 : decode cX3_isStable 9 = .ok (.invokevirtual 53, 3) := by decide +kernel
theorem dX3_isStable_12 : decode cX3_isStable 12 = .ok (.iconst (-1), 1) := by decide +kernel
theorem dX3_isStable_13 : decode cX3_isStable 13 = .ok (.if_icmp .ne 7, 3) := by decide +kernel
theorem dX3_isStable_16 : decode cX3_isStable 16 = .ok (.iconst 1, 1) := by decide +kernel
theorem dX3_isStable_17 : decode cX3_isStable 17 = .ok (.goto 4, 3) := by decide +kernel
theorem dX3_isStable_20 : decode cX3_isStable 20 = .ok (.iconst 0, 1) := by decide +kernel
theorem dX3_isStable_21 : decode cX3_isStable 21 = .ok (.ireturn, 1) := by decide +kernel
theorem dX3_countBlocking_0 : decode cX3_countBlocking 0 = .ok (.iconst 0, 1) := by decide +kernel
theorem dX3_countBlocking_1 : decode cX3_countBlocking 1 = .ok (.istore_n 1, 1) := by decide +kernel
theorem dX3_countBlocking_2 : decode cX3_countBlocking 2 = .ok (.iconst 0, 1) := by decide +kernel
theorem dX3_countBlocking_3 : decode cX3_countBlocking 3 = .ok (.istore_n 2, 1) := by decide +kernel
theorem dX3_countBlocking_4 : decode cX3_countBlocking 4 = .ok (.iload_n 2, 1) := by decide +kernel
theorem dX3_countBlocking_5 : decode cX3_countBlocking 5 = .ok (.aload_n 0, 1) := by decide +kernel
theorem dX3_countBlocking_6 : decode cX3_countBlocking 6 = .ok (.getfield 15, 3) := by decide +kernel
theorem dX3_countBlocking_9 : decode cX3_countBlocking 9 = .ok (.getfield 28, 3) := by decide +kernel
theorem dX3_countBlocking_12 : decode cX3_countBlocking 12 = .ok (.if_icmp .ge 40, 3) := by decide +kernel
theorem dX3_countBlocking_15 : decode cX3_countBlocking 15 = .ok (.iconst 0, 1) := by decide +kernel
theorem dX3_countBlocking_16 : decode cX3_countBlocking 16 = .ok (.istore_n 3, 1) := by decide +kernel
theorem dX3_countBlocking_17 : decode cX3_countBlocking 17 = .ok (.iload_n 3, 1) := by decide +kernel
theorem dX3_countBlocking_18 : decode cX3_countBlocking 18 = .ok (.aload_n 0, 1) := by decide +kernel
theorem dX3_countBlocking_19 : decode cX3_countBlocking 19 = .ok (.getfield 15, 3) := by decide +kernel
theorem dX3_countBlocking_22 : decode cX3_countBlocking 22 = .ok (.getfield 56, 3) := by decide +kernel
theorem dX3_countBlocking_25 : decode cX3_countBlocking 25 = .ok (.if_icmp .ge 21, 3) := by decide +kernel
theorem dX3_countBlocking_28 : decode cX3_countBlocking 28 = .ok (.aload_n 0, 1) := by decide +kernel
theorem dX3_countBlocking_29 : decode cX3_countBlocking 29 = .ok (.iload_n 2, 1) := by decide +kernel
theorem dX3_countBlocking_30 : decode cX3_countBlocking 30 = .ok (.iload_n 3, 1) := by decide +kernel
theorem dX3_countBlocking_31 : decode cX3_countBlocking 31 = .ok (.invokevirtual 59, 3) := by decide +kernel
theorem dX3_countBlocking_34 : decode cX3_countBlocking 34 = .ok (.ifCond .eq 6, 3) := by decide +kernel
theorem dX3_countBlocking_37 : decode cX3_countBlocking 37 = .ok (.iinc 1 1, 3) := by decide +kernel
theorem dX3_countBlocking_40 : decode cX3_countBlocking 40 = .ok (.iinc 3 1, 3) := by decide +kernel
theorem dX3_countBlocking_43 : decode cX3_countBlocking 43 = .ok (.goto (-26), 3) := by decide +kernel
theorem dX3_countBlocking_46 : decode cX3_countBlocking 46 = .ok (.iinc 2 1, 3) := by decide +kernel
theorem dX3_countBlocking_49 : decode cX3_countBlocking 49 = .ok (.goto (-45), 3) := by decide +kernel
theorem dX3_countBlocking_52 : decode cX3_countBlocking 52 = .ok (.iload_n 1, 1) := by decide +kernel
theorem dX3_countBlocking_53 : decode cX3_countBlocking 53 = .ok (.ireturn, 1) := by decide +kernel
theorem dX3_blockingPair_0 : decode cX3_blockingPair 0 = .ok (.iconst 0, 1) := by decide +kernel
theorem dX3_blockingPair_1 : decode cX3_blockingPair 1 = .ok (.istore_n 2, 1) := by decide +kernel
theorem dX3_blockingPair_2 : decode cX3_blockingPair 2 = .ok (.iconst 0, 1) := by decide +kernel
theorem dX3_blockingPair_3 : decode cX3_blockingPair 3 = .ok (.istore_n 3, 1) := by decide +kernel
theorem dX3_blockingPair_4 : decode cX3_blockingPair 4 = .ok (.iload_n 3, 1) := by decide +kernel
theorem dX3_blockingPair_5 : decode cX3_blockingPair 5 = .ok (.aload_n 0, 1) := by decide +kernel
theorem dX3_blockingPair_6 : decode cX3_blockingPair 6 = .ok (.getfield 15, 3) := by decide +kernel
theorem dX3_blockingPair_9 : decode cX3_blockingPair 9 = .ok (.getfield 28, 3) := by decide +kernel
theorem dX3_blockingPair_12 : decode cX3_blockingPair 12 = .ok (.if_icmp .ge 56, 3) := by decide +kernel
theorem dX3_blockingPair_15 : decode cX3_blockingPair 15 = .ok (.iconst 0, 1) := by decide +kernel
theorem dX3_blockingPair_16 : decode cX3_blockingPair 16 = .ok (.istore 4, 2) := by decide +kernel
theorem dX3_blockingPair_18 : decode cX3_blockingPair 18 = .ok (.iload 4, 2) := by decide +kernel
theorem dX3_blockingPair_20 : decode cX3_blockingPair 20 = .ok (.aload_n 0, 1) := by decide +kernel
theorem dX3_blockingPair_21 : decode cX3_blockingPair 21 = .ok (.getfield 15, 3) := by decide +kernel
theorem dX3_blockingPair_24 : decode cX3_blockingPair 24 = .ok (.getfield 56, 3) := by decide +kernel
theorem dX3_blockingPair_27 : decode cX3_blockingPair 27 = .ok (.if_icmp .ge 35, 3) := by decide +kernel
theorem dX3_blockingPair_30 : decode cX3_blockingPair 30 = .ok (.aload_n 0, 1) := by decide +kernel
theorem dX3_blockingPair_31 : decode cX3_blockingPair 31 = .ok (.iload_n 3, 1) := by decide +kernel
theorem dX3_blockingPair_32 : decode cX3_blockingPair 32 = .ok (.iload 4, 2) := by decide +kernel
theorem dX3_blockingPair_34 : decode cX3_blockingPair 34 = .ok (.invokevirtual 59, 3) := by decide +kernel
theorem dX3_blockingPair_37 : decode cX3_blockingPair 37 = .ok (.ifCond .eq 19, 3) := by decide +kernel
theorem dX3_blockingPair_40 : decode cX3_blockingPair 40 = .ok (.iload_n 2, 1) := by decide +kernel
theorem dX3_blockingPair_41 : decode cX3_blockingPair 41 = .ok (.iload_n 1, 1) := by decide +kernel
theorem dX3_blockingPair_42 : decode cX3_blockingPair 42 = .ok (.if_icmp .ne 11, 3) := by decide +kernel
theorem dX3_blockingPair_45 : decode cX3_blockingPair 45 = .ok (.bipush 8, 2) := by decide +kernel
theorem dX3_blockingPair_47 : decode cX3_blockingPair 47 = .ok (.iload_n 3, 1) := by decide +kernel
theorem dX3_blockingPair_48 : decode cX3_blockingPair 48 = .ok (.imul, 1) := by decide +kernel
theorem dX3_blockingPair_49 : decode cX3_blockingPair 49 = .ok (.iload 4, 2) := by decide +kernel
theorem dX3_blockingPair_51 : decode cX3_blockingPair 51 = .ok (.iadd, 1) := by decide +kernel
theorem dX3_blockingPair_52 : decode cX3_blockingPair 52 = .ok (.ireturn, 1) := by decide +kernel
theorem dX3_blockingPair_53 : decode cX3_blockingPair 53 = .ok (.iinc 2 1, 3) := by decide +kernel
theorem dX3_blockingPair_56 : decode cX3_blockingPair 56 = .ok (.iinc 4 1, 3) := by decide +kernel
theorem dX3_blockingPair_59 : decode cX3_blockingPair 59 = .ok (.goto (-41), 3) := by decide +kernel
theorem dX3_blockingPair_62 : decode cX3_blockingPair 62 = .ok (.iinc 3 1, 3) := by decide +kernel
theorem dX3_blockingPair_65 : decode cX3_blockingPair 65 = .ok (.goto (-61), 3) := by decide +kernel
theorem dX3_blockingPair_68 : decode cX3_blockingPair 68 = .ok (.iconst (-1), 1) := by decide +kernel
theorem dX3_blockingPair_69 : decode cX3_blockingPair 69 = .ok (.ireturn, 1) := by decide +kernel
theorem dX3_isBlockedBy_0 : decode cX3_isBlockedBy 0 = .ok (.aload_n 0, 1) := by decide +kernel
theorem dX3_isBlockedBy_1 : decode cX3_isBlockedBy 1 = .ok (.getfield 15, 3) := by decide +kernel
theorem dX3_isBlockedBy_4 : decode cX3_isBlockedBy 4 = .ok (.iload_n 1, 1) := by decide +kernel
theorem dX3_isBlockedBy_5 : decode cX3_isBlockedBy 5 = .ok (.iload_n 2, 1) := by decide +kernel
theorem dX3_isBlockedBy_6 : decode cX3_isBlockedBy 6 = .ok (.invokevirtual 38, 3) := by decide +kernel
theorem dX3_isBlockedBy_9 : decode cX3_isBlockedBy 9 = .ok (.ifCond .eq 25, 3) := by decide +kernel
theorem dX3_isBlockedBy_12 : decode cX3_isBlockedBy 12 = .ok (.aload_n 0, 1) := by decide +kernel
theorem dX3_isBlockedBy_13 : decode cX3_isBlockedBy 13 = .ok (.iload_n 1, 1) := by decide +kernel
theorem dX3_isBlockedBy_14 : decode cX3_isBlockedBy 14 = .ok (.iload_n 2, 1) := by decide +kernel
theorem dX3_isBlockedBy_15 : decode cX3_isBlockedBy 15 = .ok (.invokevirtual 62, 3) := by decide +kernel
theorem dX3_isBlockedBy_18 : decode cX3_isBlockedBy 18 = .ok (.ifCond .eq 16, 3) := by decide +kernel
theorem dX3_isBlockedBy_21 : decode cX3_isBlockedBy 21 = .ok (.aload_n 0, 1) := by decide +kernel
theorem dX3_isBlockedBy_22 : decode cX3_isBlockedBy 22 = .ok (.iload_n 2, 1) := by decide +kernel
theorem dX3_isBlockedBy_23 : decode cX3_isBlockedBy 23 = .ok (.iload_n 1, 1) := by decide +kernel
theorem dX3_isBlockedBy_24 : decode cX3_isBlockedBy 24 = .ok (.invokevirtual 65, 3) := by decide +kernel
theorem dX3_isBlockedBy_27 : decode cX3_isBlockedBy 27 = .ok (.ifCond .eq 7, 3) := by decide +kernel
theorem dX3_isBlockedBy_30 : decode cX3_isBlockedBy 30 = .ok (.iconst 1, 1) := by decide +kernel
theorem dX3_isBlockedBy_31 : decode cX3_isBlockedBy 31 = .ok (.goto 4, 3) := by decide +kernel
theorem dX3_isBlockedBy_34 : decode cX3_isBlockedBy 34 = .ok (.iconst 0, 1) := by decide +kernel
theorem dX3_isBlockedBy_35 : decode cX3_isBlockedBy 35 = .ok (.ireturn, 1) := by decide +kernel
theorem dX3_wouldGo_0 : decode cX3_wouldGo 0 = .ok (.aload_n 0, 1) := by decide +kernel
theorem dX3_wouldGo_1 : decode cX3_wouldGo 1 = .ok (.getfield 15, 3) := by decide +kernel
theorem dX3_wouldGo_4 : decode cX3_wouldGo 4 = .ok (.getfield 68, 3) := by decide +kernel
theorem dX3_wouldGo_7 : decode cX3_wouldGo 7 = .ok (.getfield 72, 3) := by decide +kernel
theorem dX3_wouldGo_10 : decode cX3_wouldGo 10 = .ok (.iload_n 1, 1) := by decide +kernel
theorem dX3_wouldGo_11 : decode cX3_wouldGo 11 = .ok (.aaload, 1) := by decide +kernel
theorem dX3_wouldGo_12 : decode cX3_wouldGo 12 = .ok (.astore_n 3, 1) := by decide +kernel
theorem dX3_wouldGo_13 : decode cX3_wouldGo 13 = .ok (.aload_n 0, 1) := by decide +kernel
theorem dX3_wouldGo_14 : decode cX3_wouldGo 14 = .ok (.getfield 9, 3) := by decide +kernel
theorem dX3_wouldGo_17 : decode cX3_wouldGo 17 = .ok (.iload_n 1, 1) := by decide +kernel
theorem dX3_wouldGo_18 : decode cX3_wouldGo 18 = .ok (.iaload, 1) := by decide +kernel
theorem dX3_wouldGo_19 : decode cX3_wouldGo 19 = .ok (.istore 4, 2) := by decide +kernel
theorem dX3_wouldGo_21 : decode cX3_wouldGo 21 = .ok (.iload 4, 2) := by decide +kernel
theorem dX3_wouldGo_23 : decode cX3_wouldGo 23 = .ok (.iconst (-1), 1) := by decide +kernel
theorem dX3_wouldGo_24 : decode cX3_wouldGo 24 = .ok (.if_icmp .eq 13, 3) := by decide +kernel
theorem dX3_wouldGo_27 : decode cX3_wouldGo 27 = .ok (.aload_n 3, 1) := by decide +kernel
theorem dX3_wouldGo_28 : decode cX3_wouldGo 28 = .ok (.iload_n 2, 1) := by decide +kernel
theorem dX3_wouldGo_29 : decode cX3_wouldGo 29 = .ok (.iaload, 1) := by decide +kernel
theorem dX3_wouldGo_30 : decode cX3_wouldGo 30 = .ok (.aload_n 3, 1) := by decide +kernel
theorem dX3_wouldGo_31 : decode cX3_wouldGo 31 = .ok (.iload 4, 2) := by decide +kernel
theorem dX3_wouldGo_33 : decode cX3_wouldGo 33 = .ok (.iaload, 1) := by decide +kernel
theorem dX3_wouldGo_34 : decode cX3_wouldGo 34 = .ok (.if_icmp .ge 7, 3) := by decide +kernel
theorem dX3_wouldGo_37 : decode cX3_wouldGo 37 = .ok (.iconst 1, 1) := by decide +kernel
theorem dX3_wouldGo_38 : decode cX3_wouldGo 38 = .ok (.goto 4, 3) := by decide +kernel
theorem dX3_wouldGo_41 : decode cX3_wouldGo 41 = .ok (.iconst 0, 1) := by decide +kernel
theorem dX3_wouldGo_42 : decode cX3_wouldGo 42 = .ok (.ireturn, 1) := by decide +kernel
theorem dX3_wouldGet_0 : decode cX3_wouldGet 0 = .ok (.aload_n 0, 1) := by decide +kernel
theorem dX3_wouldGet_1 : decode cX3_wouldGet 1 = .ok (.getfield 15, 3) := by decide +kernel
theorem dX3_wouldGet_4 : decode cX3_wouldGet 4 = .ok (.getfield 78, 3) := by decide +kernel
theorem dX3_wouldGet_7 : decode cX3_wouldGet 7 = .ok (.getfield 72, 3) := by decide +kernel
theorem dX3_wouldGet_10 : decode cX3_wouldGet 10 = .ok (.iload_n 1, 1) := by decide +kernel
theorem dX3_wouldGet_11 : decode cX3_wouldGet 11 = .ok (.aaload, 1) := by decide +kernel
theorem dX3_wouldGet_12 : decode cX3_wouldGet 12 = .ok (.astore_n 3, 1) := by decide +kernel
theorem dX3_wouldGet_13 : decode cX3_wouldGet 13 = .ok (.iconst 0, 1) := by decide +kernel
theorem dX3_wouldGet_14 : decode cX3_wouldGet 14 = .ok (.istore 4, 2) := by decide +kernel
theorem dX3_wouldGet_16 : decode cX3_wouldGet 16 = .ok (.iconst 0, 1) := by decide +kernel
theorem dX3_wouldGet_17 : decode cX3_wouldGet 17 = .ok (.istore 5, 2) := by decide +kernel
theorem dX3_wouldGet_19 : decode cX3_wouldGet 19 = .ok (.iload 5, 2) := by decide +kernel
theorem dX3_wouldGet_21 : decode cX3_wouldGet 21 = .ok (.aload_n 0, 1) := by decide +kernel
theorem dX3_wouldGet_22 : decode cX3_wouldGet 22 = .ok (.getfield 15, 3) := by decide +kernel
theorem dX3_wouldGet_25 : decode cX3_wouldGet 25 = .ok (.getfield 28, 3) := by decide +kernel
theorem dX3_wouldGet_28 : decode cX3_wouldGet 28 = .ok (.if_icmp .ge 35, 3) := by decide +kernel
theorem dX3_wouldGet_31 : decode cX3_wouldGet 31 = .ok (.aload_n 0, 1) := by decide +kernel
theorem dX3_wouldGet_32 : decode cX3_wouldGet 32 = .ok (.getfield 9, 3) := by decide +kernel
theorem dX3_wouldGet_35 : decode cX3_wouldGet 35 = .ok (.iload 5, 2) := by decide +kernel
theorem dX3_wouldGet_37 : decode cX3_wouldGet 37 = .ok (.iaload, 1) := by decide +kernel
theorem dX3_wouldGet_38 : decode cX3_wouldGet 38 = .ok (.iload_n 1, 1) := by decide +kernel
theorem dX3_wouldGet_39 : decode cX3_wouldGet 39 = .ok (.if_icmp .ne 18, 3) := by decide +kernel
theorem dX3_wouldGet_42 : decode cX3_wouldGet 42 = .ok (.iinc 4 1, 3) := by decide +kernel
theorem dX3_wouldGet_45 : decode cX3_wouldGet 45 = .ok (.aload_n 3, 1) := by decide +kernel
theorem dX3_wouldGet_46 : decode cX3_wouldGet 46 = .ok (.iload_n 2, 1) := by decide +kernel
theorem dX3_wouldGet_47 : decode cX3_wouldGet 47 = .ok (.iaload, 1) := by decide +kernel
theorem dX3_wouldGet_48 : decode cX3_wouldGet 48 = .ok (.aload_n 3, 1) := by decide +kernel
theorem dX3_wouldGet_49 : decode cX3_wouldGet 49 = .ok (.iload 5, 2) := by decide +kernel
theorem dX3_wouldGet_51 : decode cX3_wouldGet 51 = .ok (.iaload, 1) := by decide +kernel
theorem dX3_wouldGet_52 : decode cX3_wouldGet 52 = .ok (.if_icmp .ge 5, 3) := by decide +kernel
theorem dX3_wouldGet_55 : decode cX3_wouldGet 55 = .ok (.iconst 1, 1) := by decide +kernel
theorem dX3_wouldGet_56 : decode cX3_wouldGet 56 = .ok (.ireturn, 1) := by decide +kernel
theorem dX3_wouldGet_57 : decode cX3_wouldGet 57 = .ok (.iinc 5 1, 3) := by decide +kernel
theorem dX3_wouldGet_60 : decode cX3_wouldGet 60 = .ok (.goto (-41), 3) := by decide +kernel
theorem dX3_wouldGet_63 : decode cX3_wouldGet 63 = .ok (.iload 4, 2) := by decide +kernel
theorem dX3_wouldGet_65 : decode cX3_wouldGet 65 = .ok (.aload_n 0, 1) := by decide +kernel
theorem dX3_wouldGet_66 : decode cX3_wouldGet 66 = .ok (.getfield 15, 3) := by decide +kernel
theorem dX3_wouldGet_69 : decode cX3_wouldGet 69 = .ok (.getfield 46, 3) := by decide +kernel
theorem dX3_wouldGet_72 : decode cX3_wouldGet 72 = .ok (.iload_n 1, 1) := by decide +kernel
theorem dX3_wouldGet_73 : decode cX3_wouldGet 73 = .ok (.iaload, 1) := by decide +kernel
theorem dX3_wouldGet_74 : decode cX3_wouldGet 74 = .ok (.if_icmp .ge 7, 3) := by decide +kernel
theorem dX3_wouldGet_77 : decode cX3_wouldGet 77 = .ok (.iconst 1, 1) := by decide +kernel
theorem dX3_wouldGet_78 : decode cX3_wouldGet 78 = .ok (.goto 4, 3) := by decide +kernel
theorem dX3_wouldGet_81 : decode cX3_wouldGet 81 = .ok (.iconst 0, 1) := by decide +kernel
theorem dX3_wouldGet_82 : decode cX3_wouldGet 82 = .ok (.ireturn, 1) := by decide +kernel
theorem dX3_isRival_0 : decode cX3_isRival 0 = .ok (.aload_n 0, 1) := by decide +kernel
theorem dX3_isRival_1 : decode cX3_isRival 1 = .ok (.getfield 9, 3) := by decide +kernel
theorem dX3_isRival_4 : decode cX3_isRival 4 = .ok (.iload_n 2, 1) := by decide +kernel
theorem dX3_isRival_5 : decode cX3_isRival 5 = .ok (.iaload, 1) := by decide +kernel
theorem dX3_isRival_6 : decode cX3_isRival 6 = .ok (.istore_n 3, 1) := by decide +kernel
theorem dX3_isRival_7 : decode cX3_isRival 7 = .ok (.iload_n 3, 1) := by decide +kernel
theorem dX3_isRival_8 : decode cX3_isRival 8 = .ok (.iconst (-1), 1) := by decide +kernel
theorem dX3_isRival_9 : decode cX3_isRival 9 = .ok (.if_icmp .eq 49, 3) := by decide +kernel
theorem dX3_isRival_12 : decode cX3_isRival 12 = .ok (.aload_n 0, 1) := by decide +kernel
theorem dX3_isRival_13 : decode cX3_isRival 13 = .ok (.getfield 15, 3) := by decide +kernel
theorem dX3_isRival_16 : decode cX3_isRival 16 = .ok (.iload_n 1, 1) := by decide +kernel
theorem dX3_isRival_17 : decode cX3_isRival 17 = .ok (.iload_n 3, 1) := by decide +kernel
theorem dX3_isRival_18 : decode cX3_isRival 18 = .ok (.invokevirtual 38, 3) := by decide +kernel
theorem dX3_isRival_21 : decode cX3_isRival 21 = .ok (.ifCond .eq 37, 3) := by decide +kernel
theorem dX3_isRival_24 : decode cX3_isRival 24 = .ok (.aload_n 0, 1) := by decide +kernel
theorem dX3_isRival_25 : decode cX3_isRival 25 = .ok (.iload_n 1, 1) := by decide +kernel
theorem dX3_isRival_26 : decode cX3_isRival 26 = .ok (.iload_n 3, 1) := by decide +kernel
theorem dX3_isRival_27 : decode cX3_isRival 27 = .ok (.invokevirtual 62, 3) := by decide +kernel
theorem dX3_isRival_30 : decode cX3_isRival 30 = .ok (.ifCond .eq 28, 3) := by decide +kernel
theorem dX3_isRival_33 : decode cX3_isRival 33 = .ok (.aload_n 0, 1) := by decide +kernel
theorem dX3_isRival_34 : decode cX3_isRival 34 = .ok (.getfield 15, 3) := by decide +kernel
theorem dX3_isRival_37 : decode cX3_isRival 37 = .ok (.iload_n 3, 1) := by decide +kernel
theorem dX3_isRival_38 : decode cX3_isRival 38 = .ok (.iload_n 1, 1) := by decide +kernel
theorem dX3_isRival_39 : decode cX3_isRival 39 = .ok (.invokevirtual 34, 3) := by decide +kernel
theorem dX3_isRival_42 : decode cX3_isRival 42 = .ok (.aload_n 0, 1) := by decide +kernel
theorem dX3_isRival_43 : decode cX3_isRival 43 = .ok (.getfield 15, 3) := by decide +kernel
theorem dX3_isRival_46 : decode cX3_isRival 46 = .ok (.iload_n 3, 1) := by decide +kernel
theorem dX3_isRival_47 : decode cX3_isRival 47 = .ok (.iload_n 2, 1) := by decide +kernel
theorem dX3_isRival_48 : decode cX3_isRival 48 = .ok (.invokevirtual 34, 3) := by decide +kernel
theorem dX3_isRival_51 : decode cX3_isRival 51 = .ok (.if_icmp .ge 7, 3) := by decide +kernel
theorem dX3_isRival_54 : decode cX3_isRival 54 = .ok (.iconst 1, 1) := by decide +kernel
theorem dX3_isRival_55 : decode cX3_isRival 55 = .ok (.goto 4, 3) := by decide +kernel
theorem dX3_isRival_58 : decode cX3_isRival 58 = .ok (.iconst 0, 1) := by decide +kernel
theorem dX3_isRival_59 : decode cX3_isRival 59 = .ok (.ireturn, 1) := by decide +kernel
theorem dX4_init_0 : decode cX4_init 0 = .ok (.aload_n 0, 1) := by decide +kernel
theorem dX4_init_1 : decode cX4_init 1 = .ok (.invokespecial 3, 3) := by decide +kernel
theorem dX4_init_4 : decode cX4_init 4 = .ok (.aload_n 0, 1) := by decide +kernel
theorem dX4_init_5 : decode cX4_init 5 = .ok (.bipush 15, 2) := by decide +kernel
theorem dX4_init_7 : decode cX4_init 7 = .ok (.newarray .int, 2) := by decide +kernel
theorem dX4_init_9 : decode cX4_init 9 = .ok (.putfield 9, 3) := by decide +kernel
theorem dX4_init_12 : decode cX4_init 12 = .ok (.aload_n 0, 1) := by decide +kernel
theorem dX4_init_13 : decode cX4_init 13 = .ok (.bipush 15, 2) := by decide +kernel
theorem dX4_init_15 : decode cX4_init 15 = .ok (.newarray .int, 2) := by decide +kernel
theorem dX4_init_17 : decode cX4_init 17 = .ok (.putfield 15, 3) := by decide +kernel
theorem dX4_init_20 : decode cX4_init 20 = .ok (.aload_n 0, 1) := by decide +kernel
theorem dX4_init_21 : decode cX4_init 21 = .ok (.bipush 15, 2) := by decide +kernel
theorem dX4_init_23 : decode cX4_init 23 = .ok (.newarray .int, 2) := by decide +kernel
theorem dX4_init_25 : decode cX4_init 25 = .ok (.putfield 18, 3) := by decide +kernel
theorem dX4_init_28 : decode cX4_init 28 = .ok (.aload_n 0, 1) := by decide +kernel
theorem dX4_init_29 : decode cX4_init 29 = .ok (.sipush 216, 3) := by decide +kernel
theorem dX4_init_32 : decode cX4_init 32 = .ok (.newarray .int, 2) := by decide +kernel
theorem dX4_init_34 : decode cX4_init 34 = .ok (.putfield 21, 3) := by decide +kernel
theorem dX4_init_37 : decode cX4_init 37 = .ok (.aload_n 0, 1) := by decide +kernel
theorem dX4_init_38 : decode cX4_init 38 = .ok (.aload_n 1, 1) := by decide +kernel
theorem dX4_init_39 : decode cX4_init 39 = .ok (.putfield 24, 3) := by decide +kernel
theorem dX4_init_42 : decode cX4_init 42 = .ok (.return_, 1) := by decide +kernel
theorem dX4_has_0 : decode cX4_has 0 = .ok (.iload_n 1, 1) := by decide +kernel
theorem dX4_has_1 : decode cX4_has 1 = .ok (.ifCond .lt 15, 3) := by decide +kernel
theorem dX4_has_4 : decode cX4_has 4 = .ok (.iload_n 1, 1) := by decide +kernel
theorem dX4_has_5 : decode cX4_has 5 = .ok (.aload_n 0, 1) := by decide +kernel
theorem dX4_has_6 : decode cX4_has 6 = .ok (.getfield 28, 3) := by decide +kernel
theorem dX4_has_9 : decode cX4_has 9 = .ok (.if_icmp .ge 7, 3) := by decide +kernel
theorem dX4_has_12 : decode cX4_has 12 = .ok (.iconst 1, 1) := by decide +kernel
theorem dX4_has_13 : decode cX4_has 13 = .ok (.goto 4, 3) := by decide +kernel
theorem dX4_has_16 : decode cX4_has 16 = .ok (.iconst 0, 1) := by decide +kernel
theorem dX4_has_17 : decode cX4_has 17 = .ok (.ireturn, 1) := by decide +kernel
theorem dX4_findAll_0 : decode cX4_findAll 0 = .ok (.iconst 0, 1) := by decide +kernel
theorem dX4_findAll_1 : decode cX4_findAll 1 = .ok (.istore_n 1, 1) := by decide +kernel
theorem dX4_findAll_2 : decode cX4_findAll 2 = .ok (.iload_n 1, 1) := by decide +kernel
theorem dX4_findAll_3 : decode cX4_findAll 3 = .ok (.aload_n 0, 1) := by decide +kernel
theorem dX4_findAll_4 : decode cX4_findAll 4 = .ok (.getfield 24, 3) := by decide +kernel
theorem dX4_findAll_7 : decode cX4_findAll 7 = .ok (.getfield 32, 3) := by decide +kernel
theorem dX4_findAll_10 : decode cX4_findAll 10 = .ok (.if_icmp .ge 14, 3) := by decide +kernel
theorem dX4_findAll_13 : decode cX4_findAll 13 = .ok (.aload_n 0, 1) := by decide +kernel
theorem dX4_findAll_14 : decode cX4_findAll 14 = .ok (.iload_n 1, 1) := by decide +kernel
theorem dX4_findAll_15 : decode cX4_findAll 15 = .ok (.invokevirtual 35, 3) := by decide +kernel
theorem dX4_findAll_18 : decode cX4_findAll 18 = .ok (.iinc 1 1, 3) := by decide +kernel
theorem dX4_findAll_21 : decode cX4_findAll 21 = .ok (.goto (-19), 3) := by decide +kernel
theorem dX4_findAll_24 : decode cX4_findAll 24 = .ok (.iconst 0, 1) := by decide +kernel
theorem dX4_findAll_25 : decode cX4_findAll 25 = .ok (.istore_n 1, 1) := by decide +kernel
theorem dX4_findAll_26 : decode cX4_findAll 26 = .ok (.iload_n 1, 1) := by decide +kernel
theorem dX4_findAll_27 : decode cX4_findAll 27 = .ok (.aload_n 0, 1) := by decide +kernel
theorem dX4_findAll_28 : decode cX4_findAll 28 = .ok (.getfield 24, 3) := by decide +kernel
theorem dX4_findAll_31 : decode cX4_findAll 31 = .ok (.getfield 32, 3) := by decide +kernel
theorem dX4_findAll_34 : decode cX4_findAll 34 = .ok (.if_icmp .ge 20, 3) := by decide +kernel
theorem dX4_findAll_37 : decode cX4_findAll 37 = .ok (.aload_n 0, 1) := by decide +kernel
theorem dX4_findAll_38 : decode cX4_findAll 38 = .ok (.getfield 21, 3) := by decide +kernel
theorem dX4_findAll_41 : decode cX4_findAll 41 = .ok (.iload_n 1, 1) := by decide +kernel
theorem dX4_findAll_42 : decode cX4_findAll 42 = .ok (.aload_n 0, 1) := by decide +kernel
theorem dX4_findAll_43 : decode cX4_findAll 43 = .ok (.iload_n 1, 1) := by decide +kernel
theorem dX4_findAll_44 : decode cX4_findAll 44 = .ok (.invokevirtual 39, 3) := by decide +kernel
theorem dX4_findAll_47 : decode cX4_findAll 47 = .ok (.iastore, 1) := by decide +kernel
theorem dX4_findAll_48 : decode cX4_findAll 48 = .ok (.iinc 1 1, 3) := by decide +kernel
theorem dX4_findAll_51 : decode cX4_findAll 51 = .ok (.goto (-25), 3) := by decide +kernel
theorem dX4_findAll_54 : decode cX4_findAll 54 = .ok (.return_, 1) := by decide +kernel
theorem dX4_addFirstStep_0 : decode cX4_addFirstStep 0 = .ok (.iload_n 1, 1) := by decide +kernel
theorem dX4_addFirstStep_1 : decode cX4_addFirstStep 1 = .ok (.iconst 1, 1) := by decide +kernel
theorem dX4_addFirstStep_2 : decode cX4_addFirstStep 2 = .ok (.iadd, 1) := by decide +kernel
theorem dX4_addFirstStep_3 : decode cX4_addFirstStep 3 = .ok (.istore_n 2, 1) := by decide +kernel
theorem dX4_addFirstStep_4 : decode cX4_addFirstStep 4 = .ok (.iload_n 2, 1) := by decide +kernel
theorem dX4_addFirstStep_5 : decode cX4_addFirstStep 5 = .ok (.aload_n 0, 1) := by decide +kernel
theorem dX4_addFirstStep_6 : decode cX4_addFirstStep 6 = .ok (.getfield 24, 3) := by decide +kernel
theorem dX4_addFirstStep_9 : decode cX4_addFirstStep 9 = .ok (.getfield 32, 3) := by decide +kernel
theorem dX4_addFirstStep_12 : decode cX4_addFirstStep 12 = .ok (.if_icmp .ge 28, 3) := by decide +kernel
theorem dX4_addFirstStep_15 : decode cX4_addFirstStep 15 = .ok (.aload_n 0, 1) := by decide +kernel
theorem dX4_addFirstStep_16 : decode cX4_addFirstStep 16 = .ok (.getfield 24, 3) := by decide +kernel
theorem dX4_addFirstStep_19 : decode cX4_addFirstStep 19 = .ok (.iload_n 1, 1) := by decide +kernel
theorem dX4_addFirstStep_20 : decode cX4_addFirstStep 20 = .ok (.iload_n 2, 1) := by decide +kernel
theorem dX4_addFirstStep_21 : decode cX4_addFirstStep 21 = .ok (.invokevirtual 43, 3) := by decide +kernel
theorem dX4_addFirstStep_24 : decode cX4_addFirstStep 24 = .ok (.ifCond .eq 10, 3) := by decide +kernel
theorem dX4_addFirstStep_27 : decode cX4_addFirstStep 27 = .ok (.aload_n 0, 1) := by decide +kernel
theorem dX4_addFirstStep_28 : decode cX4_addFirstStep 28 = .ok (.iload_n 1, 1) := by decide +kernel
theorem dX4_addFirstStep_29 : decode cX4_addFirstStep 29 = .ok (.iload_n 2, 1) := by decide +kernel
theorem dX4_addFirstStep_30 : decode cX4_addFirstStep 30 = .ok (.invokevirtual 47, 3) := by decide +kernel
theorem dX4_addFirstStep_33 : decode cX4_addFirstStep 33 = .ok (.return_, 1) := by decide +kernel
theorem dX4_addFirstStep_34 : decode cX4_addFirstStep 34 = .ok (.iinc 2 1, 3) := by decide +kernel
theorem dX4_addFirstStep_37 : decode cX4_addFirstStep 37 = .ok (.goto (-33), 3) := by decide +kernel
theorem dX4_addFirstStep_40 : decode cX4_addFirstStep 40 = .ok (.return_, 1) := by decide +kernel
theorem dX4_add_0 : decode cX4_add 0 = .ok (.aload_n 0, 1) := by decide +kernel
theorem dX4_add_1 : decode cX4_add 1 = .ok (.iload_n 1, 1) := by decide +kernel
theorem dX4_add_2 : decode cX4_add 2 = .ok (.iload_n 2, 1) := by decide +kernel
theorem dX4_add_3 : decode cX4_add 3 = .ok (.invokevirtual 51, 3) := by decide +kernel
theorem dX4_add_6 : decode cX4_add 6 = .ok (.istore_n 3, 1) := by decide +kernel
theorem dX4_add_7 : decode cX4_add 7 = .ok (.iconst 0, 1) := by decide +kernel
theorem dX4_add_8 : decode cX4_add 8 = .ok (.istore 4, 2) := by decide +kernel
theorem dX4_add_10 : decode cX4_add 10 = .ok (.iload 4, 2) := by decide +kernel
theorem dX4_add_12 : decode cX4_add 12 = .ok (.aload_n 0, 1) := by decide +kernel
theorem dX4_add_13 : decode cX4_add 13 = .ok (.getfield 28, 3) := by decide +kernel
theorem dX4_add_16 : decode cX4_add 16 = .ok (.if_icmp .ge 20, 3) := by decide +kernel
theorem dX4_add_19 : decode cX4_add 19 = .ok (.aload_n 0, 1) := by decide +kernel
theorem dX4_add_20 : decode cX4_add 20 = .ok (.getfield 18, 3) := by decide +kernel
theorem dX4_add_23 : decode cX4_add 23 = .ok (.iload 4, 2) := by decide +kernel
theorem dX4_add_25 : decode cX4_add 25 = .ok (.iaload, 1) := by decide +kernel
theorem dX4_add_26 : decode cX4_add 26 = .ok (.iload_n 3, 1) := by decide +kernel
theorem dX4_add_27 : decode cX4_add 27 = .ok (.if_icmp .ge 9, 3) := by decide +kernel
theorem dX4_add_30 : decode cX4_add 30 = .ok (.iinc 4 1, 3) := by decide +kernel
theorem dX4_add_33 : decode cX4_add 33 = .ok (.goto (-23), 3) := by decide +kernel
theorem dX4_add_36 : decode cX4_add 36 = .ok (.iload 4, 2) := by decide +kernel
theorem dX4_add_38 : decode cX4_add 38 = .ok (.aload_n 0, 1) := by decide +kernel
theorem dX4_add_39 : decode cX4_add 39 = .ok (.getfield 28, 3) := by decide +kernel
theorem dX4_add_42 : decode cX4_add 42 = .ok (.if_icmp .ge 18, 3) := by decide +kernel
theorem dX4_add_45 : decode cX4_add 45 = .ok (.aload_n 0, 1) := by decide +kernel
theorem dX4_add_46 : decode cX4_add 46 = .ok (.getfield 18, 3) := by decide +kernel
theorem dX4_add_49 : decode cX4_add 49 = .ok (.iload 4, 2) := by decide +kernel
theorem dX4_add_51 : decode cX4_add 51 = .ok (.iaload, 1) := by decide +kernel
theorem dX4_add_52 : decode cX4_add 52 = .ok (.iload_n 3, 1) := by decide +kernel
theorem dX4_add_53 : decode cX4_add 53 = .ok (.if_icmp .ne 7, 3) := by decide +kernel
theorem dX4_add_56 : decode cX4_add 56 = .ok (.iconst 1, 1) := by decide +kernel
theorem dX4_add_57 : decode cX4_add 57 = .ok (.goto 4, 3) := by decide +kernel
theorem dX4_add_60 : decode cX4_add 60 = .ok (.iconst 0, 1) := by decide +kernel
theorem dX4_add_61 : decode cX4_add 61 = .ok (.istore 5, 2) := by decide +kernel
theorem dX4_add_63 : decode cX4_add 63 = .ok (.iload 5, 2) := by decide +kernel
theorem dX4_add_65 : decode cX4_add 65 = .ok (.ifCond .ne 12, 3) := by decide +kernel
theorem dX4_add_68 : decode cX4_add 68 = .ok (.aload_n 0, 1) := by decide +kernel
theorem dX4_add_69 : decode cX4_add 69 = .ok (.getfield 28, 3) := by decide +kernel
theorem dX4_add_72 : decode cX4_add 72 = .ok (.bipush 15, 2) := by decide +kernel
theorem dX4_add_74 : decode cX4_add 74 = .ok (.if_icmp .ne 4, 3) := by decide +kernel
theorem dX4_add_77 : decode cX4_add 77 = .ok (.return_, 1) := by decide +kernel
theorem dX4_add_78 : decode cX4_add 78 = .ok (.aload_n 0, 1) := by decide +kernel
theorem dX4_add_79 : decode cX4_add 79 = .ok (.iload 4, 2) := by decide +kernel
theorem dX4_add_81 : decode cX4_add 81 = .ok (.invokevirtual 55, 3) := by decide +kernel
theorem dX4_add_84 : decode cX4_add 84 = .ok (.aload_n 0, 1) := by decide +kernel
theorem dX4_add_85 : decode cX4_add 85 = .ok (.getfield 9, 3) := by decide +kernel
theorem dX4_add_88 : decode cX4_add 88 = .ok (.iload 4, 2) := by decide +kernel
theorem dX4_add_90 : decode cX4_add 90 = .ok (.iload_n 1, 1) := by decide +kernel
theorem dX4_add_91 : decode cX4_add 91 = .ok (.iastore, 1) := by decide +kernel
theorem dX4_add_92 : decode cX4_add 92 = .ok (.aload_n 0, 1) := by decide +kernel
theorem dX4_add_93 : decode cX4_add 93 = .ok (.getfield 15, 3) := by decide +kernel
theorem dX4_add_96 : decode cX4_add 96 = .ok (.iload 4, 2) := by decide +kernel
theorem dX4_add_98 : decode cX4_add 98 = .ok (.iload_n 2, 1) := by decide +kernel
theorem dX4_add_99 : decode cX4_add 99 = .ok (.iastore, 1) := by decide +kernel
theorem dX4_add_100 : decode cX4_add 100 = .ok (.aload_n 0, 1) := by decide +kernel
theorem dX4_add_101 : decode cX4_add 101 = .ok (.getfield 18, 3) := by decide +kernel
theorem dX4_add_104 : decode cX4_add 104 = .ok (.iload 4, 2) := by decide +kernel
theorem dX4_add_106 : decode cX4_add 106 = .ok (.iload_n 3, 1) := by decide +kernel
theorem dX4_add_107 : decode cX4_add 107 = .ok (.iastore, 1) := by decide +kernel
theorem dX4_add_108 : decode cX4_add 108 = .ok (.aload_n 0, 1) := by decide +kernel
theorem dX4_add_109 : decode cX4_add 109 = .ok (.dup, 1) := by decide +kernel
theorem dX4_add_110 : decode cX4_add 110 = .ok (.getfield 28, 3) := by decide +kernel
theorem dX4_add_113 : decode cX4_add 113 = .ok (.iconst 1, 1) := by decide +kernel
theorem dX4_add_114 : decode cX4_add 114 = .ok (.iadd, 1) := by decide +kernel
theorem dX4_add_115 : decode cX4_add 115 = .ok (.putfield 28, 3) := by decide +kernel
theorem dX4_add_118 : decode cX4_add 118 = .ok (.return_, 1) := by decide +kernel
theorem dX4_makeRoomAt_0 : decode cX4_makeRoomAt 0 = .ok (.aload_n 0, 1) := by decide +kernel
theorem dX4_makeRoomAt_1 : decode cX4_makeRoomAt 1 = .ok (.getfield 28, 3) := by decide +kernel
theorem dX4_makeRoomAt_4 : decode cX4_makeRoomAt 4 = .ok (.istore_n 2, 1) := by decide +kernel
theorem dX4_makeRoomAt_5 : decode cX4_makeRoomAt 5 = .ok (.iload_n 2, 1) := by decide +kernel
theorem dX4_makeRoomAt_6 : decode cX4_makeRoomAt 6 = .ok (.iload_n 1, 1) := by decide +kernel
theorem dX4_makeRoomAt_7 : decode cX4_makeRoomAt 7 = .ok (.if_icmp .le 51, 3) := by decide +kernel
theorem dX4_makeRoomAt_10 : decode cX4_makeRoomAt 10 = .ok (.aload_n 0, 1) := by decide +kernel
theorem dX4_makeRoomAt_11 : decode cX4_makeRoomAt 11 = .ok (.getfield 9, 3) := by decide +kernel
theorem dX4_makeRoomAt_14 : decode cX4_makeRoomAt 14 = .ok (.iload_n 2, 1) := by decide +kernel
theorem dX4_makeRoomAt_15 : decode cX4_makeRoomAt 15 = .ok (.aload_n 0, 1) := by decide +kernel
theorem dX4_makeRoomAt_16 : decode cX4_makeRoomAt 16 = .ok (.getfield 9, 3) := by decide +kernel
theorem dX4_makeRoomAt_19 : decode cX4_makeRoomAt 19 = .ok (.iload_n 2, 1) := by decide +kernel
theorem dX4_makeRoomAt_20 : decode cX4_makeRoomAt 20 = .ok (.iconst 1, 1) := by decide +kernel
theorem dX4_makeRoomAt_21 : decode cX4_makeRoomAt 21 = .ok (.isub, 1) := by decide +kernel
theorem dX4_makeRoomAt_22 : decode cX4_makeRoomAt 22 = .ok (.iaload, 1) := by decide +kernel
theorem dX4_makeRoomAt_23 : decode cX4_makeRoomAt 23 = .ok (.iastore, 1) := by decide +kernel
theorem dX4_makeRoomAt_24 : decode cX4_makeRoomAt 24 = .ok (.aload_n 0, 1) := by decide +kernel
theorem dX4_makeRoomAt_25 : decode cX4_makeRoomAt 25 = .ok (.getfield 15, 3) := by decide +kernel
theorem dX4_makeRoomAt_28 : decode cX4_makeRoomAt 28 = .ok (.iload_n 2, 1) := by decide +kernel
theorem dX4_makeRoomAt_29 : decode cX4_makeRoomAt 29 = .ok (.aload_n 0, 1) := by decide +kernel
theorem dX4_makeRoomAt_30 : decode cX4_makeRoomAt 30 = .ok (.getfield 15, 3) := by decide +kernel
theorem dX4_makeRoomAt_33 : decode cX4_makeRoomAt 33 = .ok (.iload_n 2, 1) := by decide +kernel
theorem dX4_makeRoomAt_34 : decode cX4_makeRoomAt 34 = .ok (.iconst 1, 1) := by decide +kernel
theorem dX4_makeRoomAt_35 : decode cX4_makeRoomAt 35 = .ok (.isub, 1) := by decide +kernel
theorem dX4_makeRoomAt_36 : decode cX4_makeRoomAt 36 = .ok (.iaload, 1) := by decide +kernel
theorem dX4_makeRoomAt_37 : decode cX4_makeRoomAt 37 = .ok (.iastore, 1) := by decide +kernel
theorem dX4_makeRoomAt_38 : decode cX4_makeRoomAt 38 = .ok (.aload_n 0, 1) := by decide +kernel
theorem dX4_makeRoomAt_39 : decode cX4_makeRoomAt 39 = .ok (.getfield 18, 3) := by decide +kernel
theorem dX4_makeRoomAt_42 : decode cX4_makeRoomAt 42 = .ok (.iload_n 2, 1) := by decide +kernel
theorem dX4_makeRoomAt_43 : decode cX4_makeRoomAt 43 = .ok (.aload_n 0, 1) := by decide +kernel
theorem dX4_makeRoomAt_44 : decode cX4_makeRoomAt 44 = .ok (.getfield 18, 3) := by decide +kernel
theorem dX4_makeRoomAt_47 : decode cX4_makeRoomAt 47 = .ok (.iload_n 2, 1) := by decide +kernel
theorem dX4_makeRoomAt_48 : decode cX4_makeRoomAt 48 = .ok (.iconst 1, 1) := by decide +kernel
theorem dX4_makeRoomAt_49 : decode cX4_makeRoomAt 49 = .ok (.isub, 1) := by decide +kernel
theorem dX4_makeRoomAt_50 : decode cX4_makeRoomAt 50 = .ok (.iaload, 1) := by decide +kernel
theorem dX4_makeRoomAt_51 : decode cX4_makeRoomAt 51 = .ok (.iastore, 1) := by decide +kernel
theorem dX4_makeRoomAt_52 : decode cX4_makeRoomAt 52 = .ok (.iinc 2 (-1), 3) := by decide +kernel
theorem dX4_makeRoomAt_55 : decode cX4_makeRoomAt 55 = .ok (.goto (-50), 3) := by decide +kernel
theorem dX4_makeRoomAt_58 : decode cX4_makeRoomAt 58 = .ok (.return_, 1) := by decide +kernel
theorem dX4_orderKey_0 : decode cX4_orderKey 0 = .ok (.aload_n 0, 1) := by decide +kernel
theorem dX4_orderKey_1 : decode cX4_orderKey 1 = .ok (.iload_n 1, 1) := by decide +kernel
theorem dX4_orderKey_2 : decode cX4_orderKey 2 = .ok (.iload_n 2, 1) := by decide +kernel
theorem dX4_orderKey_3 : decode cX4_orderKey 3 = .ok (.iconst 0, 1) := by decide +kernel
theorem dX4_orderKey_4 : decode cX4_orderKey 4 = .ok (.invokevirtual 58, 3) := by decide +kernel
theorem dX4_orderKey_7 : decode cX4_orderKey 7 = .ok (.istore_n 3, 1) := by decide +kernel
theorem dX4_orderKey_8 : decode cX4_orderKey 8 = .ok (.iload_n 3, 1) := by decide +kernel
theorem dX4_orderKey_9 : decode cX4_orderKey 9 = .ok (.iconst (-1), 1) := by decide +kernel
theorem dX4_orderKey_10 : decode cX4_orderKey 10 = .ok (.if_icmp .ne 7, 3) := by decide +kernel
theorem dX4_orderKey_13 : decode cX4_orderKey 13 = .ok (.iconst (-1), 1) := by decide +kernel
theorem dX4_orderKey_14 : decode cX4_orderKey 14 = .ok (.goto 17, 3) := by decide +kernel
theorem dX4_orderKey_17 : decode cX4_orderKey 17 = .ok (.iload_n 3, 1) := by decide +kernel
theorem dX4_orderKey_18 : decode cX4_orderKey 18 = .ok (.bipush 6, 2) := by decide +kernel
theorem dX4_orderKey_20 : decode cX4_orderKey 20 = .ok (.imul, 1) := by decide +kernel
theorem dX4_orderKey_21 : decode cX4_orderKey 21 = .ok (.aload_n 0, 1) := by decide +kernel
theorem dX4_orderKey_22 : decode cX4_orderKey 22 = .ok (.getfield 24, 3) := by decide +kernel
theorem dX4_orderKey_25 : decode cX4_orderKey 25 = .ok (.iload_n 1, 1) := by decide +kernel
theorem dX4_orderKey_26 : decode cX4_orderKey 26 = .ok (.iload_n 3, 1) := by decide +kernel
theorem dX4_orderKey_27 : decode cX4_orderKey 27 = .ok (.invokevirtual 62, 3) := by decide +kernel
theorem dX4_orderKey_30 : decode cX4_orderKey 30 = .ok (.iadd, 1) := by decide +kernel
theorem dX4_orderKey_31 : decode cX4_orderKey 31 = .ok (.ireturn, 1) := by decide +kernel
theorem dX4_mover_0 : decode cX4_mover 0 = .ok (.aload_n 0, 1) := by decide +kernel
theorem dX4_mover_1 : decode cX4_mover 1 = .ok (.aload_n 0, 1) := by decide +kernel
theorem dX4_mover_2 : decode cX4_mover 2 = .ok (.getfield 9, 3) := by decide +kernel
theorem dX4_mover_5 : decode cX4_mover 5 = .ok (.iload_n 1, 1) := by decide +kernel
theorem dX4_mover_6 : decode cX4_mover 6 = .ok (.iaload, 1) := by decide +kernel
theorem dX4_mover_7 : decode cX4_mover 7 = .ok (.aload_n 0, 1) := by decide +kernel
theorem dX4_mover_8 : decode cX4_mover 8 = .ok (.getfield 15, 3) := by decide +kernel
theorem dX4_mover_11 : decode cX4_mover 11 = .ok (.iload_n 1, 1) := by decide +kernel
theorem dX4_mover_12 : decode cX4_mover 12 = .ok (.iaload, 1) := by decide +kernel
theorem dX4_mover_13 : decode cX4_mover 13 = .ok (.iload_n 2, 1) := by decide +kernel
theorem dX4_mover_14 : decode cX4_mover 14 = .ok (.invokevirtual 58, 3) := by decide +kernel
theorem dX4_mover_17 : decode cX4_mover 17 = .ok (.ireturn, 1) := by decide +kernel
theorem dX4_moverOf_0 : decode cX4_moverOf 0 = .ok (.iconst 0, 1) := by decide +kernel
theorem dX4_moverOf_1 : decode cX4_moverOf 1 = .ok (.istore 4, 2) := by decide +kernel
theorem dX4_moverOf_3 : decode cX4_moverOf 3 = .ok (.iconst 0, 1) := by decide +kernel
theorem dX4_moverOf_4 : decode cX4_moverOf 4 = .ok (.istore 5, 2) := by decide +kernel
theorem dX4_moverOf_6 : decode cX4_moverOf 6 = .ok (.iload 5, 2) := by decide +kernel
theorem dX4_moverOf_8 : decode cX4_moverOf 8 = .ok (.aload_n 0, 1) := by decide +kernel
theorem dX4_moverOf_9 : decode cX4_moverOf 9 = .ok (.getfield 24, 3) := by decide +kernel
theorem dX4_moverOf_12 : decode cX4_moverOf 12 = .ok (.getfield 65, 3) := by decide +kernel
theorem dX4_moverOf_15 : decode cX4_moverOf 15 = .ok (.getfield 69, 3) := by decide +kernel
theorem dX4_moverOf_18 : decode cX4_moverOf 18 = .ok (.if_icmp .ge 44, 3) := by decide +kernel
theorem dX4_moverOf_21 : decode cX4_moverOf 21 = .ok (.aload_n 0, 1) := by decide +kernel
theorem dX4_moverOf_22 : decode cX4_moverOf 22 = .ok (.getfield 24, 3) := by decide +kernel
theorem dX4_moverOf_25 : decode cX4_moverOf 25 = .ok (.iload_n 1, 1) := by decide +kernel
theorem dX4_moverOf_26 : decode cX4_moverOf 26 = .ok (.iload 5, 2) := by decide +kernel
theorem dX4_moverOf_28 : decode cX4_moverOf 28 = .ok (.invokevirtual 74, 3) := by decide +kernel
theorem dX4_moverOf_31 : decode cX4_moverOf 31 = .ok (.aload_n 0, 1) := by decide +kernel
theorem dX4_moverOf_32 : decode cX4_moverOf 32 = .ok (.getfield 24, 3) := by decide +kernel
theorem dX4_moverOf_35 : decode cX4_moverOf 35 = .ok (.iload_n 2, 1) := by decide +kernel
theorem dX4_moverOf_36 : decode cX4_moverOf 36 = .ok (.iload 5, 2) := by decide +kernel
theorem dX4_moverOf_38 : decode cX4_moverOf 38 = .ok (.invokevirtual 74, 3) := by decide +kernel
theorem dX4_moverOf_41 : decode cX4_moverOf 41 = .ok (.if_icmp .eq 15, 3) := by decide +kernel
theorem dX4_moverOf_44 : decode cX4_moverOf 44 = .ok (.iload 4, 2) := by decide +kernel
theorem dX4_moverOf_46 : decode cX4_moverOf 46 = .ok (.iload_n 3, 1) := by decide +kernel
theorem dX4_moverOf_47 : decode cX4_moverOf 47 = .ok (.if_icmp .ne 6, 3) := by decide +kernel
theorem dX4_moverOf_50 : decode cX4_moverOf 50 = .ok (.iload 5, 2) := by decide +kernel
theorem dX4_moverOf_52 : decode cX4_moverOf 52 = .ok (.ireturn, 1) := by decide +kernel
theorem dX4_moverOf_53 : decode cX4_moverOf 53 = .ok (.iinc 4 1, 3) := by decide +kernel
theorem dX4_moverOf_56 : decode cX4_moverOf 56 = .ok (.iinc 5 1, 3) := by decide +kernel
theorem dX4_moverOf_59 : decode cX4_moverOf 59 = .ok (.goto (-53), 3) := by decide +kernel
theorem dX4_moverOf_62 : decode cX4_moverOf 62 = .ok (.iconst (-1), 1) := by decide +kernel
theorem dX4_moverOf_63 : decode cX4_moverOf 63 = .ok (.ireturn, 1) := by decide +kernel
theorem dX4_doneMask_0 : decode cX4_doneMask 0 = .ok (.iconst 0, 1) := by decide +kernel
theorem dX4_doneMask_1 : decode cX4_doneMask 1 = .ok (.istore_n 2, 1) := by decide +kernel
theorem dX4_doneMask_2 : decode cX4_doneMask 2 = .ok (.iconst 0, 1) := by decide +kernel
theorem dX4_doneMask_3 : decode cX4_doneMask 3 = .ok (.istore_n 3, 1) := by decide +kernel
theorem dX4_doneMask_4 : decode cX4_doneMask 4 = .ok (.iload_n 3, 1) := by decide +kernel
theorem dX4_doneMask_5 : decode cX4_doneMask 5 = .ok (.aload_n 0, 1) := by decide +kernel
theorem dX4_doneMask_6 : decode cX4_doneMask 6 = .ok (.getfield 28, 3) := by decide +kernel
theorem dX4_doneMask_9 : decode cX4_doneMask 9 = .ok (.if_icmp .ge 57, 3) := by decide +kernel
theorem dX4_doneMask_12 : decode cX4_doneMask 12 = .ok (.aload_n 0, 1) := by decide +kernel
theorem dX4_doneMask_13 : decode cX4_doneMask 13 = .ok (.iload_n 3, 1) := by decide +kernel
theorem dX4_doneMask_14 : decode cX4_doneMask 14 = .ok (.iconst 0, 1) := by decide +kernel
theorem dX4_doneMask_15 : decode cX4_doneMask 15 = .ok (.invokevirtual 77, 3) := by decide +kernel
theorem dX4_doneMask_18 : decode cX4_doneMask 18 = .ok (.istore 4, 2) := by decide +kernel
theorem dX4_doneMask_20 : decode cX4_doneMask 20 = .ok (.iload 4, 2) := by decide +kernel
theorem dX4_doneMask_22 : decode cX4_doneMask 22 = .ok (.iconst (-1), 1) := by decide +kernel
theorem dX4_doneMask_23 : decode cX4_doneMask 23 = .ok (.if_icmp .eq 37, 3) := by decide +kernel
theorem dX4_doneMask_26 : decode cX4_doneMask 26 = .ok (.aload_n 0, 1) := by decide +kernel
theorem dX4_doneMask_27 : decode cX4_doneMask 27 = .ok (.getfield 24, 3) := by decide +kernel
theorem dX4_doneMask_30 : decode cX4_doneMask 30 = .ok (.iload_n 1, 1) := by decide +kernel
theorem dX4_doneMask_31 : decode cX4_doneMask 31 = .ok (.iload 4, 2) := by decide +kernel
theorem dX4_doneMask_33 : decode cX4_doneMask 33 = .ok (.invokevirtual 62, 3) := by decide +kernel
theorem dX4_doneMask_36 : decode cX4_doneMask 36 = .ok (.aload_n 0, 1) := by decide +kernel
theorem dX4_doneMask_37 : decode cX4_doneMask 37 = .ok (.getfield 24, 3) := by decide +kernel
theorem dX4_doneMask_40 : decode cX4_doneMask 40 = .ok (.aload_n 0, 1) := by decide +kernel
theorem dX4_doneMask_41 : decode cX4_doneMask 41 = .ok (.getfield 15, 3) := by decide +kernel
theorem dX4_doneMask_44 : decode cX4_doneMask 44 = .ok (.iload_n 3, 1) := by decide +kernel
theorem dX4_doneMask_45 : decode cX4_doneMask 45 = .ok (.iaload, 1) := by decide +kernel
theorem dX4_doneMask_46 : decode cX4_doneMask 46 = .ok (.iload 4, 2) := by decide +kernel
theorem dX4_doneMask_48 : decode cX4_doneMask 48 = .ok (.invokevirtual 62, 3) := by decide +kernel
theorem dX4_doneMask_51 : decode cX4_doneMask 51 = .ok (.if_icmp .lt 9, 3) := by decide +kernel
theorem dX4_doneMask_54 : decode cX4_doneMask 54 = .ok (.iload_n 2, 1) := by decide +kernel
theorem dX4_doneMask_55 : decode cX4_doneMask 55 = .ok (.iconst 1, 1) := by decide +kernel
theorem dX4_doneMask_56 : decode cX4_doneMask 56 = .ok (.iload_n 3, 1) := by decide +kernel
theorem dX4_doneMask_57 : decode cX4_doneMask 57 = .ok (.ishl, 1) := by decide +kernel
theorem dX4_doneMask_58 : decode cX4_doneMask 58 = .ok (.ior, 1) := by decide +kernel
theorem dX4_doneMask_59 : decode cX4_doneMask 59 = .ok (.istore_n 2, 1) := by decide +kernel
theorem dX4_doneMask_60 : decode cX4_doneMask 60 = .ok (.iinc 3 1, 3) := by decide +kernel
theorem dX4_doneMask_63 : decode cX4_doneMask 63 = .ok (.goto (-59), 3) := by decide +kernel
theorem dX4_doneMask_66 : decode cX4_doneMask 66 = .ok (.iload_n 2, 1) := by decide +kernel
theorem dX4_doneMask_67 : decode cX4_doneMask 67 = .ok (.ireturn, 1) := by decide +kernel
theorem dX4_isDone_0 : decode cX4_isDone 0 = .ok (.aload_n 0, 1) := by decide +kernel
theorem dX4_isDone_1 : decode cX4_isDone 1 = .ok (.getfield 21, 3) := by decide +kernel
theorem dX4_isDone_4 : decode cX4_isDone 4 = .ok (.iload_n 2, 1) := by decide +kernel
theorem dX4_isDone_5 : decode cX4_isDone 5 = .ok (.iaload, 1) := by decide +kernel
theorem dX4_isDone_6 : decode cX4_isDone 6 = .ok (.iload_n 1, 1) := by decide +kernel
theorem dX4_isDone_7 : decode cX4_isDone 7 = .ok (.ishr, 1) := by decide +kernel
theorem dX4_isDone_8 : decode cX4_isDone 8 = .ok (.iconst 1, 1) := by decide +kernel
theorem dX4_isDone_9 : decode cX4_isDone 9 = .ok (.iand, 1) := by decide +kernel
theorem dX4_isDone_10 : decode cX4_isDone 10 = .ok (.iconst 1, 1) := by decide +kernel
theorem dX4_isDone_11 : decode cX4_isDone 11 = .ok (.if_icmp .ne 7, 3) := by decide +kernel
theorem dX4_isDone_14 : decode cX4_isDone 14 = .ok (.iconst 1, 1) := by decide +kernel
theorem dX4_isDone_15 : decode cX4_isDone 15 = .ok (.goto 4, 3) := by decide +kernel
theorem dX4_isDone_18 : decode cX4_isDone 18 = .ok (.iconst 0, 1) := by decide +kernel
theorem dX4_isDone_19 : decode cX4_isDone 19 = .ok (.ireturn, 1) := by decide +kernel
theorem dX4_isBefore_0 : decode cX4_isBefore 0 = .ok (.iconst 0, 1) := by decide +kernel
theorem dX4_isBefore_1 : decode cX4_isBefore 1 = .ok (.istore_n 3, 1) := by decide +kernel
theorem dX4_isBefore_2 : decode cX4_isBefore 2 = .ok (.iload_n 3, 1) := by decide +kernel
theorem dX4_isBefore_3 : decode cX4_isBefore 3 = .ok (.aload_n 0, 1) := by decide +kernel
theorem dX4_isBefore_4 : decode cX4_isBefore 4 = .ok (.getfield 24, 3) := by decide +kernel
theorem dX4_isBefore_7 : decode cX4_isBefore 7 = .ok (.getfield 32, 3) := by decide +kernel
theorem dX4_isBefore_10 : decode cX4_isBefore 10 = .ok (.if_icmp .ge 29, 3) := by decide +kernel
theorem dX4_isBefore_13 : decode cX4_isBefore 13 = .ok (.aload_n 0, 1) := by decide +kernel
theorem dX4_isBefore_14 : decode cX4_isBefore 14 = .ok (.iload_n 2, 1) := by decide +kernel
theorem dX4_isBefore_15 : decode cX4_isBefore 15 = .ok (.iload_n 3, 1) := by decide +kernel
theorem dX4_isBefore_16 : decode cX4_isBefore 16 = .ok (.invokevirtual 80, 3) := by decide +kernel
theorem dX4_isBefore_19 : decode cX4_isBefore 19 = .ok (.ifCond .eq 14, 3) := by decide +kernel
theorem dX4_isBefore_22 : decode cX4_isBefore 22 = .ok (.aload_n 0, 1) := by decide +kernel
theorem dX4_isBefore_23 : decode cX4_isBefore 23 = .ok (.iload_n 1, 1) := by decide +kernel
theorem dX4_isBefore_24 : decode cX4_isBefore 24 = .ok (.iload_n 3, 1) := by decide +kernel
theorem dX4_isBefore_25 : decode cX4_isBefore 25 = .ok (.invokevirtual 80, 3) := by decide +kernel
theorem dX4_isBefore_28 : decode cX4_isBefore 28 = .ok (.ifCond .ne 5, 3) := by decide +kernel
theorem dX4_isBefore_31 : decode cX4_isBefore 31 = .ok (.iconst 0, 1) := by decide +kernel
theorem dX4_isBefore_32 : decode cX4_isBefore 32 = .ok (.ireturn, 1) := by decide +kernel
theorem dX4_isBefore_33 : decode cX4_isBefore 33 = .ok (.iinc 3 1, 3) := by decide +kernel
theorem dX4_isBefore_36 : decode cX4_isBefore 36 = .ok (.goto (-34), 3) := by decide +kernel
theorem dX4_isBefore_39 : decode cX4_isBefore 39 = .ok (.iload_n 1, 1) := by decide +kernel
theorem dX4_isBefore_40 : decode cX4_isBefore 40 = .ok (.iload_n 2, 1) := by decide +kernel
theorem dX4_isBefore_41 : decode cX4_isBefore 41 = .ok (.if_icmp .eq 7, 3) := by decide +kernel
theorem dX4_isBefore_44 : decode cX4_isBefore 44 = .ok (.iconst 1, 1) := by decide +kernel
theorem dX4_isBefore_45 : decode cX4_isBefore 45 = .ok (.goto 4, 3) := by decide +kernel
theorem dX4_isBefore_48 : decode cX4_isBefore 48 = .ok (.iconst 0, 1) := by decide +kernel
theorem dX4_isBefore_49 : decode cX4_isBefore 49 = .ok (.ireturn, 1) := by decide +kernel
theorem dX4_isKnownByDone_0 : decode cX4_isKnownByDone 0 = .ok (.iconst 0, 1) := by decide +kernel
theorem dX4_isKnownByDone_1 : decode cX4_isKnownByDone 1 = .ok (.istore_n 2, 1) := by decide +kernel
theorem dX4_isKnownByDone_2 : decode cX4_isKnownByDone 2 = .ok (.iload_n 2, 1) := by decide +kernel
theorem dX4_isKnownByDone_3 : decode cX4_isKnownByDone 3 = .ok (.aload_n 0, 1) := by decide +kernel
theorem dX4_isKnownByDone_4 : decode cX4_isKnownByDone 4 = .ok (.getfield 24, 3) := by decide +kernel
theorem dX4_isKnownByDone_7 : decode cX4_isKnownByDone 7 = .ok (.getfield 32, 3) := by decide +kernel
theorem dX4_isKnownByDone_10 : decode cX4_isKnownByDone 10 = .ok (.if_icmp .ge 31, 3) := by decide +kernel
theorem dX4_isKnownByDone_13 : decode cX4_isKnownByDone 13 = .ok (.iload_n 2, 1) := by decide +kernel
theorem dX4_isKnownByDone_14 : decode cX4_isKnownByDone 14 = .ok (.iload_n 1, 1) := by decide +kernel
theorem dX4_isKnownByDone_15 : decode cX4_isKnownByDone 15 = .ok (.if_icmp .eq 20, 3) := by decide +kernel
theorem dX4_isKnownByDone_18 : decode cX4_isKnownByDone 18 = .ok (.aload_n 0, 1) := by decide +kernel
theorem dX4_isKnownByDone_19 : decode cX4_isKnownByDone 19 = .ok (.getfield 21, 3) := by decide +kernel
theorem dX4_isKnownByDone_22 : decode cX4_isKnownByDone 22 = .ok (.iload_n 2, 1) := by decide +kernel
theorem dX4_isKnownByDone_23 : decode cX4_isKnownByDone 23 = .ok (.iaload, 1) := by decide +kernel
theorem dX4_isKnownByDone_24 : decode cX4_isKnownByDone 24 = .ok (.aload_n 0, 1) := by decide +kernel
theorem dX4_isKnownByDone_25 : decode cX4_isKnownByDone 25 = .ok (.getfield 21, 3) := by decide +kernel
theorem dX4_isKnownByDone_28 : decode cX4_isKnownByDone 28 = .ok (.iload_n 1, 1) := by decide +kernel
theorem dX4_isKnownByDone_29 : decode cX4_isKnownByDone 29 = .ok (.iaload, 1) := by decide +kernel
theorem dX4_isKnownByDone_30 : decode cX4_isKnownByDone 30 = .ok (.if_icmp .ne 5, 3) := by decide +kernel
theorem dX4_isKnownByDone_33 : decode cX4_isKnownByDone 33 = .ok (.iconst 0, 1) := by decide +kernel
theorem dX4_isKnownByDone_34 : decode cX4_isKnownByDone 34 = .ok (.ireturn, 1) := by decide +kernel
theorem dX4_isKnownByDone_35 : decode cX4_isKnownByDone 35 = .ok (.iinc 2 1, 3) := by decide +kernel
theorem dX4_isKnownByDone_38 : decode cX4_isKnownByDone 38 = .ok (.goto (-36), 3) := by decide +kernel
theorem dX4_isKnownByDone_41 : decode cX4_isKnownByDone 41 = .ok (.iconst 1, 1) := by decide +kernel
theorem dX4_isKnownByDone_42 : decode cX4_isKnownByDone 42 = .ok (.ireturn, 1) := by decide +kernel
theorem dX5_init_0 : decode cX5_init 0 = .ok (.aload_n 0, 1) := by decide +kernel
theorem dX5_init_1 : decode cX5_init 1 = .ok (.invokespecial 3, 3) := by decide +kernel
theorem dX5_init_4 : decode cX5_init 4 = .ok (.aload_n 0, 1) := by decide +kernel
theorem dX5_init_5 : decode cX5_init 5 = .ok (.sipush 1296, 3) := by decide +kernel
theorem dX5_init_8 : decode cX5_init 8 = .ok (.newarray .int, 2) := by decide +kernel
theorem dX5_init_10 : decode cX5_init 10 = .ok (.putfield 9, 3) := by decide +kernel
theorem dX5_init_13 : decode cX5_init 13 = .ok (.aload_n 0, 1) := by decide +kernel
theorem dX5_init_14 : decode cX5_init 14 = .ok (.sipush 1296, 3) := by decide +kernel
theorem dX5_init_17 : decode cX5_init 17 = .ok (.newarray .int, 2) := by decide +kernel
theorem dX5_init_19 : decode cX5_init 19 = .ok (.putfield 15, 3) := by decide +kernel
theorem dX5_init_22 : decode cX5_init 22 = .ok (.aload_n 0, 1) := by decide +kernel
theorem dX5_init_23 : decode cX5_init 23 = .ok (.aload_n 1, 1) := by decide +kernel
theorem dX5_init_24 : decode cX5_init 24 = .ok (.putfield 18, 3) := by decide +kernel
theorem dX5_init_27 : decode cX5_init 27 = .ok (.return_, 1) := by decide +kernel
theorem dX5_has_0 : decode cX5_has 0 = .ok (.iload_n 1, 1) := by decide +kernel
theorem dX5_has_1 : decode cX5_has 1 = .ok (.ifCond .lt 15, 3) := by decide +kernel
theorem dX5_has_4 : decode cX5_has 4 = .ok (.iload_n 1, 1) := by decide +kernel
theorem dX5_has_5 : decode cX5_has 5 = .ok (.aload_n 0, 1) := by decide +kernel
theorem dX5_has_6 : decode cX5_has 6 = .ok (.getfield 22, 3) := by decide +kernel
theorem dX5_has_9 : decode cX5_has 9 = .ok (.if_icmp .ge 7, 3) := by decide +kernel
theorem dX5_has_12 : decode cX5_has 12 = .ok (.iconst 1, 1) := by decide +kernel
theorem dX5_has_13 : decode cX5_has 13 = .ok (.goto 4, 3) := by decide +kernel
theorem dX5_has_16 : decode cX5_has 16 = .ok (.iconst 0, 1) := by decide +kernel
theorem dX5_has_17 : decode cX5_has 17 = .ok (.ireturn, 1) := by decide +kernel
theorem dX5_add_0 : decode cX5_add 0 = .ok (.aload_n 0, 1) := by decide +kernel
theorem dX5_add_1 : decode cX5_add 1 = .ok (.getfield 22, 3) := by decide +kernel
theorem dX5_add_4 : decode cX5_add 4 = .ok (.sipush 216, 3) := by decide +kernel
theorem dX5_add_7 : decode cX5_add 7 = .ok (.if_icmp .ne 4, 3) := by decide +kernel
theorem dX5_add_10 : decode cX5_add 10 = .ok (.return_, 1) := by decide +kernel
theorem dX5_add_11 : decode cX5_add 11 = .ok (.aload_n 1, 1) := by decide +kernel
theorem dX5_add_12 : decode cX5_add 12 = .ok (.getfield 26, 3) := by decide +kernel
theorem dX5_add_15 : decode cX5_add 15 = .ok (.iconst 0, 1) := by decide +kernel
theorem dX5_add_16 : decode cX5_add 16 = .ok (.aload_n 0, 1) := by decide +kernel
theorem dX5_add_17 : decode cX5_add 17 = .ok (.getfield 9, 3) := by decide +kernel
theorem dX5_add_20 : decode cX5_add 20 = .ok (.aload_n 0, 1) := by decide +kernel
theorem dX5_add_21 : decode cX5_add 21 = .ok (.getfield 22, 3) := by decide +kernel
theorem dX5_add_24 : decode cX5_add 24 = .ok (.bipush 6, 2) := by decide +kernel
theorem dX5_add_26 : decode cX5_add 26 = .ok (.imul, 1) := by decide +kernel
theorem dX5_add_27 : decode cX5_add 27 = .ok (.bipush 6, 2) := by decide +kernel
theorem dX5_add_29 : decode cX5_add 29 = .ok (.invokestatic 31, 3) := by decide +kernel
theorem dX5_add_32 : decode cX5_add 32 = .ok (.iconst 0, 1) := by decide +kernel
theorem dX5_add_33 : decode cX5_add 33 = .ok (.istore_n 2, 1) := by decide +kernel
theorem dX5_add_34 : decode cX5_add 34 = .ok (.iload_n 2, 1) := by decide +kernel
theorem dX5_add_35 : decode cX5_add 35 = .ok (.aload_n 0, 1) := by decide +kernel
theorem dX5_add_36 : decode cX5_add 36 = .ok (.getfield 18, 3) := by decide +kernel
theorem dX5_add_39 : decode cX5_add 39 = .ok (.getfield 37, 3) := by decide +kernel
theorem dX5_add_42 : decode cX5_add 42 = .ok (.if_icmp .ge 37, 3) := by decide +kernel
theorem dX5_add_45 : decode cX5_add 45 = .ok (.aload_n 0, 1) := by decide +kernel
theorem dX5_add_46 : decode cX5_add 46 = .ok (.getfield 15, 3) := by decide +kernel
theorem dX5_add_49 : decode cX5_add 49 = .ok (.aload_n 0, 1) := by decide +kernel
theorem dX5_add_50 : decode cX5_add 50 = .ok (.getfield 22, 3) := by decide +kernel
theorem dX5_add_53 : decode cX5_add 53 = .ok (.bipush 6, 2) := by decide +kernel
theorem dX5_add_55 : decode cX5_add 55 = .ok (.imul, 1) := by decide +kernel
theorem dX5_add_56 : decode cX5_add 56 = .ok (.iload_n 2, 1) := by decide +kernel
theorem dX5_add_57 : decode cX5_add 57 = .ok (.iadd, 1) := by decide +kernel
theorem dX5_add_58 : decode cX5_add 58 = .ok (.aload_n 0, 1) := by decide +kernel
theorem dX5_add_59 : decode cX5_add 59 = .ok (.getfield 18, 3) := by decide +kernel
theorem dX5_add_62 : decode cX5_add 62 = .ok (.iload_n 2, 1) := by decide +kernel
theorem dX5_add_63 : decode cX5_add 63 = .ok (.aload_n 1, 1) := by decide +kernel
theorem dX5_add_64 : decode cX5_add 64 = .ok (.getfield 26, 3) := by decide +kernel
theorem dX5_add_67 : decode cX5_add 67 = .ok (.iload_n 2, 1) := by decide +kernel
theorem dX5_add_68 : decode cX5_add 68 = .ok (.iaload, 1) := by decide +kernel
theorem dX5_add_69 : decode cX5_add 69 = .ok (.invokevirtual 42, 3) := by decide +kernel
theorem dX5_add_72 : decode cX5_add 72 = .ok (.iastore, 1) := by decide +kernel
theorem dX5_add_73 : decode cX5_add 73 = .ok (.iinc 2 1, 3) := by decide +kernel
theorem dX5_add_76 : decode cX5_add 76 = .ok (.goto (-42), 3) := by decide +kernel
theorem dX5_add_79 : decode cX5_add 79 = .ok (.aload_n 0, 1) := by decide +kernel
theorem dX5_add_80 : decode cX5_add 80 = .ok (.dup, 1) := by decide +kernel
theorem dX5_add_81 : decode cX5_add 81 = .ok (.getfield 22, 3) := by decide +kernel
theorem dX5_add_84 : decode cX5_add 84 = .ok (.iconst 1, 1) := by decide +kernel
theorem dX5_add_85 : decode cX5_add 85 = .ok (.iadd, 1) := by decide +kernel
theorem dX5_add_86 : decode cX5_add 86 = .ok (.putfield 22, 3) := by decide +kernel
theorem dX5_add_89 : decode cX5_add 89 = .ok (.return_, 1) := by decide +kernel
theorem dX5_copyTo_0 : decode cX5_copyTo 0 = .ok (.aload_n 0, 1) := by decide +kernel
theorem dX5_copyTo_1 : decode cX5_copyTo 1 = .ok (.getfield 9, 3) := by decide +kernel
theorem dX5_copyTo_4 : decode cX5_copyTo 4 = .ok (.iload_n 2, 1) := by decide +kernel
theorem dX5_copyTo_5 : decode cX5_copyTo 5 = .ok (.bipush 6, 2) := by decide +kernel
theorem dX5_copyTo_7 : decode cX5_copyTo 7 = .ok (.imul, 1) := by decide +kernel
theorem dX5_copyTo_8 : decode cX5_copyTo 8 = .ok (.aload_n 1, 1) := by decide +kernel
theorem dX5_copyTo_9 : decode cX5_copyTo 9 = .ok (.getfield 26, 3) := by decide +kernel
theorem dX5_copyTo_12 : decode cX5_copyTo 12 = .ok (.iconst 0, 1) := by decide +kernel
theorem dX5_copyTo_13 : decode cX5_copyTo 13 = .ok (.bipush 6, 2) := by decide +kernel
theorem dX5_copyTo_15 : decode cX5_copyTo 15 = .ok (.invokestatic 31, 3) := by decide +kernel
theorem dX5_copyTo_18 : decode cX5_copyTo 18 = .ok (.return_, 1) := by decide +kernel
theorem dX5_hospitalAt_0 : decode cX5_hospitalAt 0 = .ok (.aload_n 0, 1) := by decide +kernel
theorem dX5_hospitalAt_1 : decode cX5_hospitalAt 1 = .ok (.getfield 9, 3) := by decide +kernel
theorem dX5_hospitalAt_4 : decode cX5_hospitalAt 4 = .ok (.iload_n 1, 1) := by decide +kernel
theorem dX5_hospitalAt_5 : decode cX5_hospitalAt 5 = .ok (.bipush 6, 2) := by decide +kernel
theorem dX5_hospitalAt_7 : decode cX5_hospitalAt 7 = .ok (.imul, 1) := by decide +kernel
theorem dX5_hospitalAt_8 : decode cX5_hospitalAt 8 = .ok (.iload_n 2, 1) := by decide +kernel
theorem dX5_hospitalAt_9 : decode cX5_hospitalAt 9 = .ok (.iadd, 1) := by decide +kernel
theorem dX5_hospitalAt_10 : decode cX5_hospitalAt 10 = .ok (.iaload, 1) := by decide +kernel
theorem dX5_hospitalAt_11 : decode cX5_hospitalAt 11 = .ok (.ireturn, 1) := by decide +kernel
theorem dX5_placeAt_0 : decode cX5_placeAt 0 = .ok (.aload_n 0, 1) := by decide +kernel
theorem dX5_placeAt_1 : decode cX5_placeAt 1 = .ok (.getfield 15, 3) := by decide +kernel
theorem dX5_placeAt_4 : decode cX5_placeAt 4 = .ok (.iload_n 1, 1) := by decide +kernel
theorem dX5_placeAt_5 : decode cX5_placeAt 5 = .ok (.bipush 6, 2) := by decide +kernel
theorem dX5_placeAt_7 : decode cX5_placeAt 7 = .ok (.imul, 1) := by decide +kernel
theorem dX5_placeAt_8 : decode cX5_placeAt 8 = .ok (.iload_n 2, 1) := by decide +kernel
theorem dX5_placeAt_9 : decode cX5_placeAt 9 = .ok (.iadd, 1) := by decide +kernel
theorem dX5_placeAt_10 : decode cX5_placeAt 10 = .ok (.iaload, 1) := by decide +kernel
theorem dX5_placeAt_11 : decode cX5_placeAt 11 = .ok (.ireturn, 1) := by decide +kernel
theorem dX5_find_0 : decode cX5_find 0 = .ok (.iconst 0, 1) := by decide +kernel
theorem dX5_find_1 : decode cX5_find 1 = .ok (.istore_n 2, 1) := by decide +kernel
theorem dX5_find_2 : decode cX5_find 2 = .ok (.iload_n 2, 1) := by decide +kernel
theorem dX5_find_3 : decode cX5_find 3 = .ok (.aload_n 0, 1) := by decide +kernel
theorem dX5_find_4 : decode cX5_find 4 = .ok (.getfield 22, 3) := by decide +kernel
theorem dX5_find_7 : decode cX5_find 7 = .ok (.if_icmp .ge 20, 3) := by decide +kernel
theorem dX5_find_10 : decode cX5_find 10 = .ok (.aload_n 0, 1) := by decide +kernel
theorem dX5_find_11 : decode cX5_find 11 = .ok (.iload_n 2, 1) := by decide +kernel
theorem dX5_find_12 : decode cX5_find 12 = .ok (.aload_n 1, 1) := by decide +kernel
theorem dX5_find_13 : decode cX5_find 13 = .ok (.invokevirtual 46, 3) := by decide +kernel
theorem dX5_find_16 : decode cX5_find 16 = .ok (.ifCond .eq 5, 3) := by decide +kernel
theorem dX5_find_19 : decode cX5_find 19 = .ok (.iload_n 2, 1) := by decide +kernel
theorem dX5_find_20 : decode cX5_find 20 = .ok (.ireturn, 1) := by decide +kernel
theorem dX5_find_21 : decode cX5_find 21 = .ok (.iinc 2 1, 3) := by decide +kernel
theorem dX5_find_24 : decode cX5_find 24 = .ok (.goto (-22), 3) := by decide +kernel
theorem dX5_find_27 : decode cX5_find 27 = .ok (.iconst (-1), 1) := by decide +kernel
theorem dX5_find_28 : decode cX5_find 28 = .ok (.ireturn, 1) := by decide +kernel
theorem dX5_isSame_0 : decode cX5_isSame 0 = .ok (.iconst 0, 1) := by decide +kernel
theorem dX5_isSame_1 : decode cX5_isSame 1 = .ok (.istore_n 3, 1) := by decide +kernel
theorem dX5_isSame_2 : decode cX5_isSame 2 = .ok (.iload_n 3, 1) := by decide +kernel
theorem dX5_isSame_3 : decode cX5_isSame 3 = .ok (.aload_n 0, 1) := by decide +kernel
theorem dX5_isSame_4 : decode cX5_isSame 4 = .ok (.getfield 18, 3) := by decide +kernel
theorem dX5_isSame_7 : decode cX5_isSame 7 = .ok (.getfield 37, 3) := by decide +kernel
theorem dX5_isSame_10 : decode cX5_isSame 10 = .ok (.if_icmp .ge 26, 3) := by decide +kernel
theorem dX5_isSame_13 : decode cX5_isSame 13 = .ok (.aload_n 0, 1) := by decide +kernel
theorem dX5_isSame_14 : decode cX5_isSame 14 = .ok (.iload_n 1, 1) := by decide +kernel
theorem dX5_isSame_15 : decode cX5_isSame 15 = .ok (.iload_n 3, 1) := by decide +kernel
theorem dX5_isSame_16 : decode cX5_isSame 16 = .ok (.invokevirtual 50, 3) := by decide +kernel
theorem dX5_isSame_19 : decode cX5_isSame 19 = .ok (.aload_n 2, 1) := by decide +kernel
theorem dX5_isSame_20 : decode cX5_isSame 20 = .ok (.getfield 26, 3) := by decide +kernel
theorem dX5_isSame_23 : decode cX5_isSame 23 = .ok (.iload_n 3, 1) := by decide +kernel
theorem dX5_isSame_24 : decode cX5_isSame 24 = .ok (.iaload, 1) := by decide +kernel
theorem dX5_isSame_25 : decode cX5_isSame 25 = .ok (.if_icmp .eq 5, 3) := by decide +kernel
theorem dX5_isSame_28 : decode cX5_isSame 28 = .ok (.iconst 0, 1) := by decide +kernel
theorem dX5_isSame_29 : decode cX5_isSame 29 = .ok (.ireturn, 1) := by decide +kernel
theorem dX5_isSame_30 : decode cX5_isSame 30 = .ok (.iinc 3 1, 3) := by decide +kernel
theorem dX5_isSame_33 : decode cX5_isSame 33 = .ok (.goto (-31), 3) := by decide +kernel
theorem dX5_isSame_36 : decode cX5_isSame 36 = .ok (.iconst 1, 1) := by decide +kernel
theorem dX5_isSame_37 : decode cX5_isSame 37 = .ok (.ireturn, 1) := by decide +kernel
theorem dX5_isBehind_0 : decode cX5_isBehind 0 = .ok (.iload_n 1, 1) := by decide +kernel
theorem dX5_isBehind_1 : decode cX5_isBehind 1 = .ok (.bipush 6, 2) := by decide +kernel
theorem dX5_isBehind_3 : decode cX5_isBehind 3 = .ok (.imul, 1) := by decide +kernel
theorem dX5_isBehind_4 : decode cX5_isBehind 4 = .ok (.istore_n 3, 1) := by decide +kernel
theorem dX5_isBehind_5 : decode cX5_isBehind 5 = .ok (.iload_n 2, 1) := by decide +kernel
theorem dX5_isBehind_6 : decode cX5_isBehind 6 = .ok (.bipush 6, 2) := by decide +kernel
theorem dX5_isBehind_8 : decode cX5_isBehind 8 = .ok (.imul, 1) := by decide +kernel
theorem dX5_isBehind_9 : decode cX5_isBehind 9 = .ok (.istore 4, 2) := by decide +kernel
theorem dX5_isBehind_11 : decode cX5_isBehind 11 = .ok (.iconst 0, 1) := by decide +kernel
theorem dX5_isBehind_12 : decode cX5_isBehind 12 = .ok (.istore 5, 2) := by decide +kernel
theorem dX5_isBehind_14 : decode cX5_isBehind 14 = .ok (.iload 5, 2) := by decide +kernel
theorem dX5_isBehind_16 : decode cX5_isBehind 16 = .ok (.aload_n 0, 1) := by decide +kernel
theorem dX5_isBehind_17 : decode cX5_isBehind 17 = .ok (.getfield 18, 3) := by decide +kernel
theorem dX5_isBehind_20 : decode cX5_isBehind 20 = .ok (.getfield 37, 3) := by decide +kernel
theorem dX5_isBehind_23 : decode cX5_isBehind 23 = .ok (.if_icmp .ge 33, 3) := by decide +kernel
theorem dX5_isBehind_26 : decode cX5_isBehind 26 = .ok (.aload_n 0, 1) := by decide +kernel
theorem dX5_isBehind_27 : decode cX5_isBehind 27 = .ok (.getfield 15, 3) := by decide +kernel
theorem dX5_isBehind_30 : decode cX5_isBehind 30 = .ok (.iload 4, 2) := by decide +kernel
theorem dX5_isBehind_32 : decode cX5_isBehind 32 = .ok (.iload 5, 2) := by decide +kernel
theorem dX5_isBehind_34 : decode cX5_isBehind 34 = .ok (.iadd, 1) := by decide +kernel
theorem dX5_isBehind_35 : decode cX5_isBehind 35 = .ok (.iaload, 1) := by decide +kernel
theorem dX5_isBehind_36 : decode cX5_isBehind 36 = .ok (.aload_n 0, 1) := by decide +kernel
theorem dX5_isBehind_37 : decode cX5_isBehind 37 = .ok (.getfield 15, 3) := by decide +kernel
theorem dX5_isBehind_40 : decode cX5_isBehind 40 = .ok (.iload_n 3, 1) := by decide +kernel
theorem dX5_isBehind_41 : decode cX5_isBehind 41 = .ok (.iload 5, 2) := by decide +kernel
theorem dX5_isBehind_43 : decode cX5_isBehind 43 = .ok (.iadd, 1) := by decide +kernel
theorem dX5_isBehind_44 : decode cX5_isBehind 44 = .ok (.iaload, 1) := by decide +kernel
theorem dX5_isBehind_45 : decode cX5_isBehind 45 = .ok (.if_icmp .ge 5, 3) := by decide +kernel
theorem dX5_isBehind_48 : decode cX5_isBehind 48 = .ok (.iconst 0, 1) := by decide +kernel
theorem dX5_isBehind_49 : decode cX5_isBehind 49 = .ok (.ireturn, 1) := by decide +kernel
theorem dX5_isBehind_50 : decode cX5_isBehind 50 = .ok (.iinc 5 1, 3) := by decide +kernel
theorem dX5_isBehind_53 : decode cX5_isBehind 53 = .ok (.goto (-39), 3) := by decide +kernel
theorem dX5_isBehind_56 : decode cX5_isBehind 56 = .ok (.iload_n 1, 1) := by decide +kernel
theorem dX5_isBehind_57 : decode cX5_isBehind 57 = .ok (.iload_n 2, 1) := by decide +kernel
theorem dX5_isBehind_58 : decode cX5_isBehind 58 = .ok (.if_icmp .eq 7, 3) := by decide +kernel
theorem dX5_isBehind_61 : decode cX5_isBehind 61 = .ok (.iconst 1, 1) := by decide +kernel
theorem dX5_isBehind_62 : decode cX5_isBehind 62 = .ok (.goto 4, 3) := by decide +kernel
theorem dX5_isBehind_65 : decode cX5_isBehind 65 = .ok (.iconst 0, 1) := by decide +kernel
theorem dX5_isBehind_66 : decode cX5_isBehind 66 = .ok (.ireturn, 1) := by decide +kernel
theorem dX5_countSeated_0 : decode cX5_countSeated 0 = .ok (.iconst 0, 1) := by decide +kernel
theorem dX5_countSeated_1 : decode cX5_countSeated 1 = .ok (.istore_n 1, 1) := by decide +kernel
theorem dX5_countSeated_2 : decode cX5_countSeated 2 = .ok (.iconst 0, 1) := by decide +kernel
theorem dX5_countSeated_3 : decode cX5_countSeated 3 = .ok (.istore_n 2, 1) := by decide +kernel
theorem dX5_countSeated_4 : decode cX5_countSeated 4 = .ok (.iload_n 2, 1) := by decide +kernel
theorem dX5_countSeated_5 : decode cX5_countSeated 5 = .ok (.aload_n 0, 1) := by decide +kernel
theorem dX5_countSeated_6 : decode cX5_countSeated 6 = .ok (.getfield 18, 3) := by decide +kernel
theorem dX5_countSeated_9 : decode cX5_countSeated 9 = .ok (.getfield 37, 3) := by decide +kernel
theorem dX5_countSeated_12 : decode cX5_countSeated 12 = .ok (.if_icmp .ge 22, 3) := by decide +kernel
theorem dX5_countSeated_15 : decode cX5_countSeated 15 = .ok (.aload_n 0, 1) := by decide +kernel
theorem dX5_countSeated_16 : decode cX5_countSeated 16 = .ok (.iconst 0, 1) := by decide +kernel
theorem dX5_countSeated_17 : decode cX5_countSeated 17 = .ok (.iload_n 2, 1) := by decide +kernel
theorem dX5_countSeated_18 : decode cX5_countSeated 18 = .ok (.invokevirtual 50, 3) := by decide +kernel
theorem dX5_countSeated_21 : decode cX5_countSeated 21 = .ok (.iconst (-1), 1) := by decide +kernel
theorem dX5_countSeated_22 : decode cX5_countSeated 22 = .ok (.if_icmp .eq 6, 3) := by decide +kernel
theorem dX5_countSeated_25 : decode cX5_countSeated 25 = .ok (.iinc 1 1, 3) := by decide +kernel
theorem dX5_countSeated_28 : decode cX5_countSeated 28 = .ok (.iinc 2 1, 3) := by decide +kernel
theorem dX5_countSeated_31 : decode cX5_countSeated 31 = .ok (.goto (-27), 3) := by decide +kernel
theorem dX5_countSeated_34 : decode cX5_countSeated 34 = .ok (.iload_n 1, 1) := by decide +kernel
theorem dX5_countSeated_35 : decode cX5_countSeated 35 = .ok (.ireturn, 1) := by decide +kernel
theorem dX5_costOf_0 : decode cX5_costOf 0 = .ok (.iconst 0, 1) := by decide +kernel
theorem dX5_costOf_1 : decode cX5_costOf 1 = .ok (.istore_n 3, 1) := by decide +kernel
theorem dX5_costOf_2 : decode cX5_costOf 2 = .ok (.iconst 0, 1) := by decide +kernel
theorem dX5_costOf_3 : decode cX5_costOf 3 = .ok (.istore 4, 2) := by decide +kernel
theorem dX5_costOf_5 : decode cX5_costOf 5 = .ok (.iconst (-1), 1) := by decide +kernel
theorem dX5_costOf_6 : decode cX5_costOf 6 = .ok (.istore 5, 2) := by decide +kernel
theorem dX5_costOf_8 : decode cX5_costOf 8 = .ok (.iconst 0, 1) := by decide +kernel
theorem dX5_costOf_9 : decode cX5_costOf 9 = .ok (.istore 6, 2) := by decide +kernel
theorem dX5_costOf_11 : decode cX5_costOf 11 = .ok (.iload 6, 2) := by decide +kernel
theorem dX5_costOf_13 : decode cX5_costOf 13 = .ok (.aload_n 0, 1) := by decide +kernel
theorem dX5_costOf_14 : decode cX5_costOf 14 = .ok (.getfield 18, 3) := by decide +kernel
theorem dX5_costOf_17 : decode cX5_costOf 17 = .ok (.getfield 37, 3) := by decide +kernel
theorem dX5_costOf_20 : decode cX5_costOf 20 = .ok (.if_icmp .ge 72, 3) := by decide +kernel
theorem dX5_costOf_23 : decode cX5_costOf 23 = .ok (.aload_n 0, 1) := by decide +kernel
theorem dX5_costOf_24 : decode cX5_costOf 24 = .ok (.iload_n 1, 1) := by decide +kernel
theorem dX5_costOf_25 : decode cX5_costOf 25 = .ok (.iload 6, 2) := by decide +kernel
theorem dX5_costOf_27 : decode cX5_costOf 27 = .ok (.invokevirtual 50, 3) := by decide +kernel
theorem dX5_costOf_30 : decode cX5_costOf 30 = .ok (.istore 7, 2) := by decide +kernel
theorem dX5_costOf_32 : decode cX5_costOf 32 = .ok (.iload 7, 2) := by decide +kernel
theorem dX5_costOf_34 : decode cX5_costOf 34 = .ok (.iconst (-1), 1) := by decide +kernel
theorem dX5_costOf_35 : decode cX5_costOf 35 = .ok (.if_icmp .eq 51, 3) := by decide +kernel
theorem dX5_costOf_38 : decode cX5_costOf 38 = .ok (.aload_n 0, 1) := by decide +kernel
theorem dX5_costOf_39 : decode cX5_costOf 39 = .ok (.iload_n 1, 1) := by decide +kernel
theorem dX5_costOf_40 : decode cX5_costOf 40 = .ok (.iload 6, 2) := by decide +kernel
theorem dX5_costOf_42 : decode cX5_costOf 42 = .ok (.invokevirtual 53, 3) := by decide +kernel
theorem dX5_costOf_45 : decode cX5_costOf 45 = .ok (.istore 8, 2) := by decide +kernel
theorem dX5_costOf_47 : decode cX5_costOf 47 = .ok (.aload_n 0, 1) := by decide +kernel
theorem dX5_costOf_48 : decode cX5_costOf 48 = .ok (.getfield 18, 3) := by decide +kernel
theorem dX5_costOf_51 : decode cX5_costOf 51 = .ok (.iload 7, 2) := by decide +kernel
theorem dX5_costOf_53 : decode cX5_costOf 53 = .ok (.iload 6, 2) := by decide +kernel
theorem dX5_costOf_55 : decode cX5_costOf 55 = .ok (.invokevirtual 56, 3) := by decide +kernel
theorem dX5_costOf_58 : decode cX5_costOf 58 = .ok (.istore 9, 2) := by decide +kernel
theorem dX5_costOf_60 : decode cX5_costOf 60 = .ok (.iload_n 3, 1) := by decide +kernel
theorem dX5_costOf_61 : decode cX5_costOf 61 = .ok (.iload 8, 2) := by decide +kernel
theorem dX5_costOf_63 : decode cX5_costOf 63 = .ok (.iadd, 1) := by decide +kernel
theorem dX5_costOf_64 : decode cX5_costOf 64 = .ok (.istore_n 3, 1) := by decide +kernel
theorem dX5_costOf_65 : decode cX5_costOf 65 = .ok (.iload 4, 2) := by decide +kernel
theorem dX5_costOf_67 : decode cX5_costOf 67 = .ok (.iload 9, 2) := by decide +kernel
theorem dX5_costOf_69 : decode cX5_costOf 69 = .ok (.iadd, 1) := by decide +kernel
theorem dX5_costOf_70 : decode cX5_costOf 70 = .ok (.istore 4, 2) := by decide +kernel
theorem dX5_costOf_72 : decode cX5_costOf 72 = .ok (.iload 5, 2) := by decide +kernel
theorem dX5_costOf_74 : decode cX5_costOf 74 = .ok (.iload 8, 2) := by decide +kernel
theorem dX5_costOf_76 : decode cX5_costOf 76 = .ok (.iload 9, 2) := by decide +kernel
theorem dX5_costOf_78 : decode cX5_costOf 78 = .ok (.invokestatic 59, 3) := by decide +kernel
theorem dX5_costOf_81 : decode cX5_costOf 81 = .ok (.invokestatic 59, 3) := by decide +kernel
theorem dX5_costOf_84 : decode cX5_costOf 84 = .ok (.istore 5, 2) := by decide +kernel
theorem dX5_costOf_86 : decode cX5_costOf 86 = .ok (.iinc 6 1, 3) := by decide +kernel
theorem dX5_costOf_89 : decode cX5_costOf 89 = .ok (.goto (-78), 3) := by decide +kernel
theorem dX5_costOf_92 : decode cX5_costOf 92 = .ok (.iload_n 2, 1) := by decide +kernel
theorem dX5_costOf_93 : decode cX5_costOf 93 = .ok (.tableswitch 56 0 4 #[35, 37, 40, 45, 53], 35) := by decide +kernel
theorem dX5_costOf_128 : decode cX5_costOf 128 = .ok (.iload_n 3, 1) := by decide +kernel
theorem dX5_costOf_129 : decode cX5_costOf 129 = .ok (.ireturn, 1) := by decide +kernel
theorem dX5_costOf_130 : decode cX5_costOf 130 = .ok (.iload 4, 2) := by decide +kernel
theorem dX5_costOf_132 : decode cX5_costOf 132 = .ok (.ireturn, 1) := by decide +kernel
theorem dX5_costOf_133 : decode cX5_costOf 133 = .ok (.iload_n 3, 1) := by decide +kernel
theorem dX5_costOf_134 : decode cX5_costOf 134 = .ok (.iload 4, 2) := by decide +kernel
theorem dX5_costOf_136 : decode cX5_costOf 136 = .ok (.iadd, 1) := by decide +kernel
theorem dX5_costOf_137 : decode cX5_costOf 137 = .ok (.ireturn, 1) := by decide +kernel
theorem dX5_costOf_138 : decode cX5_costOf 138 = .ok (.iload_n 3, 1) := by decide +kernel
theorem dX5_costOf_139 : decode cX5_costOf 139 = .ok (.iload 4, 2) := by decide +kernel
theorem dX5_costOf_141 : decode cX5_costOf 141 = .ok (.isub, 1) := by decide +kernel
theorem dX5_costOf_142 : decode cX5_costOf 142 = .ok (.invokestatic 64, 3) := by decide +kernel
theorem dX5_costOf_145 : decode cX5_costOf 145 = .ok (.ireturn, 1) := by decide +kernel
theorem dX5_costOf_146 : decode cX5_costOf 146 = .ok (.iload 5, 2) := by decide +kernel
theorem dX5_costOf_148 : decode cX5_costOf 148 = .ok (.ireturn, 1) := by decide +kernel
theorem dX5_costOf_149 : decode cX5_costOf 149 = .ok (.iconst (-1), 1) := by decide +kernel
theorem dX5_costOf_150 : decode cX5_costOf 150 = .ok (.ireturn, 1) := by decide +kernel
theorem dX6_init_0 : decode cX6_init 0 = .ok (.aload_n 0, 1) := by decide +kernel
theorem dX6_init_1 : decode cX6_init 1 = .ok (.invokespecial 3, 3) := by decide +kernel
theorem dX6_init_4 : decode cX6_init 4 = .ok (.aload_n 0, 1) := by decide +kernel
theorem dX6_init_5 : decode cX6_init 5 = .ok (.new 9, 3) := by decide +kernel
theorem dX6_init_8 : decode cX6_init 8 = .ok (.dup, 1) := by decide +kernel
theorem dX6_init_9 : decode cX6_init 9 = .ok (.invokespecial 11, 3) := by decide +kernel
theorem dX6_init_12 : decode cX6_init 12 = .ok (.putfield 12, 3) := by decide +kernel
theorem dX6_init_15 : decode cX6_init 15 = .ok (.aload_n 0, 1) := by decide +kernel
theorem dX6_init_16 : decode cX6_init 16 = .ok (.new 16, 3) := by decide +kernel
theorem dX6_init_19 : decode cX6_init 19 = .ok (.dup, 1) := by decide +kernel
theorem dX6_init_20 : decode cX6_init 20 = .ok (.aload_n 0, 1) := by decide +kernel
theorem dX6_init_21 : decode cX6_init 21 = .ok (.getfield 12, 3) := by decide +kernel
theorem dX6_init_24 : decode cX6_init 24 = .ok (.invokespecial 18, 3) := by decide +kernel
theorem dX6_init_27 : decode cX6_init 27 = .ok (.putfield 21, 3) := by decide +kernel
theorem dX6_init_30 : decode cX6_init 30 = .ok (.aload_n 0, 1) := by decide +kernel
theorem dX6_init_31 : decode cX6_init 31 = .ok (.new 16, 3) := by decide +kernel
theorem dX6_init_34 : decode cX6_init 34 = .ok (.dup, 1) := by decide +kernel
theorem dX6_init_35 : decode cX6_init 35 = .ok (.aload_n 0, 1) := by decide +kernel
theorem dX6_init_36 : decode cX6_init 36 = .ok (.getfield 12, 3) := by decide +kernel
theorem dX6_init_39 : decode cX6_init 39 = .ok (.invokespecial 18, 3) := by decide +kernel
theorem dX6_init_42 : decode cX6_init 42 = .ok (.putfield 25, 3) := by decide +kernel
theorem dX6_init_45 : decode cX6_init 45 = .ok (.aload_n 0, 1) := by decide +kernel
theorem dX6_init_46 : decode cX6_init 46 = .ok (.new 28, 3) := by decide +kernel
theorem dX6_init_49 : decode cX6_init 49 = .ok (.dup, 1) := by decide +kernel
theorem dX6_init_50 : decode cX6_init 50 = .ok (.aload_n 0, 1) := by decide +kernel
theorem dX6_init_51 : decode cX6_init 51 = .ok (.getfield 12, 3) := by decide +kernel
theorem dX6_init_54 : decode cX6_init 54 = .ok (.invokespecial 30, 3) := by decide +kernel
theorem dX6_init_57 : decode cX6_init 57 = .ok (.putfield 31, 3) := by decide +kernel
theorem dX6_init_60 : decode cX6_init 60 = .ok (.aload_n 0, 1) := by decide +kernel
theorem dX6_init_61 : decode cX6_init 61 = .ok (.new 35, 3) := by decide +kernel
theorem dX6_init_64 : decode cX6_init 64 = .ok (.dup, 1) := by decide +kernel
theorem dX6_init_65 : decode cX6_init 65 = .ok (.aload_n 0, 1) := by decide +kernel
theorem dX6_init_66 : decode cX6_init 66 = .ok (.getfield 31, 3) := by decide +kernel
theorem dX6_init_69 : decode cX6_init 69 = .ok (.invokespecial 37, 3) := by decide +kernel
theorem dX6_init_72 : decode cX6_init 72 = .ok (.putfield 40, 3) := by decide +kernel
theorem dX6_init_75 : decode cX6_init 75 = .ok (.aload_n 0, 1) := by decide +kernel
theorem dX6_init_76 : decode cX6_init 76 = .ok (.new 44, 3) := by decide +kernel
theorem dX6_init_79 : decode cX6_init 79 = .ok (.dup, 1) := by decide +kernel
theorem dX6_init_80 : decode cX6_init 80 = .ok (.aload_n 0, 1) := by decide +kernel
theorem dX6_init_81 : decode cX6_init 81 = .ok (.getfield 12, 3) := by decide +kernel
theorem dX6_init_84 : decode cX6_init 84 = .ok (.aload_n 0, 1) := by decide +kernel
theorem dX6_init_85 : decode cX6_init 85 = .ok (.getfield 31, 3) := by decide +kernel
theorem dX6_init_88 : decode cX6_init 88 = .ok (.aload_n 0, 1) := by decide +kernel
theorem dX6_init_89 : decode cX6_init 89 = .ok (.getfield 25, 3) := by decide +kernel
theorem dX6_init_92 : decode cX6_init 92 = .ok (.invokespecial 46, 3) := by decide +kernel
theorem dX6_init_95 : decode cX6_init 95 = .ok (.putfield 49, 3) := by decide +kernel
theorem dX6_init_98 : decode cX6_init 98 = .ok (.return_, 1) := by decide +kernel
theorem dX6_make_0 : decode cX6_make 0 = .ok (.iload_n 1, 1) := by decide +kernel
theorem dX6_make_1 : decode cX6_make 1 = .ok (.iconst 1, 1) := by decide +kernel
theorem dX6_make_2 : decode cX6_make 2 = .ok (.if_icmp .lt 20, 3) := by decide +kernel
theorem dX6_make_5 : decode cX6_make 5 = .ok (.iload_n 1, 1) := by decide +kernel
theorem dX6_make_6 : decode cX6_make 6 = .ok (.bipush 6, 2) := by decide +kernel
theorem dX6_make_8 : decode cX6_make 8 = .ok (.if_icmp .gt 14, 3) := by decide +kernel
theorem dX6_make_11 : decode cX6_make 11 = .ok (.iload_n 2, 1) := by decide +kernel
theorem dX6_make_12 : decode cX6_make 12 = .ok (.iconst 1, 1) := by decide +kernel
theorem dX6_make_13 : decode cX6_make 13 = .ok (.if_icmp .lt 9, 3) := by decide +kernel
theorem dX6_make_16 : decode cX6_make 16 = .ok (.iload_n 2, 1) := by decide +kernel
theorem dX6_make_17 : decode cX6_make 17 = .ok (.bipush 6, 2) := by decide +kernel
theorem dX6_make_19 : decode cX6_make 19 = .ok (.if_icmp .le 11, 3) := by decide +kernel
theorem dX6_make_22 : decode cX6_make 22 = .ok (.new 53, 3) := by decide +kernel
theorem dX6_make_25 : decode cX6_make 25 = .ok (.dup, 1) := by decide +kernel
theorem dX6_make_26 : decode cX6_make 26 = .ok (.invokespecial 55, 3) := by decide +kernel
theorem dX6_make_29 : decode cX6_make 29 = .ok (.athrow, 1) := by decide +kernel
theorem dX6_make_30 : decode cX6_make 30 = .ok (.aload_n 0, 1) := by decide +kernel
theorem dX6_make_31 : decode cX6_make 31 = .ok (.getfield 12, 3) := by decide +kernel
theorem dX6_make_34 : decode cX6_make 34 = .ok (.iload_n 1, 1) := by decide +kernel
theorem dX6_make_35 : decode cX6_make 35 = .ok (.iload_n 2, 1) := by decide +kernel
theorem dX6_make_36 : decode cX6_make 36 = .ok (.invokevirtual 56, 3) := by decide +kernel
theorem dX6_make_39 : decode cX6_make 39 = .ok (.aload_n 0, 1) := by decide +kernel
theorem dX6_make_40 : decode cX6_make 40 = .ok (.getfield 21, 3) := by decide +kernel
theorem dX6_make_43 : decode cX6_make 43 = .ok (.invokevirtual 60, 3) := by decide +kernel
theorem dX6_make_46 : decode cX6_make 46 = .ok (.aload_n 0, 1) := by decide +kernel
theorem dX6_make_47 : decode cX6_make 47 = .ok (.invokevirtual 63, 3) := by decide +kernel
theorem dX6_make_50 : decode cX6_make 50 = .ok (.return_, 1) := by decide +kernel
theorem dX6_seats_0 : decode cX6_seats 0 = .ok (.aload_n 0, 1) := by decide +kernel
theorem dX6_seats_1 : decode cX6_seats 1 = .ok (.getfield 12, 3) := by decide +kernel
theorem dX6_seats_4 : decode cX6_seats 4 = .ok (.iload_n 1, 1) := by decide +kernel
theorem dX6_seats_5 : decode cX6_seats 5 = .ok (.invokevirtual 66, 3) := by decide +kernel
theorem dX6_seats_8 : decode cX6_seats 8 = .ok (.ifCond .ne 11, 3) := by decide +kernel
theorem dX6_seats_11 : decode cX6_seats 11 = .ok (.new 70, 3) := by decide +kernel
theorem dX6_seats_14 : decode cX6_seats 14 = .ok (.dup, 1) := by decide +kernel
theorem dX6_seats_15 : decode cX6_seats 15 = .ok (.invokespecial 72, 3) := by decide +kernel
theorem dX6_seats_18 : decode cX6_seats 18 = .ok (.athrow, 1) := by decide +kernel
theorem dX6_seats_19 : decode cX6_seats 19 = .ok (.iload_n 2, 1) := by decide +kernel
theorem dX6_seats_20 : decode cX6_seats 20 = .ok (.iconst 1, 1) := by decide +kernel
theorem dX6_seats_21 : decode cX6_seats 21 = .ok (.if_icmp .lt 8, 3) := by decide +kernel
theorem dX6_seats_24 : decode cX6_seats 24 = .ok (.iload_n 2, 1) := by decide +kernel
theorem dX6_seats_25 : decode cX6_seats 25 = .ok (.iconst 3, 1) := by decide +kernel
theorem dX6_seats_26 : decode cX6_seats 26 = .ok (.if_icmp .le 11, 3) := by decide +kernel
theorem dX6_seats_29 : decode cX6_seats 29 = .ok (.new 53, 3) := by decide +kernel
theorem dX6_seats_32 : decode cX6_seats 32 = .ok (.dup, 1) := by decide +kernel
theorem dX6_seats_33 : decode cX6_seats 33 = .ok (.invokespecial 55, 3) := by decide +kernel
theorem dX6_seats_36 : decode cX6_seats 36 = .ok (.athrow, 1) := by decide +kernel
theorem dX6_seats_37 : decode cX6_seats 37 = .ok (.aload_n 0, 1) := by decide +kernel
theorem dX6_seats_38 : decode cX6_seats 38 = .ok (.getfield 12, 3) := by decide +kernel
theorem dX6_seats_41 : decode cX6_seats 41 = .ok (.getfield 73, 3) := by decide +kernel
theorem dX6_seats_44 : decode cX6_seats 44 = .ok (.iload_n 1, 1) := by decide +kernel
theorem dX6_seats_45 : decode cX6_seats 45 = .ok (.iload_n 2, 1) := by decide +kernel
theorem dX6_seats_46 : decode cX6_seats 46 = .ok (.iastore, 1) := by decide +kernel
theorem dX6_seats_47 : decode cX6_seats 47 = .ok (.aload_n 0, 1) := by decide +kernel
theorem dX6_seats_48 : decode cX6_seats 48 = .ok (.invokevirtual 63, 3) := by decide +kernel
theorem dX6_seats_51 : decode cX6_seats 51 = .ok (.return_, 1) := by decide +kernel
theorem dX6_prefer_0 : decode cX6_prefer 0 = .ok (.aload_n 0, 1) := by decide +kernel
theorem dX6_prefer_1 : decode cX6_prefer 1 = .ok (.getfield 12, 3) := by decide +kernel
theorem dX6_prefer_4 : decode cX6_prefer 4 = .ok (.iload_n 1, 1) := by decide +kernel
theorem dX6_prefer_5 : decode cX6_prefer 5 = .ok (.invokevirtual 77, 3) := by decide +kernel
theorem dX6_prefer_8 : decode cX6_prefer 8 = .ok (.astore 4, 2) := by decide +kernel
theorem dX6_prefer_10 : decode cX6_prefer 10 = .ok (.aload 4, 2) := by decide +kernel
theorem dX6_prefer_12 : decode cX6_prefer 12 = .ok (.ifnull 13, 3) := by decide +kernel
theorem dX6_prefer_15 : decode cX6_prefer 15 = .ok (.aload 4, 2) := by decide +kernel
theorem dX6_prefer_17 : decode cX6_prefer 17 = .ok (.iload_n 2, 1) := by decide +kernel
theorem dX6_prefer_18 : decode cX6_prefer 18 = .ok (.iload_n 3, 1) := by decide +kernel
theorem dX6_prefer_19 : decode cX6_prefer 19 = .ok (.invokevirtual 81, 3) := by decide +kernel
theorem dX6_prefer_22 : decode cX6_prefer 22 = .ok (.ifCond .ne 5, 3) := by decide +kernel
theorem dX6_prefer_25 : decode cX6_prefer 25 = .ok (.iconst (-1), 1) := by decide +kernel
theorem dX6_prefer_26 : decode cX6_prefer 26 = .ok (.ireturn, 1) := by decide +kernel
theorem dX6_prefer_27 : decode cX6_prefer 27 = .ok (.aload_n 0, 1) := by decide +kernel
theorem dX6_prefer_28 : decode cX6_prefer 28 = .ok (.invokevirtual 63, 3) := by decide +kernel
theorem dX6_prefer_31 : decode cX6_prefer 31 = .ok (.aload 4, 2) := by decide +kernel
theorem dX6_prefer_33 : decode cX6_prefer 33 = .ok (.iload_n 2, 1) := by decide +kernel
theorem dX6_prefer_34 : decode cX6_prefer 34 = .ok (.iload_n 3, 1) := by decide +kernel
theorem dX6_prefer_35 : decode cX6_prefer 35 = .ok (.invokevirtual 87, 3) := by decide +kernel
theorem dX6_prefer_38 : decode cX6_prefer 38 = .ok (.ireturn, 1) := by decide +kernel
theorem dX6_forget_0 : decode cX6_forget 0 = .ok (.aload_n 0, 1) := by decide +kernel
theorem dX6_forget_1 : decode cX6_forget 1 = .ok (.getfield 12, 3) := by decide +kernel
theorem dX6_forget_4 : decode cX6_forget 4 = .ok (.iload_n 1, 1) := by decide +kernel
theorem dX6_forget_5 : decode cX6_forget 5 = .ok (.invokevirtual 77, 3) := by decide +kernel
theorem dX6_forget_8 : decode cX6_forget 8 = .ok (.astore_n 3, 1) := by decide +kernel
theorem dX6_forget_9 : decode cX6_forget 9 = .ok (.aload_n 3, 1) := by decide +kernel
theorem dX6_forget_10 : decode cX6_forget 10 = .ok (.ifnull 11, 3) := by decide +kernel
theorem dX6_forget_13 : decode cX6_forget 13 = .ok (.aload_n 3, 1) := by decide +kernel
theorem dX6_forget_14 : decode cX6_forget 14 = .ok (.iload_n 2, 1) := by decide +kernel
theorem dX6_forget_15 : decode cX6_forget 15 = .ok (.invokevirtual 91, 3) := by decide +kernel
theorem dX6_forget_18 : decode cX6_forget 18 = .ok (.ifCond .ne 5, 3) := by decide +kernel
theorem dX6_forget_21 : decode cX6_forget 21 = .ok (.iconst (-1), 1) := by decide +kernel
theorem dX6_forget_22 : decode cX6_forget 22 = .ok (.ireturn, 1) := by decide +kernel
theorem dX6_forget_23 : decode cX6_forget 23 = .ok (.aload_n 0, 1) := by decide +kernel
theorem dX6_forget_24 : decode cX6_forget 24 = .ok (.invokevirtual 63, 3) := by decide +kernel
theorem dX6_forget_27 : decode cX6_forget 27 = .ok (.aload_n 3, 1) := by decide +kernel
theorem dX6_forget_28 : decode cX6_forget 28 = .ok (.iload_n 2, 1) := by decide +kernel
theorem dX6_forget_29 : decode cX6_forget 29 = .ok (.invokevirtual 94, 3) := by decide +kernel
theorem dX6_forget_32 : decode cX6_forget 32 = .ok (.ireturn, 1) := by decide +kernel
theorem dX6_listed_0 : decode cX6_listed 0 = .ok (.aload_n 0, 1) := by decide +kernel
theorem dX6_listed_1 : decode cX6_listed 1 = .ok (.getfield 12, 3) := by decide +kernel
theorem dX6_listed_4 : decode cX6_listed 4 = .ok (.iload_n 1, 1) := by decide +kernel
theorem dX6_listed_5 : decode cX6_listed 5 = .ok (.invokevirtual 77, 3) := by decide +kernel
theorem dX6_listed_8 : decode cX6_listed 8 = .ok (.astore 4, 2) := by decide +kernel
theorem dX6_listed_10 : decode cX6_listed 10 = .ok (.aload 4, 2) := by decide +kernel
theorem dX6_listed_12 : decode cX6_listed 12 = .ok (.ifnull 12, 3) := by decide +kernel
theorem dX6_listed_15 : decode cX6_listed 15 = .ok (.aload 4, 2) := by decide +kernel
theorem dX6_listed_17 : decode cX6_listed 17 = .ok (.iload_n 2, 1) := by decide +kernel
theorem dX6_listed_18 : decode cX6_listed 18 = .ok (.invokevirtual 91, 3) := by decide +kernel
theorem dX6_listed_21 : decode cX6_listed 21 = .ok (.ifCond .ne 5, 3) := by decide +kernel
theorem dX6_listed_24 : decode cX6_listed 24 = .ok (.iconst (-1), 1) := by decide +kernel
theorem dX6_listed_25 : decode cX6_listed 25 = .ok (.ireturn, 1) := by decide +kernel
theorem dX6_listed_26 : decode cX6_listed 26 = .ok (.aload 4, 2) := by decide +kernel
theorem dX6_listed_28 : decode cX6_listed 28 = .ok (.iload_n 2, 1) := by decide +kernel
theorem dX6_listed_29 : decode cX6_listed 29 = .ok (.iload_n 3, 1) := by decide +kernel
theorem dX6_listed_30 : decode cX6_listed 30 = .ok (.invokevirtual 98, 3) := by decide +kernel
theorem dX6_listed_33 : decode cX6_listed 33 = .ok (.ireturn, 1) := by decide +kernel
theorem dX6_work_0 : decode cX6_work 0 = .ok (.aload_n 0, 1) := by decide +kernel
theorem dX6_work_1 : decode cX6_work 1 = .ok (.invokevirtual 63, 3) := by decide +kernel
theorem dX6_work_4 : decode cX6_work 4 = .ok (.aload_n 0, 1) := by decide +kernel
theorem dX6_work_5 : decode cX6_work 5 = .ok (.getfield 49, 3) := by decide +kernel
theorem dX6_work_8 : decode cX6_work 8 = .ok (.invokevirtual 101, 3) := by decide +kernel
theorem dX6_work_11 : decode cX6_work 11 = .ok (.aload_n 0, 1) := by decide +kernel
theorem dX6_work_12 : decode cX6_work 12 = .ok (.getfield 40, 3) := by decide +kernel
theorem dX6_work_15 : decode cX6_work 15 = .ok (.invokevirtual 104, 3) := by decide +kernel
theorem dX6_work_18 : decode cX6_work 18 = .ok (.aload_n 0, 1) := by decide +kernel
theorem dX6_work_19 : decode cX6_work 19 = .ok (.getfield 31, 3) := by decide +kernel
theorem dX6_work_22 : decode cX6_work 22 = .ok (.getfield 105, 3) := by decide +kernel
theorem dX6_work_25 : decode cX6_work 25 = .ok (.ireturn, 1) := by decide +kernel
theorem dX6_count_0 : decode cX6_count 0 = .ok (.aload_n 0, 1) := by decide +kernel
theorem dX6_count_1 : decode cX6_count 1 = .ok (.invokevirtual 109, 3) := by decide +kernel
theorem dX6_count_4 : decode cX6_count 4 = .ok (.ifCond .ne 5, 3) := by decide +kernel
theorem dX6_count_7 : decode cX6_count 7 = .ok (.iconst (-1), 1) := by decide +kernel
theorem dX6_count_8 : decode cX6_count 8 = .ok (.ireturn, 1) := by decide +kernel
theorem dX6_count_9 : decode cX6_count 9 = .ok (.iload_n 1, 1) := by decide +kernel
theorem dX6_count_10 : decode cX6_count 10 = .ok (.tableswitch 62 0 3 #[30, 38, 46, 54], 30) := by decide +kernel
theorem dX6_count_40 : decode cX6_count 40 = .ok (.aload_n 0, 1) := by decide +kernel
theorem dX6_count_41 : decode cX6_count 41 = .ok (.getfield 31, 3) := by decide +kernel
theorem dX6_count_44 : decode cX6_count 44 = .ok (.getfield 105, 3) := by decide +kernel
theorem dX6_count_47 : decode cX6_count 47 = .ok (.ireturn, 1) := by decide +kernel
theorem dX6_count_48 : decode cX6_count 48 = .ok (.aload_n 0, 1) := by decide +kernel
theorem dX6_count_49 : decode cX6_count 49 = .ok (.getfield 40, 3) := by decide +kernel
theorem dX6_count_52 : decode cX6_count 52 = .ok (.getfield 113, 3) := by decide +kernel
theorem dX6_count_55 : decode cX6_count 55 = .ok (.ireturn, 1) := by decide +kernel
theorem dX6_count_56 : decode cX6_count 56 = .ok (.aload_n 0, 1) := by decide +kernel
theorem dX6_count_57 : decode cX6_count 57 = .ok (.getfield 12, 3) := by decide +kernel
theorem dX6_count_60 : decode cX6_count 60 = .ok (.invokevirtual 114, 3) := by decide +kernel
theorem dX6_count_63 : decode cX6_count 63 = .ok (.ireturn, 1) := by decide +kernel
theorem dX6_count_64 : decode cX6_count 64 = .ok (.aload_n 0, 1) := by decide +kernel
theorem dX6_count_65 : decode cX6_count 65 = .ok (.getfield 31, 3) := by decide +kernel
theorem dX6_count_68 : decode cX6_count 68 = .ok (.invokevirtual 118, 3) := by decide +kernel
theorem dX6_count_71 : decode cX6_count 71 = .ok (.ireturn, 1) := by decide +kernel
theorem dX6_count_72 : decode cX6_count 72 = .ok (.iconst (-1), 1) := by decide +kernel
theorem dX6_count_73 : decode cX6_count 73 = .ok (.ireturn, 1) := by decide +kernel
theorem dX6_hospital_0 : decode cX6_hospital 0 = .ok (.aload_n 0, 1) := by decide +kernel
theorem dX6_hospital_1 : decode cX6_hospital 1 = .ok (.getfield 31, 3) := by decide +kernel
theorem dX6_hospital_4 : decode cX6_hospital 4 = .ok (.iload_n 1, 1) := by decide +kernel
theorem dX6_hospital_5 : decode cX6_hospital 5 = .ok (.invokevirtual 121, 3) := by decide +kernel
theorem dX6_hospital_8 : decode cX6_hospital 8 = .ok (.ifCond .eq 14, 3) := by decide +kernel
theorem dX6_hospital_11 : decode cX6_hospital 11 = .ok (.aload_n 0, 1) := by decide +kernel
theorem dX6_hospital_12 : decode cX6_hospital 12 = .ok (.getfield 12, 3) := by decide +kernel
theorem dX6_hospital_15 : decode cX6_hospital 15 = .ok (.iload_n 2, 1) := by decide +kernel
theorem dX6_hospital_16 : decode cX6_hospital 16 = .ok (.invokevirtual 124, 3) := by decide +kernel
theorem dX6_hospital_19 : decode cX6_hospital 19 = .ok (.ifCond .ne 5, 3) := by decide +kernel
theorem dX6_hospital_22 : decode cX6_hospital 22 = .ok (.iconst (-1), 1) := by decide +kernel
theorem dX6_hospital_23 : decode cX6_hospital 23 = .ok (.ireturn, 1) := by decide +kernel
theorem dX6_hospital_24 : decode cX6_hospital 24 = .ok (.aload_n 0, 1) := by decide +kernel
theorem dX6_hospital_25 : decode cX6_hospital 25 = .ok (.getfield 31, 3) := by decide +kernel
theorem dX6_hospital_28 : decode cX6_hospital 28 = .ok (.iload_n 1, 1) := by decide +kernel
theorem dX6_hospital_29 : decode cX6_hospital 29 = .ok (.iload_n 2, 1) := by decide +kernel
theorem dX6_hospital_30 : decode cX6_hospital 30 = .ok (.invokevirtual 127, 3) := by decide +kernel
theorem dX6_hospital_33 : decode cX6_hospital 33 = .ok (.ireturn, 1) := by decide +kernel
theorem dX6_cost_0 : decode cX6_cost 0 = .ok (.aload_n 0, 1) := by decide +kernel
theorem dX6_cost_1 : decode cX6_cost 1 = .ok (.getfield 31, 3) := by decide +kernel
theorem dX6_cost_4 : decode cX6_cost 4 = .ok (.iload_n 1, 1) := by decide +kernel
theorem dX6_cost_5 : decode cX6_cost 5 = .ok (.invokevirtual 121, 3) := by decide +kernel
theorem dX6_cost_8 : decode cX6_cost 8 = .ok (.ifCond .ne 5, 3) := by decide +kernel
theorem dX6_cost_11 : decode cX6_cost 11 = .ok (.iconst (-1), 1) := by decide +kernel
theorem dX6_cost_12 : decode cX6_cost 12 = .ok (.ireturn, 1) := by decide +kernel
theorem dX6_cost_13 : decode cX6_cost 13 = .ok (.aload_n 0, 1) := by decide +kernel
theorem dX6_cost_14 : decode cX6_cost 14 = .ok (.getfield 31, 3) := by decide +kernel
theorem dX6_cost_17 : decode cX6_cost 17 = .ok (.iload_n 1, 1) := by decide +kernel
theorem dX6_cost_18 : decode cX6_cost 18 = .ok (.iload_n 2, 1) := by decide +kernel
theorem dX6_cost_19 : decode cX6_cost 19 = .ok (.invokevirtual 130, 3) := by decide +kernel
theorem dX6_cost_22 : decode cX6_cost 22 = .ok (.ireturn, 1) := by decide +kernel
theorem dX6_cheapest_0 : decode cX6_cheapest 0 = .ok (.aload_n 0, 1) := by decide +kernel
theorem dX6_cheapest_1 : decode cX6_cheapest 1 = .ok (.invokevirtual 109, 3) := by decide +kernel
theorem dX6_cheapest_4 : decode cX6_cheapest 4 = .ok (.ifCond .eq 12, 3) := by decide +kernel
theorem dX6_cheapest_7 : decode cX6_cheapest 7 = .ok (.iload_n 1, 1) := by decide +kernel
theorem dX6_cheapest_8 : decode cX6_cheapest 8 = .ok (.ifCond .lt 8, 3) := by decide +kernel
theorem dX6_cheapest_11 : decode cX6_cheapest 11 = .ok (.iload_n 1, 1) := by decide +kernel
theorem dX6_cheapest_12 : decode cX6_cheapest 12 = .ok (.iconst 4, 1) := by decide +kernel
theorem dX6_cheapest_13 : decode cX6_cheapest 13 = .ok (.if_icmp .le 5, 3) := by decide +kernel
theorem dX6_cheapest_16 : decode cX6_cheapest 16 = .ok (.iconst (-1), 1) := by decide +kernel
theorem dX6_cheapest_17 : decode cX6_cheapest 17 = .ok (.ireturn, 1) := by decide +kernel
theorem dX6_cheapest_18 : decode cX6_cheapest 18 = .ok (.iconst 0, 1) := by decide +kernel
theorem dX6_cheapest_19 : decode cX6_cheapest 19 = .ok (.istore_n 2, 1) := by decide +kernel
theorem dX6_cheapest_20 : decode cX6_cheapest 20 = .ok (.iconst 1, 1) := by decide +kernel
theorem dX6_cheapest_21 : decode cX6_cheapest 21 = .ok (.istore_n 3, 1) := by decide +kernel
theorem dX6_cheapest_22 : decode cX6_cheapest 22 = .ok (.iload_n 3, 1) := by decide +kernel
theorem dX6_cheapest_23 : decode cX6_cheapest 23 = .ok (.aload_n 0, 1) := by decide +kernel
theorem dX6_cheapest_24 : decode cX6_cheapest 24 = .ok (.getfield 31, 3) := by decide +kernel
theorem dX6_cheapest_27 : decode cX6_cheapest 27 = .ok (.getfield 105, 3) := by decide +kernel
theorem dX6_cheapest_30 : decode cX6_cheapest 30 = .ok (.if_icmp .ge 32, 3) := by decide +kernel
theorem dX6_cheapest_33 : decode cX6_cheapest 33 = .ok (.aload_n 0, 1) := by decide +kernel
theorem dX6_cheapest_34 : decode cX6_cheapest 34 = .ok (.getfield 31, 3) := by decide +kernel
theorem dX6_cheapest_37 : decode cX6_cheapest 37 = .ok (.iload_n 3, 1) := by decide +kernel
theorem dX6_cheapest_38 : decode cX6_cheapest 38 = .ok (.iload_n 1, 1) := by decide +kernel
theorem dX6_cheapest_39 : decode cX6_cheapest 39 = .ok (.invokevirtual 130, 3) := by decide +kernel
theorem dX6_cheapest_42 : decode cX6_cheapest 42 = .ok (.aload_n 0, 1) := by decide +kernel
theorem dX6_cheapest_43 : decode cX6_cheapest 43 = .ok (.getfield 31, 3) := by decide +kernel
theorem dX6_cheapest_46 : decode cX6_cheapest 46 = .ok (.iload_n 2, 1) := by decide +kernel
theorem dX6_cheapest_47 : decode cX6_cheapest 47 = .ok (.iload_n 1, 1) := by decide +kernel
theorem dX6_cheapest_48 : decode cX6_cheapest 48 = .ok (.invokevirtual 130, 3) := by decide +kernel
theorem dX6_cheapest_51 : decode cX6_cheapest 51 = .ok (.if_icmp .ge 5, 3) := by decide +kernel
theorem dX6_cheapest_54 : decode cX6_cheapest 54 = .ok (.iload_n 3, 1) := by decide +kernel
theorem dX6_cheapest_55 : decode cX6_cheapest 55 = .ok (.istore_n 2, 1) := by decide +kernel
theorem dX6_cheapest_56 : decode cX6_cheapest 56 = .ok (.iinc 3 1, 3) := by decide +kernel
theorem dX6_cheapest_59 : decode cX6_cheapest 59 = .ok (.goto (-37), 3) := by decide +kernel
theorem dX6_cheapest_62 : decode cX6_cheapest 62 = .ok (.iload_n 2, 1) := by decide +kernel
theorem dX6_cheapest_63 : decode cX6_cheapest 63 = .ok (.ireturn, 1) := by decide +kernel
theorem dX6_bound_0 : decode cX6_bound 0 = .ok (.iload_n 1, 1) := by decide +kernel
theorem dX6_bound_1 : decode cX6_bound 1 = .ok (.ifCond .lt 30, 3) := by decide +kernel
theorem dX6_bound_4 : decode cX6_bound 4 = .ok (.iload_n 1, 1) := by decide +kernel
theorem dX6_bound_5 : decode cX6_bound 5 = .ok (.iconst 1, 1) := by decide +kernel
theorem dX6_bound_6 : decode cX6_bound 6 = .ok (.if_icmp .gt 25, 3) := by decide +kernel
theorem dX6_bound_9 : decode cX6_bound 9 = .ok (.aload_n 0, 1) := by decide +kernel
theorem dX6_bound_10 : decode cX6_bound 10 = .ok (.getfield 31, 3) := by decide +kernel
theorem dX6_bound_13 : decode cX6_bound 13 = .ok (.iload_n 2, 1) := by decide +kernel
theorem dX6_bound_14 : decode cX6_bound 14 = .ok (.invokevirtual 121, 3) := by decide +kernel
theorem dX6_bound_17 : decode cX6_bound 17 = .ok (.ifCond .eq 14, 3) := by decide +kernel
theorem dX6_bound_20 : decode cX6_bound 20 = .ok (.aload_n 0, 1) := by decide +kernel
theorem dX6_bound_21 : decode cX6_bound 21 = .ok (.getfield 31, 3) := by decide +kernel
theorem dX6_bound_24 : decode cX6_bound 24 = .ok (.iload_n 3, 1) := by decide +kernel
theorem dX6_bound_25 : decode cX6_bound 25 = .ok (.invokevirtual 121, 3) := by decide +kernel
theorem dX6_bound_28 : decode cX6_bound 28 = .ok (.ifCond .ne 5, 3) := by decide +kernel
theorem dX6_bound_31 : decode cX6_bound 31 = .ok (.iconst (-1), 1) := by decide +kernel
theorem dX6_bound_32 : decode cX6_bound 32 = .ok (.ireturn, 1) := by decide +kernel
theorem dX6_bound_33 : decode cX6_bound 33 = .ok (.iconst 0, 1) := by decide +kernel
theorem dX6_bound_34 : decode cX6_bound 34 = .ok (.istore 4, 2) := by decide +kernel
theorem dX6_bound_36 : decode cX6_bound 36 = .ok (.iload 4, 2) := by decide +kernel
theorem dX6_bound_38 : decode cX6_bound 38 = .ok (.aload_n 0, 1) := by decide +kernel
theorem dX6_bound_39 : decode cX6_bound 39 = .ok (.getfield 12, 3) := by decide +kernel
theorem dX6_bound_42 : decode cX6_bound 42 = .ok (.getfield 133, 3) := by decide +kernel
theorem dX6_bound_45 : decode cX6_bound 45 = .ok (.if_icmp .ge 81, 3) := by decide +kernel
theorem dX6_bound_48 : decode cX6_bound 48 = .ok (.aload_n 0, 1) := by decide +kernel
theorem dX6_bound_49 : decode cX6_bound 49 = .ok (.getfield 31, 3) := by decide +kernel
theorem dX6_bound_52 : decode cX6_bound 52 = .ok (.iload_n 2, 1) := by decide +kernel
theorem dX6_bound_53 : decode cX6_bound 53 = .ok (.iload 4, 2) := by decide +kernel
theorem dX6_bound_55 : decode cX6_bound 55 = .ok (.invokevirtual 136, 3) := by decide +kernel
theorem dX6_bound_58 : decode cX6_bound 58 = .ok (.aload_n 0, 1) := by decide +kernel
theorem dX6_bound_59 : decode cX6_bound 59 = .ok (.getfield 31, 3) := by decide +kernel
theorem dX6_bound_62 : decode cX6_bound 62 = .ok (.iload_n 3, 1) := by decide +kernel
theorem dX6_bound_63 : decode cX6_bound 63 = .ok (.iload 4, 2) := by decide +kernel
theorem dX6_bound_65 : decode cX6_bound 65 = .ok (.invokevirtual 136, 3) := by decide +kernel
theorem dX6_bound_68 : decode cX6_bound 68 = .ok (.if_icmp .gt 7, 3) := by decide +kernel
theorem dX6_bound_71 : decode cX6_bound 71 = .ok (.iconst 1, 1) := by decide +kernel
theorem dX6_bound_72 : decode cX6_bound 72 = .ok (.goto 4, 3) := by decide +kernel
theorem dX6_bound_75 : decode cX6_bound 75 = .ok (.iconst 0, 1) := by decide +kernel
theorem dX6_bound_76 : decode cX6_bound 76 = .ok (.istore 5, 2) := by decide +kernel
theorem dX6_bound_78 : decode cX6_bound 78 = .ok (.iload 5, 2) := by decide +kernel
theorem dX6_bound_80 : decode cX6_bound 80 = .ok (.iload_n 1, 1) := by decide +kernel
theorem dX6_bound_81 : decode cX6_bound 81 = .ok (.ifCond .ne 7, 3) := by decide +kernel
theorem dX6_bound_84 : decode cX6_bound 84 = .ok (.iconst 1, 1) := by decide +kernel
theorem dX6_bound_85 : decode cX6_bound 85 = .ok (.goto 4, 3) := by decide +kernel
theorem dX6_bound_88 : decode cX6_bound 88 = .ok (.iconst 0, 1) := by decide +kernel
theorem dX6_bound_89 : decode cX6_bound 89 = .ok (.if_icmp .ne 7, 3) := by decide +kernel
theorem dX6_bound_92 : decode cX6_bound 92 = .ok (.iload_n 2, 1) := by decide +kernel
theorem dX6_bound_93 : decode cX6_bound 93 = .ok (.goto 4, 3) := by decide +kernel
theorem dX6_bound_96 : decode cX6_bound 96 = .ok (.iload_n 3, 1) := by decide +kernel
theorem dX6_bound_97 : decode cX6_bound 97 = .ok (.istore 6, 2) := by decide +kernel
theorem dX6_bound_99 : decode cX6_bound 99 = .ok (.aload_n 0, 1) := by decide +kernel
theorem dX6_bound_100 : decode cX6_bound 100 = .ok (.getfield 25, 3) := by decide +kernel
theorem dX6_bound_103 : decode cX6_bound 103 = .ok (.getfield 139, 3) := by decide +kernel
theorem dX6_bound_106 : decode cX6_bound 106 = .ok (.iload 4, 2) := by decide +kernel
theorem dX6_bound_108 : decode cX6_bound 108 = .ok (.aload_n 0, 1) := by decide +kernel
theorem dX6_bound_109 : decode cX6_bound 109 = .ok (.getfield 31, 3) := by decide +kernel
theorem dX6_bound_112 : decode cX6_bound 112 = .ok (.iload 6, 2) := by decide +kernel
theorem dX6_bound_114 : decode cX6_bound 114 = .ok (.iload 4, 2) := by decide +kernel
theorem dX6_bound_116 : decode cX6_bound 116 = .ok (.invokevirtual 127, 3) := by decide +kernel
theorem dX6_bound_119 : decode cX6_bound 119 = .ok (.iastore, 1) := by decide +kernel
theorem dX6_bound_120 : decode cX6_bound 120 = .ok (.iinc 4 1, 3) := by decide +kernel
theorem dX6_bound_123 : decode cX6_bound 123 = .ok (.goto (-87), 3) := by decide +kernel
theorem dX6_bound_126 : decode cX6_bound 126 = .ok (.aload_n 0, 1) := by decide +kernel
theorem dX6_bound_127 : decode cX6_bound 127 = .ok (.getfield 31, 3) := by decide +kernel
theorem dX6_bound_130 : decode cX6_bound 130 = .ok (.aload_n 0, 1) := by decide +kernel
theorem dX6_bound_131 : decode cX6_bound 131 = .ok (.getfield 25, 3) := by decide +kernel
theorem dX6_bound_134 : decode cX6_bound 134 = .ok (.invokevirtual 142, 3) := by decide +kernel
theorem dX6_bound_137 : decode cX6_bound 137 = .ok (.ireturn, 1) := by decide +kernel
theorem dX6_behind_0 : decode cX6_behind 0 = .ok (.aload_n 0, 1) := by decide +kernel
theorem dX6_behind_1 : decode cX6_behind 1 = .ok (.getfield 31, 3) := by decide +kernel
theorem dX6_behind_4 : decode cX6_behind 4 = .ok (.iload_n 1, 1) := by decide +kernel
theorem dX6_behind_5 : decode cX6_behind 5 = .ok (.invokevirtual 121, 3) := by decide +kernel
theorem dX6_behind_8 : decode cX6_behind 8 = .ok (.ifCond .eq 14, 3) := by decide +kernel
theorem dX6_behind_11 : decode cX6_behind 11 = .ok (.aload_n 0, 1) := by decide +kernel
theorem dX6_behind_12 : decode cX6_behind 12 = .ok (.getfield 31, 3) := by decide +kernel
theorem dX6_behind_15 : decode cX6_behind 15 = .ok (.iload_n 2, 1) := by decide +kernel
theorem dX6_behind_16 : decode cX6_behind 16 = .ok (.invokevirtual 121, 3) := by decide +kernel
theorem dX6_behind_19 : decode cX6_behind 19 = .ok (.ifCond .ne 5, 3) := by decide +kernel
theorem dX6_behind_22 : decode cX6_behind 22 = .ok (.iconst (-1), 1) := by decide +kernel
theorem dX6_behind_23 : decode cX6_behind 23 = .ok (.ireturn, 1) := by decide +kernel
theorem dX6_behind_24 : decode cX6_behind 24 = .ok (.aload_n 0, 1) := by decide +kernel
theorem dX6_behind_25 : decode cX6_behind 25 = .ok (.getfield 31, 3) := by decide +kernel
theorem dX6_behind_28 : decode cX6_behind 28 = .ok (.iload_n 1, 1) := by decide +kernel
theorem dX6_behind_29 : decode cX6_behind 29 = .ok (.iload_n 2, 1) := by decide +kernel
theorem dX6_behind_30 : decode cX6_behind 30 = .ok (.invokevirtual 146, 3) := by decide +kernel
theorem dX6_behind_33 : decode cX6_behind 33 = .ok (.ifCond .eq 7, 3) := by decide +kernel
theorem dX6_behind_36 : decode cX6_behind 36 = .ok (.iconst 1, 1) := by decide +kernel
theorem dX6_behind_37 : decode cX6_behind 37 = .ok (.goto 4, 3) := by decide +kernel
theorem dX6_behind_40 : decode cX6_behind 40 = .ok (.iconst 0, 1) := by decide +kernel
theorem dX6_behind_41 : decode cX6_behind 41 = .ok (.ireturn, 1) := by decide +kernel
theorem dX6_rotation_0 : decode cX6_rotation 0 = .ok (.aload_n 0, 1) := by decide +kernel
theorem dX6_rotation_1 : decode cX6_rotation 1 = .ok (.getfield 40, 3) := by decide +kernel
theorem dX6_rotation_4 : decode cX6_rotation 4 = .ok (.iload_n 1, 1) := by decide +kernel
theorem dX6_rotation_5 : decode cX6_rotation 5 = .ok (.invokevirtual 149, 3) := by decide +kernel
theorem dX6_rotation_8 : decode cX6_rotation 8 = .ok (.ifCond .ne 5, 3) := by decide +kernel
theorem dX6_rotation_11 : decode cX6_rotation 11 = .ok (.iconst (-1), 1) := by decide +kernel
theorem dX6_rotation_12 : decode cX6_rotation 12 = .ok (.ireturn, 1) := by decide +kernel
theorem dX6_rotation_13 : decode cX6_rotation 13 = .ok (.aload_n 0, 1) := by decide +kernel
theorem dX6_rotation_14 : decode cX6_rotation 14 = .ok (.getfield 40, 3) := by decide +kernel
theorem dX6_rotation_17 : decode cX6_rotation 17 = .ok (.iload_n 1, 1) := by decide +kernel
theorem dX6_rotation_18 : decode cX6_rotation 18 = .ok (.iload_n 2, 1) := by decide +kernel
theorem dX6_rotation_19 : decode cX6_rotation 19 = .ok (.invokevirtual 150, 3) := by decide +kernel
theorem dX6_rotation_22 : decode cX6_rotation 22 = .ok (.istore 4, 2) := by decide +kernel
theorem dX6_rotation_24 : decode cX6_rotation 24 = .ok (.iload 4, 2) := by decide +kernel
theorem dX6_rotation_26 : decode cX6_rotation 26 = .ok (.iconst (-1), 1) := by decide +kernel
theorem dX6_rotation_27 : decode cX6_rotation 27 = .ok (.if_icmp .ne 5, 3) := by decide +kernel
theorem dX6_rotation_30 : decode cX6_rotation 30 = .ok (.iconst (-1), 1) := by decide +kernel
theorem dX6_rotation_31 : decode cX6_rotation 31 = .ok (.ireturn, 1) := by decide +kernel
theorem dX6_rotation_32 : decode cX6_rotation 32 = .ok (.iload_n 3, 1) := by decide +kernel
theorem dX6_rotation_33 : decode cX6_rotation 33 = .ok (.tableswitch 68 0 2 #[27, 30, 49], 27) := by decide +kernel
theorem dX6_rotation_60 : decode cX6_rotation 60 = .ok (.iload 4, 2) := by decide +kernel
theorem dX6_rotation_62 : decode cX6_rotation 62 = .ok (.ireturn, 1) := by decide +kernel
theorem dX6_rotation_63 : decode cX6_rotation 63 = .ok (.aload_n 0, 1) := by decide +kernel
theorem dX6_rotation_64 : decode cX6_rotation 64 = .ok (.getfield 31, 3) := by decide +kernel
theorem dX6_rotation_67 : decode cX6_rotation 67 = .ok (.aload_n 0, 1) := by decide +kernel
theorem dX6_rotation_68 : decode cX6_rotation 68 = .ok (.getfield 40, 3) := by decide +kernel
theorem dX6_rotation_71 : decode cX6_rotation 71 = .ok (.getfield 153, 3) := by decide +kernel
theorem dX6_rotation_74 : decode cX6_rotation 74 = .ok (.iload_n 1, 1) := by decide +kernel
theorem dX6_rotation_75 : decode cX6_rotation 75 = .ok (.iaload, 1) := by decide +kernel
theorem dX6_rotation_76 : decode cX6_rotation 76 = .ok (.iload 4, 2) := by decide +kernel
theorem dX6_rotation_78 : decode cX6_rotation 78 = .ok (.invokevirtual 127, 3) := by decide +kernel
theorem dX6_rotation_81 : decode cX6_rotation 81 = .ok (.ireturn, 1) := by decide +kernel
theorem dX6_rotation_82 : decode cX6_rotation 82 = .ok (.aload_n 0, 1) := by decide +kernel
theorem dX6_rotation_83 : decode cX6_rotation 83 = .ok (.getfield 31, 3) := by decide +kernel
theorem dX6_rotation_86 : decode cX6_rotation 86 = .ok (.aload_n 0, 1) := by decide +kernel
theorem dX6_rotation_87 : decode cX6_rotation 87 = .ok (.getfield 40, 3) := by decide +kernel
theorem dX6_rotation_90 : decode cX6_rotation 90 = .ok (.getfield 156, 3) := by decide +kernel
theorem dX6_rotation_93 : decode cX6_rotation 93 = .ok (.iload_n 1, 1) := by decide +kernel
theorem dX6_rotation_94 : decode cX6_rotation 94 = .ok (.iaload, 1) := by decide +kernel
theorem dX6_rotation_95 : decode cX6_rotation 95 = .ok (.iload 4, 2) := by decide +kernel
theorem dX6_rotation_97 : decode cX6_rotation 97 = .ok (.invokevirtual 127, 3) := by decide +kernel
theorem dX6_rotation_100 : decode cX6_rotation 100 = .ok (.ireturn, 1) := by decide +kernel
theorem dX6_rotation_101 : decode cX6_rotation 101 = .ok (.iconst (-1), 1) := by decide +kernel
theorem dX6_rotation_102 : decode cX6_rotation 102 = .ok (.ireturn, 1) := by decide +kernel
theorem dX6_done_0 : decode cX6_done 0 = .ok (.aload_n 0, 1) := by decide +kernel
theorem dX6_done_1 : decode cX6_done 1 = .ok (.getfield 40, 3) := by decide +kernel
theorem dX6_done_4 : decode cX6_done 4 = .ok (.iload_n 1, 1) := by decide +kernel
theorem dX6_done_5 : decode cX6_done 5 = .ok (.invokevirtual 149, 3) := by decide +kernel
theorem dX6_done_8 : decode cX6_done 8 = .ok (.ifCond .eq 14, 3) := by decide +kernel
theorem dX6_done_11 : decode cX6_done 11 = .ok (.aload_n 0, 1) := by decide +kernel
theorem dX6_done_12 : decode cX6_done 12 = .ok (.getfield 31, 3) := by decide +kernel
theorem dX6_done_15 : decode cX6_done 15 = .ok (.iload_n 2, 1) := by decide +kernel
theorem dX6_done_16 : decode cX6_done 16 = .ok (.invokevirtual 121, 3) := by decide +kernel
theorem dX6_done_19 : decode cX6_done 19 = .ok (.ifCond .ne 5, 3) := by decide +kernel
theorem dX6_done_22 : decode cX6_done 22 = .ok (.iconst (-1), 1) := by decide +kernel
theorem dX6_done_23 : decode cX6_done 23 = .ok (.ireturn, 1) := by decide +kernel
theorem dX6_done_24 : decode cX6_done 24 = .ok (.aload_n 0, 1) := by decide +kernel
theorem dX6_done_25 : decode cX6_done 25 = .ok (.getfield 40, 3) := by decide +kernel
theorem dX6_done_28 : decode cX6_done 28 = .ok (.iload_n 1, 1) := by decide +kernel
theorem dX6_done_29 : decode cX6_done 29 = .ok (.iload_n 2, 1) := by decide +kernel
theorem dX6_done_30 : decode cX6_done 30 = .ok (.invokevirtual 159, 3) := by decide +kernel
theorem dX6_done_33 : decode cX6_done 33 = .ok (.ifCond .eq 7, 3) := by decide +kernel
theorem dX6_done_36 : decode cX6_done 36 = .ok (.iconst 1, 1) := by decide +kernel
theorem dX6_done_37 : decode cX6_done 37 = .ok (.goto 4, 3) := by decide +kernel
theorem dX6_done_40 : decode cX6_done 40 = .ok (.iconst 0, 1) := by decide +kernel
theorem dX6_done_41 : decode cX6_done 41 = .ok (.ireturn, 1) := by decide +kernel
theorem dX6_before_0 : decode cX6_before 0 = .ok (.aload_n 0, 1) := by decide +kernel
theorem dX6_before_1 : decode cX6_before 1 = .ok (.getfield 40, 3) := by decide +kernel
theorem dX6_before_4 : decode cX6_before 4 = .ok (.iload_n 1, 1) := by decide +kernel
theorem dX6_before_5 : decode cX6_before 5 = .ok (.invokevirtual 149, 3) := by decide +kernel
theorem dX6_before_8 : decode cX6_before 8 = .ok (.ifCond .eq 14, 3) := by decide +kernel
theorem dX6_before_11 : decode cX6_before 11 = .ok (.aload_n 0, 1) := by decide +kernel
theorem dX6_before_12 : decode cX6_before 12 = .ok (.getfield 40, 3) := by decide +kernel
theorem dX6_before_15 : decode cX6_before 15 = .ok (.iload_n 2, 1) := by decide +kernel
theorem dX6_before_16 : decode cX6_before 16 = .ok (.invokevirtual 149, 3) := by decide +kernel
theorem dX6_before_19 : decode cX6_before 19 = .ok (.ifCond .ne 5, 3) := by decide +kernel
theorem dX6_before_22 : decode cX6_before 22 = .ok (.iconst (-1), 1) := by decide +kernel
theorem dX6_before_23 : decode cX6_before 23 = .ok (.ireturn, 1) := by decide +kernel
theorem dX6_before_24 : decode cX6_before 24 = .ok (.aload_n 0, 1) := by decide +kernel
theorem dX6_before_25 : decode cX6_before 25 = .ok (.getfield 40, 3) := by decide +kernel
theorem dX6_before_28 : decode cX6_before 28 = .ok (.iload_n 1, 1) := by decide +kernel
theorem dX6_before_29 : decode cX6_before 29 = .ok (.iload_n 2, 1) := by decide +kernel
theorem dX6_before_30 : decode cX6_before 30 = .ok (.invokevirtual 162, 3) := by decide +kernel
theorem dX6_before_33 : decode cX6_before 33 = .ok (.ifCond .eq 7, 3) := by decide +kernel
theorem dX6_before_36 : decode cX6_before 36 = .ok (.iconst 1, 1) := by decide +kernel
theorem dX6_before_37 : decode cX6_before 37 = .ok (.goto 4, 3) := by decide +kernel
theorem dX6_before_40 : decode cX6_before 40 = .ok (.iconst 0, 1) := by decide +kernel
theorem dX6_before_41 : decode cX6_before 41 = .ok (.ireturn, 1) := by decide +kernel
theorem dX6_tell_0 : decode cX6_tell 0 = .ok (.aload_n 0, 1) := by decide +kernel
theorem dX6_tell_1 : decode cX6_tell 1 = .ok (.getfield 12, 3) := by decide +kernel
theorem dX6_tell_4 : decode cX6_tell 4 = .ok (.iload_n 1, 1) := by decide +kernel
theorem dX6_tell_5 : decode cX6_tell 5 = .ok (.invokevirtual 124, 3) := by decide +kernel
theorem dX6_tell_8 : decode cX6_tell 8 = .ok (.ifCond .ne 11, 3) := by decide +kernel
theorem dX6_tell_11 : decode cX6_tell 11 = .ok (.new 70, 3) := by decide +kernel
theorem dX6_tell_14 : decode cX6_tell 14 = .ok (.dup, 1) := by decide +kernel
theorem dX6_tell_15 : decode cX6_tell 15 = .ok (.invokespecial 72, 3) := by decide +kernel
theorem dX6_tell_18 : decode cX6_tell 18 = .ok (.athrow, 1) := by decide +kernel
theorem dX6_tell_19 : decode cX6_tell 19 = .ok (.iload_n 2, 1) := by decide +kernel
theorem dX6_tell_20 : decode cX6_tell 20 = .ok (.iconst (-1), 1) := by decide +kernel
theorem dX6_tell_21 : decode cX6_tell 21 = .ok (.if_icmp .eq 22, 3) := by decide +kernel
theorem dX6_tell_24 : decode cX6_tell 24 = .ok (.aload_n 0, 1) := by decide +kernel
theorem dX6_tell_25 : decode cX6_tell 25 = .ok (.getfield 12, 3) := by decide +kernel
theorem dX6_tell_28 : decode cX6_tell 28 = .ok (.iload_n 2, 1) := by decide +kernel
theorem dX6_tell_29 : decode cX6_tell 29 = .ok (.invokevirtual 66, 3) := by decide +kernel
theorem dX6_tell_32 : decode cX6_tell 32 = .ok (.ifCond .ne 11, 3) := by decide +kernel
theorem dX6_tell_35 : decode cX6_tell 35 = .ok (.new 70, 3) := by decide +kernel
theorem dX6_tell_38 : decode cX6_tell 38 = .ok (.dup, 1) := by decide +kernel
theorem dX6_tell_39 : decode cX6_tell 39 = .ok (.invokespecial 72, 3) := by decide +kernel
theorem dX6_tell_42 : decode cX6_tell 42 = .ok (.athrow, 1) := by decide +kernel
theorem dX6_tell_43 : decode cX6_tell 43 = .ok (.aload_n 0, 1) := by decide +kernel
theorem dX6_tell_44 : decode cX6_tell 44 = .ok (.getfield 21, 3) := by decide +kernel
theorem dX6_tell_47 : decode cX6_tell 47 = .ok (.getfield 139, 3) := by decide +kernel
theorem dX6_tell_50 : decode cX6_tell 50 = .ok (.iload_n 1, 1) := by decide +kernel
theorem dX6_tell_51 : decode cX6_tell 51 = .ok (.iload_n 2, 1) := by decide +kernel
theorem dX6_tell_52 : decode cX6_tell 52 = .ok (.iastore, 1) := by decide +kernel
theorem dX6_tell_53 : decode cX6_tell 53 = .ok (.return_, 1) := by decide +kernel
theorem dX6_take_0 : decode cX6_take 0 = .ok (.aload_n 0, 1) := by decide +kernel
theorem dX6_take_1 : decode cX6_take 1 = .ok (.getfield 31, 3) := by decide +kernel
theorem dX6_take_4 : decode cX6_take 4 = .ok (.iload_n 1, 1) := by decide +kernel
theorem dX6_take_5 : decode cX6_take 5 = .ok (.invokevirtual 121, 3) := by decide +kernel
theorem dX6_take_8 : decode cX6_take 8 = .ok (.ifCond .ne 11, 3) := by decide +kernel
theorem dX6_take_11 : decode cX6_take 11 = .ok (.new 70, 3) := by decide +kernel
theorem dX6_take_14 : decode cX6_take 14 = .ok (.dup, 1) := by decide +kernel
theorem dX6_take_15 : decode cX6_take 15 = .ok (.invokespecial 72, 3) := by decide +kernel
theorem dX6_take_18 : decode cX6_take 18 = .ok (.athrow, 1) := by decide +kernel
theorem dX6_take_19 : decode cX6_take 19 = .ok (.aload_n 0, 1) := by decide +kernel
theorem dX6_take_20 : decode cX6_take 20 = .ok (.getfield 31, 3) := by decide +kernel
theorem dX6_take_23 : decode cX6_take 23 = .ok (.aload_n 0, 1) := by decide +kernel
theorem dX6_take_24 : decode cX6_take 24 = .ok (.getfield 21, 3) := by decide +kernel
theorem dX6_take_27 : decode cX6_take 27 = .ok (.iload_n 1, 1) := by decide +kernel
theorem dX6_take_28 : decode cX6_take 28 = .ok (.invokevirtual 165, 3) := by decide +kernel
theorem dX6_take_31 : decode cX6_take 31 = .ok (.return_, 1) := by decide +kernel
theorem dX6_fits_0 : decode cX6_fits 0 = .ok (.aload_n 0, 1) := by decide +kernel
theorem dX6_fits_1 : decode cX6_fits 1 = .ok (.getfield 21, 3) := by decide +kernel
theorem dX6_fits_4 : decode cX6_fits 4 = .ok (.invokevirtual 169, 3) := by decide +kernel
theorem dX6_fits_7 : decode cX6_fits 7 = .ok (.ifCond .eq 7, 3) := by decide +kernel
theorem dX6_fits_10 : decode cX6_fits 10 = .ok (.iconst 1, 1) := by decide +kernel
theorem dX6_fits_11 : decode cX6_fits 11 = .ok (.goto 4, 3) := by decide +kernel
theorem dX6_fits_14 : decode cX6_fits 14 = .ok (.iconst 0, 1) := by decide +kernel
theorem dX6_fits_15 : decode cX6_fits 15 = .ok (.ireturn, 1) := by decide +kernel
theorem dX6_blocks_0 : decode cX6_blocks 0 = .ok (.aload_n 0, 1) := by decide +kernel
theorem dX6_blocks_1 : decode cX6_blocks 1 = .ok (.getfield 21, 3) := by decide +kernel
theorem dX6_blocks_4 : decode cX6_blocks 4 = .ok (.invokevirtual 169, 3) := by decide +kernel
theorem dX6_blocks_7 : decode cX6_blocks 7 = .ok (.ifCond .eq 13, 3) := by decide +kernel
theorem dX6_blocks_10 : decode cX6_blocks 10 = .ok (.aload_n 0, 1) := by decide +kernel
theorem dX6_blocks_11 : decode cX6_blocks 11 = .ok (.getfield 21, 3) := by decide +kernel
theorem dX6_blocks_14 : decode cX6_blocks 14 = .ok (.invokevirtual 172, 3) := by decide +kernel
theorem dX6_blocks_17 : decode cX6_blocks 17 = .ok (.goto 4, 3) := by decide +kernel
theorem dX6_blocks_20 : decode cX6_blocks 20 = .ok (.iconst (-1), 1) := by decide +kernel
theorem dX6_blocks_21 : decode cX6_blocks 21 = .ok (.ireturn, 1) := by decide +kernel
theorem dX6_blocking_0 : decode cX6_blocking 0 = .ok (.aload_n 0, 1) := by decide +kernel
theorem dX6_blocking_1 : decode cX6_blocking 1 = .ok (.getfield 21, 3) := by decide +kernel
theorem dX6_blocking_4 : decode cX6_blocking 4 = .ok (.invokevirtual 169, 3) := by decide +kernel
theorem dX6_blocking_7 : decode cX6_blocking 7 = .ok (.ifCond .eq 14, 3) := by decide +kernel
theorem dX6_blocking_10 : decode cX6_blocking 10 = .ok (.aload_n 0, 1) := by decide +kernel
theorem dX6_blocking_11 : decode cX6_blocking 11 = .ok (.getfield 21, 3) := by decide +kernel
theorem dX6_blocking_14 : decode cX6_blocking 14 = .ok (.iload_n 1, 1) := by decide +kernel
theorem dX6_blocking_15 : decode cX6_blocking 15 = .ok (.invokevirtual 175, 3) := by decide +kernel
theorem dX6_blocking_18 : decode cX6_blocking 18 = .ok (.goto 4, 3) := by decide +kernel
theorem dX6_blocking_21 : decode cX6_blocking 21 = .ok (.iconst (-1), 1) := by decide +kernel
theorem dX6_blocking_22 : decode cX6_blocking 22 = .ok (.ireturn, 1) := by decide +kernel
theorem dX6_which_0 : decode cX6_which 0 = .ok (.aload_n 0, 1) := by decide +kernel
theorem dX6_which_1 : decode cX6_which 1 = .ok (.getfield 31, 3) := by decide +kernel
theorem dX6_which_4 : decode cX6_which 4 = .ok (.aload_n 0, 1) := by decide +kernel
theorem dX6_which_5 : decode cX6_which 5 = .ok (.getfield 21, 3) := by decide +kernel
theorem dX6_which_8 : decode cX6_which 8 = .ok (.invokevirtual 142, 3) := by decide +kernel
theorem dX6_which_11 : decode cX6_which 11 = .ok (.ireturn, 1) := by decide +kernel
theorem dX6_check_0 : decode cX6_check 0 = .ok (.aload_n 0, 1) := by decide +kernel
theorem dX6_check_1 : decode cX6_check 1 = .ok (.invokevirtual 109, 3) := by decide +kernel
theorem dX6_check_4 : decode cX6_check 4 = .ok (.ifCond .ne 5, 3) := by decide +kernel
theorem dX6_check_7 : decode cX6_check 7 = .ok (.iconst (-1), 1) := by decide +kernel
theorem dX6_check_8 : decode cX6_check 8 = .ok (.ireturn, 1) := by decide +kernel
theorem dX6_check_9 : decode cX6_check 9 = .ok (.iconst 0, 1) := by decide +kernel
theorem dX6_check_10 : decode cX6_check 10 = .ok (.istore_n 1, 1) := by decide +kernel
theorem dX6_check_11 : decode cX6_check 11 = .ok (.iload_n 1, 1) := by decide +kernel
theorem dX6_check_12 : decode cX6_check 12 = .ok (.aload_n 0, 1) := by decide +kernel
theorem dX6_check_13 : decode cX6_check 13 = .ok (.getfield 31, 3) := by decide +kernel
theorem dX6_check_16 : decode cX6_check 16 = .ok (.getfield 105, 3) := by decide +kernel
theorem dX6_check_19 : decode cX6_check 19 = .ok (.if_icmp .ge 44, 3) := by decide +kernel
theorem dX6_check_22 : decode cX6_check 22 = .ok (.aload_n 0, 1) := by decide +kernel
theorem dX6_check_23 : decode cX6_check 23 = .ok (.getfield 31, 3) := by decide +kernel
theorem dX6_check_26 : decode cX6_check 26 = .ok (.aload_n 0, 1) := by decide +kernel
theorem dX6_check_27 : decode cX6_check 27 = .ok (.getfield 25, 3) := by decide +kernel
theorem dX6_check_30 : decode cX6_check 30 = .ok (.iload_n 1, 1) := by decide +kernel
theorem dX6_check_31 : decode cX6_check 31 = .ok (.invokevirtual 165, 3) := by decide +kernel
theorem dX6_check_34 : decode cX6_check 34 = .ok (.aload_n 0, 1) := by decide +kernel
theorem dX6_check_35 : decode cX6_check 35 = .ok (.getfield 25, 3) := by decide +kernel
theorem dX6_check_38 : decode cX6_check 38 = .ok (.invokevirtual 178, 3) := by decide +kernel
theorem dX6_check_41 : decode cX6_check 41 = .ok (.ifCond .eq 14, 3) := by decide +kernel
theorem dX6_check_44 : decode cX6_check 44 = .ok (.aload_n 0, 1) := by decide +kernel
theorem dX6_check_45 : decode cX6_check 45 = .ok (.getfield 40, 3) := by decide +kernel
theorem dX6_check_48 : decode cX6_check 48 = .ok (.iload_n 1, 1) := by decide +kernel
theorem dX6_check_49 : decode cX6_check 49 = .ok (.invokevirtual 181, 3) := by decide +kernel
theorem dX6_check_52 : decode cX6_check 52 = .ok (.ifCond .ne 5, 3) := by decide +kernel
theorem dX6_check_55 : decode cX6_check 55 = .ok (.iconst 0, 1) := by decide +kernel
theorem dX6_check_56 : decode cX6_check 56 = .ok (.ireturn, 1) := by decide +kernel
theorem dX6_check_57 : decode cX6_check 57 = .ok (.iinc 1 1, 3) := by decide +kernel
theorem dX6_check_60 : decode cX6_check 60 = .ok (.goto (-49), 3) := by decide +kernel
theorem dX6_check_63 : decode cX6_check 63 = .ok (.iconst 1, 1) := by decide +kernel
theorem dX6_check_64 : decode cX6_check 64 = .ok (.ireturn, 1) := by decide +kernel
theorem dX6_isWorked_0 : decode cX6_isWorked 0 = .ok (.aload_n 0, 1) := by decide +kernel
theorem dX6_isWorked_1 : decode cX6_isWorked 1 = .ok (.getfield 31, 3) := by decide +kernel
theorem dX6_isWorked_4 : decode cX6_isWorked 4 = .ok (.getfield 105, 3) := by decide +kernel
theorem dX6_isWorked_7 : decode cX6_isWorked 7 = .ok (.ifCond .le 7, 3) := by decide +kernel
theorem dX6_isWorked_10 : decode cX6_isWorked 10 = .ok (.iconst 1, 1) := by decide +kernel
theorem dX6_isWorked_11 : decode cX6_isWorked 11 = .ok (.goto 4, 3) := by decide +kernel
theorem dX6_isWorked_14 : decode cX6_isWorked 14 = .ok (.iconst 0, 1) := by decide +kernel
theorem dX6_isWorked_15 : decode cX6_isWorked 15 = .ok (.ireturn, 1) := by decide +kernel
theorem dX6_dropWork_0 : decode cX6_dropWork 0 = .ok (.aload_n 0, 1) := by decide +kernel
theorem dX6_dropWork_1 : decode cX6_dropWork 1 = .ok (.getfield 31, 3) := by decide +kernel
theorem dX6_dropWork_4 : decode cX6_dropWork 4 = .ok (.iconst 0, 1) := by decide +kernel
theorem dX6_dropWork_5 : decode cX6_dropWork 5 = .ok (.putfield 105, 3) := by decide +kernel
theorem dX6_dropWork_8 : decode cX6_dropWork 8 = .ok (.aload_n 0, 1) := by decide +kernel
theorem dX6_dropWork_9 : decode cX6_dropWork 9 = .ok (.getfield 40, 3) := by decide +kernel
theorem dX6_dropWork_12 : decode cX6_dropWork 12 = .ok (.iconst 0, 1) := by decide +kernel
theorem dX6_dropWork_13 : decode cX6_dropWork 13 = .ok (.putfield 113, 3) := by decide +kernel
theorem dX6_dropWork_16 : decode cX6_dropWork 16 = .ok (.return_, 1) := by decide +kernel
theorem dJ9_abs_0f7a4_0 : decode cJ9_abs_0f7a4 0 = .ok (.iload_n 0, 1) := by decide +kernel
theorem dJ9_abs_0f7a4_1 : decode cJ9_abs_0f7a4 1 = .ok (.ifCond .ge 8, 3) := by decide +kernel
theorem dJ9_abs_0f7a4_4 : decode cJ9_abs_0f7a4 4 = .ok (.iload_n 0, 1) := by decide +kernel
theorem dJ9_abs_0f7a4_5 : decode cJ9_abs_0f7a4 5 = .ok (.ineg, 1) := by decide +kernel
theorem dJ9_abs_0f7a4_6 : decode cJ9_abs_0f7a4 6 = .ok (.goto 4, 3) := by decide +kernel
theorem dJ9_abs_0f7a4_9 : decode cJ9_abs_0f7a4 9 = .ok (.iload_n 0, 1) := by decide +kernel
theorem dJ9_abs_0f7a4_10 : decode cJ9_abs_0f7a4 10 = .ok (.ireturn, 1) := by decide +kernel
theorem dJ9_max_7cf53_0 : decode cJ9_max_7cf53 0 = .ok (.iload_n 0, 1) := by decide +kernel
theorem dJ9_max_7cf53_1 : decode cJ9_max_7cf53 1 = .ok (.iload_n 1, 1) := by decide +kernel
theorem dJ9_max_7cf53_2 : decode cJ9_max_7cf53 2 = .ok (.if_icmp .lt 7, 3) := by decide +kernel
theorem dJ9_max_7cf53_5 : decode cJ9_max_7cf53 5 = .ok (.iload_n 0, 1) := by decide +kernel
theorem dJ9_max_7cf53_6 : decode cJ9_max_7cf53 6 = .ok (.goto 4, 3) := by decide +kernel
theorem dJ9_max_7cf53_9 : decode cJ9_max_7cf53 9 = .ok (.iload_n 1, 1) := by decide +kernel
theorem dJ9_max_7cf53_10 : decode cJ9_max_7cf53 10 = .ok (.ireturn, 1) := by decide +kernel
theorem dJ7_fill_53178_0 : decode cJ7_fill_53178 0 = .ok (.iconst 0, 1) := by decide +kernel
theorem dJ7_fill_53178_1 : decode cJ7_fill_53178 1 = .ok (.istore_n 2, 1) := by decide +kernel
theorem dJ7_fill_53178_2 : decode cJ7_fill_53178 2 = .ok (.aload_n 0, 1) := by decide +kernel
theorem dJ7_fill_53178_3 : decode cJ7_fill_53178 3 = .ok (.arraylength, 1) := by decide +kernel
theorem dJ7_fill_53178_4 : decode cJ7_fill_53178 4 = .ok (.istore_n 3, 1) := by decide +kernel
theorem dJ7_fill_53178_5 : decode cJ7_fill_53178 5 = .ok (.iload_n 2, 1) := by decide +kernel
theorem dJ7_fill_53178_6 : decode cJ7_fill_53178 6 = .ok (.iload_n 3, 1) := by decide +kernel
theorem dJ7_fill_53178_7 : decode cJ7_fill_53178 7 = .ok (.if_icmp .ge 13, 3) := by decide +kernel
theorem dJ7_fill_53178_10 : decode cJ7_fill_53178 10 = .ok (.aload_n 0, 1) := by decide +kernel
theorem dJ7_fill_53178_11 : decode cJ7_fill_53178 11 = .ok (.iload_n 2, 1) := by decide +kernel
theorem dJ7_fill_53178_12 : decode cJ7_fill_53178 12 = .ok (.iload_n 1, 1) := by decide +kernel
theorem dJ7_fill_53178_13 : decode cJ7_fill_53178 13 = .ok (.iastore, 1) := by decide +kernel
theorem dJ7_fill_53178_14 : decode cJ7_fill_53178 14 = .ok (.iinc 2 1, 3) := by decide +kernel
theorem dJ7_fill_53178_17 : decode cJ7_fill_53178 17 = .ok (.goto (-12), 3) := by decide +kernel
theorem dJ7_fill_53178_20 : decode cJ7_fill_53178 20 = .ok (.return_, 1) := by decide +kernel
