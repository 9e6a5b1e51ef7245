theorem dX7_init_0 : decode cX7_init 0 = .ok (.aload_n 0, 1) := by decide +kernel
theorem dX7_init_1 : decode cX7_init 1 = .ok (.invokespecial 1, 3) := by decide +kernel
theorem dX7_init_4 : decode cX7_init 4 = .ok (.aload_n 0, 1) := by decide +kernel
theorem dX7_init_5 : decode cX7_init 5 = .ok (.iconst 1, 1) := by decide +kernel
theorem dX7_init_6 : decode cX7_init 6 = .ok (.putfield 7, 3) := by decide +kernel
theorem dX7_init_9 : decode cX7_init 9 = .ok (.aload_n 0, 1) := by decide +kernel
theorem dX7_init_10 : decode cX7_init 10 = .ok (.iconst 1, 1) := by decide +kernel
theorem dX7_init_11 : decode cX7_init 11 = .ok (.putfield 13, 3) := by decide +kernel
theorem dX7_init_14 : decode cX7_init 14 = .ok (.aload_n 0, 1) := by decide +kernel
theorem dX7_init_15 : decode cX7_init 15 = .ok (.bipush 6, 2) := by decide +kernel
theorem dX7_init_17 : decode cX7_init 17 = .ok (.newarray .int, 2) := by decide +kernel
theorem dX7_init_19 : decode cX7_init 19 = .ok (.putfield 16, 3) := by decide +kernel
theorem dX7_init_22 : decode cX7_init 22 = .ok (.aload_n 0, 1) := by decide +kernel
theorem dX7_init_23 : decode cX7_init 23 = .ok (.bipush 72, 2) := by decide +kernel
theorem dX7_init_25 : decode cX7_init 25 = .ok (.newarray .int, 2) := by decide +kernel
theorem dX7_init_27 : decode cX7_init 27 = .ok (.putfield 20, 3) := by decide +kernel
theorem dX7_init_30 : decode cX7_init 30 = .ok (.aload_n 0, 1) := by decide +kernel
theorem dX7_init_31 : decode cX7_init 31 = .ok (.bipush 12, 2) := by decide +kernel
theorem dX7_init_33 : decode cX7_init 33 = .ok (.newarray .int, 2) := by decide +kernel
theorem dX7_init_35 : decode cX7_init 35 = .ok (.putfield 23, 3) := by decide +kernel
theorem dX7_init_38 : decode cX7_init 38 = .ok (.aload_n 0, 1) := by decide +kernel
theorem dX7_init_39 : decode cX7_init 39 = .ok (.bipush 6, 2) := by decide +kernel
theorem dX7_init_41 : decode cX7_init 41 = .ok (.newarray .int, 2) := by decide +kernel
theorem dX7_init_43 : decode cX7_init 43 = .ok (.putfield 26, 3) := by decide +kernel
theorem dX7_init_46 : decode cX7_init 46 = .ok (.aload_n 0, 1) := by decide +kernel
theorem dX7_init_47 : decode cX7_init 47 = .ok (.sipush 4320, 3) := by decide +kernel
theorem dX7_init_50 : decode cX7_init 50 = .ok (.newarray .int, 2) := by decide +kernel
theorem dX7_init_52 : decode cX7_init 52 = .ok (.putfield 29, 3) := by decide +kernel
theorem dX7_init_55 : decode cX7_init 55 = .ok (.aload_n 0, 1) := by decide +kernel
theorem dX7_init_56 : decode cX7_init 56 = .ok (.bipush 64, 2) := by decide +kernel
theorem dX7_init_58 : decode cX7_init 58 = .ok (.newarray .int, 2) := by decide +kernel
theorem dX7_init_60 : decode cX7_init 60 = .ok (.putfield 32, 3) := by decide +kernel
theorem dX7_init_63 : decode cX7_init 63 = .ok (.aload_n 0, 1) := by decide +kernel
theorem dX7_init_64 : decode cX7_init 64 = .ok (.sipush 384, 3) := by decide +kernel
theorem dX7_init_67 : decode cX7_init 67 = .ok (.newarray .int, 2) := by decide +kernel
theorem dX7_init_69 : decode cX7_init 69 = .ok (.putfield 35, 3) := by decide +kernel
theorem dX7_init_72 : decode cX7_init 72 = .ok (.aload_n 0, 1) := by decide +kernel
theorem dX7_init_73 : decode cX7_init 73 = .ok (.sipush 384, 3) := by decide +kernel
theorem dX7_init_76 : decode cX7_init 76 = .ok (.newarray .int, 2) := by decide +kernel
theorem dX7_init_78 : decode cX7_init 78 = .ok (.putfield 38, 3) := by decide +kernel
theorem dX7_init_81 : decode cX7_init 81 = .ok (.aload_n 0, 1) := by decide +kernel
theorem dX7_init_82 : decode cX7_init 82 = .ok (.sipush 384, 3) := by decide +kernel
theorem dX7_init_85 : decode cX7_init 85 = .ok (.newarray .int, 2) := by decide +kernel
theorem dX7_init_87 : decode cX7_init 87 = .ok (.putfield 41, 3) := by decide +kernel
theorem dX7_init_90 : decode cX7_init 90 = .ok (.aload_n 0, 1) := by decide +kernel
theorem dX7_init_91 : decode cX7_init 91 = .ok (.bipush 6, 2) := by decide +kernel
theorem dX7_init_93 : decode cX7_init 93 = .ok (.newarray .int, 2) := by decide +kernel
theorem dX7_init_95 : decode cX7_init 95 = .ok (.putfield 44, 3) := by decide +kernel
theorem dX7_init_98 : decode cX7_init 98 = .ok (.aload_n 0, 1) := by decide +kernel
theorem dX7_init_99 : decode cX7_init 99 = .ok (.bipush 6, 2) := by decide +kernel
theorem dX7_init_101 : decode cX7_init 101 = .ok (.newarray .int, 2) := by decide +kernel
theorem dX7_init_103 : decode cX7_init 103 = .ok (.putfield 47, 3) := by decide +kernel
theorem dX7_init_106 : decode cX7_init 106 = .ok (.aload_n 0, 1) := by decide +kernel
theorem dX7_init_107 : decode cX7_init 107 = .ok (.iconst 1, 1) := by decide +kernel
theorem dX7_init_108 : decode cX7_init 108 = .ok (.iconst 1, 1) := by decide +kernel
theorem dX7_init_109 : decode cX7_init 109 = .ok (.invokevirtual 50, 3) := by decide +kernel
theorem dX7_init_112 : decode cX7_init 112 = .ok (.return_, 1) := by decide +kernel
theorem dX7_begin_0 : decode cX7_begin 0 = .ok (.aload_n 0, 1) := by decide +kernel
theorem dX7_begin_1 : decode cX7_begin 1 = .ok (.iload_n 1, 1) := by decide +kernel
theorem dX7_begin_2 : decode cX7_begin 2 = .ok (.putfield 7, 3) := by decide +kernel
theorem dX7_begin_5 : decode cX7_begin 5 = .ok (.aload_n 0, 1) := by decide +kernel
theorem dX7_begin_6 : decode cX7_begin 6 = .ok (.iload_n 2, 1) := by decide +kernel
theorem dX7_begin_7 : decode cX7_begin 7 = .ok (.putfield 13, 3) := by decide +kernel
theorem dX7_begin_10 : decode cX7_begin 10 = .ok (.aload_n 0, 1) := by decide +kernel
theorem dX7_begin_11 : decode cX7_begin 11 = .ok (.iconst 0, 1) := by decide +kernel
theorem dX7_begin_12 : decode cX7_begin 12 = .ok (.putfield 54, 3) := by decide +kernel
theorem dX7_begin_15 : decode cX7_begin 15 = .ok (.iconst 0, 1) := by decide +kernel
theorem dX7_begin_16 : decode cX7_begin 16 = .ok (.istore_n 3, 1) := by decide +kernel
theorem dX7_begin_17 : decode cX7_begin 17 = .ok (.iload_n 3, 1) := by decide +kernel
theorem dX7_begin_18 : decode cX7_begin 18 = .ok (.bipush 6, 2) := by decide +kernel
theorem dX7_begin_20 : decode cX7_begin 20 = .ok (.if_icmp .ge 23, 3) := by decide +kernel
theorem dX7_begin_23 : decode cX7_begin 23 = .ok (.aload_n 0, 1) := by decide +kernel
theorem dX7_begin_24 : decode cX7_begin 24 = .ok (.getfield 16, 3) := by decide +kernel
theorem dX7_begin_27 : decode cX7_begin 27 = .ok (.iload_n 3, 1) := by decide +kernel
theorem dX7_begin_28 : decode cX7_begin 28 = .ok (.iconst 1, 1) := by decide +kernel
theorem dX7_begin_29 : decode cX7_begin 29 = .ok (.iastore, 1) := by decide +kernel
theorem dX7_begin_30 : decode cX7_begin 30 = .ok (.aload_n 0, 1) := by decide +kernel
theorem dX7_begin_31 : decode cX7_begin 31 = .ok (.getfield 26, 3) := by decide +kernel
theorem dX7_begin_34 : decode cX7_begin 34 = .ok (.iload_n 3, 1) := by decide +kernel
theorem dX7_begin_35 : decode cX7_begin 35 = .ok (.iconst (-1), 1) := by decide +kernel
theorem dX7_begin_36 : decode cX7_begin 36 = .ok (.iastore, 1) := by decide +kernel
theorem dX7_begin_37 : decode cX7_begin 37 = .ok (.iinc 3 1, 3) := by decide +kernel
theorem dX7_begin_40 : decode cX7_begin 40 = .ok (.goto (-23), 3) := by decide +kernel
theorem dX7_begin_43 : decode cX7_begin 43 = .ok (.iconst 0, 1) := by decide +kernel
theorem dX7_begin_44 : decode cX7_begin 44 = .ok (.istore_n 3, 1) := by decide +kernel
theorem dX7_begin_45 : decode cX7_begin 45 = .ok (.iload_n 3, 1) := by decide +kernel
theorem dX7_begin_46 : decode cX7_begin 46 = .ok (.bipush 12, 2) := by decide +kernel
theorem dX7_begin_48 : decode cX7_begin 48 = .ok (.if_icmp .ge 16, 3) := by decide +kernel
theorem dX7_begin_51 : decode cX7_begin 51 = .ok (.aload_n 0, 1) := by decide +kernel
theorem dX7_begin_52 : decode cX7_begin 52 = .ok (.getfield 23, 3) := by decide +kernel
theorem dX7_begin_55 : decode cX7_begin 55 = .ok (.iload_n 3, 1) := by decide +kernel
theorem dX7_begin_56 : decode cX7_begin 56 = .ok (.iconst 0, 1) := by decide +kernel
theorem dX7_begin_57 : decode cX7_begin 57 = .ok (.iastore, 1) := by decide +kernel
theorem dX7_begin_58 : decode cX7_begin 58 = .ok (.iinc 3 1, 3) := by decide +kernel
theorem dX7_begin_61 : decode cX7_begin 61 = .ok (.goto (-16), 3) := by decide +kernel
theorem dX7_begin_64 : decode cX7_begin 64 = .ok (.return_, 1) := by decide +kernel
theorem dX7_thrown_0 : decode cX7_thrown 0 = .ok (.aload_n 0, 1) := by decide +kernel
theorem dX7_thrown_1 : decode cX7_thrown 1 = .ok (.getfield 58, 3) := by decide +kernel
theorem dX7_thrown_4 : decode cX7_thrown 4 = .ok (.ireturn, 1) := by decide +kernel
theorem dX7_in_0 : decode cX7_in 0 = .ok (.iload_n 0, 1) := by decide +kernel
theorem dX7_in_1 : decode cX7_in 1 = .ok (.iload_n 1, 1) := by decide +kernel
theorem dX7_in_2 : decode cX7_in 2 = .ok (.if_icmp .lt 12, 3) := by decide +kernel
theorem dX7_in_5 : decode cX7_in 5 = .ok (.iload_n 0, 1) := by decide +kernel
theorem dX7_in_6 : decode cX7_in 6 = .ok (.iload_n 2, 1) := by decide +kernel
theorem dX7_in_7 : decode cX7_in 7 = .ok (.if_icmp .gt 7, 3) := by decide +kernel
theorem dX7_in_10 : decode cX7_in 10 = .ok (.iconst 1, 1) := by decide +kernel
theorem dX7_in_11 : decode cX7_in 11 = .ok (.goto 4, 3) := by decide +kernel
theorem dX7_in_14 : decode cX7_in 14 = .ok (.iconst 0, 1) := by decide +kernel
theorem dX7_in_15 : decode cX7_in 15 = .ok (.ireturn, 1) := by decide +kernel
theorem dX7_sizeOf_0 : decode cX7_sizeOf 0 = .ok (.iload_n 1, 1) := by decide +kernel
theorem dX7_sizeOf_1 : decode cX7_sizeOf 1 = .ok (.ifCond .ne 10, 3) := by decide +kernel
theorem dX7_sizeOf_4 : decode cX7_sizeOf 4 = .ok (.aload_n 0, 1) := by decide +kernel
theorem dX7_sizeOf_5 : decode cX7_sizeOf 5 = .ok (.getfield 7, 3) := by decide +kernel
theorem dX7_sizeOf_8 : decode cX7_sizeOf 8 = .ok (.goto 7, 3) := by decide +kernel
theorem dX7_sizeOf_11 : decode cX7_sizeOf 11 = .ok (.aload_n 0, 1) := by decide +kernel
theorem dX7_sizeOf_12 : decode cX7_sizeOf 12 = .ok (.getfield 13, 3) := by decide +kernel
theorem dX7_sizeOf_15 : decode cX7_sizeOf 15 = .ok (.ireturn, 1) := by decide +kernel
theorem dX7_isList_0 : decode cX7_isList 0 = .ok (.iload_n 1, 1) := by decide +kernel
theorem dX7_isList_1 : decode cX7_isList 1 = .ok (.iconst 0, 1) := by decide +kernel
theorem dX7_isList_2 : decode cX7_isList 2 = .ok (.iconst 1, 1) := by decide +kernel
theorem dX7_isList_3 : decode cX7_isList 3 = .ok (.invokestatic 61, 3) := by decide +kernel
theorem dX7_isList_6 : decode cX7_isList 6 = .ok (.ifCond .eq 22, 3) := by decide +kernel
theorem dX7_isList_9 : decode cX7_isList 9 = .ok (.iload_n 2, 1) := by decide +kernel
theorem dX7_isList_10 : decode cX7_isList 10 = .ok (.iconst 0, 1) := by decide +kernel
theorem dX7_isList_11 : decode cX7_isList 11 = .ok (.aload_n 0, 1) := by decide +kernel
theorem dX7_isList_12 : decode cX7_isList 12 = .ok (.iload_n 1, 1) := by decide +kernel
theorem dX7_isList_13 : decode cX7_isList 13 = .ok (.invokevirtual 65, 3) := by decide +kernel
theorem dX7_isList_16 : decode cX7_isList 16 = .ok (.iconst 1, 1) := by decide +kernel
theorem dX7_isList_17 : decode cX7_isList 17 = .ok (.isub, 1) := by decide +kernel
theorem dX7_isList_18 : decode cX7_isList 18 = .ok (.invokestatic 61, 3) := by decide +kernel
theorem dX7_isList_21 : decode cX7_isList 21 = .ok (.ifCond .eq 7, 3) := by decide +kernel
theorem dX7_isList_24 : decode cX7_isList 24 = .ok (.iconst 1, 1) := by decide +kernel
theorem dX7_isList_25 : decode cX7_isList 25 = .ok (.goto 4, 3) := by decide +kernel
theorem dX7_isList_28 : decode cX7_isList 28 = .ok (.iconst 0, 1) := by decide +kernel
theorem dX7_isList_29 : decode cX7_isList 29 = .ok (.ireturn, 1) := by decide +kernel
theorem dX7_make_0 : decode cX7_make 0 = .ok (.aload_n 0, 1) := by decide +kernel
theorem dX7_make_1 : decode cX7_make 1 = .ok (.iload_n 1, 1) := by decide +kernel
theorem dX7_make_2 : decode cX7_make 2 = .ok (.iconst 1, 1) := by decide +kernel
theorem dX7_make_3 : decode cX7_make 3 = .ok (.bipush 6, 2) := by decide +kernel
theorem dX7_make_5 : decode cX7_make 5 = .ok (.invokestatic 61, 3) := by decide +kernel
theorem dX7_make_8 : decode cX7_make 8 = .ok (.ifCond .eq 17, 3) := by decide +kernel
theorem dX7_make_11 : decode cX7_make 11 = .ok (.iload_n 2, 1) := by decide +kernel
theorem dX7_make_12 : decode cX7_make 12 = .ok (.iconst 1, 1) := by decide +kernel
theorem dX7_make_13 : decode cX7_make 13 = .ok (.bipush 6, 2) := by decide +kernel
theorem dX7_make_15 : decode cX7_make 15 = .ok (.invokestatic 61, 3) := by decide +kernel
theorem dX7_make_18 : decode cX7_make 18 = .ok (.ifCond .eq 7, 3) := by decide +kernel
theorem dX7_make_21 : decode cX7_make 21 = .ok (.iconst 0, 1) := by decide +kernel
theorem dX7_make_22 : decode cX7_make 22 = .ok (.goto 4, 3) := by decide +kernel
theorem dX7_make_25 : decode cX7_make 25 = .ok (.iconst 1, 1) := by decide +kernel
theorem dX7_make_26 : decode cX7_make 26 = .ok (.putfield 58, 3) := by decide +kernel
theorem dX7_make_29 : decode cX7_make 29 = .ok (.aload_n 0, 1) := by decide +kernel
theorem dX7_make_30 : decode cX7_make 30 = .ok (.getfield 58, 3) := by decide +kernel
theorem dX7_make_33 : decode cX7_make 33 = .ok (.ifCond .ne 9, 3) := by decide +kernel
theorem dX7_make_36 : decode cX7_make 36 = .ok (.aload_n 0, 1) := by decide +kernel
theorem dX7_make_37 : decode cX7_make 37 = .ok (.iload_n 1, 1) := by decide +kernel
theorem dX7_make_38 : decode cX7_make 38 = .ok (.iload_n 2, 1) := by decide +kernel
theorem dX7_make_39 : decode cX7_make 39 = .ok (.invokevirtual 50, 3) := by decide +kernel
theorem dX7_make_42 : decode cX7_make 42 = .ok (.return_, 1) := by decide +kernel
theorem dX7_seats_0 : decode cX7_seats 0 = .ok (.aload_n 0, 1) := by decide +kernel
theorem dX7_seats_1 : decode cX7_seats 1 = .ok (.iload_n 1, 1) := by decide +kernel
theorem dX7_seats_2 : decode cX7_seats 2 = .ok (.iconst 0, 1) := by decide +kernel
theorem dX7_seats_3 : decode cX7_seats 3 = .ok (.aload_n 0, 1) := by decide +kernel
theorem dX7_seats_4 : decode cX7_seats 4 = .ok (.getfield 13, 3) := by decide +kernel
theorem dX7_seats_7 : decode cX7_seats 7 = .ok (.iconst 1, 1) := by decide +kernel
theorem dX7_seats_8 : decode cX7_seats 8 = .ok (.isub, 1) := by decide +kernel
theorem dX7_seats_9 : decode cX7_seats 9 = .ok (.invokestatic 61, 3) := by decide +kernel
theorem dX7_seats_12 : decode cX7_seats 12 = .ok (.ifCond .ne 7, 3) := by decide +kernel
theorem dX7_seats_15 : decode cX7_seats 15 = .ok (.iconst 1, 1) := by decide +kernel
theorem dX7_seats_16 : decode cX7_seats 16 = .ok (.goto 17, 3) := by decide +kernel
theorem dX7_seats_19 : decode cX7_seats 19 = .ok (.iload_n 2, 1) := by decide +kernel
theorem dX7_seats_20 : decode cX7_seats 20 = .ok (.iconst 1, 1) := by decide +kernel
theorem dX7_seats_21 : decode cX7_seats 21 = .ok (.iconst 3, 1) := by decide +kernel
theorem dX7_seats_22 : decode cX7_seats 22 = .ok (.invokestatic 61, 3) := by decide +kernel
theorem dX7_seats_25 : decode cX7_seats 25 = .ok (.ifCond .ne 7, 3) := by decide +kernel
theorem dX7_seats_28 : decode cX7_seats 28 = .ok (.iconst 2, 1) := by decide +kernel
theorem dX7_seats_29 : decode cX7_seats 29 = .ok (.goto 4, 3) := by decide +kernel
theorem dX7_seats_32 : decode cX7_seats 32 = .ok (.iconst 0, 1) := by decide +kernel
theorem dX7_seats_33 : decode cX7_seats 33 = .ok (.putfield 58, 3) := by decide +kernel
theorem dX7_seats_36 : decode cX7_seats 36 = .ok (.aload_n 0, 1) := by decide +kernel
theorem dX7_seats_37 : decode cX7_seats 37 = .ok (.getfield 58, 3) := by decide +kernel
theorem dX7_seats_40 : decode cX7_seats 40 = .ok (.ifCond .ne 15, 3) := by decide +kernel
theorem dX7_seats_43 : decode cX7_seats 43 = .ok (.aload_n 0, 1) := by decide +kernel
theorem dX7_seats_44 : decode cX7_seats 44 = .ok (.getfield 16, 3) := by decide +kernel
theorem dX7_seats_47 : decode cX7_seats 47 = .ok (.iload_n 1, 1) := by decide +kernel
theorem dX7_seats_48 : decode cX7_seats 48 = .ok (.iload_n 2, 1) := by decide +kernel
theorem dX7_seats_49 : decode cX7_seats 49 = .ok (.iastore, 1) := by decide +kernel
theorem dX7_seats_50 : decode cX7_seats 50 = .ok (.aload_n 0, 1) := by decide +kernel
theorem dX7_seats_51 : decode cX7_seats 51 = .ok (.iconst 0, 1) := by decide +kernel
theorem dX7_seats_52 : decode cX7_seats 52 = .ok (.putfield 54, 3) := by decide +kernel
theorem dX7_seats_55 : decode cX7_seats 55 = .ok (.return_, 1) := by decide +kernel
theorem dX7_place_0 : decode cX7_place 0 = .ok (.iconst (-1), 1) := by decide +kernel
theorem dX7_place_1 : decode cX7_place 1 = .ok (.istore 4, 2) := by decide +kernel
theorem dX7_place_3 : decode cX7_place 3 = .ok (.iconst 0, 1) := by decide +kernel
theorem dX7_place_4 : decode cX7_place 4 = .ok (.istore 5, 2) := by decide +kernel
theorem dX7_place_6 : decode cX7_place 6 = .ok (.iload 5, 2) := by decide +kernel
theorem dX7_place_8 : decode cX7_place 8 = .ok (.aload_n 0, 1) := by decide +kernel
theorem dX7_place_9 : decode cX7_place 9 = .ok (.getfield 23, 3) := by decide +kernel
theorem dX7_place_12 : decode cX7_place 12 = .ok (.bipush 6, 2) := by decide +kernel
theorem dX7_place_14 : decode cX7_place 14 = .ok (.iload_n 1, 1) := by decide +kernel
theorem dX7_place_15 : decode cX7_place 15 = .ok (.imul, 1) := by decide +kernel
theorem dX7_place_16 : decode cX7_place 16 = .ok (.iload_n 2, 1) := by decide +kernel
theorem dX7_place_17 : decode cX7_place 17 = .ok (.iadd, 1) := by decide +kernel
theorem dX7_place_18 : decode cX7_place 18 = .ok (.iaload, 1) := by decide +kernel
theorem dX7_place_19 : decode cX7_place 19 = .ok (.if_icmp .ge 39, 3) := by decide +kernel
theorem dX7_place_22 : decode cX7_place 22 = .ok (.aload_n 0, 1) := by decide +kernel
theorem dX7_place_23 : decode cX7_place 23 = .ok (.getfield 20, 3) := by decide +kernel
theorem dX7_place_26 : decode cX7_place 26 = .ok (.bipush 36, 2) := by decide +kernel
theorem dX7_place_28 : decode cX7_place 28 = .ok (.iload_n 1, 1) := by decide +kernel
theorem dX7_place_29 : decode cX7_place 29 = .ok (.imul, 1) := by decide +kernel
theorem dX7_place_30 : decode cX7_place 30 = .ok (.bipush 6, 2) := by decide +kernel
theorem dX7_place_32 : decode cX7_place 32 = .ok (.iload_n 2, 1) := by decide +kernel
theorem dX7_place_33 : decode cX7_place 33 = .ok (.imul, 1) := by decide +kernel
theorem dX7_place_34 : decode cX7_place 34 = .ok (.iadd, 1) := by decide +kernel
theorem dX7_place_35 : decode cX7_place 35 = .ok (.iload 5, 2) := by decide +kernel
theorem dX7_place_37 : decode cX7_place 37 = .ok (.iadd, 1) := by decide +kernel
theorem dX7_place_38 : decode cX7_place 38 = .ok (.iaload, 1) := by decide +kernel
theorem dX7_place_39 : decode cX7_place 39 = .ok (.iload_n 3, 1) := by decide +kernel
theorem dX7_place_40 : decode cX7_place 40 = .ok (.if_icmp .ne 8, 3) := by decide +kernel
theorem dX7_place_43 : decode cX7_place 43 = .ok (.iload 5, 2) := by decide +kernel
theorem dX7_place_45 : decode cX7_place 45 = .ok (.goto 5, 3) := by decide +kernel
theorem dX7_place_48 : decode cX7_place 48 = .ok (.iload 4, 2) := by decide +kernel
theorem dX7_place_50 : decode cX7_place 50 = .ok (.istore 4, 2) := by decide +kernel
theorem dX7_place_52 : decode cX7_place 52 = .ok (.iinc 5 1, 3) := by decide +kernel
theorem dX7_place_55 : decode cX7_place 55 = .ok (.goto (-49), 3) := by decide +kernel
theorem dX7_place_58 : decode cX7_place 58 = .ok (.iload 4, 2) := by decide +kernel
theorem dX7_place_60 : decode cX7_place 60 = .ok (.ireturn, 1) := by decide +kernel
theorem dX7_prefer_0 : decode cX7_prefer 0 = .ok (.aload_n 0, 1) := by decide +kernel
theorem dX7_prefer_1 : decode cX7_prefer 1 = .ok (.iconst 0, 1) := by decide +kernel
theorem dX7_prefer_2 : decode cX7_prefer 2 = .ok (.putfield 58, 3) := by decide +kernel
theorem dX7_prefer_5 : decode cX7_prefer 5 = .ok (.aload_n 0, 1) := by decide +kernel
theorem dX7_prefer_6 : decode cX7_prefer 6 = .ok (.iload_n 1, 1) := by decide +kernel
theorem dX7_prefer_7 : decode cX7_prefer 7 = .ok (.iload_n 2, 1) := by decide +kernel
theorem dX7_prefer_8 : decode cX7_prefer 8 = .ok (.invokevirtual 69, 3) := by decide +kernel
theorem dX7_prefer_11 : decode cX7_prefer 11 = .ok (.ifCond .eq 30, 3) := by decide +kernel
theorem dX7_prefer_14 : decode cX7_prefer 14 = .ok (.iload_n 3, 1) := by decide +kernel
theorem dX7_prefer_15 : decode cX7_prefer 15 = .ok (.iconst 0, 1) := by decide +kernel
theorem dX7_prefer_16 : decode cX7_prefer 16 = .ok (.aload_n 0, 1) := by decide +kernel
theorem dX7_prefer_17 : decode cX7_prefer 17 = .ok (.iconst 1, 1) := by decide +kernel
theorem dX7_prefer_18 : decode cX7_prefer 18 = .ok (.iload_n 1, 1) := by decide +kernel
theorem dX7_prefer_19 : decode cX7_prefer 19 = .ok (.isub, 1) := by decide +kernel
theorem dX7_prefer_20 : decode cX7_prefer 20 = .ok (.invokevirtual 65, 3) := by decide +kernel
theorem dX7_prefer_23 : decode cX7_prefer 23 = .ok (.iconst 1, 1) := by decide +kernel
theorem dX7_prefer_24 : decode cX7_prefer 24 = .ok (.isub, 1) := by decide +kernel
theorem dX7_prefer_25 : decode cX7_prefer 25 = .ok (.invokestatic 61, 3) := by decide +kernel
theorem dX7_prefer_28 : decode cX7_prefer 28 = .ok (.ifCond .eq 13, 3) := by decide +kernel
theorem dX7_prefer_31 : decode cX7_prefer 31 = .ok (.aload_n 0, 1) := by decide +kernel
theorem dX7_prefer_32 : decode cX7_prefer 32 = .ok (.iload_n 1, 1) := by decide +kernel
theorem dX7_prefer_33 : decode cX7_prefer 33 = .ok (.iload_n 2, 1) := by decide +kernel
theorem dX7_prefer_34 : decode cX7_prefer 34 = .ok (.iload_n 3, 1) := by decide +kernel
theorem dX7_prefer_35 : decode cX7_prefer 35 = .ok (.invokevirtual 73, 3) := by decide +kernel
theorem dX7_prefer_38 : decode cX7_prefer 38 = .ok (.ifCond .lt 5, 3) := by decide +kernel
theorem dX7_prefer_41 : decode cX7_prefer 41 = .ok (.iconst (-1), 1) := by decide +kernel
theorem dX7_prefer_42 : decode cX7_prefer 42 = .ok (.ireturn, 1) := by decide +kernel
theorem dX7_prefer_43 : decode cX7_prefer 43 = .ok (.aload_n 0, 1) := by decide +kernel
theorem dX7_prefer_44 : decode cX7_prefer 44 = .ok (.getfield 20, 3) := by decide +kernel
theorem dX7_prefer_47 : decode cX7_prefer 47 = .ok (.bipush 36, 2) := by decide +kernel
theorem dX7_prefer_49 : decode cX7_prefer 49 = .ok (.iload_n 1, 1) := by decide +kernel
theorem dX7_prefer_50 : decode cX7_prefer 50 = .ok (.imul, 1) := by decide +kernel
theorem dX7_prefer_51 : decode cX7_prefer 51 = .ok (.bipush 6, 2) := by decide +kernel
theorem dX7_prefer_53 : decode cX7_prefer 53 = .ok (.iload_n 2, 1) := by decide +kernel
theorem dX7_prefer_54 : decode cX7_prefer 54 = .ok (.imul, 1) := by decide +kernel
theorem dX7_prefer_55 : decode cX7_prefer 55 = .ok (.iadd, 1) := by decide +kernel
theorem dX7_prefer_56 : decode cX7_prefer 56 = .ok (.aload_n 0, 1) := by decide +kernel
theorem dX7_prefer_57 : decode cX7_prefer 57 = .ok (.getfield 23, 3) := by decide +kernel
theorem dX7_prefer_60 : decode cX7_prefer 60 = .ok (.bipush 6, 2) := by decide +kernel
theorem dX7_prefer_62 : decode cX7_prefer 62 = .ok (.iload_n 1, 1) := by decide +kernel
theorem dX7_prefer_63 : decode cX7_prefer 63 = .ok (.imul, 1) := by decide +kernel
theorem dX7_prefer_64 : decode cX7_prefer 64 = .ok (.iload_n 2, 1) := by decide +kernel
theorem dX7_prefer_65 : decode cX7_prefer 65 = .ok (.iadd, 1) := by decide +kernel
theorem dX7_prefer_66 : decode cX7_prefer 66 = .ok (.iaload, 1) := by decide +kernel
theorem dX7_prefer_67 : decode cX7_prefer 67 = .ok (.iadd, 1) := by decide +kernel
theorem dX7_prefer_68 : decode cX7_prefer 68 = .ok (.iload_n 3, 1) := by decide +kernel
theorem dX7_prefer_69 : decode cX7_prefer 69 = .ok (.iastore, 1) := by decide +kernel
theorem dX7_prefer_70 : decode cX7_prefer 70 = .ok (.aload_n 0, 1) := by decide +kernel
theorem dX7_prefer_71 : decode cX7_prefer 71 = .ok (.getfield 23, 3) := by decide +kernel
theorem dX7_prefer_74 : decode cX7_prefer 74 = .ok (.bipush 6, 2) := by decide +kernel
theorem dX7_prefer_76 : decode cX7_prefer 76 = .ok (.iload_n 1, 1) := by decide +kernel
theorem dX7_prefer_77 : decode cX7_prefer 77 = .ok (.imul, 1) := by decide +kernel
theorem dX7_prefer_78 : decode cX7_prefer 78 = .ok (.iload_n 2, 1) := by decide +kernel
theorem dX7_prefer_79 : decode cX7_prefer 79 = .ok (.iadd, 1) := by decide +kernel
theorem dX7_prefer_80 : decode cX7_prefer 80 = .ok (.dup2, 1) := by decide +kernel
theorem dX7_prefer_81 : decode cX7_prefer 81 = .ok (.iaload, 1) := by decide +kernel
theorem dX7_prefer_82 : decode cX7_prefer 82 = .ok (.iconst 1, 1) := by decide +kernel
theorem dX7_prefer_83 : decode cX7_prefer 83 = .ok (.iadd, 1) := by decide +kernel
theorem dX7_prefer_84 : decode cX7_prefer 84 = .ok (.iastore, 1) := by decide +kernel
theorem dX7_prefer_85 : decode cX7_prefer 85 = .ok (.aload_n 0, 1) := by decide +kernel
theorem dX7_prefer_86 : decode cX7_prefer 86 = .ok (.iconst 0, 1) := by decide +kernel
theorem dX7_prefer_87 : decode cX7_prefer 87 = .ok (.putfield 54, 3) := by decide +kernel
theorem dX7_prefer_90 : decode cX7_prefer 90 = .ok (.aload_n 0, 1) := by decide +kernel
theorem dX7_prefer_91 : decode cX7_prefer 91 = .ok (.getfield 23, 3) := by decide +kernel
theorem dX7_prefer_94 : decode cX7_prefer 94 = .ok (.bipush 6, 2) := by decide +kernel
theorem dX7_prefer_96 : decode cX7_prefer 96 = .ok (.iload_n 1, 1) := by decide +kernel
theorem dX7_prefer_97 : decode cX7_prefer 97 = .ok (.imul, 1) := by decide +kernel
theorem dX7_prefer_98 : decode cX7_prefer 98 = .ok (.iload_n 2, 1) := by decide +kernel
theorem dX7_prefer_99 : decode cX7_prefer 99 = .ok (.iadd, 1) := by decide +kernel
theorem dX7_prefer_100 : decode cX7_prefer 100 = .ok (.iaload, 1) := by decide +kernel
theorem dX7_prefer_101 : decode cX7_prefer 101 = .ok (.ireturn, 1) := by decide +kernel
theorem dX7_forget_0 : decode cX7_forget 0 = .ok (.aload_n 0, 1) := by decide +kernel
theorem dX7_forget_1 : decode cX7_forget 1 = .ok (.iconst 0, 1) := by decide +kernel
theorem dX7_forget_2 : decode cX7_forget 2 = .ok (.putfield 58, 3) := by decide +kernel
theorem dX7_forget_5 : decode cX7_forget 5 = .ok (.aload_n 0, 1) := by decide +kernel
theorem dX7_forget_6 : decode cX7_forget 6 = .ok (.iload_n 1, 1) := by decide +kernel
theorem dX7_forget_7 : decode cX7_forget 7 = .ok (.iload_n 2, 1) := by decide +kernel
theorem dX7_forget_8 : decode cX7_forget 8 = .ok (.invokevirtual 69, 3) := by decide +kernel
theorem dX7_forget_11 : decode cX7_forget 11 = .ok (.ifCond .ne 5, 3) := by decide +kernel
theorem dX7_forget_14 : decode cX7_forget 14 = .ok (.iconst (-1), 1) := by decide +kernel
theorem dX7_forget_15 : decode cX7_forget 15 = .ok (.ireturn, 1) := by decide +kernel
theorem dX7_forget_16 : decode cX7_forget 16 = .ok (.aload_n 0, 1) := by decide +kernel
theorem dX7_forget_17 : decode cX7_forget 17 = .ok (.getfield 23, 3) := by decide +kernel
theorem dX7_forget_20 : decode cX7_forget 20 = .ok (.bipush 6, 2) := by decide +kernel
theorem dX7_forget_22 : decode cX7_forget 22 = .ok (.iload_n 1, 1) := by decide +kernel
theorem dX7_forget_23 : decode cX7_forget 23 = .ok (.imul, 1) := by decide +kernel
theorem dX7_forget_24 : decode cX7_forget 24 = .ok (.iload_n 2, 1) := by decide +kernel
theorem dX7_forget_25 : decode cX7_forget 25 = .ok (.iadd, 1) := by decide +kernel
theorem dX7_forget_26 : decode cX7_forget 26 = .ok (.iaload, 1) := by decide +kernel
theorem dX7_forget_27 : decode cX7_forget 27 = .ok (.istore_n 3, 1) := by decide +kernel
theorem dX7_forget_28 : decode cX7_forget 28 = .ok (.aload_n 0, 1) := by decide +kernel
theorem dX7_forget_29 : decode cX7_forget 29 = .ok (.getfield 23, 3) := by decide +kernel
theorem dX7_forget_32 : decode cX7_forget 32 = .ok (.bipush 6, 2) := by decide +kernel
theorem dX7_forget_34 : decode cX7_forget 34 = .ok (.iload_n 1, 1) := by decide +kernel
theorem dX7_forget_35 : decode cX7_forget 35 = .ok (.imul, 1) := by decide +kernel
theorem dX7_forget_36 : decode cX7_forget 36 = .ok (.iload_n 2, 1) := by decide +kernel
theorem dX7_forget_37 : decode cX7_forget 37 = .ok (.iadd, 1) := by decide +kernel
theorem dX7_forget_38 : decode cX7_forget 38 = .ok (.iconst 0, 1) := by decide +kernel
theorem dX7_forget_39 : decode cX7_forget 39 = .ok (.iastore, 1) := by decide +kernel
theorem dX7_forget_40 : decode cX7_forget 40 = .ok (.aload_n 0, 1) := by decide +kernel
theorem dX7_forget_41 : decode cX7_forget 41 = .ok (.iconst 0, 1) := by decide +kernel
theorem dX7_forget_42 : decode cX7_forget 42 = .ok (.putfield 54, 3) := by decide +kernel
theorem dX7_forget_45 : decode cX7_forget 45 = .ok (.iload_n 3, 1) := by decide +kernel
theorem dX7_forget_46 : decode cX7_forget 46 = .ok (.ireturn, 1) := by decide +kernel
theorem dX7_listed_0 : decode cX7_listed 0 = .ok (.aload_n 0, 1) := by decide +kernel
theorem dX7_listed_1 : decode cX7_listed 1 = .ok (.iconst 0, 1) := by decide +kernel
theorem dX7_listed_2 : decode cX7_listed 2 = .ok (.putfield 58, 3) := by decide +kernel
theorem dX7_listed_5 : decode cX7_listed 5 = .ok (.aload_n 0, 1) := by decide +kernel
theorem dX7_listed_6 : decode cX7_listed 6 = .ok (.iload_n 1, 1) := by decide +kernel
theorem dX7_listed_7 : decode cX7_listed 7 = .ok (.iload_n 2, 1) := by decide +kernel
theorem dX7_listed_8 : decode cX7_listed 8 = .ok (.invokevirtual 69, 3) := by decide +kernel
theorem dX7_listed_11 : decode cX7_listed 11 = .ok (.ifCond .eq 43, 3) := by decide +kernel
theorem dX7_listed_14 : decode cX7_listed 14 = .ok (.iload_n 3, 1) := by decide +kernel
theorem dX7_listed_15 : decode cX7_listed 15 = .ok (.iconst 0, 1) := by decide +kernel
theorem dX7_listed_16 : decode cX7_listed 16 = .ok (.aload_n 0, 1) := by decide +kernel
theorem dX7_listed_17 : decode cX7_listed 17 = .ok (.getfield 23, 3) := by decide +kernel
theorem dX7_listed_20 : decode cX7_listed 20 = .ok (.bipush 6, 2) := by decide +kernel
theorem dX7_listed_22 : decode cX7_listed 22 = .ok (.iload_n 1, 1) := by decide +kernel
theorem dX7_listed_23 : decode cX7_listed 23 = .ok (.imul, 1) := by decide +kernel
theorem dX7_listed_24 : decode cX7_listed 24 = .ok (.iload_n 2, 1) := by decide +kernel
theorem dX7_listed_25 : decode cX7_listed 25 = .ok (.iadd, 1) := by decide +kernel
theorem dX7_listed_26 : decode cX7_listed 26 = .ok (.iaload, 1) := by decide +kernel
theorem dX7_listed_27 : decode cX7_listed 27 = .ok (.iconst 1, 1) := by decide +kernel
theorem dX7_listed_28 : decode cX7_listed 28 = .ok (.isub, 1) := by decide +kernel
theorem dX7_listed_29 : decode cX7_listed 29 = .ok (.invokestatic 61, 3) := by decide +kernel
theorem dX7_listed_32 : decode cX7_listed 32 = .ok (.ifCond .eq 22, 3) := by decide +kernel
theorem dX7_listed_35 : decode cX7_listed 35 = .ok (.aload_n 0, 1) := by decide +kernel
theorem dX7_listed_36 : decode cX7_listed 36 = .ok (.getfield 20, 3) := by decide +kernel
theorem dX7_listed_39 : decode cX7_listed 39 = .ok (.bipush 36, 2) := by decide +kernel
theorem dX7_listed_41 : decode cX7_listed 41 = .ok (.iload_n 1, 1) := by decide +kernel
theorem dX7_listed_42 : decode cX7_listed 42 = .ok (.imul, 1) := by decide +kernel
theorem dX7_listed_43 : decode cX7_listed 43 = .ok (.bipush 6, 2) := by decide +kernel
theorem dX7_listed_45 : decode cX7_listed 45 = .ok (.iload_n 2, 1) := by decide +kernel
theorem dX7_listed_46 : decode cX7_listed 46 = .ok (.imul, 1) := by decide +kernel
theorem dX7_listed_47 : decode cX7_listed 47 = .ok (.iadd, 1) := by decide +kernel
theorem dX7_listed_48 : decode cX7_listed 48 = .ok (.iload_n 3, 1) := by decide +kernel
theorem dX7_listed_49 : decode cX7_listed 49 = .ok (.iadd, 1) := by decide +kernel
theorem dX7_listed_50 : decode cX7_listed 50 = .ok (.iaload, 1) := by decide +kernel
theorem dX7_listed_51 : decode cX7_listed 51 = .ok (.goto 4, 3) := by decide +kernel
theorem dX7_listed_54 : decode cX7_listed 54 = .ok (.iconst (-1), 1) := by decide +kernel
theorem dX7_listed_55 : decode cX7_listed 55 = .ok (.ireturn, 1) := by decide +kernel
theorem dX7_isPair_0 : decode cX7_isPair 0 = .ok (.aload_n 0, 1) := by decide +kernel
theorem dX7_isPair_1 : decode cX7_isPair 1 = .ok (.iconst 0, 1) := by decide +kernel
theorem dX7_isPair_2 : decode cX7_isPair 2 = .ok (.iload_n 1, 1) := by decide +kernel
theorem dX7_isPair_3 : decode cX7_isPair 3 = .ok (.iload_n 2, 1) := by decide +kernel
theorem dX7_isPair_4 : decode cX7_isPair 4 = .ok (.invokevirtual 73, 3) := by decide +kernel
theorem dX7_isPair_7 : decode cX7_isPair 7 = .ok (.ifCond .lt 17, 3) := by decide +kernel
theorem dX7_isPair_10 : decode cX7_isPair 10 = .ok (.aload_n 0, 1) := by decide +kernel
theorem dX7_isPair_11 : decode cX7_isPair 11 = .ok (.iconst 1, 1) := by decide +kernel
theorem dX7_isPair_12 : decode cX7_isPair 12 = .ok (.iload_n 2, 1) := by decide +kernel
theorem dX7_isPair_13 : decode cX7_isPair 13 = .ok (.iload_n 1, 1) := by decide +kernel
theorem dX7_isPair_14 : decode cX7_isPair 14 = .ok (.invokevirtual 73, 3) := by decide +kernel
theorem dX7_isPair_17 : decode cX7_isPair 17 = .ok (.ifCond .lt 7, 3) := by decide +kernel
theorem dX7_isPair_20 : decode cX7_isPair 20 = .ok (.iconst 1, 1) := by decide +kernel
theorem dX7_isPair_21 : decode cX7_isPair 21 = .ok (.goto 4, 3) := by decide +kernel
theorem dX7_isPair_24 : decode cX7_isPair 24 = .ok (.iconst 0, 1) := by decide +kernel
theorem dX7_isPair_25 : decode cX7_isPair 25 = .ok (.ireturn, 1) := by decide +kernel
theorem dX7_taken_0 : decode cX7_taken 0 = .ok (.iconst 0, 1) := by decide +kernel
theorem dX7_taken_1 : decode cX7_taken 1 = .ok (.istore 4, 2) := by decide +kernel
theorem dX7_taken_3 : decode cX7_taken 3 = .ok (.iconst 0, 1) := by decide +kernel
theorem dX7_taken_4 : decode cX7_taken 4 = .ok (.istore 5, 2) := by decide +kernel
theorem dX7_taken_6 : decode cX7_taken 6 = .ok (.iload 5, 2) := by decide +kernel
theorem dX7_taken_8 : decode cX7_taken 8 = .ok (.iload_n 2, 1) := by decide +kernel
theorem dX7_taken_9 : decode cX7_taken 9 = .ok (.if_icmp .ge 29, 3) := by decide +kernel
theorem dX7_taken_12 : decode cX7_taken 12 = .ok (.iload 4, 2) := by decide +kernel
theorem dX7_taken_14 : decode cX7_taken 14 = .ok (.aload_n 0, 1) := by decide +kernel
theorem dX7_taken_15 : decode cX7_taken 15 = .ok (.iload_n 1, 1) := by decide +kernel
theorem dX7_taken_16 : decode cX7_taken 16 = .ok (.iload 5, 2) := by decide +kernel
theorem dX7_taken_18 : decode cX7_taken 18 = .ok (.iadd, 1) := by decide +kernel
theorem dX7_taken_19 : decode cX7_taken 19 = .ok (.iaload, 1) := by decide +kernel
theorem dX7_taken_20 : decode cX7_taken 20 = .ok (.iload_n 3, 1) := by decide +kernel
theorem dX7_taken_21 : decode cX7_taken 21 = .ok (.if_icmp .ne 7, 3) := by decide +kernel
theorem dX7_taken_24 : decode cX7_taken 24 = .ok (.iconst 1, 1) := by decide +kernel
theorem dX7_taken_25 : decode cX7_taken 25 = .ok (.goto 4, 3) := by decide +kernel
theorem dX7_taken_28 : decode cX7_taken 28 = .ok (.iconst 0, 1) := by decide +kernel
theorem dX7_taken_29 : decode cX7_taken 29 = .ok (.iadd, 1) := by decide +kernel
theorem dX7_taken_30 : decode cX7_taken 30 = .ok (.istore 4, 2) := by decide +kernel
theorem dX7_taken_32 : decode cX7_taken 32 = .ok (.iinc 5 1, 3) := by decide +kernel
theorem dX7_taken_35 : decode cX7_taken 35 = .ok (.goto (-29), 3) := by decide +kernel
theorem dX7_taken_38 : decode cX7_taken 38 = .ok (.iload 4, 2) := by decide +kernel
theorem dX7_taken_40 : decode cX7_taken 40 = .ok (.ireturn, 1) := by decide +kernel
theorem dX7_isMatching_0 : decode cX7_isMatching 0 = .ok (.iconst 1, 1) := by decide +kernel
theorem dX7_isMatching_1 : decode cX7_isMatching 1 = .ok (.istore_n 3, 1) := by decide +kernel
theorem dX7_isMatching_2 : decode cX7_isMatching 2 = .ok (.iconst 0, 1) := by decide +kernel
theorem dX7_isMatching_3 : decode cX7_isMatching 3 = .ok (.istore 4, 2) := by decide +kernel
theorem dX7_isMatching_5 : decode cX7_isMatching 5 = .ok (.iload 4, 2) := by decide +kernel
theorem dX7_isMatching_7 : decode cX7_isMatching 7 = .ok (.aload_n 0, 1) := by decide +kernel
theorem dX7_isMatching_8 : decode cX7_isMatching 8 = .ok (.getfield 7, 3) := by decide +kernel
theorem dX7_isMatching_11 : decode cX7_isMatching 11 = .ok (.if_icmp .ge 59, 3) := by decide +kernel
theorem dX7_isMatching_14 : decode cX7_isMatching 14 = .ok (.aload_n 1, 1) := by decide +kernel
theorem dX7_isMatching_15 : decode cX7_isMatching 15 = .ok (.iload_n 2, 1) := by decide +kernel
theorem dX7_isMatching_16 : decode cX7_isMatching 16 = .ok (.iload 4, 2) := by decide +kernel
theorem dX7_isMatching_18 : decode cX7_isMatching 18 = .ok (.iadd, 1) := by decide +kernel
theorem dX7_isMatching_19 : decode cX7_isMatching 19 = .ok (.iaload, 1) := by decide +kernel
theorem dX7_isMatching_20 : decode cX7_isMatching 20 = .ok (.istore 5, 2) := by decide +kernel
theorem dX7_isMatching_22 : decode cX7_isMatching 22 = .ok (.iload_n 3, 1) := by decide +kernel
theorem dX7_isMatching_23 : decode cX7_isMatching 23 = .ok (.ifCond .eq 39, 3) := by decide +kernel
theorem dX7_isMatching_26 : decode cX7_isMatching 26 = .ok (.iload 5, 2) := by decide +kernel
theorem dX7_isMatching_28 : decode cX7_isMatching 28 = .ok (.iconst (-1), 1) := by decide +kernel
theorem dX7_isMatching_29 : decode cX7_isMatching 29 = .ok (.if_icmp .eq 29, 3) := by decide +kernel
theorem dX7_isMatching_32 : decode cX7_isMatching 32 = .ok (.iload 5, 2) := by decide +kernel
theorem dX7_isMatching_34 : decode cX7_isMatching 34 = .ok (.iconst 0, 1) := by decide +kernel
theorem dX7_isMatching_35 : decode cX7_isMatching 35 = .ok (.aload_n 0, 1) := by decide +kernel
theorem dX7_isMatching_36 : decode cX7_isMatching 36 = .ok (.getfield 13, 3) := by decide +kernel
theorem dX7_isMatching_39 : decode cX7_isMatching 39 = .ok (.iconst 1, 1) := by decide +kernel
theorem dX7_isMatching_40 : decode cX7_isMatching 40 = .ok (.isub, 1) := by decide +kernel
theorem dX7_isMatching_41 : decode cX7_isMatching 41 = .ok (.invokestatic 61, 3) := by decide +kernel
theorem dX7_isMatching_44 : decode cX7_isMatching 44 = .ok (.ifCond .eq 18, 3) := by decide +kernel
theorem dX7_isMatching_47 : decode cX7_isMatching 47 = .ok (.aload_n 0, 1) := by decide +kernel
theorem dX7_isMatching_48 : decode cX7_isMatching 48 = .ok (.iload 4, 2) := by decide +kernel
theorem dX7_isMatching_50 : decode cX7_isMatching 50 = .ok (.iload 5, 2) := by decide +kernel
theorem dX7_isMatching_52 : decode cX7_isMatching 52 = .ok (.invokevirtual 77, 3) := by decide +kernel
theorem dX7_isMatching_55 : decode cX7_isMatching 55 = .ok (.ifCond .eq 7, 3) := by decide +kernel
theorem dX7_isMatching_58 : decode cX7_isMatching 58 = .ok (.iconst 1, 1) := by decide +kernel
theorem dX7_isMatching_59 : decode cX7_isMatching 59 = .ok (.goto 4, 3) := by decide +kernel
theorem dX7_isMatching_62 : decode cX7_isMatching 62 = .ok (.iconst 0, 1) := by decide +kernel
theorem dX7_isMatching_63 : decode cX7_isMatching 63 = .ok (.istore_n 3, 1) := by decide +kernel
theorem dX7_isMatching_64 : decode cX7_isMatching 64 = .ok (.iinc 4 1, 3) := by decide +kernel
theorem dX7_isMatching_67 : decode cX7_isMatching 67 = .ok (.goto (-62), 3) := by decide +kernel
theorem dX7_isMatching_70 : decode cX7_isMatching 70 = .ok (.iconst 0, 1) := by decide +kernel
theorem dX7_isMatching_71 : decode cX7_isMatching 71 = .ok (.istore 4, 2) := by decide +kernel
theorem dX7_isMatching_73 : decode cX7_isMatching 73 = .ok (.iload 4, 2) := by decide +kernel
theorem dX7_isMatching_75 : decode cX7_isMatching 75 = .ok (.aload_n 0, 1) := by decide +kernel
theorem dX7_isMatching_76 : decode cX7_isMatching 76 = .ok (.getfield 13, 3) := by decide +kernel
theorem dX7_isMatching_79 : decode cX7_isMatching 79 = .ok (.if_icmp .ge 40, 3) := by decide +kernel
theorem dX7_isMatching_82 : decode cX7_isMatching 82 = .ok (.iload_n 3, 1) := by decide +kernel
theorem dX7_isMatching_83 : decode cX7_isMatching 83 = .ok (.ifCond .eq 28, 3) := by decide +kernel
theorem dX7_isMatching_86 : decode cX7_isMatching 86 = .ok (.aload_n 1, 1) := by decide +kernel
theorem dX7_isMatching_87 : decode cX7_isMatching 87 = .ok (.iload_n 2, 1) := by decide +kernel
theorem dX7_isMatching_88 : decode cX7_isMatching 88 = .ok (.aload_n 0, 1) := by decide +kernel
theorem dX7_isMatching_89 : decode cX7_isMatching 89 = .ok (.getfield 7, 3) := by decide +kernel
theorem dX7_isMatching_92 : decode cX7_isMatching 92 = .ok (.iload 4, 2) := by decide +kernel
theorem dX7_isMatching_94 : decode cX7_isMatching 94 = .ok (.invokestatic 80, 3) := by decide +kernel
theorem dX7_isMatching_97 : decode cX7_isMatching 97 = .ok (.aload_n 0, 1) := by decide +kernel
theorem dX7_isMatching_98 : decode cX7_isMatching 98 = .ok (.getfield 16, 3) := by decide +kernel
theorem dX7_isMatching_101 : decode cX7_isMatching 101 = .ok (.iload 4, 2) := by decide +kernel
theorem dX7_isMatching_103 : decode cX7_isMatching 103 = .ok (.iaload, 1) := by decide +kernel
theorem dX7_isMatching_104 : decode cX7_isMatching 104 = .ok (.if_icmp .gt 7, 3) := by decide +kernel
theorem dX7_isMatching_107 : decode cX7_isMatching 107 = .ok (.iconst 1, 1) := by decide +kernel
theorem dX7_isMatching_108 : decode cX7_isMatching 108 = .ok (.goto 4, 3) := by decide +kernel
theorem dX7_isMatching_111 : decode cX7_isMatching 111 = .ok (.iconst 0, 1) := by decide +kernel
theorem dX7_isMatching_112 : decode cX7_isMatching 112 = .ok (.istore_n 3, 1) := by decide +kernel
theorem dX7_isMatching_113 : decode cX7_isMatching 113 = .ok (.iinc 4 1, 3) := by decide +kernel
theorem dX7_isMatching_116 : decode cX7_isMatching 116 = .ok (.goto (-43), 3) := by decide +kernel
theorem dX7_isMatching_119 : decode cX7_isMatching 119 = .ok (.iload_n 3, 1) := by decide +kernel
theorem dX7_isMatching_120 : decode cX7_isMatching 120 = .ok (.ireturn, 1) := by decide +kernel
theorem dX7_isBlocking_0 : decode cX7_isBlocking 0 = .ok (.aload_n 0, 1) := by decide +kernel
theorem dX7_isBlocking_1 : decode cX7_isBlocking 1 = .ok (.iload_n 3, 1) := by decide +kernel
theorem dX7_isBlocking_2 : decode cX7_isBlocking 2 = .ok (.iload 4, 2) := by decide +kernel
theorem dX7_isBlocking_4 : decode cX7_isBlocking 4 = .ok (.invokevirtual 77, 3) := by decide +kernel
theorem dX7_isBlocking_7 : decode cX7_isBlocking 7 = .ok (.ifCond .eq 13, 3) := by decide +kernel
theorem dX7_isBlocking_10 : decode cX7_isBlocking 10 = .ok (.aload_n 1, 1) := by decide +kernel
theorem dX7_isBlocking_11 : decode cX7_isBlocking 11 = .ok (.iload_n 2, 1) := by decide +kernel
theorem dX7_isBlocking_12 : decode cX7_isBlocking 12 = .ok (.iload_n 3, 1) := by decide +kernel
theorem dX7_isBlocking_13 : decode cX7_isBlocking 13 = .ok (.iadd, 1) := by decide +kernel
theorem dX7_isBlocking_14 : decode cX7_isBlocking 14 = .ok (.iaload, 1) := by decide +kernel
theorem dX7_isBlocking_15 : decode cX7_isBlocking 15 = .ok (.iload 4, 2) := by decide +kernel
theorem dX7_isBlocking_17 : decode cX7_isBlocking 17 = .ok (.if_icmp .ne 5, 3) := by decide +kernel
theorem dX7_isBlocking_20 : decode cX7_isBlocking 20 = .ok (.iconst 0, 1) := by decide +kernel
theorem dX7_isBlocking_21 : decode cX7_isBlocking 21 = .ok (.ireturn, 1) := by decide +kernel
theorem dX7_isBlocking_22 : decode cX7_isBlocking 22 = .ok (.aload_n 1, 1) := by decide +kernel
theorem dX7_isBlocking_23 : decode cX7_isBlocking 23 = .ok (.iload_n 2, 1) := by decide +kernel
theorem dX7_isBlocking_24 : decode cX7_isBlocking 24 = .ok (.iload_n 3, 1) := by decide +kernel
theorem dX7_isBlocking_25 : decode cX7_isBlocking 25 = .ok (.iadd, 1) := by decide +kernel
theorem dX7_isBlocking_26 : decode cX7_isBlocking 26 = .ok (.iaload, 1) := by decide +kernel
theorem dX7_isBlocking_27 : decode cX7_isBlocking 27 = .ok (.iconst (-1), 1) := by decide +kernel
theorem dX7_isBlocking_28 : decode cX7_isBlocking 28 = .ok (.if_icmp .eq 25, 3) := by decide +kernel
theorem dX7_isBlocking_31 : decode cX7_isBlocking 31 = .ok (.aload_n 0, 1) := by decide +kernel
theorem dX7_isBlocking_32 : decode cX7_isBlocking 32 = .ok (.iconst 0, 1) := by decide +kernel
theorem dX7_isBlocking_33 : decode cX7_isBlocking 33 = .ok (.iload_n 3, 1) := by decide +kernel
theorem dX7_isBlocking_34 : decode cX7_isBlocking 34 = .ok (.iload 4, 2) := by decide +kernel
theorem dX7_isBlocking_36 : decode cX7_isBlocking 36 = .ok (.invokevirtual 73, 3) := by decide +kernel
theorem dX7_isBlocking_39 : decode cX7_isBlocking 39 = .ok (.aload_n 0, 1) := by decide +kernel
theorem dX7_isBlocking_40 : decode cX7_isBlocking 40 = .ok (.iconst 0, 1) := by decide +kernel
theorem dX7_isBlocking_41 : decode cX7_isBlocking 41 = .ok (.iload_n 3, 1) := by decide +kernel
theorem dX7_isBlocking_42 : decode cX7_isBlocking 42 = .ok (.aload_n 1, 1) := by decide +kernel
theorem dX7_isBlocking_43 : decode cX7_isBlocking 43 = .ok (.iload_n 2, 1) := by decide +kernel
theorem dX7_isBlocking_44 : decode cX7_isBlocking 44 = .ok (.iload_n 3, 1) := by decide +kernel
theorem dX7_isBlocking_45 : decode cX7_isBlocking 45 = .ok (.iadd, 1) := by decide +kernel
theorem dX7_isBlocking_46 : decode cX7_isBlocking 46 = .ok (.iaload, 1) := by decide +kernel
theorem dX7_isBlocking_47 : decode cX7_isBlocking 47 = .ok (.invokevirtual 73, 3) := by decide +kernel
theorem dX7_isBlocking_50 : decode cX7_isBlocking 50 = .ok (.if_icmp .ge 7, 3) := by decide +kernel
theorem dX7_isBlocking_53 : decode cX7_isBlocking 53 = .ok (.iconst 1, 1) := by decide +kernel
theorem dX7_isBlocking_54 : decode cX7_isBlocking 54 = .ok (.goto 4, 3) := by decide +kernel
theorem dX7_isBlocking_57 : decode cX7_isBlocking 57 = .ok (.iconst 0, 1) := by decide +kernel
theorem dX7_isBlocking_58 : decode cX7_isBlocking 58 = .ok (.istore 5, 2) := by decide +kernel
theorem dX7_isBlocking_60 : decode cX7_isBlocking 60 = .ok (.aload_n 1, 1) := by decide +kernel
theorem dX7_isBlocking_61 : decode cX7_isBlocking 61 = .ok (.iload_n 2, 1) := by decide +kernel
theorem dX7_isBlocking_62 : decode cX7_isBlocking 62 = .ok (.aload_n 0, 1) := by decide +kernel
theorem dX7_isBlocking_63 : decode cX7_isBlocking 63 = .ok (.getfield 7, 3) := by decide +kernel
theorem dX7_isBlocking_66 : decode cX7_isBlocking 66 = .ok (.iload 4, 2) := by decide +kernel
theorem dX7_isBlocking_68 : decode cX7_isBlocking 68 = .ok (.invokestatic 80, 3) := by decide +kernel
theorem dX7_isBlocking_71 : decode cX7_isBlocking 71 = .ok (.aload_n 0, 1) := by decide +kernel
theorem dX7_isBlocking_72 : decode cX7_isBlocking 72 = .ok (.getfield 16, 3) := by decide +kernel
theorem dX7_isBlocking_75 : decode cX7_isBlocking 75 = .ok (.iload 4, 2) := by decide +kernel
theorem dX7_isBlocking_77 : decode cX7_isBlocking 77 = .ok (.iaload, 1) := by decide +kernel
theorem dX7_isBlocking_78 : decode cX7_isBlocking 78 = .ok (.if_icmp .ge 7, 3) := by decide +kernel
theorem dX7_isBlocking_81 : decode cX7_isBlocking 81 = .ok (.iconst 1, 1) := by decide +kernel
theorem dX7_isBlocking_82 : decode cX7_isBlocking 82 = .ok (.goto 4, 3) := by decide +kernel
theorem dX7_isBlocking_85 : decode cX7_isBlocking 85 = .ok (.iconst 0, 1) := by decide +kernel
theorem dX7_isBlocking_86 : decode cX7_isBlocking 86 = .ok (.istore 6, 2) := by decide +kernel
theorem dX7_isBlocking_88 : decode cX7_isBlocking 88 = .ok (.iconst 0, 1) := by decide +kernel
theorem dX7_isBlocking_89 : decode cX7_isBlocking 89 = .ok (.istore 7, 2) := by decide +kernel
theorem dX7_isBlocking_91 : decode cX7_isBlocking 91 = .ok (.iload 7, 2) := by decide +kernel
theorem dX7_isBlocking_93 : decode cX7_isBlocking 93 = .ok (.aload_n 0, 1) := by decide +kernel
theorem dX7_isBlocking_94 : decode cX7_isBlocking 94 = .ok (.getfield 7, 3) := by decide +kernel
theorem dX7_isBlocking_97 : decode cX7_isBlocking 97 = .ok (.if_icmp .ge 52, 3) := by decide +kernel
theorem dX7_isBlocking_100 : decode cX7_isBlocking 100 = .ok (.iload 6, 2) := by decide +kernel
theorem dX7_isBlocking_102 : decode cX7_isBlocking 102 = .ok (.ifCond .ne 34, 3) := by decide +kernel
theorem dX7_isBlocking_105 : decode cX7_isBlocking 105 = .ok (.aload_n 1, 1) := by decide +kernel
theorem dX7_isBlocking_106 : decode cX7_isBlocking 106 = .ok (.iload_n 2, 1) := by decide +kernel
theorem dX7_isBlocking_107 : decode cX7_isBlocking 107 = .ok (.iload 7, 2) := by decide +kernel
theorem dX7_isBlocking_109 : decode cX7_isBlocking 109 = .ok (.iadd, 1) := by decide +kernel
theorem dX7_isBlocking_110 : decode cX7_isBlocking 110 = .ok (.iaload, 1) := by decide +kernel
theorem dX7_isBlocking_111 : decode cX7_isBlocking 111 = .ok (.iload 4, 2) := by decide +kernel
theorem dX7_isBlocking_113 : decode cX7_isBlocking 113 = .ok (.if_icmp .ne 27, 3) := by decide +kernel
theorem dX7_isBlocking_116 : decode cX7_isBlocking 116 = .ok (.aload_n 0, 1) := by decide +kernel
theorem dX7_isBlocking_117 : decode cX7_isBlocking 117 = .ok (.iconst 1, 1) := by decide +kernel
theorem dX7_isBlocking_118 : decode cX7_isBlocking 118 = .ok (.iload 4, 2) := by decide +kernel
theorem dX7_isBlocking_120 : decode cX7_isBlocking 120 = .ok (.iload_n 3, 1) := by decide +kernel
theorem dX7_isBlocking_121 : decode cX7_isBlocking 121 = .ok (.invokevirtual 73, 3) := by decide +kernel
theorem dX7_isBlocking_124 : decode cX7_isBlocking 124 = .ok (.aload_n 0, 1) := by decide +kernel
theorem dX7_isBlocking_125 : decode cX7_isBlocking 125 = .ok (.iconst 1, 1) := by decide +kernel
theorem dX7_isBlocking_126 : decode cX7_isBlocking 126 = .ok (.iload 4, 2) := by decide +kernel
theorem dX7_isBlocking_128 : decode cX7_isBlocking 128 = .ok (.iload 7, 2) := by decide +kernel
theorem dX7_isBlocking_130 : decode cX7_isBlocking 130 = .ok (.invokevirtual 73, 3) := by decide +kernel
theorem dX7_isBlocking_133 : decode cX7_isBlocking 133 = .ok (.if_icmp .ge 7, 3) := by decide +kernel
theorem dX7_isBlocking_136 : decode cX7_isBlocking 136 = .ok (.iconst 1, 1) := by decide +kernel
theorem dX7_isBlocking_137 : decode cX7_isBlocking 137 = .ok (.goto 4, 3) := by decide +kernel
theorem dX7_isBlocking_140 : decode cX7_isBlocking 140 = .ok (.iconst 0, 1) := by decide +kernel
theorem dX7_isBlocking_141 : decode cX7_isBlocking 141 = .ok (.istore 6, 2) := by decide +kernel
theorem dX7_isBlocking_143 : decode cX7_isBlocking 143 = .ok (.iinc 7 1, 3) := by decide +kernel
theorem dX7_isBlocking_146 : decode cX7_isBlocking 146 = .ok (.goto (-55), 3) := by decide +kernel
theorem dX7_isBlocking_149 : decode cX7_isBlocking 149 = .ok (.iload 5, 2) := by decide +kernel
theorem dX7_isBlocking_151 : decode cX7_isBlocking 151 = .ok (.ifCond .eq 12, 3) := by decide +kernel
theorem dX7_isBlocking_154 : decode cX7_isBlocking 154 = .ok (.iload 6, 2) := by decide +kernel
theorem dX7_isBlocking_156 : decode cX7_isBlocking 156 = .ok (.ifCond .eq 7, 3) := by decide +kernel
theorem dX7_isBlocking_159 : decode cX7_isBlocking 159 = .ok (.iconst 1, 1) := by decide +kernel
theorem dX7_isBlocking_160 : decode cX7_isBlocking 160 = .ok (.goto 4, 3) := by decide +kernel
theorem dX7_isBlocking_163 : decode cX7_isBlocking 163 = .ok (.iconst 0, 1) := by decide +kernel
theorem dX7_isBlocking_164 : decode cX7_isBlocking 164 = .ok (.ireturn, 1) := by decide +kernel
theorem dX7_blocksOf_0 : decode cX7_blocksOf 0 = .ok (.iconst 0, 1) := by decide +kernel
theorem dX7_blocksOf_1 : decode cX7_blocksOf 1 = .ok (.istore_n 3, 1) := by decide +kernel
theorem dX7_blocksOf_2 : decode cX7_blocksOf 2 = .ok (.iconst 0, 1) := by decide +kernel
theorem dX7_blocksOf_3 : decode cX7_blocksOf 3 = .ok (.istore 4, 2) := by decide +kernel
theorem dX7_blocksOf_5 : decode cX7_blocksOf 5 = .ok (.iload 4, 2) := by decide +kernel
theorem dX7_blocksOf_7 : decode cX7_blocksOf 7 = .ok (.aload_n 0, 1) := by decide +kernel
theorem dX7_blocksOf_8 : decode cX7_blocksOf 8 = .ok (.getfield 7, 3) := by decide +kernel
theorem dX7_blocksOf_11 : decode cX7_blocksOf 11 = .ok (.if_icmp .ge 48, 3) := by decide +kernel
theorem dX7_blocksOf_14 : decode cX7_blocksOf 14 = .ok (.iconst 0, 1) := by decide +kernel
theorem dX7_blocksOf_15 : decode cX7_blocksOf 15 = .ok (.istore 5, 2) := by decide +kernel
theorem dX7_blocksOf_17 : decode cX7_blocksOf 17 = .ok (.iload 5, 2) := by decide +kernel
theorem dX7_blocksOf_19 : decode cX7_blocksOf 19 = .ok (.aload_n 0, 1) := by decide +kernel
theorem dX7_blocksOf_20 : decode cX7_blocksOf 20 = .ok (.getfield 13, 3) := by decide +kernel
theorem dX7_blocksOf_23 : decode cX7_blocksOf 23 = .ok (.if_icmp .ge 30, 3) := by decide +kernel
theorem dX7_blocksOf_26 : decode cX7_blocksOf 26 = .ok (.iload_n 3, 1) := by decide +kernel
theorem dX7_blocksOf_27 : decode cX7_blocksOf 27 = .ok (.aload_n 0, 1) := by decide +kernel
theorem dX7_blocksOf_28 : decode cX7_blocksOf 28 = .ok (.aload_n 1, 1) := by decide +kernel
theorem dX7_blocksOf_29 : decode cX7_blocksOf 29 = .ok (.iload_n 2, 1) := by decide +kernel
theorem dX7_blocksOf_30 : decode cX7_blocksOf 30 = .ok (.iload 4, 2) := by decide +kernel
theorem dX7_blocksOf_32 : decode cX7_blocksOf 32 = .ok (.iload 5, 2) := by decide +kernel
theorem dX7_blocksOf_34 : decode cX7_blocksOf 34 = .ok (.invokevirtual 84, 3) := by decide +kernel
theorem dX7_blocksOf_37 : decode cX7_blocksOf 37 = .ok (.ifCond .eq 7, 3) := by decide +kernel
theorem dX7_blocksOf_40 : decode cX7_blocksOf 40 = .ok (.iconst 1, 1) := by decide +kernel
theorem dX7_blocksOf_41 : decode cX7_blocksOf 41 = .ok (.goto 4, 3) := by decide +kernel
theorem dX7_blocksOf_44 : decode cX7_blocksOf 44 = .ok (.iconst 0, 1) := by decide +kernel
theorem dX7_blocksOf_45 : decode cX7_blocksOf 45 = .ok (.iadd, 1) := by decide +kernel
theorem dX7_blocksOf_46 : decode cX7_blocksOf 46 = .ok (.istore_n 3, 1) := by decide +kernel
theorem dX7_blocksOf_47 : decode cX7_blocksOf 47 = .ok (.iinc 5 1, 3) := by decide +kernel
theorem dX7_blocksOf_50 : decode cX7_blocksOf 50 = .ok (.goto (-33), 3) := by decide +kernel
theorem dX7_blocksOf_53 : decode cX7_blocksOf 53 = .ok (.iinc 4 1, 3) := by decide +kernel
theorem dX7_blocksOf_56 : decode cX7_blocksOf 56 = .ok (.goto (-51), 3) := by decide +kernel
theorem dX7_blocksOf_59 : decode cX7_blocksOf 59 = .ok (.iload_n 3, 1) := by decide +kernel
theorem dX7_blocksOf_60 : decode cX7_blocksOf 60 = .ok (.ireturn, 1) := by decide +kernel
theorem dX7_next_0 : decode cX7_next 0 = .ok (.iload_n 2, 1) := by decide +kernel
theorem dX7_next_1 : decode cX7_next 1 = .ok (.istore_n 3, 1) := by decide +kernel
theorem dX7_next_2 : decode cX7_next 2 = .ok (.iload_n 3, 1) := by decide +kernel
theorem dX7_next_3 : decode cX7_next 3 = .ok (.aload_n 0, 1) := by decide +kernel
theorem dX7_next_4 : decode cX7_next 4 = .ok (.getfield 23, 3) := by decide +kernel
theorem dX7_next_7 : decode cX7_next 7 = .ok (.iload_n 1, 1) := by decide +kernel
theorem dX7_next_8 : decode cX7_next 8 = .ok (.iaload, 1) := by decide +kernel
theorem dX7_next_9 : decode cX7_next 9 = .ok (.if_icmp .ge 56, 3) := by decide +kernel
theorem dX7_next_12 : decode cX7_next 12 = .ok (.aload_n 0, 1) := by decide +kernel
theorem dX7_next_13 : decode cX7_next 13 = .ok (.getfield 20, 3) := by decide +kernel
theorem dX7_next_16 : decode cX7_next 16 = .ok (.bipush 6, 2) := by decide +kernel
theorem dX7_next_18 : decode cX7_next 18 = .ok (.iload_n 1, 1) := by decide +kernel
theorem dX7_next_19 : decode cX7_next 19 = .ok (.imul, 1) := by decide +kernel
theorem dX7_next_20 : decode cX7_next 20 = .ok (.iload_n 3, 1) := by decide +kernel
theorem dX7_next_21 : decode cX7_next 21 = .ok (.iadd, 1) := by decide +kernel
theorem dX7_next_22 : decode cX7_next 22 = .ok (.iaload, 1) := by decide +kernel
theorem dX7_next_23 : decode cX7_next 23 = .ok (.istore 4, 2) := by decide +kernel
theorem dX7_next_25 : decode cX7_next 25 = .ok (.aload_n 0, 1) := by decide +kernel
theorem dX7_next_26 : decode cX7_next 26 = .ok (.iconst 1, 1) := by decide +kernel
theorem dX7_next_27 : decode cX7_next 27 = .ok (.iload 4, 2) := by decide +kernel
theorem dX7_next_29 : decode cX7_next 29 = .ok (.iload_n 1, 1) := by decide +kernel
theorem dX7_next_30 : decode cX7_next 30 = .ok (.invokevirtual 73, 3) := by decide +kernel
theorem dX7_next_33 : decode cX7_next 33 = .ok (.ifCond .lt 26, 3) := by decide +kernel
theorem dX7_next_36 : decode cX7_next 36 = .ok (.aload_n 0, 1) := by decide +kernel
theorem dX7_next_37 : decode cX7_next 37 = .ok (.getfield 44, 3) := by decide +kernel
theorem dX7_next_40 : decode cX7_next 40 = .ok (.iconst 0, 1) := by decide +kernel
theorem dX7_next_41 : decode cX7_next 41 = .ok (.iload_n 1, 1) := by decide +kernel
theorem dX7_next_42 : decode cX7_next 42 = .ok (.iload 4, 2) := by decide +kernel
theorem dX7_next_44 : decode cX7_next 44 = .ok (.invokestatic 80, 3) := by decide +kernel
theorem dX7_next_47 : decode cX7_next 47 = .ok (.aload_n 0, 1) := by decide +kernel
theorem dX7_next_48 : decode cX7_next 48 = .ok (.getfield 16, 3) := by decide +kernel
theorem dX7_next_51 : decode cX7_next 51 = .ok (.iload 4, 2) := by decide +kernel
theorem dX7_next_53 : decode cX7_next 53 = .ok (.iaload, 1) := by decide +kernel
theorem dX7_next_54 : decode cX7_next 54 = .ok (.if_icmp .ge 5, 3) := by decide +kernel
theorem dX7_next_57 : decode cX7_next 57 = .ok (.iload_n 3, 1) := by decide +kernel
theorem dX7_next_58 : decode cX7_next 58 = .ok (.ireturn, 1) := by decide +kernel
theorem dX7_next_59 : decode cX7_next 59 = .ok (.iinc 3 1, 3) := by decide +kernel
theorem dX7_next_62 : decode cX7_next 62 = .ok (.goto (-60), 3) := by decide +kernel
theorem dX7_next_65 : decode cX7_next 65 = .ok (.iload_n 3, 1) := by decide +kernel
theorem dX7_next_66 : decode cX7_next 66 = .ok (.ireturn, 1) := by decide +kernel
theorem dX7_findAll_0 : decode cX7_findAll 0 = .ok (.aload_n 0, 1) := by decide +kernel
theorem dX7_findAll_1 : decode cX7_findAll 1 = .ok (.iconst 0, 1) := by decide +kernel
theorem dX7_findAll_2 : decode cX7_findAll 2 = .ok (.putfield 88, 3) := by decide +kernel
theorem dX7_findAll_5 : decode cX7_findAll 5 = .ok (.iconst 0, 1) := by decide +kernel
theorem dX7_findAll_6 : decode cX7_findAll 6 = .ok (.istore_n 1, 1) := by decide +kernel
theorem dX7_findAll_7 : decode cX7_findAll 7 = .ok (.aload_n 0, 1) := by decide +kernel
theorem dX7_findAll_8 : decode cX7_findAll 8 = .ok (.getfield 47, 3) := by decide +kernel
theorem dX7_findAll_11 : decode cX7_findAll 11 = .ok (.iconst 0, 1) := by decide +kernel
theorem dX7_findAll_12 : decode cX7_findAll 12 = .ok (.iconst (-1), 1) := by decide +kernel
theorem dX7_findAll_13 : decode cX7_findAll 13 = .ok (.iastore, 1) := by decide +kernel
theorem dX7_findAll_14 : decode cX7_findAll 14 = .ok (.iload_n 1, 1) := by decide +kernel
theorem dX7_findAll_15 : decode cX7_findAll 15 = .ok (.ifCond .lt 177, 3) := by decide +kernel
theorem dX7_findAll_18 : decode cX7_findAll 18 = .ok (.iload_n 1, 1) := by decide +kernel
theorem dX7_findAll_19 : decode cX7_findAll 19 = .ok (.aload_n 0, 1) := by decide +kernel
theorem dX7_findAll_20 : decode cX7_findAll 20 = .ok (.getfield 7, 3) := by decide +kernel
theorem dX7_findAll_23 : decode cX7_findAll 23 = .ok (.if_icmp .ne 67, 3) := by decide +kernel
theorem dX7_findAll_26 : decode cX7_findAll 26 = .ok (.aload_n 0, 1) := by decide +kernel
theorem dX7_findAll_27 : decode cX7_findAll 27 = .ok (.aload_n 0, 1) := by decide +kernel
theorem dX7_findAll_28 : decode cX7_findAll 28 = .ok (.getfield 44, 3) := by decide +kernel
theorem dX7_findAll_31 : decode cX7_findAll 31 = .ok (.iconst 0, 1) := by decide +kernel
theorem dX7_findAll_32 : decode cX7_findAll 32 = .ok (.invokevirtual 91, 3) := by decide +kernel
theorem dX7_findAll_35 : decode cX7_findAll 35 = .ok (.ifCond .ne 49, 3) := by decide +kernel
theorem dX7_findAll_38 : decode cX7_findAll 38 = .ok (.iconst 0, 1) := by decide +kernel
theorem dX7_findAll_39 : decode cX7_findAll 39 = .ok (.istore_n 2, 1) := by decide +kernel
theorem dX7_findAll_40 : decode cX7_findAll 40 = .ok (.iload_n 2, 1) := by decide +kernel
theorem dX7_findAll_41 : decode cX7_findAll 41 = .ok (.aload_n 0, 1) := by decide +kernel
theorem dX7_findAll_42 : decode cX7_findAll 42 = .ok (.getfield 7, 3) := by decide +kernel
theorem dX7_findAll_45 : decode cX7_findAll 45 = .ok (.if_icmp .ge 29, 3) := by decide +kernel
theorem dX7_findAll_48 : decode cX7_findAll 48 = .ok (.aload_n 0, 1) := by decide +kernel
theorem dX7_findAll_49 : decode cX7_findAll 49 = .ok (.getfield 29, 3) := by decide +kernel
theorem dX7_findAll_52 : decode cX7_findAll 52 = .ok (.bipush 6, 2) := by decide +kernel
theorem dX7_findAll_54 : decode cX7_findAll 54 = .ok (.aload_n 0, 1) := by decide +kernel
theorem dX7_findAll_55 : decode cX7_findAll 55 = .ok (.getfield 88, 3) := by decide +kernel
theorem dX7_findAll_58 : decode cX7_findAll 58 = .ok (.imul, 1) := by decide +kernel
theorem dX7_findAll_59 : decode cX7_findAll 59 = .ok (.iload_n 2, 1) := by decide +kernel
theorem dX7_findAll_60 : decode cX7_findAll 60 = .ok (.iadd, 1) := by decide +kernel
theorem dX7_findAll_61 : decode cX7_findAll 61 = .ok (.aload_n 0, 1) := by decide +kernel
theorem dX7_findAll_62 : decode cX7_findAll 62 = .ok (.getfield 44, 3) := by decide +kernel
theorem dX7_findAll_65 : decode cX7_findAll 65 = .ok (.iload_n 2, 1) := by decide +kernel
theorem dX7_findAll_66 : decode cX7_findAll 66 = .ok (.iaload, 1) := by decide +kernel
theorem dX7_findAll_67 : decode cX7_findAll 67 = .ok (.iastore, 1) := by decide +kernel
theorem dX7_findAll_68 : decode cX7_findAll 68 = .ok (.iinc 2 1, 3) := by decide +kernel
theorem dX7_findAll_71 : decode cX7_findAll 71 = .ok (.goto (-31), 3) := by decide +kernel
theorem dX7_findAll_74 : decode cX7_findAll 74 = .ok (.aload_n 0, 1) := by decide +kernel
theorem dX7_findAll_75 : decode cX7_findAll 75 = .ok (.dup, 1) := by decide +kernel
theorem dX7_findAll_76 : decode cX7_findAll 76 = .ok (.getfield 88, 3) := by decide +kernel
theorem dX7_findAll_79 : decode cX7_findAll 79 = .ok (.iconst 1, 1) := by decide +kernel
theorem dX7_findAll_80 : decode cX7_findAll 80 = .ok (.iadd, 1) := by decide +kernel
theorem dX7_findAll_81 : decode cX7_findAll 81 = .ok (.putfield 88, 3) := by decide +kernel
theorem dX7_findAll_84 : decode cX7_findAll 84 = .ok (.iinc 1 (-1), 3) := by decide +kernel
theorem dX7_findAll_87 : decode cX7_findAll 87 = .ok (.goto (-73), 3) := by decide +kernel
theorem dX7_findAll_90 : decode cX7_findAll 90 = .ok (.aload_n 0, 1) := by decide +kernel
theorem dX7_findAll_91 : decode cX7_findAll 91 = .ok (.getfield 47, 3) := by decide +kernel
theorem dX7_findAll_94 : decode cX7_findAll 94 = .ok (.iload_n 1, 1) := by decide +kernel
theorem dX7_findAll_95 : decode cX7_findAll 95 = .ok (.iaload, 1) := by decide +kernel
theorem dX7_findAll_96 : decode cX7_findAll 96 = .ok (.aload_n 0, 1) := by decide +kernel
theorem dX7_findAll_97 : decode cX7_findAll 97 = .ok (.getfield 23, 3) := by decide +kernel
theorem dX7_findAll_100 : decode cX7_findAll 100 = .ok (.iload_n 1, 1) := by decide +kernel
theorem dX7_findAll_101 : decode cX7_findAll 101 = .ok (.iaload, 1) := by decide +kernel
theorem dX7_findAll_102 : decode cX7_findAll 102 = .ok (.if_icmp .ne 9, 3) := by decide +kernel
theorem dX7_findAll_105 : decode cX7_findAll 105 = .ok (.iinc 1 (-1), 3) := by decide +kernel
theorem dX7_findAll_108 : decode cX7_findAll 108 = .ok (.goto (-94), 3) := by decide +kernel
theorem dX7_findAll_111 : decode cX7_findAll 111 = .ok (.aload_n 0, 1) := by decide +kernel
theorem dX7_findAll_112 : decode cX7_findAll 112 = .ok (.getfield 47, 3) := by decide +kernel
theorem dX7_findAll_115 : decode cX7_findAll 115 = .ok (.iload_n 1, 1) := by decide +kernel
theorem dX7_findAll_116 : decode cX7_findAll 116 = .ok (.aload_n 0, 1) := by decide +kernel
theorem dX7_findAll_117 : decode cX7_findAll 117 = .ok (.iload_n 1, 1) := by decide +kernel
theorem dX7_findAll_118 : decode cX7_findAll 118 = .ok (.aload_n 0, 1) := by decide +kernel
theorem dX7_findAll_119 : decode cX7_findAll 119 = .ok (.getfield 47, 3) := by decide +kernel
theorem dX7_findAll_122 : decode cX7_findAll 122 = .ok (.iload_n 1, 1) := by decide +kernel
theorem dX7_findAll_123 : decode cX7_findAll 123 = .ok (.iaload, 1) := by decide +kernel
theorem dX7_findAll_124 : decode cX7_findAll 124 = .ok (.iconst 1, 1) := by decide +kernel
theorem dX7_findAll_125 : decode cX7_findAll 125 = .ok (.iadd, 1) := by decide +kernel
theorem dX7_findAll_126 : decode cX7_findAll 126 = .ok (.invokevirtual 95, 3) := by decide +kernel
theorem dX7_findAll_129 : decode cX7_findAll 129 = .ok (.iastore, 1) := by decide +kernel
theorem dX7_findAll_130 : decode cX7_findAll 130 = .ok (.aload_n 0, 1) := by decide +kernel
theorem dX7_findAll_131 : decode cX7_findAll 131 = .ok (.getfield 44, 3) := by decide +kernel
theorem dX7_findAll_134 : decode cX7_findAll 134 = .ok (.iload_n 1, 1) := by decide +kernel
theorem dX7_findAll_135 : decode cX7_findAll 135 = .ok (.aload_n 0, 1) := by decide +kernel
theorem dX7_findAll_136 : decode cX7_findAll 136 = .ok (.getfield 47, 3) := by decide +kernel
theorem dX7_findAll_139 : decode cX7_findAll 139 = .ok (.iload_n 1, 1) := by decide +kernel
theorem dX7_findAll_140 : decode cX7_findAll 140 = .ok (.iaload, 1) := by decide +kernel
theorem dX7_findAll_141 : decode cX7_findAll 141 = .ok (.aload_n 0, 1) := by decide +kernel
theorem dX7_findAll_142 : decode cX7_findAll 142 = .ok (.getfield 23, 3) := by decide +kernel
theorem dX7_findAll_145 : decode cX7_findAll 145 = .ok (.iload_n 1, 1) := by decide +kernel
theorem dX7_findAll_146 : decode cX7_findAll 146 = .ok (.iaload, 1) := by decide +kernel
theorem dX7_findAll_147 : decode cX7_findAll 147 = .ok (.if_icmp .ne 7, 3) := by decide +kernel
theorem dX7_findAll_150 : decode cX7_findAll 150 = .ok (.iconst (-1), 1) := by decide +kernel
theorem dX7_findAll_151 : decode cX7_findAll 151 = .ok (.goto 19, 3) := by decide +kernel
theorem dX7_findAll_154 : decode cX7_findAll 154 = .ok (.aload_n 0, 1) := by decide +kernel
theorem dX7_findAll_155 : decode cX7_findAll 155 = .ok (.getfield 20, 3) := by decide +kernel
theorem dX7_findAll_158 : decode cX7_findAll 158 = .ok (.bipush 6, 2) := by decide +kernel
theorem dX7_findAll_160 : decode cX7_findAll 160 = .ok (.iload_n 1, 1) := by decide +kernel
theorem dX7_findAll_161 : decode cX7_findAll 161 = .ok (.imul, 1) := by decide +kernel
theorem dX7_findAll_162 : decode cX7_findAll 162 = .ok (.aload_n 0, 1) := by decide +kernel
theorem dX7_findAll_163 : decode cX7_findAll 163 = .ok (.getfield 47, 3) := by decide +kernel
theorem dX7_findAll_166 : decode cX7_findAll 166 = .ok (.iload_n 1, 1) := by decide +kernel
theorem dX7_findAll_167 : decode cX7_findAll 167 = .ok (.iaload, 1) := by decide +kernel
theorem dX7_findAll_168 : decode cX7_findAll 168 = .ok (.iadd, 1) := by decide +kernel
theorem dX7_findAll_169 : decode cX7_findAll 169 = .ok (.iaload, 1) := by decide +kernel
theorem dX7_findAll_170 : decode cX7_findAll 170 = .ok (.iastore, 1) := by decide +kernel
theorem dX7_findAll_171 : decode cX7_findAll 171 = .ok (.iinc 1 1, 3) := by decide +kernel
theorem dX7_findAll_174 : decode cX7_findAll 174 = .ok (.iload_n 1, 1) := by decide +kernel
theorem dX7_findAll_175 : decode cX7_findAll 175 = .ok (.aload_n 0, 1) := by decide +kernel
theorem dX7_findAll_176 : decode cX7_findAll 176 = .ok (.getfield 7, 3) := by decide +kernel
theorem dX7_findAll_179 : decode cX7_findAll 179 = .ok (.if_icmp .ge (-165), 3) := by decide +kernel
theorem dX7_findAll_182 : decode cX7_findAll 182 = .ok (.aload_n 0, 1) := by decide +kernel
theorem dX7_findAll_183 : decode cX7_findAll 183 = .ok (.getfield 47, 3) := by decide +kernel
theorem dX7_findAll_186 : decode cX7_findAll 186 = .ok (.iload_n 1, 1) := by decide +kernel
theorem dX7_findAll_187 : decode cX7_findAll 187 = .ok (.iconst (-1), 1) := by decide +kernel
theorem dX7_findAll_188 : decode cX7_findAll 188 = .ok (.iastore, 1) := by decide +kernel
theorem dX7_findAll_189 : decode cX7_findAll 189 = .ok (.goto (-175), 3) := by decide +kernel
theorem dX7_findAll_192 : decode cX7_findAll 192 = .ok (.return_, 1) := by decide +kernel
theorem dX7_isBehind_0 : decode cX7_isBehind 0 = .ok (.iconst 1, 1) := by decide +kernel
theorem dX7_isBehind_1 : decode cX7_isBehind 1 = .ok (.istore_n 3, 1) := by decide +kernel
theorem dX7_isBehind_2 : decode cX7_isBehind 2 = .ok (.iconst 0, 1) := by decide +kernel
theorem dX7_isBehind_3 : decode cX7_isBehind 3 = .ok (.istore 4, 2) := by decide +kernel
theorem dX7_isBehind_5 : decode cX7_isBehind 5 = .ok (.iconst 0, 1) := by decide +kernel
theorem dX7_isBehind_6 : decode cX7_isBehind 6 = .ok (.istore 5, 2) := by decide +kernel
theorem dX7_isBehind_8 : decode cX7_isBehind 8 = .ok (.iload 5, 2) := by decide +kernel
theorem dX7_isBehind_10 : decode cX7_isBehind 10 = .ok (.aload_n 0, 1) := by decide +kernel
theorem dX7_isBehind_11 : decode cX7_isBehind 11 = .ok (.getfield 7, 3) := by decide +kernel
theorem dX7_isBehind_14 : decode cX7_isBehind 14 = .ok (.if_icmp .ge 116, 3) := by decide +kernel
theorem dX7_isBehind_17 : decode cX7_isBehind 17 = .ok (.aload_n 0, 1) := by decide +kernel
theorem dX7_isBehind_18 : decode cX7_isBehind 18 = .ok (.getfield 29, 3) := by decide +kernel
theorem dX7_isBehind_21 : decode cX7_isBehind 21 = .ok (.bipush 6, 2) := by decide +kernel
theorem dX7_isBehind_23 : decode cX7_isBehind 23 = .ok (.iload_n 1, 1) := by decide +kernel
theorem dX7_isBehind_24 : decode cX7_isBehind 24 = .ok (.imul, 1) := by decide +kernel
theorem dX7_isBehind_25 : decode cX7_isBehind 25 = .ok (.iload 5, 2) := by decide +kernel
theorem dX7_isBehind_27 : decode cX7_isBehind 27 = .ok (.iadd, 1) := by decide +kernel
theorem dX7_isBehind_28 : decode cX7_isBehind 28 = .ok (.iaload, 1) := by decide +kernel
theorem dX7_isBehind_29 : decode cX7_isBehind 29 = .ok (.istore 6, 2) := by decide +kernel
theorem dX7_isBehind_31 : decode cX7_isBehind 31 = .ok (.aload_n 0, 1) := by decide +kernel
theorem dX7_isBehind_32 : decode cX7_isBehind 32 = .ok (.getfield 29, 3) := by decide +kernel
theorem dX7_isBehind_35 : decode cX7_isBehind 35 = .ok (.bipush 6, 2) := by decide +kernel
theorem dX7_isBehind_37 : decode cX7_isBehind 37 = .ok (.iload_n 2, 1) := by decide +kernel
theorem dX7_isBehind_38 : decode cX7_isBehind 38 = .ok (.imul, 1) := by decide +kernel
theorem dX7_isBehind_39 : decode cX7_isBehind 39 = .ok (.iload 5, 2) := by decide +kernel
theorem dX7_isBehind_41 : decode cX7_isBehind 41 = .ok (.iadd, 1) := by decide +kernel
theorem dX7_isBehind_42 : decode cX7_isBehind 42 = .ok (.iaload, 1) := by decide +kernel
theorem dX7_isBehind_43 : decode cX7_isBehind 43 = .ok (.istore 7, 2) := by decide +kernel
theorem dX7_isBehind_45 : decode cX7_isBehind 45 = .ok (.iload 6, 2) := by decide +kernel
theorem dX7_isBehind_47 : decode cX7_isBehind 47 = .ok (.iload 7, 2) := by decide +kernel
theorem dX7_isBehind_49 : decode cX7_isBehind 49 = .ok (.if_icmp .ne 7, 3) := by decide +kernel
theorem dX7_isBehind_52 : decode cX7_isBehind 52 = .ok (.iconst 1, 1) := by decide +kernel
theorem dX7_isBehind_53 : decode cX7_isBehind 53 = .ok (.goto 4, 3) := by decide +kernel
theorem dX7_isBehind_56 : decode cX7_isBehind 56 = .ok (.iconst 0, 1) := by decide +kernel
theorem dX7_isBehind_57 : decode cX7_isBehind 57 = .ok (.istore 8, 2) := by decide +kernel
theorem dX7_isBehind_59 : decode cX7_isBehind 59 = .ok (.iload_n 3, 1) := by decide +kernel
theorem dX7_isBehind_60 : decode cX7_isBehind 60 = .ok (.ifCond .eq 45, 3) := by decide +kernel
theorem dX7_isBehind_63 : decode cX7_isBehind 63 = .ok (.iload 8, 2) := by decide +kernel
theorem dX7_isBehind_65 : decode cX7_isBehind 65 = .ok (.ifCond .ne 36, 3) := by decide +kernel
theorem dX7_isBehind_68 : decode cX7_isBehind 68 = .ok (.iload 6, 2) := by decide +kernel
theorem dX7_isBehind_70 : decode cX7_isBehind 70 = .ok (.iconst (-1), 1) := by decide +kernel
theorem dX7_isBehind_71 : decode cX7_isBehind 71 = .ok (.if_icmp .eq 34, 3) := by decide +kernel
theorem dX7_isBehind_74 : decode cX7_isBehind 74 = .ok (.iload 7, 2) := by decide +kernel
theorem dX7_isBehind_76 : decode cX7_isBehind 76 = .ok (.iconst (-1), 1) := by decide +kernel
theorem dX7_isBehind_77 : decode cX7_isBehind 77 = .ok (.if_icmp .eq 28, 3) := by decide +kernel
theorem dX7_isBehind_80 : decode cX7_isBehind 80 = .ok (.aload_n 0, 1) := by decide +kernel
theorem dX7_isBehind_81 : decode cX7_isBehind 81 = .ok (.iconst 0, 1) := by decide +kernel
theorem dX7_isBehind_82 : decode cX7_isBehind 82 = .ok (.iload 5, 2) := by decide +kernel
theorem dX7_isBehind_84 : decode cX7_isBehind 84 = .ok (.iload 6, 2) := by decide +kernel
theorem dX7_isBehind_86 : decode cX7_isBehind 86 = .ok (.invokevirtual 73, 3) := by decide +kernel
theorem dX7_isBehind_89 : decode cX7_isBehind 89 = .ok (.aload_n 0, 1) := by decide +kernel
theorem dX7_isBehind_90 : decode cX7_isBehind 90 = .ok (.iconst 0, 1) := by decide +kernel
theorem dX7_isBehind_91 : decode cX7_isBehind 91 = .ok (.iload 5, 2) := by decide +kernel
theorem dX7_isBehind_93 : decode cX7_isBehind 93 = .ok (.iload 7, 2) := by decide +kernel
theorem dX7_isBehind_95 : decode cX7_isBehind 95 = .ok (.invokevirtual 73, 3) := by decide +kernel
theorem dX7_isBehind_98 : decode cX7_isBehind 98 = .ok (.if_icmp .ge 7, 3) := by decide +kernel
theorem dX7_isBehind_101 : decode cX7_isBehind 101 = .ok (.iconst 1, 1) := by decide +kernel
theorem dX7_isBehind_102 : decode cX7_isBehind 102 = .ok (.goto 4, 3) := by decide +kernel
theorem dX7_isBehind_105 : decode cX7_isBehind 105 = .ok (.iconst 0, 1) := by decide +kernel
theorem dX7_isBehind_106 : decode cX7_isBehind 106 = .ok (.istore_n 3, 1) := by decide +kernel
theorem dX7_isBehind_107 : decode cX7_isBehind 107 = .ok (.iload 4, 2) := by decide +kernel
theorem dX7_isBehind_109 : decode cX7_isBehind 109 = .ok (.ifCond .ne 8, 3) := by decide +kernel
theorem dX7_isBehind_112 : decode cX7_isBehind 112 = .ok (.iload 8, 2) := by decide +kernel
theorem dX7_isBehind_114 : decode cX7_isBehind 114 = .ok (.ifCond .ne 7, 3) := by decide +kernel
theorem dX7_isBehind_117 : decode cX7_isBehind 117 = .ok (.iconst 1, 1) := by decide +kernel
theorem dX7_isBehind_118 : decode cX7_isBehind 118 = .ok (.goto 4, 3) := by decide +kernel
theorem dX7_isBehind_121 : decode cX7_isBehind 121 = .ok (.iconst 0, 1) := by decide +kernel
theorem dX7_isBehind_122 : decode cX7_isBehind 122 = .ok (.istore 4, 2) := by decide +kernel
theorem dX7_isBehind_124 : decode cX7_isBehind 124 = .ok (.iinc 5 1, 3) := by decide +kernel
theorem dX7_isBehind_127 : decode cX7_isBehind 127 = .ok (.goto (-119), 3) := by decide +kernel
theorem dX7_isBehind_130 : decode cX7_isBehind 130 = .ok (.iload_n 3, 1) := by decide +kernel
theorem dX7_isBehind_131 : decode cX7_isBehind 131 = .ok (.ifCond .eq 12, 3) := by decide +kernel
theorem dX7_isBehind_134 : decode cX7_isBehind 134 = .ok (.iload 4, 2) := by decide +kernel
theorem dX7_isBehind_136 : decode cX7_isBehind 136 = .ok (.ifCond .eq 7, 3) := by decide +kernel
theorem dX7_isBehind_139 : decode cX7_isBehind 139 = .ok (.iconst 1, 1) := by decide +kernel
theorem dX7_isBehind_140 : decode cX7_isBehind 140 = .ok (.goto 4, 3) := by decide +kernel
theorem dX7_isBehind_143 : decode cX7_isBehind 143 = .ok (.iconst 0, 1) := by decide +kernel
theorem dX7_isBehind_144 : decode cX7_isBehind 144 = .ok (.ireturn, 1) := by decide +kernel
theorem dX7_isStep_0 : decode cX7_isStep 0 = .ok (.aload_n 0, 1) := by decide +kernel
theorem dX7_isStep_1 : decode cX7_isStep 1 = .ok (.iload_n 1, 1) := by decide +kernel
theorem dX7_isStep_2 : decode cX7_isStep 2 = .ok (.iload_n 2, 1) := by decide +kernel
theorem dX7_isStep_3 : decode cX7_isStep 3 = .ok (.invokevirtual 99, 3) := by decide +kernel
theorem dX7_isStep_6 : decode cX7_isStep 6 = .ok (.istore_n 3, 1) := by decide +kernel
theorem dX7_isStep_7 : decode cX7_isStep 7 = .ok (.iconst 0, 1) := by decide +kernel
theorem dX7_isStep_8 : decode cX7_isStep 8 = .ok (.istore 4, 2) := by decide +kernel
theorem dX7_isStep_10 : decode cX7_isStep 10 = .ok (.iload 4, 2) := by decide +kernel
theorem dX7_isStep_12 : decode cX7_isStep 12 = .ok (.aload_n 0, 1) := by decide +kernel
theorem dX7_isStep_13 : decode cX7_isStep 13 = .ok (.getfield 88, 3) := by decide +kernel
theorem dX7_isStep_16 : decode cX7_isStep 16 = .ok (.if_icmp .ge 39, 3) := by decide +kernel
theorem dX7_isStep_19 : decode cX7_isStep 19 = .ok (.iload_n 3, 1) := by decide +kernel
theorem dX7_isStep_20 : decode cX7_isStep 20 = .ok (.ifCond .eq 35, 3) := by decide +kernel
theorem dX7_isStep_23 : decode cX7_isStep 23 = .ok (.aload_n 0, 1) := by decide +kernel
theorem dX7_isStep_24 : decode cX7_isStep 24 = .ok (.iload_n 1, 1) := by decide +kernel
theorem dX7_isStep_25 : decode cX7_isStep 25 = .ok (.iload 4, 2) := by decide +kernel
theorem dX7_isStep_27 : decode cX7_isStep 27 = .ok (.invokevirtual 99, 3) := by decide +kernel
theorem dX7_isStep_30 : decode cX7_isStep 30 = .ok (.ifCond .eq 13, 3) := by decide +kernel
theorem dX7_isStep_33 : decode cX7_isStep 33 = .ok (.aload_n 0, 1) := by decide +kernel
theorem dX7_isStep_34 : decode cX7_isStep 34 = .ok (.iload 4, 2) := by decide +kernel
theorem dX7_isStep_36 : decode cX7_isStep 36 = .ok (.iload_n 2, 1) := by decide +kernel
theorem dX7_isStep_37 : decode cX7_isStep 37 = .ok (.invokevirtual 99, 3) := by decide +kernel
theorem dX7_isStep_40 : decode cX7_isStep 40 = .ok (.ifCond .ne 7, 3) := by decide +kernel
theorem dX7_isStep_43 : decode cX7_isStep 43 = .ok (.iconst 1, 1) := by decide +kernel
theorem dX7_isStep_44 : decode cX7_isStep 44 = .ok (.goto 4, 3) := by decide +kernel
theorem dX7_isStep_47 : decode cX7_isStep 47 = .ok (.iconst 0, 1) := by decide +kernel
theorem dX7_isStep_48 : decode cX7_isStep 48 = .ok (.istore_n 3, 1) := by decide +kernel
theorem dX7_isStep_49 : decode cX7_isStep 49 = .ok (.iinc 4 1, 3) := by decide +kernel
theorem dX7_isStep_52 : decode cX7_isStep 52 = .ok (.goto (-42), 3) := by decide +kernel
theorem dX7_isStep_55 : decode cX7_isStep 55 = .ok (.iload_n 3, 1) := by decide +kernel
theorem dX7_isStep_56 : decode cX7_isStep 56 = .ok (.ireturn, 1) := by decide +kernel
theorem dX7_rotate_0 : decode cX7_rotate 0 = .ok (.iconst 0, 1) := by decide +kernel
theorem dX7_rotate_1 : decode cX7_rotate 1 = .ok (.istore_n 3, 1) := by decide +kernel
theorem dX7_rotate_2 : decode cX7_rotate 2 = .ok (.iconst 0, 1) := by decide +kernel
theorem dX7_rotate_3 : decode cX7_rotate 3 = .ok (.istore 4, 2) := by decide +kernel
theorem dX7_rotate_5 : decode cX7_rotate 5 = .ok (.iload 4, 2) := by decide +kernel
theorem dX7_rotate_7 : decode cX7_rotate 7 = .ok (.aload_n 0, 1) := by decide +kernel
theorem dX7_rotate_8 : decode cX7_rotate 8 = .ok (.getfield 7, 3) := by decide +kernel
theorem dX7_rotate_11 : decode cX7_rotate 11 = .ok (.if_icmp .ge 107, 3) := by decide +kernel
theorem dX7_rotate_14 : decode cX7_rotate 14 = .ok (.aload_n 0, 1) := by decide +kernel
theorem dX7_rotate_15 : decode cX7_rotate 15 = .ok (.getfield 29, 3) := by decide +kernel
theorem dX7_rotate_18 : decode cX7_rotate 18 = .ok (.bipush 6, 2) := by decide +kernel
theorem dX7_rotate_20 : decode cX7_rotate 20 = .ok (.iload_n 1, 1) := by decide +kernel
theorem dX7_rotate_21 : decode cX7_rotate 21 = .ok (.imul, 1) := by decide +kernel
theorem dX7_rotate_22 : decode cX7_rotate 22 = .ok (.iload 4, 2) := by decide +kernel
theorem dX7_rotate_24 : decode cX7_rotate 24 = .ok (.iadd, 1) := by decide +kernel
theorem dX7_rotate_25 : decode cX7_rotate 25 = .ok (.iaload, 1) := by decide +kernel
theorem dX7_rotate_26 : decode cX7_rotate 26 = .ok (.aload_n 0, 1) := by decide +kernel
theorem dX7_rotate_27 : decode cX7_rotate 27 = .ok (.getfield 29, 3) := by decide +kernel
theorem dX7_rotate_30 : decode cX7_rotate 30 = .ok (.bipush 6, 2) := by decide +kernel
theorem dX7_rotate_32 : decode cX7_rotate 32 = .ok (.iload_n 2, 1) := by decide +kernel
theorem dX7_rotate_33 : decode cX7_rotate 33 = .ok (.imul, 1) := by decide +kernel
theorem dX7_rotate_34 : decode cX7_rotate 34 = .ok (.iload 4, 2) := by decide +kernel
theorem dX7_rotate_36 : decode cX7_rotate 36 = .ok (.iadd, 1) := by decide +kernel
theorem dX7_rotate_37 : decode cX7_rotate 37 = .ok (.iaload, 1) := by decide +kernel
theorem dX7_rotate_38 : decode cX7_rotate 38 = .ok (.if_icmp .eq 74, 3) := by decide +kernel
theorem dX7_rotate_41 : decode cX7_rotate 41 = .ok (.aload_n 0, 1) := by decide +kernel
theorem dX7_rotate_42 : decode cX7_rotate 42 = .ok (.getfield 35, 3) := by decide +kernel
theorem dX7_rotate_45 : decode cX7_rotate 45 = .ok (.bipush 6, 2) := by decide +kernel
theorem dX7_rotate_47 : decode cX7_rotate 47 = .ok (.aload_n 0, 1) := by decide +kernel
theorem dX7_rotate_48 : decode cX7_rotate 48 = .ok (.getfield 102, 3) := by decide +kernel
theorem dX7_rotate_51 : decode cX7_rotate 51 = .ok (.imul, 1) := by decide +kernel
theorem dX7_rotate_52 : decode cX7_rotate 52 = .ok (.iload_n 3, 1) := by decide +kernel
theorem dX7_rotate_53 : decode cX7_rotate 53 = .ok (.iadd, 1) := by decide +kernel
theorem dX7_rotate_54 : decode cX7_rotate 54 = .ok (.iload 4, 2) := by decide +kernel
theorem dX7_rotate_56 : decode cX7_rotate 56 = .ok (.iastore, 1) := by decide +kernel
theorem dX7_rotate_57 : decode cX7_rotate 57 = .ok (.aload_n 0, 1) := by decide +kernel
theorem dX7_rotate_58 : decode cX7_rotate 58 = .ok (.getfield 38, 3) := by decide +kernel
theorem dX7_rotate_61 : decode cX7_rotate 61 = .ok (.bipush 6, 2) := by decide +kernel
theorem dX7_rotate_63 : decode cX7_rotate 63 = .ok (.aload_n 0, 1) := by decide +kernel
theorem dX7_rotate_64 : decode cX7_rotate 64 = .ok (.getfield 102, 3) := by decide +kernel
theorem dX7_rotate_67 : decode cX7_rotate 67 = .ok (.imul, 1) := by decide +kernel
theorem dX7_rotate_68 : decode cX7_rotate 68 = .ok (.iload_n 3, 1) := by decide +kernel
theorem dX7_rotate_69 : decode cX7_rotate 69 = .ok (.iadd, 1) := by decide +kernel
theorem dX7_rotate_70 : decode cX7_rotate 70 = .ok (.aload_n 0, 1) := by decide +kernel
theorem dX7_rotate_71 : decode cX7_rotate 71 = .ok (.getfield 29, 3) := by decide +kernel
theorem dX7_rotate_74 : decode cX7_rotate 74 = .ok (.bipush 6, 2) := by decide +kernel
theorem dX7_rotate_76 : decode cX7_rotate 76 = .ok (.iload_n 1, 1) := by decide +kernel
theorem dX7_rotate_77 : decode cX7_rotate 77 = .ok (.imul, 1) := by decide +kernel
theorem dX7_rotate_78 : decode cX7_rotate 78 = .ok (.iload 4, 2) := by decide +kernel
theorem dX7_rotate_80 : decode cX7_rotate 80 = .ok (.iadd, 1) := by decide +kernel
theorem dX7_rotate_81 : decode cX7_rotate 81 = .ok (.iaload, 1) := by decide +kernel
theorem dX7_rotate_82 : decode cX7_rotate 82 = .ok (.iastore, 1) := by decide +kernel
theorem dX7_rotate_83 : decode cX7_rotate 83 = .ok (.aload_n 0, 1) := by decide +kernel
theorem dX7_rotate_84 : decode cX7_rotate 84 = .ok (.getfield 41, 3) := by decide +kernel
theorem dX7_rotate_87 : decode cX7_rotate 87 = .ok (.bipush 6, 2) := by decide +kernel
theorem dX7_rotate_89 : decode cX7_rotate 89 = .ok (.aload_n 0, 1) := by decide +kernel
theorem dX7_rotate_90 : decode cX7_rotate 90 = .ok (.getfield 102, 3) := by decide +kernel
theorem dX7_rotate_93 : decode cX7_rotate 93 = .ok (.imul, 1) := by decide +kernel
theorem dX7_rotate_94 : decode cX7_rotate 94 = .ok (.iload_n 3, 1) := by decide +kernel
theorem dX7_rotate_95 : decode cX7_rotate 95 = .ok (.iadd, 1) := by decide +kernel
theorem dX7_rotate_96 : decode cX7_rotate 96 = .ok (.aload_n 0, 1) := by decide +kernel
theorem dX7_rotate_97 : decode cX7_rotate 97 = .ok (.getfield 29, 3) := by decide +kernel
theorem dX7_rotate_100 : decode cX7_rotate 100 = .ok (.bipush 6, 2) := by decide +kernel
theorem dX7_rotate_102 : decode cX7_rotate 102 = .ok (.iload_n 2, 1) := by decide +kernel
theorem dX7_rotate_103 : decode cX7_rotate 103 = .ok (.imul, 1) := by decide +kernel
theorem dX7_rotate_104 : decode cX7_rotate 104 = .ok (.iload 4, 2) := by decide +kernel
theorem dX7_rotate_106 : decode cX7_rotate 106 = .ok (.iadd, 1) := by decide +kernel
theorem dX7_rotate_107 : decode cX7_rotate 107 = .ok (.iaload, 1) := by decide +kernel
theorem dX7_rotate_108 : decode cX7_rotate 108 = .ok (.iastore, 1) := by decide +kernel
theorem dX7_rotate_109 : decode cX7_rotate 109 = .ok (.iinc 3 1, 3) := by decide +kernel
theorem dX7_rotate_112 : decode cX7_rotate 112 = .ok (.iinc 4 1, 3) := by decide +kernel
theorem dX7_rotate_115 : decode cX7_rotate 115 = .ok (.goto (-110), 3) := by decide +kernel
theorem dX7_rotate_118 : decode cX7_rotate 118 = .ok (.aload_n 0, 1) := by decide +kernel
theorem dX7_rotate_119 : decode cX7_rotate 119 = .ok (.getfield 32, 3) := by decide +kernel
theorem dX7_rotate_122 : decode cX7_rotate 122 = .ok (.aload_n 0, 1) := by decide +kernel
theorem dX7_rotate_123 : decode cX7_rotate 123 = .ok (.getfield 102, 3) := by decide +kernel
theorem dX7_rotate_126 : decode cX7_rotate 126 = .ok (.iload_n 3, 1) := by decide +kernel
theorem dX7_rotate_127 : decode cX7_rotate 127 = .ok (.iastore, 1) := by decide +kernel
theorem dX7_rotate_128 : decode cX7_rotate 128 = .ok (.iconst 1, 1) := by decide +kernel
theorem dX7_rotate_129 : decode cX7_rotate 129 = .ok (.istore 4, 2) := by decide +kernel
theorem dX7_rotate_131 : decode cX7_rotate 131 = .ok (.iconst 0, 1) := by decide +kernel
theorem dX7_rotate_132 : decode cX7_rotate 132 = .ok (.istore 5, 2) := by decide +kernel
theorem dX7_rotate_134 : decode cX7_rotate 134 = .ok (.iload 5, 2) := by decide +kernel
theorem dX7_rotate_136 : decode cX7_rotate 136 = .ok (.aload_n 0, 1) := by decide +kernel
theorem dX7_rotate_137 : decode cX7_rotate 137 = .ok (.getfield 102, 3) := by decide +kernel
theorem dX7_rotate_140 : decode cX7_rotate 140 = .ok (.if_icmp .ge 164, 3) := by decide +kernel
theorem dX7_rotate_143 : decode cX7_rotate 143 = .ok (.aload_n 0, 1) := by decide +kernel
theorem dX7_rotate_144 : decode cX7_rotate 144 = .ok (.getfield 32, 3) := by decide +kernel
theorem dX7_rotate_147 : decode cX7_rotate 147 = .ok (.iload 5, 2) := by decide +kernel
theorem dX7_rotate_149 : decode cX7_rotate 149 = .ok (.iaload, 1) := by decide +kernel
theorem dX7_rotate_150 : decode cX7_rotate 150 = .ok (.iload_n 3, 1) := by decide +kernel
theorem dX7_rotate_151 : decode cX7_rotate 151 = .ok (.if_icmp .ne 7, 3) := by decide +kernel
theorem dX7_rotate_154 : decode cX7_rotate 154 = .ok (.iconst 1, 1) := by decide +kernel
theorem dX7_rotate_155 : decode cX7_rotate 155 = .ok (.goto 4, 3) := by decide +kernel
theorem dX7_rotate_158 : decode cX7_rotate 158 = .ok (.iconst 0, 1) := by decide +kernel
theorem dX7_rotate_159 : decode cX7_rotate 159 = .ok (.istore 6, 2) := by decide +kernel
theorem dX7_rotate_161 : decode cX7_rotate 161 = .ok (.iconst 0, 1) := by decide +kernel
theorem dX7_rotate_162 : decode cX7_rotate 162 = .ok (.istore 7, 2) := by decide +kernel
theorem dX7_rotate_164 : decode cX7_rotate 164 = .ok (.iload 7, 2) := by decide +kernel
theorem dX7_rotate_166 : decode cX7_rotate 166 = .ok (.iload_n 3, 1) := by decide +kernel
theorem dX7_rotate_167 : decode cX7_rotate 167 = .ok (.if_icmp .ge 114, 3) := by decide +kernel
theorem dX7_rotate_170 : decode cX7_rotate 170 = .ok (.iload 6, 2) := by decide +kernel
theorem dX7_rotate_172 : decode cX7_rotate 172 = .ok (.ifCond .eq 109, 3) := by decide +kernel
theorem dX7_rotate_175 : decode cX7_rotate 175 = .ok (.aload_n 0, 1) := by decide +kernel
theorem dX7_rotate_176 : decode cX7_rotate 176 = .ok (.getfield 35, 3) := by decide +kernel
theorem dX7_rotate_179 : decode cX7_rotate 179 = .ok (.bipush 6, 2) := by decide +kernel
theorem dX7_rotate_181 : decode cX7_rotate 181 = .ok (.iload 5, 2) := by decide +kernel
theorem dX7_rotate_183 : decode cX7_rotate 183 = .ok (.imul, 1) := by decide +kernel
theorem dX7_rotate_184 : decode cX7_rotate 184 = .ok (.iload 7, 2) := by decide +kernel
theorem dX7_rotate_186 : decode cX7_rotate 186 = .ok (.iadd, 1) := by decide +kernel
theorem dX7_rotate_187 : decode cX7_rotate 187 = .ok (.iaload, 1) := by decide +kernel
theorem dX7_rotate_188 : decode cX7_rotate 188 = .ok (.aload_n 0, 1) := by decide +kernel
theorem dX7_rotate_189 : decode cX7_rotate 189 = .ok (.getfield 35, 3) := by decide +kernel
theorem dX7_rotate_192 : decode cX7_rotate 192 = .ok (.bipush 6, 2) := by decide +kernel
theorem dX7_rotate_194 : decode cX7_rotate 194 = .ok (.aload_n 0, 1) := by decide +kernel
theorem dX7_rotate_195 : decode cX7_rotate 195 = .ok (.getfield 102, 3) := by decide +kernel
theorem dX7_rotate_198 : decode cX7_rotate 198 = .ok (.imul, 1) := by decide +kernel
theorem dX7_rotate_199 : decode cX7_rotate 199 = .ok (.iload 7, 2) := by decide +kernel
theorem dX7_rotate_201 : decode cX7_rotate 201 = .ok (.iadd, 1) := by decide +kernel
theorem dX7_rotate_202 : decode cX7_rotate 202 = .ok (.iaload, 1) := by decide +kernel
theorem dX7_rotate_203 : decode cX7_rotate 203 = .ok (.if_icmp .ne 69, 3) := by decide +kernel
theorem dX7_rotate_206 : decode cX7_rotate 206 = .ok (.aload_n 0, 1) := by decide +kernel
theorem dX7_rotate_207 : decode cX7_rotate 207 = .ok (.getfield 38, 3) := by decide +kernel
theorem dX7_rotate_210 : decode cX7_rotate 210 = .ok (.bipush 6, 2) := by decide +kernel
theorem dX7_rotate_212 : decode cX7_rotate 212 = .ok (.iload 5, 2) := by decide +kernel
theorem dX7_rotate_214 : decode cX7_rotate 214 = .ok (.imul, 1) := by decide +kernel
theorem dX7_rotate_215 : decode cX7_rotate 215 = .ok (.iload 7, 2) := by decide +kernel
theorem dX7_rotate_217 : decode cX7_rotate 217 = .ok (.iadd, 1) := by decide +kernel
theorem dX7_rotate_218 : decode cX7_rotate 218 = .ok (.iaload, 1) := by decide +kernel
theorem dX7_rotate_219 : decode cX7_rotate 219 = .ok (.aload_n 0, 1) := by decide +kernel
theorem dX7_rotate_220 : decode cX7_rotate 220 = .ok (.getfield 38, 3) := by decide +kernel
theorem dX7_rotate_223 : decode cX7_rotate 223 = .ok (.bipush 6, 2) := by decide +kernel
theorem dX7_rotate_225 : decode cX7_rotate 225 = .ok (.aload_n 0, 1) := by decide +kernel
theorem dX7_rotate_226 : decode cX7_rotate 226 = .ok (.getfield 102, 3) := by decide +kernel
theorem dX7_rotate_229 : decode cX7_rotate 229 = .ok (.imul, 1) := by decide +kernel
theorem dX7_rotate_230 : decode cX7_rotate 230 = .ok (.iload 7, 2) := by decide +kernel
theorem dX7_rotate_232 : decode cX7_rotate 232 = .ok (.iadd, 1) := by decide +kernel
theorem dX7_rotate_233 : decode cX7_rotate 233 = .ok (.iaload, 1) := by decide +kernel
theorem dX7_rotate_234 : decode cX7_rotate 234 = .ok (.if_icmp .ne 38, 3) := by decide +kernel
theorem dX7_rotate_237 : decode cX7_rotate 237 = .ok (.aload_n 0, 1) := by decide +kernel
theorem dX7_rotate_238 : decode cX7_rotate 238 = .ok (.getfield 41, 3) := by decide +kernel
theorem dX7_rotate_241 : decode cX7_rotate 241 = .ok (.bipush 6, 2) := by decide +kernel
theorem dX7_rotate_243 : decode cX7_rotate 243 = .ok (.iload 5, 2) := by decide +kernel
theorem dX7_rotate_245 : decode cX7_rotate 245 = .ok (.imul, 1) := by decide +kernel
theorem dX7_rotate_246 : decode cX7_rotate 246 = .ok (.iload 7, 2) := by decide +kernel
theorem dX7_rotate_248 : decode cX7_rotate 248 = .ok (.iadd, 1) := by decide +kernel
theorem dX7_rotate_249 : decode cX7_rotate 249 = .ok (.iaload, 1) := by decide +kernel
theorem dX7_rotate_250 : decode cX7_rotate 250 = .ok (.aload_n 0, 1) := by decide +kernel
theorem dX7_rotate_251 : decode cX7_rotate 251 = .ok (.getfield 41, 3) := by decide +kernel
theorem dX7_rotate_254 : decode cX7_rotate 254 = .ok (.bipush 6, 2) := by decide +kernel
theorem dX7_rotate_256 : decode cX7_rotate 256 = .ok (.aload_n 0, 1) := by decide +kernel
theorem dX7_rotate_257 : decode cX7_rotate 257 = .ok (.getfield 102, 3) := by decide +kernel
theorem dX7_rotate_260 : decode cX7_rotate 260 = .ok (.imul, 1) := by decide +kernel
theorem dX7_rotate_261 : decode cX7_rotate 261 = .ok (.iload 7, 2) := by decide +kernel
theorem dX7_rotate_263 : decode cX7_rotate 263 = .ok (.iadd, 1) := by decide +kernel
theorem dX7_rotate_264 : decode cX7_rotate 264 = .ok (.iaload, 1) := by decide +kernel
theorem dX7_rotate_265 : decode cX7_rotate 265 = .ok (.if_icmp .ne 7, 3) := by decide +kernel
theorem dX7_rotate_268 : decode cX7_rotate 268 = .ok (.iconst 1, 1) := by decide +kernel
theorem dX7_rotate_269 : decode cX7_rotate 269 = .ok (.goto 4, 3) := by decide +kernel
theorem dX7_rotate_272 : decode cX7_rotate 272 = .ok (.iconst 0, 1) := by decide +kernel
theorem dX7_rotate_273 : decode cX7_rotate 273 = .ok (.istore 6, 2) := by decide +kernel
theorem dX7_rotate_275 : decode cX7_rotate 275 = .ok (.iinc 7 1, 3) := by decide +kernel
theorem dX7_rotate_278 : decode cX7_rotate 278 = .ok (.goto (-114), 3) := by decide +kernel
theorem dX7_rotate_281 : decode cX7_rotate 281 = .ok (.iload 4, 2) := by decide +kernel
theorem dX7_rotate_283 : decode cX7_rotate 283 = .ok (.ifCond .eq 12, 3) := by decide +kernel
theorem dX7_rotate_286 : decode cX7_rotate 286 = .ok (.iload 6, 2) := by decide +kernel
theorem dX7_rotate_288 : decode cX7_rotate 288 = .ok (.ifCond .ne 7, 3) := by decide +kernel
theorem dX7_rotate_291 : decode cX7_rotate 291 = .ok (.iconst 1, 1) := by decide +kernel
theorem dX7_rotate_292 : decode cX7_rotate 292 = .ok (.goto 4, 3) := by decide +kernel
theorem dX7_rotate_295 : decode cX7_rotate 295 = .ok (.iconst 0, 1) := by decide +kernel
theorem dX7_rotate_296 : decode cX7_rotate 296 = .ok (.istore 4, 2) := by decide +kernel
theorem dX7_rotate_298 : decode cX7_rotate 298 = .ok (.iinc 5 1, 3) := by decide +kernel
theorem dX7_rotate_301 : decode cX7_rotate 301 = .ok (.goto (-167), 3) := by decide +kernel
theorem dX7_rotate_304 : decode cX7_rotate 304 = .ok (.aload_n 0, 1) := by decide +kernel
theorem dX7_rotate_305 : decode cX7_rotate 305 = .ok (.dup, 1) := by decide +kernel
theorem dX7_rotate_306 : decode cX7_rotate 306 = .ok (.getfield 102, 3) := by decide +kernel
theorem dX7_rotate_309 : decode cX7_rotate 309 = .ok (.iload 4, 2) := by decide +kernel
theorem dX7_rotate_311 : decode cX7_rotate 311 = .ok (.ifCond .eq 16, 3) := by decide +kernel
theorem dX7_rotate_314 : decode cX7_rotate 314 = .ok (.aload_n 0, 1) := by decide +kernel
theorem dX7_rotate_315 : decode cX7_rotate 315 = .ok (.getfield 102, 3) := by decide +kernel
theorem dX7_rotate_318 : decode cX7_rotate 318 = .ok (.bipush 63, 2) := by decide +kernel
theorem dX7_rotate_320 : decode cX7_rotate 320 = .ok (.if_icmp .ge 7, 3) := by decide +kernel
theorem dX7_rotate_323 : decode cX7_rotate 323 = .ok (.iconst 1, 1) := by decide +kernel
theorem dX7_rotate_324 : decode cX7_rotate 324 = .ok (.goto 4, 3) := by decide +kernel
theorem dX7_rotate_327 : decode cX7_rotate 327 = .ok (.iconst 0, 1) := by decide +kernel
theorem dX7_rotate_328 : decode cX7_rotate 328 = .ok (.iadd, 1) := by decide +kernel
theorem dX7_rotate_329 : decode cX7_rotate 329 = .ok (.putfield 102, 3) := by decide +kernel
theorem dX7_rotate_332 : decode cX7_rotate 332 = .ok (.return_, 1) := by decide +kernel
theorem dX7_goesBefore_0 : decode cX7_goesBefore 0 = .ok (.aload_n 0, 1) := by decide +kernel
theorem dX7_goesBefore_1 : decode cX7_goesBefore 1 = .ok (.getfield 35, 3) := by decide +kernel
theorem dX7_goesBefore_4 : decode cX7_goesBefore 4 = .ok (.bipush 6, 2) := by decide +kernel
theorem dX7_goesBefore_6 : decode cX7_goesBefore 6 = .ok (.iload_n 1, 1) := by decide +kernel
theorem dX7_goesBefore_7 : decode cX7_goesBefore 7 = .ok (.imul, 1) := by decide +kernel
theorem dX7_goesBefore_8 : decode cX7_goesBefore 8 = .ok (.iaload, 1) := by decide +kernel
theorem dX7_goesBefore_9 : decode cX7_goesBefore 9 = .ok (.istore_n 3, 1) := by decide +kernel
theorem dX7_goesBefore_10 : decode cX7_goesBefore 10 = .ok (.aload_n 0, 1) := by decide +kernel
theorem dX7_goesBefore_11 : decode cX7_goesBefore 11 = .ok (.getfield 35, 3) := by decide +kernel
theorem dX7_goesBefore_14 : decode cX7_goesBefore 14 = .ok (.bipush 6, 2) := by decide +kernel
theorem dX7_goesBefore_16 : decode cX7_goesBefore 16 = .ok (.iload_n 2, 1) := by decide +kernel
theorem dX7_goesBefore_17 : decode cX7_goesBefore 17 = .ok (.imul, 1) := by decide +kernel
theorem dX7_goesBefore_18 : decode cX7_goesBefore 18 = .ok (.iaload, 1) := by decide +kernel
theorem dX7_goesBefore_19 : decode cX7_goesBefore 19 = .ok (.istore 4, 2) := by decide +kernel
theorem dX7_goesBefore_21 : decode cX7_goesBefore 21 = .ok (.iload_n 3, 1) := by decide +kernel
theorem dX7_goesBefore_22 : decode cX7_goesBefore 22 = .ok (.iload 4, 2) := by decide +kernel
theorem dX7_goesBefore_24 : decode cX7_goesBefore 24 = .ok (.if_icmp .lt 43, 3) := by decide +kernel
theorem dX7_goesBefore_27 : decode cX7_goesBefore 27 = .ok (.iload_n 3, 1) := by decide +kernel
theorem dX7_goesBefore_28 : decode cX7_goesBefore 28 = .ok (.iload 4, 2) := by decide +kernel
theorem dX7_goesBefore_30 : decode cX7_goesBefore 30 = .ok (.if_icmp .ne 41, 3) := by decide +kernel
theorem dX7_goesBefore_33 : decode cX7_goesBefore 33 = .ok (.aload_n 0, 1) := by decide +kernel
theorem dX7_goesBefore_34 : decode cX7_goesBefore 34 = .ok (.iconst 0, 1) := by decide +kernel
theorem dX7_goesBefore_35 : decode cX7_goesBefore 35 = .ok (.iload_n 3, 1) := by decide +kernel
theorem dX7_goesBefore_36 : decode cX7_goesBefore 36 = .ok (.aload_n 0, 1) := by decide +kernel
theorem dX7_goesBefore_37 : decode cX7_goesBefore 37 = .ok (.getfield 38, 3) := by decide +kernel
theorem dX7_goesBefore_40 : decode cX7_goesBefore 40 = .ok (.bipush 6, 2) := by decide +kernel
theorem dX7_goesBefore_42 : decode cX7_goesBefore 42 = .ok (.iload_n 1, 1) := by decide +kernel
theorem dX7_goesBefore_43 : decode cX7_goesBefore 43 = .ok (.imul, 1) := by decide +kernel
theorem dX7_goesBefore_44 : decode cX7_goesBefore 44 = .ok (.iaload, 1) := by decide +kernel
theorem dX7_goesBefore_45 : decode cX7_goesBefore 45 = .ok (.invokevirtual 73, 3) := by decide +kernel
theorem dX7_goesBefore_48 : decode cX7_goesBefore 48 = .ok (.aload_n 0, 1) := by decide +kernel
theorem dX7_goesBefore_49 : decode cX7_goesBefore 49 = .ok (.iconst 0, 1) := by decide +kernel
theorem dX7_goesBefore_50 : decode cX7_goesBefore 50 = .ok (.iload 4, 2) := by decide +kernel
theorem dX7_goesBefore_52 : decode cX7_goesBefore 52 = .ok (.aload_n 0, 1) := by decide +kernel
theorem dX7_goesBefore_53 : decode cX7_goesBefore 53 = .ok (.getfield 38, 3) := by decide +kernel
theorem dX7_goesBefore_56 : decode cX7_goesBefore 56 = .ok (.bipush 6, 2) := by decide +kernel
theorem dX7_goesBefore_58 : decode cX7_goesBefore 58 = .ok (.iload_n 2, 1) := by decide +kernel
theorem dX7_goesBefore_59 : decode cX7_goesBefore 59 = .ok (.imul, 1) := by decide +kernel
theorem dX7_goesBefore_60 : decode cX7_goesBefore 60 = .ok (.iaload, 1) := by decide +kernel
theorem dX7_goesBefore_61 : decode cX7_goesBefore 61 = .ok (.invokevirtual 73, 3) := by decide +kernel
theorem dX7_goesBefore_64 : decode cX7_goesBefore 64 = .ok (.if_icmp .ge 7, 3) := by decide +kernel
theorem dX7_goesBefore_67 : decode cX7_goesBefore 67 = .ok (.iconst 1, 1) := by decide +kernel
theorem dX7_goesBefore_68 : decode cX7_goesBefore 68 = .ok (.goto 4, 3) := by decide +kernel
theorem dX7_goesBefore_71 : decode cX7_goesBefore 71 = .ok (.iconst 0, 1) := by decide +kernel
theorem dX7_goesBefore_72 : decode cX7_goesBefore 72 = .ok (.ireturn, 1) := by decide +kernel
theorem dX7_swap_0 : decode cX7_swap 0 = .ok (.aload_n 0, 1) := by decide +kernel
theorem dX7_swap_1 : decode cX7_swap 1 = .ok (.getfield 32, 3) := by decide +kernel
theorem dX7_swap_4 : decode cX7_swap 4 = .ok (.iload_n 1, 1) := by decide +kernel
theorem dX7_swap_5 : decode cX7_swap 5 = .ok (.iaload, 1) := by decide +kernel
theorem dX7_swap_6 : decode cX7_swap 6 = .ok (.istore_n 3, 1) := by decide +kernel
theorem dX7_swap_7 : decode cX7_swap 7 = .ok (.aload_n 0, 1) := by decide +kernel
theorem dX7_swap_8 : decode cX7_swap 8 = .ok (.getfield 32, 3) := by decide +kernel
theorem dX7_swap_11 : decode cX7_swap 11 = .ok (.iload_n 1, 1) := by decide +kernel
theorem dX7_swap_12 : decode cX7_swap 12 = .ok (.aload_n 0, 1) := by decide +kernel
theorem dX7_swap_13 : decode cX7_swap 13 = .ok (.getfield 32, 3) := by decide +kernel
theorem dX7_swap_16 : decode cX7_swap 16 = .ok (.iload_n 2, 1) := by decide +kernel
theorem dX7_swap_17 : decode cX7_swap 17 = .ok (.iaload, 1) := by decide +kernel
theorem dX7_swap_18 : decode cX7_swap 18 = .ok (.iastore, 1) := by decide +kernel
theorem dX7_swap_19 : decode cX7_swap 19 = .ok (.aload_n 0, 1) := by decide +kernel
theorem dX7_swap_20 : decode cX7_swap 20 = .ok (.getfield 32, 3) := by decide +kernel
theorem dX7_swap_23 : decode cX7_swap 23 = .ok (.iload_n 2, 1) := by decide +kernel
theorem dX7_swap_24 : decode cX7_swap 24 = .ok (.iload_n 3, 1) := by decide +kernel
theorem dX7_swap_25 : decode cX7_swap 25 = .ok (.iastore, 1) := by decide +kernel
theorem dX7_swap_26 : decode cX7_swap 26 = .ok (.iconst 0, 1) := by decide +kernel
theorem dX7_swap_27 : decode cX7_swap 27 = .ok (.istore 4, 2) := by decide +kernel
theorem dX7_swap_29 : decode cX7_swap 29 = .ok (.iload 4, 2) := by decide +kernel
theorem dX7_swap_31 : decode cX7_swap 31 = .ok (.bipush 6, 2) := by decide +kernel
theorem dX7_swap_33 : decode cX7_swap 33 = .ok (.if_icmp .ge 165, 3) := by decide +kernel
theorem dX7_swap_36 : decode cX7_swap 36 = .ok (.aload_n 0, 1) := by decide +kernel
theorem dX7_swap_37 : decode cX7_swap 37 = .ok (.getfield 35, 3) := by decide +kernel
theorem dX7_swap_40 : decode cX7_swap 40 = .ok (.bipush 6, 2) := by decide +kernel
theorem dX7_swap_42 : decode cX7_swap 42 = .ok (.iload_n 1, 1) := by decide +kernel
theorem dX7_swap_43 : decode cX7_swap 43 = .ok (.imul, 1) := by decide +kernel
theorem dX7_swap_44 : decode cX7_swap 44 = .ok (.iload 4, 2) := by decide +kernel
theorem dX7_swap_46 : decode cX7_swap 46 = .ok (.iadd, 1) := by decide +kernel
theorem dX7_swap_47 : decode cX7_swap 47 = .ok (.iaload, 1) := by decide +kernel
theorem dX7_swap_48 : decode cX7_swap 48 = .ok (.istore 5, 2) := by decide +kernel
theorem dX7_swap_50 : decode cX7_swap 50 = .ok (.aload_n 0, 1) := by decide +kernel
theorem dX7_swap_51 : decode cX7_swap 51 = .ok (.getfield 35, 3) := by decide +kernel
theorem dX7_swap_54 : decode cX7_swap 54 = .ok (.bipush 6, 2) := by decide +kernel
theorem dX7_swap_56 : decode cX7_swap 56 = .ok (.iload_n 1, 1) := by decide +kernel
theorem dX7_swap_57 : decode cX7_swap 57 = .ok (.imul, 1) := by decide +kernel
theorem dX7_swap_58 : decode cX7_swap 58 = .ok (.iload 4, 2) := by decide +kernel
theorem dX7_swap_60 : decode cX7_swap 60 = .ok (.iadd, 1) := by decide +kernel
theorem dX7_swap_61 : decode cX7_swap 61 = .ok (.aload_n 0, 1) := by decide +kernel
theorem dX7_swap_62 : decode cX7_swap 62 = .ok (.getfield 35, 3) := by decide +kernel
theorem dX7_swap_65 : decode cX7_swap 65 = .ok (.bipush 6, 2) := by decide +kernel
theorem dX7_swap_67 : decode cX7_swap 67 = .ok (.iload_n 2, 1) := by decide +kernel
theorem dX7_swap_68 : decode cX7_swap 68 = .ok (.imul, 1) := by decide +kernel
theorem dX7_swap_69 : decode cX7_swap 69 = .ok (.iload 4, 2) := by decide +kernel
theorem dX7_swap_71 : decode cX7_swap 71 = .ok (.iadd, 1) := by decide +kernel
theorem dX7_swap_72 : decode cX7_swap 72 = .ok (.iaload, 1) := by decide +kernel
theorem dX7_swap_73 : decode cX7_swap 73 = .ok (.iastore, 1) := by decide +kernel
theorem dX7_swap_74 : decode cX7_swap 74 = .ok (.aload_n 0, 1) := by decide +kernel
theorem dX7_swap_75 : decode cX7_swap 75 = .ok (.getfield 35, 3) := by decide +kernel
theorem dX7_swap_78 : decode cX7_swap 78 = .ok (.bipush 6, 2) := by decide +kernel
theorem dX7_swap_80 : decode cX7_swap 80 = .ok (.iload_n 2, 1) := by decide +kernel
theorem dX7_swap_81 : decode cX7_swap 81 = .ok (.imul, 1) := by decide +kernel
theorem dX7_swap_82 : decode cX7_swap 82 = .ok (.iload 4, 2) := by decide +kernel
theorem dX7_swap_84 : decode cX7_swap 84 = .ok (.iadd, 1) := by decide +kernel
theorem dX7_swap_85 : decode cX7_swap 85 = .ok (.iload 5, 2) := by decide +kernel
theorem dX7_swap_87 : decode cX7_swap 87 = .ok (.iastore, 1) := by decide +kernel
theorem dX7_swap_88 : decode cX7_swap 88 = .ok (.aload_n 0, 1) := by decide +kernel
theorem dX7_swap_89 : decode cX7_swap 89 = .ok (.getfield 38, 3) := by decide +kernel
theorem dX7_swap_92 : decode cX7_swap 92 = .ok (.bipush 6, 2) := by decide +kernel
theorem dX7_swap_94 : decode cX7_swap 94 = .ok (.iload_n 1, 1) := by decide +kernel
theorem dX7_swap_95 : decode cX7_swap 95 = .ok (.imul, 1) := by decide +kernel
theorem dX7_swap_96 : decode cX7_swap 96 = .ok (.iload 4, 2) := by decide +kernel
theorem dX7_swap_98 : decode cX7_swap 98 = .ok (.iadd, 1) := by decide +kernel
theorem dX7_swap_99 : decode cX7_swap 99 = .ok (.iaload, 1) := by decide +kernel
theorem dX7_swap_100 : decode cX7_swap 100 = .ok (.istore 5, 2) := by decide +kernel
theorem dX7_swap_102 : decode cX7_swap 102 = .ok (.aload_n 0, 1) := by decide +kernel
theorem dX7_swap_103 : decode cX7_swap 103 = .ok (.getfield 38, 3) := by decide +kernel
theorem dX7_swap_106 : decode cX7_swap 106 = .ok (.bipush 6, 2) := by decide +kernel
theorem dX7_swap_108 : decode cX7_swap 108 = .ok (.iload_n 1, 1) := by decide +kernel
theorem dX7_swap_109 : decode cX7_swap 109 = .ok (.imul, 1) := by decide +kernel
theorem dX7_swap_110 : decode cX7_swap 110 = .ok (.iload 4, 2) := by decide +kernel
theorem dX7_swap_112 : decode cX7_swap 112 = .ok (.iadd, 1) := by decide +kernel
theorem dX7_swap_113 : decode cX7_swap 113 = .ok (.aload_n 0, 1) := by decide +kernel
theorem dX7_swap_114 : decode cX7_swap 114 = .ok (.getfield 38, 3) := by decide +kernel
theorem dX7_swap_117 : decode cX7_swap 117 = .ok (.bipush 6, 2) := by decide +kernel
theorem dX7_swap_119 : decode cX7_swap 119 = .ok (.iload_n 2, 1) := by decide +kernel
theorem dX7_swap_120 : decode cX7_swap 120 = .ok (.imul, 1) := by decide +kernel
theorem dX7_swap_121 : decode cX7_swap 121 = .ok (.iload 4, 2) := by decide +kernel
theorem dX7_swap_123 : decode cX7_swap 123 = .ok (.iadd, 1) := by decide +kernel
theorem dX7_swap_124 : decode cX7_swap 124 = .ok (.iaload, 1) := by decide +kernel
theorem dX7_swap_125 : decode cX7_swap 125 = .ok (.iastore, 1) := by decide +kernel
theorem dX7_swap_126 : decode cX7_swap 126 = .ok (.aload_n 0, 1) := by decide +kernel
theorem dX7_swap_127 : decode cX7_swap 127 = .ok (.getfield 38, 3) := by decide +kernel
theorem dX7_swap_130 : decode cX7_swap 130 = .ok (.bipush 6, 2) := by decide +kernel
theorem dX7_swap_132 : decode cX7_swap 132 = .ok (.iload_n 2, 1) := by decide +kernel
theorem dX7_swap_133 : decode cX7_swap 133 = .ok (.imul, 1) := by decide +kernel
theorem dX7_swap_134 : decode cX7_swap 134 = .ok (.iload 4, 2) := by decide +kernel
theorem dX7_swap_136 : decode cX7_swap 136 = .ok (.iadd, 1) := by decide +kernel
theorem dX7_swap_137 : decode cX7_swap 137 = .ok (.iload 5, 2) := by decide +kernel
theorem dX7_swap_139 : decode cX7_swap 139 = .ok (.iastore, 1) := by decide +kernel
theorem dX7_swap_140 : decode cX7_swap 140 = .ok (.aload_n 0, 1) := by decide +kernel
theorem dX7_swap_141 : decode cX7_swap 141 = .ok (.getfield 41, 3) := by decide +kernel
theorem dX7_swap_144 : decode cX7_swap 144 = .ok (.bipush 6, 2) := by decide +kernel
theorem dX7_swap_146 : decode cX7_swap 146 = .ok (.iload_n 1, 1) := by decide +kernel
theorem dX7_swap_147 : decode cX7_swap 147 = .ok (.imul, 1) := by decide +kernel
theorem dX7_swap_148 : decode cX7_swap 148 = .ok (.iload 4, 2) := by decide +kernel
theorem dX7_swap_150 : decode cX7_swap 150 = .ok (.iadd, 1) := by decide +kernel
theorem dX7_swap_151 : decode cX7_swap 151 = .ok (.iaload, 1) := by decide +kernel
theorem dX7_swap_152 : decode cX7_swap 152 = .ok (.istore 5, 2) := by decide +kernel
theorem dX7_swap_154 : decode cX7_swap 154 = .ok (.aload_n 0, 1) := by decide +kernel
theorem dX7_swap_155 : decode cX7_swap 155 = .ok (.getfield 41, 3) := by decide +kernel
theorem dX7_swap_158 : decode cX7_swap 158 = .ok (.bipush 6, 2) := by decide +kernel
theorem dX7_swap_160 : decode cX7_swap 160 = .ok (.iload_n 1, 1) := by decide +kernel
theorem dX7_swap_161 : decode cX7_swap 161 = .ok (.imul, 1) := by decide +kernel
theorem dX7_swap_162 : decode cX7_swap 162 = .ok (.iload 4, 2) := by decide +kernel
theorem dX7_swap_164 : decode cX7_swap 164 = .ok (.iadd, 1) := by decide +kernel
theorem dX7_swap_165 : decode cX7_swap 165 = .ok (.aload_n 0, 1) := by decide +kernel
theorem dX7_swap_166 : decode cX7_swap 166 = .ok (.getfield 41, 3) := by decide +kernel
theorem dX7_swap_169 : decode cX7_swap 169 = .ok (.bipush 6, 2) := by decide +kernel
theorem dX7_swap_171 : decode cX7_swap 171 = .ok (.iload_n 2, 1) := by decide +kernel
theorem dX7_swap_172 : decode cX7_swap 172 = .ok (.imul, 1) := by decide +kernel
theorem dX7_swap_173 : decode cX7_swap 173 = .ok (.iload 4, 2) := by decide +kernel
theorem dX7_swap_175 : decode cX7_swap 175 = .ok (.iadd, 1) := by decide +kernel
theorem dX7_swap_176 : decode cX7_swap 176 = .ok (.iaload, 1) := by decide +kernel
theorem dX7_swap_177 : decode cX7_swap 177 = .ok (.iastore, 1) := by decide +kernel
theorem dX7_swap_178 : decode cX7_swap 178 = .ok (.aload_n 0, 1) := by decide +kernel
theorem dX7_swap_179 : decode cX7_swap 179 = .ok (.getfield 41, 3) := by decide +kernel
theorem dX7_swap_182 : decode cX7_swap 182 = .ok (.bipush 6, 2) := by decide +kernel
theorem dX7_swap_184 : decode cX7_swap 184 = .ok (.iload_n 2, 1) := by decide +kernel
theorem dX7_swap_185 : decode cX7_swap 185 = .ok (.imul, 1) := by decide +kernel
theorem dX7_swap_186 : decode cX7_swap 186 = .ok (.iload 4, 2) := by decide +kernel
theorem dX7_swap_188 : decode cX7_swap 188 = .ok (.iadd, 1) := by decide +kernel
theorem dX7_swap_189 : decode cX7_swap 189 = .ok (.iload 5, 2) := by decide +kernel
theorem dX7_swap_191 : decode cX7_swap 191 = .ok (.iastore, 1) := by decide +kernel
theorem dX7_swap_192 : decode cX7_swap 192 = .ok (.iinc 4 1, 3) := by decide +kernel
theorem dX7_swap_195 : decode cX7_swap 195 = .ok (.goto (-166), 3) := by decide +kernel
theorem dX7_swap_198 : decode cX7_swap 198 = .ok (.return_, 1) := by decide +kernel
theorem dX7_work_0 : decode cX7_work 0 = .ok (.aload_n 0, 1) := by decide +kernel
theorem dX7_work_1 : decode cX7_work 1 = .ok (.iconst 0, 1) := by decide +kernel
theorem dX7_work_2 : decode cX7_work 2 = .ok (.putfield 58, 3) := by decide +kernel
theorem dX7_work_5 : decode cX7_work 5 = .ok (.aload_n 0, 1) := by decide +kernel
theorem dX7_work_6 : decode cX7_work 6 = .ok (.invokevirtual 105, 3) := by decide +kernel
theorem dX7_work_9 : decode cX7_work 9 = .ok (.aload_n 0, 1) := by decide +kernel
theorem dX7_work_10 : decode cX7_work 10 = .ok (.iconst 0, 1) := by decide +kernel
theorem dX7_work_11 : decode cX7_work 11 = .ok (.putfield 102, 3) := by decide +kernel
theorem dX7_work_14 : decode cX7_work 14 = .ok (.iconst 0, 1) := by decide +kernel
theorem dX7_work_15 : decode cX7_work 15 = .ok (.istore_n 1, 1) := by decide +kernel
theorem dX7_work_16 : decode cX7_work 16 = .ok (.iload_n 1, 1) := by decide +kernel
theorem dX7_work_17 : decode cX7_work 17 = .ok (.aload_n 0, 1) := by decide +kernel
theorem dX7_work_18 : decode cX7_work 18 = .ok (.getfield 88, 3) := by decide +kernel
theorem dX7_work_21 : decode cX7_work 21 = .ok (.if_icmp .ge 42, 3) := by decide +kernel
theorem dX7_work_24 : decode cX7_work 24 = .ok (.iload_n 1, 1) := by decide +kernel
theorem dX7_work_25 : decode cX7_work 25 = .ok (.iconst 1, 1) := by decide +kernel
theorem dX7_work_26 : decode cX7_work 26 = .ok (.iadd, 1) := by decide +kernel
theorem dX7_work_27 : decode cX7_work 27 = .ok (.istore_n 2, 1) := by decide +kernel
theorem dX7_work_28 : decode cX7_work 28 = .ok (.iload_n 2, 1) := by decide +kernel
theorem dX7_work_29 : decode cX7_work 29 = .ok (.aload_n 0, 1) := by decide +kernel
theorem dX7_work_30 : decode cX7_work 30 = .ok (.getfield 88, 3) := by decide +kernel
theorem dX7_work_33 : decode cX7_work 33 = .ok (.if_icmp .ge 24, 3) := by decide +kernel
theorem dX7_work_36 : decode cX7_work 36 = .ok (.aload_n 0, 1) := by decide +kernel
theorem dX7_work_37 : decode cX7_work 37 = .ok (.iload_n 1, 1) := by decide +kernel
theorem dX7_work_38 : decode cX7_work 38 = .ok (.iload_n 2, 1) := by decide +kernel
theorem dX7_work_39 : decode cX7_work 39 = .ok (.invokevirtual 108, 3) := by decide +kernel
theorem dX7_work_42 : decode cX7_work 42 = .ok (.ifCond .eq 9, 3) := by decide +kernel
theorem dX7_work_45 : decode cX7_work 45 = .ok (.aload_n 0, 1) := by decide +kernel
theorem dX7_work_46 : decode cX7_work 46 = .ok (.iload_n 1, 1) := by decide +kernel
theorem dX7_work_47 : decode cX7_work 47 = .ok (.iload_n 2, 1) := by decide +kernel
theorem dX7_work_48 : decode cX7_work 48 = .ok (.invokevirtual 111, 3) := by decide +kernel
theorem dX7_work_51 : decode cX7_work 51 = .ok (.iinc 2 1, 3) := by decide +kernel
theorem dX7_work_54 : decode cX7_work 54 = .ok (.goto (-26), 3) := by decide +kernel
theorem dX7_work_57 : decode cX7_work 57 = .ok (.iinc 1 1, 3) := by decide +kernel
theorem dX7_work_60 : decode cX7_work 60 = .ok (.goto (-44), 3) := by decide +kernel
theorem dX7_work_63 : decode cX7_work 63 = .ok (.iconst 1, 1) := by decide +kernel
theorem dX7_work_64 : decode cX7_work 64 = .ok (.istore_n 1, 1) := by decide +kernel
theorem dX7_work_65 : decode cX7_work 65 = .ok (.iload_n 1, 1) := by decide +kernel
theorem dX7_work_66 : decode cX7_work 66 = .ok (.aload_n 0, 1) := by decide +kernel
theorem dX7_work_67 : decode cX7_work 67 = .ok (.getfield 102, 3) := by decide +kernel
theorem dX7_work_70 : decode cX7_work 70 = .ok (.if_icmp .ge 40, 3) := by decide +kernel
theorem dX7_work_73 : decode cX7_work 73 = .ok (.iload_n 1, 1) := by decide +kernel
theorem dX7_work_74 : decode cX7_work 74 = .ok (.istore_n 2, 1) := by decide +kernel
theorem dX7_work_75 : decode cX7_work 75 = .ok (.iload_n 2, 1) := by decide +kernel
theorem dX7_work_76 : decode cX7_work 76 = .ok (.ifCond .le 28, 3) := by decide +kernel
theorem dX7_work_79 : decode cX7_work 79 = .ok (.aload_n 0, 1) := by decide +kernel
theorem dX7_work_80 : decode cX7_work 80 = .ok (.iload_n 2, 1) := by decide +kernel
theorem dX7_work_81 : decode cX7_work 81 = .ok (.iload_n 2, 1) := by decide +kernel
theorem dX7_work_82 : decode cX7_work 82 = .ok (.iconst 1, 1) := by decide +kernel
theorem dX7_work_83 : decode cX7_work 83 = .ok (.isub, 1) := by decide +kernel
theorem dX7_work_84 : decode cX7_work 84 = .ok (.invokevirtual 114, 3) := by decide +kernel
theorem dX7_work_87 : decode cX7_work 87 = .ok (.ifCond .eq 17, 3) := by decide +kernel
theorem dX7_work_90 : decode cX7_work 90 = .ok (.aload_n 0, 1) := by decide +kernel
theorem dX7_work_91 : decode cX7_work 91 = .ok (.iload_n 2, 1) := by decide +kernel
theorem dX7_work_92 : decode cX7_work 92 = .ok (.iload_n 2, 1) := by decide +kernel
theorem dX7_work_93 : decode cX7_work 93 = .ok (.iconst 1, 1) := by decide +kernel
theorem dX7_work_94 : decode cX7_work 94 = .ok (.isub, 1) := by decide +kernel
theorem dX7_work_95 : decode cX7_work 95 = .ok (.invokevirtual 117, 3) := by decide +kernel
theorem dX7_work_98 : decode cX7_work 98 = .ok (.iinc 2 (-1), 3) := by decide +kernel
theorem dX7_work_101 : decode cX7_work 101 = .ok (.goto (-26), 3) := by decide +kernel
theorem dX7_work_104 : decode cX7_work 104 = .ok (.iinc 1 1, 3) := by decide +kernel
theorem dX7_work_107 : decode cX7_work 107 = .ok (.goto (-42), 3) := by decide +kernel
theorem dX7_work_110 : decode cX7_work 110 = .ok (.aload_n 0, 1) := by decide +kernel
theorem dX7_work_111 : decode cX7_work 111 = .ok (.iconst 1, 1) := by decide +kernel
theorem dX7_work_112 : decode cX7_work 112 = .ok (.putfield 54, 3) := by decide +kernel
theorem dX7_work_115 : decode cX7_work 115 = .ok (.aload_n 0, 1) := by decide +kernel
theorem dX7_work_116 : decode cX7_work 116 = .ok (.getfield 88, 3) := by decide +kernel
theorem dX7_work_119 : decode cX7_work 119 = .ok (.ireturn, 1) := by decide +kernel
theorem dX7_count_0 : decode cX7_count 0 = .ok (.aload_n 0, 1) := by decide +kernel
theorem dX7_count_1 : decode cX7_count 1 = .ok (.iconst 0, 1) := by decide +kernel
theorem dX7_count_2 : decode cX7_count 2 = .ok (.putfield 58, 3) := by decide +kernel
theorem dX7_count_5 : decode cX7_count 5 = .ok (.aload_n 0, 1) := by decide +kernel
theorem dX7_count_6 : decode cX7_count 6 = .ok (.getfield 54, 3) := by decide +kernel
theorem dX7_count_9 : decode cX7_count 9 = .ok (.ifCond .eq 12, 3) := by decide +kernel
theorem dX7_count_12 : decode cX7_count 12 = .ok (.iload_n 1, 1) := by decide +kernel
theorem dX7_count_13 : decode cX7_count 13 = .ok (.iconst 0, 1) := by decide +kernel
theorem dX7_count_14 : decode cX7_count 14 = .ok (.iconst 3, 1) := by decide +kernel
theorem dX7_count_15 : decode cX7_count 15 = .ok (.invokestatic 61, 3) := by decide +kernel
theorem dX7_count_18 : decode cX7_count 18 = .ok (.ifCond .ne 5, 3) := by decide +kernel
theorem dX7_count_21 : decode cX7_count 21 = .ok (.iconst (-1), 1) := by decide +kernel
theorem dX7_count_22 : decode cX7_count 22 = .ok (.ireturn, 1) := by decide +kernel
theorem dX7_count_23 : decode cX7_count 23 = .ok (.iconst 0, 1) := by decide +kernel
theorem dX7_count_24 : decode cX7_count 24 = .ok (.istore_n 2, 1) := by decide +kernel
theorem dX7_count_25 : decode cX7_count 25 = .ok (.iconst 0, 1) := by decide +kernel
theorem dX7_count_26 : decode cX7_count 26 = .ok (.istore_n 3, 1) := by decide +kernel
theorem dX7_count_27 : decode cX7_count 27 = .ok (.iload_n 3, 1) := by decide +kernel
theorem dX7_count_28 : decode cX7_count 28 = .ok (.aload_n 0, 1) := by decide +kernel
theorem dX7_count_29 : decode cX7_count 29 = .ok (.getfield 7, 3) := by decide +kernel
theorem dX7_count_32 : decode cX7_count 32 = .ok (.if_icmp .ge 78, 3) := by decide +kernel
theorem dX7_count_35 : decode cX7_count 35 = .ok (.iload_n 1, 1) := by decide +kernel
theorem dX7_count_36 : decode cX7_count 36 = .ok (.iconst 2, 1) := by decide +kernel
theorem dX7_count_37 : decode cX7_count 37 = .ok (.if_icmp .lt 73, 3) := by decide +kernel
theorem dX7_count_40 : decode cX7_count 40 = .ok (.iload_n 1, 1) := by decide +kernel
theorem dX7_count_41 : decode cX7_count 41 = .ok (.iconst 3, 1) := by decide +kernel
theorem dX7_count_42 : decode cX7_count 42 = .ok (.if_icmp .ne 21, 3) := by decide +kernel
theorem dX7_count_45 : decode cX7_count 45 = .ok (.iload_n 2, 1) := by decide +kernel
theorem dX7_count_46 : decode cX7_count 46 = .ok (.aload_n 0, 1) := by decide +kernel
theorem dX7_count_47 : decode cX7_count 47 = .ok (.getfield 29, 3) := by decide +kernel
theorem dX7_count_50 : decode cX7_count 50 = .ok (.iload_n 3, 1) := by decide +kernel
theorem dX7_count_51 : decode cX7_count 51 = .ok (.iaload, 1) := by decide +kernel
theorem dX7_count_52 : decode cX7_count 52 = .ok (.iconst (-1), 1) := by decide +kernel
theorem dX7_count_53 : decode cX7_count 53 = .ok (.if_icmp .eq 7, 3) := by decide +kernel
theorem dX7_count_56 : decode cX7_count 56 = .ok (.iconst 1, 1) := by decide +kernel
theorem dX7_count_57 : decode cX7_count 57 = .ok (.goto 4, 3) := by decide +kernel
theorem dX7_count_60 : decode cX7_count 60 = .ok (.iconst 0, 1) := by decide +kernel
theorem dX7_count_61 : decode cX7_count 61 = .ok (.iadd, 1) := by decide +kernel
theorem dX7_count_62 : decode cX7_count 62 = .ok (.istore_n 2, 1) := by decide +kernel
theorem dX7_count_63 : decode cX7_count 63 = .ok (.iconst 0, 1) := by decide +kernel
theorem dX7_count_64 : decode cX7_count 64 = .ok (.istore 4, 2) := by decide +kernel
theorem dX7_count_66 : decode cX7_count 66 = .ok (.iload 4, 2) := by decide +kernel
theorem dX7_count_68 : decode cX7_count 68 = .ok (.aload_n 0, 1) := by decide +kernel
theorem dX7_count_69 : decode cX7_count 69 = .ok (.getfield 13, 3) := by decide +kernel
theorem dX7_count_72 : decode cX7_count 72 = .ok (.if_icmp .ge 32, 3) := by decide +kernel
theorem dX7_count_75 : decode cX7_count 75 = .ok (.iload_n 1, 1) := by decide +kernel
theorem dX7_count_76 : decode cX7_count 76 = .ok (.iconst 2, 1) := by decide +kernel
theorem dX7_count_77 : decode cX7_count 77 = .ok (.if_icmp .ne 27, 3) := by decide +kernel
theorem dX7_count_80 : decode cX7_count 80 = .ok (.iload_n 2, 1) := by decide +kernel
theorem dX7_count_81 : decode cX7_count 81 = .ok (.aload_n 0, 1) := by decide +kernel
theorem dX7_count_82 : decode cX7_count 82 = .ok (.iload_n 3, 1) := by decide +kernel
theorem dX7_count_83 : decode cX7_count 83 = .ok (.iload 4, 2) := by decide +kernel
theorem dX7_count_85 : decode cX7_count 85 = .ok (.invokevirtual 77, 3) := by decide +kernel
theorem dX7_count_88 : decode cX7_count 88 = .ok (.ifCond .eq 7, 3) := by decide +kernel
theorem dX7_count_91 : decode cX7_count 91 = .ok (.iconst 1, 1) := by decide +kernel
theorem dX7_count_92 : decode cX7_count 92 = .ok (.goto 4, 3) := by decide +kernel
theorem dX7_count_95 : decode cX7_count 95 = .ok (.iconst 0, 1) := by decide +kernel
theorem dX7_count_96 : decode cX7_count 96 = .ok (.iadd, 1) := by decide +kernel
theorem dX7_count_97 : decode cX7_count 97 = .ok (.istore_n 2, 1) := by decide +kernel
theorem dX7_count_98 : decode cX7_count 98 = .ok (.iinc 4 1, 3) := by decide +kernel
theorem dX7_count_101 : decode cX7_count 101 = .ok (.goto (-35), 3) := by decide +kernel
theorem dX7_count_104 : decode cX7_count 104 = .ok (.iinc 3 1, 3) := by decide +kernel
theorem dX7_count_107 : decode cX7_count 107 = .ok (.goto (-80), 3) := by decide +kernel
theorem dX7_count_110 : decode cX7_count 110 = .ok (.iload_n 1, 1) := by decide +kernel
theorem dX7_count_111 : decode cX7_count 111 = .ok (.ifCond .ne 10, 3) := by decide +kernel
theorem dX7_count_114 : decode cX7_count 114 = .ok (.aload_n 0, 1) := by decide +kernel
theorem dX7_count_115 : decode cX7_count 115 = .ok (.getfield 88, 3) := by decide +kernel
theorem dX7_count_118 : decode cX7_count 118 = .ok (.goto 16, 3) := by decide +kernel
theorem dX7_count_121 : decode cX7_count 121 = .ok (.iload_n 1, 1) := by decide +kernel
theorem dX7_count_122 : decode cX7_count 122 = .ok (.iconst 1, 1) := by decide +kernel
theorem dX7_count_123 : decode cX7_count 123 = .ok (.if_icmp .ne 10, 3) := by decide +kernel
theorem dX7_count_126 : decode cX7_count 126 = .ok (.aload_n 0, 1) := by decide +kernel
theorem dX7_count_127 : decode cX7_count 127 = .ok (.getfield 102, 3) := by decide +kernel
theorem dX7_count_130 : decode cX7_count 130 = .ok (.goto 4, 3) := by decide +kernel
theorem dX7_count_133 : decode cX7_count 133 = .ok (.iload_n 2, 1) := by decide +kernel
theorem dX7_count_134 : decode cX7_count 134 = .ok (.ireturn, 1) := by decide +kernel
theorem dX7_isStable_0 : decode cX7_isStable 0 = .ok (.aload_n 0, 1) := by decide +kernel
theorem dX7_isStable_1 : decode cX7_isStable 1 = .ok (.getfield 54, 3) := by decide +kernel
theorem dX7_isStable_4 : decode cX7_isStable 4 = .ok (.ifCond .eq 21, 3) := by decide +kernel
theorem dX7_isStable_7 : decode cX7_isStable 7 = .ok (.iload_n 1, 1) := by decide +kernel
theorem dX7_isStable_8 : decode cX7_isStable 8 = .ok (.iconst 0, 1) := by decide +kernel
theorem dX7_isStable_9 : decode cX7_isStable 9 = .ok (.aload_n 0, 1) := by decide +kernel
theorem dX7_isStable_10 : decode cX7_isStable 10 = .ok (.getfield 88, 3) := by decide +kernel
theorem dX7_isStable_13 : decode cX7_isStable 13 = .ok (.iconst 1, 1) := by decide +kernel
theorem dX7_isStable_14 : decode cX7_isStable 14 = .ok (.isub, 1) := by decide +kernel
theorem dX7_isStable_15 : decode cX7_isStable 15 = .ok (.invokestatic 61, 3) := by decide +kernel
theorem dX7_isStable_18 : decode cX7_isStable 18 = .ok (.ifCond .eq 7, 3) := by decide +kernel
theorem dX7_isStable_21 : decode cX7_isStable 21 = .ok (.iconst 1, 1) := by decide +kernel
theorem dX7_isStable_22 : decode cX7_isStable 22 = .ok (.goto 4, 3) := by decide +kernel
theorem dX7_isStable_25 : decode cX7_isStable 25 = .ok (.iconst 0, 1) := by decide +kernel
theorem dX7_isStable_26 : decode cX7_isStable 26 = .ok (.ireturn, 1) := by decide +kernel
theorem dX7_hospital_0 : decode cX7_hospital 0 = .ok (.aload_n 0, 1) := by decide +kernel
theorem dX7_hospital_1 : decode cX7_hospital 1 = .ok (.iconst 0, 1) := by decide +kernel
theorem dX7_hospital_2 : decode cX7_hospital 2 = .ok (.putfield 58, 3) := by decide +kernel
theorem dX7_hospital_5 : decode cX7_hospital 5 = .ok (.aload_n 0, 1) := by decide +kernel
theorem dX7_hospital_6 : decode cX7_hospital 6 = .ok (.iload_n 1, 1) := by decide +kernel
theorem dX7_hospital_7 : decode cX7_hospital 7 = .ok (.invokevirtual 120, 3) := by decide +kernel
theorem dX7_hospital_10 : decode cX7_hospital 10 = .ok (.ifCond .eq 31, 3) := by decide +kernel
theorem dX7_hospital_13 : decode cX7_hospital 13 = .ok (.iload_n 2, 1) := by decide +kernel
theorem dX7_hospital_14 : decode cX7_hospital 14 = .ok (.iconst 0, 1) := by decide +kernel
theorem dX7_hospital_15 : decode cX7_hospital 15 = .ok (.aload_n 0, 1) := by decide +kernel
theorem dX7_hospital_16 : decode cX7_hospital 16 = .ok (.getfield 7, 3) := by decide +kernel
theorem dX7_hospital_19 : decode cX7_hospital 19 = .ok (.iconst 1, 1) := by decide +kernel
theorem dX7_hospital_20 : decode cX7_hospital 20 = .ok (.isub, 1) := by decide +kernel
theorem dX7_hospital_21 : decode cX7_hospital 21 = .ok (.invokestatic 61, 3) := by decide +kernel
theorem dX7_hospital_24 : decode cX7_hospital 24 = .ok (.ifCond .eq 17, 3) := by decide +kernel
theorem dX7_hospital_27 : decode cX7_hospital 27 = .ok (.aload_n 0, 1) := by decide +kernel
theorem dX7_hospital_28 : decode cX7_hospital 28 = .ok (.getfield 29, 3) := by decide +kernel
theorem dX7_hospital_31 : decode cX7_hospital 31 = .ok (.bipush 6, 2) := by decide +kernel
theorem dX7_hospital_33 : decode cX7_hospital 33 = .ok (.iload_n 1, 1) := by decide +kernel
theorem dX7_hospital_34 : decode cX7_hospital 34 = .ok (.imul, 1) := by decide +kernel
theorem dX7_hospital_35 : decode cX7_hospital 35 = .ok (.iload_n 2, 1) := by decide +kernel
theorem dX7_hospital_36 : decode cX7_hospital 36 = .ok (.iadd, 1) := by decide +kernel
theorem dX7_hospital_37 : decode cX7_hospital 37 = .ok (.iaload, 1) := by decide +kernel
theorem dX7_hospital_38 : decode cX7_hospital 38 = .ok (.goto 4, 3) := by decide +kernel
theorem dX7_hospital_41 : decode cX7_hospital 41 = .ok (.iconst (-1), 1) := by decide +kernel
theorem dX7_hospital_42 : decode cX7_hospital 42 = .ok (.ireturn, 1) := by decide +kernel
theorem dX7_costOf_0 : decode cX7_costOf 0 = .ok (.iconst 0, 1) := by decide +kernel
theorem dX7_costOf_1 : decode cX7_costOf 1 = .ok (.istore_n 3, 1) := by decide +kernel
theorem dX7_costOf_2 : decode cX7_costOf 2 = .ok (.iconst 0, 1) := by decide +kernel
theorem dX7_costOf_3 : decode cX7_costOf 3 = .ok (.istore 4, 2) := by decide +kernel
theorem dX7_costOf_5 : decode cX7_costOf 5 = .ok (.iconst (-1), 1) := by decide +kernel
theorem dX7_costOf_6 : decode cX7_costOf 6 = .ok (.istore 5, 2) := by decide +kernel
theorem dX7_costOf_8 : decode cX7_costOf 8 = .ok (.iconst 0, 1) := by decide +kernel
theorem dX7_costOf_9 : decode cX7_costOf 9 = .ok (.istore 6, 2) := by decide +kernel
theorem dX7_costOf_11 : decode cX7_costOf 11 = .ok (.iload 6, 2) := by decide +kernel
theorem dX7_costOf_13 : decode cX7_costOf 13 = .ok (.aload_n 0, 1) := by decide +kernel
theorem dX7_costOf_14 : decode cX7_costOf 14 = .ok (.getfield 7, 3) := by decide +kernel
theorem dX7_costOf_17 : decode cX7_costOf 17 = .ok (.if_icmp .ge 95, 3) := by decide +kernel
theorem dX7_costOf_20 : decode cX7_costOf 20 = .ok (.aload_n 0, 1) := by decide +kernel
theorem dX7_costOf_21 : decode cX7_costOf 21 = .ok (.getfield 29, 3) := by decide +kernel
theorem dX7_costOf_24 : decode cX7_costOf 24 = .ok (.bipush 6, 2) := by decide +kernel
theorem dX7_costOf_26 : decode cX7_costOf 26 = .ok (.iload_n 1, 1) := by decide +kernel
theorem dX7_costOf_27 : decode cX7_costOf 27 = .ok (.imul, 1) := by decide +kernel
theorem dX7_costOf_28 : decode cX7_costOf 28 = .ok (.iload 6, 2) := by decide +kernel
theorem dX7_costOf_30 : decode cX7_costOf 30 = .ok (.iadd, 1) := by decide +kernel
theorem dX7_costOf_31 : decode cX7_costOf 31 = .ok (.iaload, 1) := by decide +kernel
theorem dX7_costOf_32 : decode cX7_costOf 32 = .ok (.istore 7, 2) := by decide +kernel
theorem dX7_costOf_34 : decode cX7_costOf 34 = .ok (.iload 7, 2) := by decide +kernel
theorem dX7_costOf_36 : decode cX7_costOf 36 = .ok (.iconst (-1), 1) := by decide +kernel
theorem dX7_costOf_37 : decode cX7_costOf 37 = .ok (.if_icmp .eq 69, 3) := by decide +kernel
theorem dX7_costOf_40 : decode cX7_costOf 40 = .ok (.aload_n 0, 1) := by decide +kernel
theorem dX7_costOf_41 : decode cX7_costOf 41 = .ok (.iconst 0, 1) := by decide +kernel
theorem dX7_costOf_42 : decode cX7_costOf 42 = .ok (.iload 6, 2) := by decide +kernel
theorem dX7_costOf_44 : decode cX7_costOf 44 = .ok (.iload 7, 2) := by decide +kernel
theorem dX7_costOf_46 : decode cX7_costOf 46 = .ok (.invokevirtual 73, 3) := by decide +kernel
theorem dX7_costOf_49 : decode cX7_costOf 49 = .ok (.istore 8, 2) := by decide +kernel
theorem dX7_costOf_51 : decode cX7_costOf 51 = .ok (.aload_n 0, 1) := by decide +kernel
theorem dX7_costOf_52 : decode cX7_costOf 52 = .ok (.iconst 1, 1) := by decide +kernel
theorem dX7_costOf_53 : decode cX7_costOf 53 = .ok (.iload 7, 2) := by decide +kernel
theorem dX7_costOf_55 : decode cX7_costOf 55 = .ok (.iload 6, 2) := by decide +kernel
theorem dX7_costOf_57 : decode cX7_costOf 57 = .ok (.invokevirtual 73, 3) := by decide +kernel
theorem dX7_costOf_60 : decode cX7_costOf 60 = .ok (.istore 9, 2) := by decide +kernel
theorem dX7_costOf_62 : decode cX7_costOf 62 = .ok (.iload_n 3, 1) := by decide +kernel
theorem dX7_costOf_63 : decode cX7_costOf 63 = .ok (.iload 8, 2) := by decide +kernel
theorem dX7_costOf_65 : decode cX7_costOf 65 = .ok (.iadd, 1) := by decide +kernel
theorem dX7_costOf_66 : decode cX7_costOf 66 = .ok (.istore_n 3, 1) := by decide +kernel
theorem dX7_costOf_67 : decode cX7_costOf 67 = .ok (.iload 4, 2) := by decide +kernel
theorem dX7_costOf_69 : decode cX7_costOf 69 = .ok (.iload 9, 2) := by decide +kernel
theorem dX7_costOf_71 : decode cX7_costOf 71 = .ok (.iadd, 1) := by decide +kernel
theorem dX7_costOf_72 : decode cX7_costOf 72 = .ok (.istore 4, 2) := by decide +kernel
theorem dX7_costOf_74 : decode cX7_costOf 74 = .ok (.iload 8, 2) := by decide +kernel
theorem dX7_costOf_76 : decode cX7_costOf 76 = .ok (.iload 5, 2) := by decide +kernel
theorem dX7_costOf_78 : decode cX7_costOf 78 = .ok (.if_icmp .le 8, 3) := by decide +kernel
theorem dX7_costOf_81 : decode cX7_costOf 81 = .ok (.iload 8, 2) := by decide +kernel
theorem dX7_costOf_83 : decode cX7_costOf 83 = .ok (.goto 5, 3) := by decide +kernel
theorem dX7_costOf_86 : decode cX7_costOf 86 = .ok (.iload 5, 2) := by decide +kernel
theorem dX7_costOf_88 : decode cX7_costOf 88 = .ok (.istore 5, 2) := by decide +kernel
theorem dX7_costOf_90 : decode cX7_costOf 90 = .ok (.iload 9, 2) := by decide +kernel
theorem dX7_costOf_92 : decode cX7_costOf 92 = .ok (.iload 5, 2) := by decide +kernel
theorem dX7_costOf_94 : decode cX7_costOf 94 = .ok (.if_icmp .le 8, 3) := by decide +kernel
theorem dX7_costOf_97 : decode cX7_costOf 97 = .ok (.iload 9, 2) := by decide +kernel
theorem dX7_costOf_99 : decode cX7_costOf 99 = .ok (.goto 5, 3) := by decide +kernel
theorem dX7_costOf_102 : decode cX7_costOf 102 = .ok (.iload 5, 2) := by decide +kernel
theorem dX7_costOf_104 : decode cX7_costOf 104 = .ok (.istore 5, 2) := by decide +kernel
theorem dX7_costOf_106 : decode cX7_costOf 106 = .ok (.iinc 6 1, 3) := by decide +kernel
theorem dX7_costOf_109 : decode cX7_costOf 109 = .ok (.goto (-98), 3) := by decide +kernel
theorem dX7_costOf_112 : decode cX7_costOf 112 = .ok (.iload_n 2, 1) := by decide +kernel
theorem dX7_costOf_113 : decode cX7_costOf 113 = .ok (.ifCond .ne 7, 3) := by decide +kernel
theorem dX7_costOf_116 : decode cX7_costOf 116 = .ok (.iload_n 3, 1) := by decide +kernel
theorem dX7_costOf_117 : decode cX7_costOf 117 = .ok (.goto 52, 3) := by decide +kernel
theorem dX7_costOf_120 : decode cX7_costOf 120 = .ok (.iload_n 2, 1) := by decide +kernel
theorem dX7_costOf_121 : decode cX7_costOf 121 = .ok (.iconst 1, 1) := by decide +kernel
theorem dX7_costOf_122 : decode cX7_costOf 122 = .ok (.if_icmp .ne 8, 3) := by decide +kernel
theorem dX7_costOf_125 : decode cX7_costOf 125 = .ok (.iload 4, 2) := by decide +kernel
theorem dX7_costOf_127 : decode cX7_costOf 127 = .ok (.goto 42, 3) := by decide +kernel
theorem dX7_costOf_130 : decode cX7_costOf 130 = .ok (.iload_n 2, 1) := by decide +kernel
theorem dX7_costOf_131 : decode cX7_costOf 131 = .ok (.iconst 2, 1) := by decide +kernel
theorem dX7_costOf_132 : decode cX7_costOf 132 = .ok (.if_icmp .ne 10, 3) := by decide +kernel
theorem dX7_costOf_135 : decode cX7_costOf 135 = .ok (.iload_n 3, 1) := by decide +kernel
theorem dX7_costOf_136 : decode cX7_costOf 136 = .ok (.iload 4, 2) := by decide +kernel
theorem dX7_costOf_138 : decode cX7_costOf 138 = .ok (.iadd, 1) := by decide +kernel
theorem dX7_costOf_139 : decode cX7_costOf 139 = .ok (.goto 30, 3) := by decide +kernel
theorem dX7_costOf_142 : decode cX7_costOf 142 = .ok (.iload_n 2, 1) := by decide +kernel
theorem dX7_costOf_143 : decode cX7_costOf 143 = .ok (.iconst 3, 1) := by decide +kernel
theorem dX7_costOf_144 : decode cX7_costOf 144 = .ok (.if_icmp .ne 23, 3) := by decide +kernel
theorem dX7_costOf_147 : decode cX7_costOf 147 = .ok (.iload_n 3, 1) := by decide +kernel
theorem dX7_costOf_148 : decode cX7_costOf 148 = .ok (.iload 4, 2) := by decide +kernel
theorem dX7_costOf_150 : decode cX7_costOf 150 = .ok (.if_icmp .le 10, 3) := by decide +kernel
theorem dX7_costOf_153 : decode cX7_costOf 153 = .ok (.iload_n 3, 1) := by decide +kernel
theorem dX7_costOf_154 : decode cX7_costOf 154 = .ok (.iload 4, 2) := by decide +kernel
theorem dX7_costOf_156 : decode cX7_costOf 156 = .ok (.isub, 1) := by decide +kernel
theorem dX7_costOf_157 : decode cX7_costOf 157 = .ok (.goto 12, 3) := by decide +kernel
theorem dX7_costOf_160 : decode cX7_costOf 160 = .ok (.iload 4, 2) := by decide +kernel
theorem dX7_costOf_162 : decode cX7_costOf 162 = .ok (.iload_n 3, 1) := by decide +kernel
theorem dX7_costOf_163 : decode cX7_costOf 163 = .ok (.isub, 1) := by decide +kernel
theorem dX7_costOf_164 : decode cX7_costOf 164 = .ok (.goto 5, 3) := by decide +kernel
theorem dX7_costOf_167 : decode cX7_costOf 167 = .ok (.iload 5, 2) := by decide +kernel
theorem dX7_costOf_169 : decode cX7_costOf 169 = .ok (.ireturn, 1) := by decide +kernel
theorem dX7_cost_0 : decode cX7_cost 0 = .ok (.aload_n 0, 1) := by decide +kernel
theorem dX7_cost_1 : decode cX7_cost 1 = .ok (.iconst 0, 1) := by decide +kernel
theorem dX7_cost_2 : decode cX7_cost 2 = .ok (.putfield 58, 3) := by decide +kernel
theorem dX7_cost_5 : decode cX7_cost 5 = .ok (.aload_n 0, 1) := by decide +kernel
theorem dX7_cost_6 : decode cX7_cost 6 = .ok (.iload_n 1, 1) := by decide +kernel
theorem dX7_cost_7 : decode cX7_cost 7 = .ok (.invokevirtual 120, 3) := by decide +kernel
theorem dX7_cost_10 : decode cX7_cost 10 = .ok (.ifCond .eq 21, 3) := by decide +kernel
theorem dX7_cost_13 : decode cX7_cost 13 = .ok (.iload_n 2, 1) := by decide +kernel
theorem dX7_cost_14 : decode cX7_cost 14 = .ok (.iconst 0, 1) := by decide +kernel
theorem dX7_cost_15 : decode cX7_cost 15 = .ok (.iconst 4, 1) := by decide +kernel
theorem dX7_cost_16 : decode cX7_cost 16 = .ok (.invokestatic 61, 3) := by decide +kernel
theorem dX7_cost_19 : decode cX7_cost 19 = .ok (.ifCond .eq 12, 3) := by decide +kernel
theorem dX7_cost_22 : decode cX7_cost 22 = .ok (.aload_n 0, 1) := by decide +kernel
theorem dX7_cost_23 : decode cX7_cost 23 = .ok (.iload_n 1, 1) := by decide +kernel
theorem dX7_cost_24 : decode cX7_cost 24 = .ok (.iload_n 2, 1) := by decide +kernel
theorem dX7_cost_25 : decode cX7_cost 25 = .ok (.invokevirtual 124, 3) := by decide +kernel
theorem dX7_cost_28 : decode cX7_cost 28 = .ok (.goto 4, 3) := by decide +kernel
theorem dX7_cost_31 : decode cX7_cost 31 = .ok (.iconst (-1), 1) := by decide +kernel
theorem dX7_cost_32 : decode cX7_cost 32 = .ok (.ireturn, 1) := by decide +kernel
theorem dX7_cheapest_0 : decode cX7_cheapest 0 = .ok (.aload_n 0, 1) := by decide +kernel
theorem dX7_cheapest_1 : decode cX7_cheapest 1 = .ok (.iconst 0, 1) := by decide +kernel
theorem dX7_cheapest_2 : decode cX7_cheapest 2 = .ok (.putfield 58, 3) := by decide +kernel
theorem dX7_cheapest_5 : decode cX7_cheapest 5 = .ok (.aload_n 0, 1) := by decide +kernel
theorem dX7_cheapest_6 : decode cX7_cheapest 6 = .ok (.getfield 54, 3) := by decide +kernel
theorem dX7_cheapest_9 : decode cX7_cheapest 9 = .ok (.ifCond .eq 12, 3) := by decide +kernel
theorem dX7_cheapest_12 : decode cX7_cheapest 12 = .ok (.iload_n 1, 1) := by decide +kernel
theorem dX7_cheapest_13 : decode cX7_cheapest 13 = .ok (.iconst 0, 1) := by decide +kernel
theorem dX7_cheapest_14 : decode cX7_cheapest 14 = .ok (.iconst 4, 1) := by decide +kernel
theorem dX7_cheapest_15 : decode cX7_cheapest 15 = .ok (.invokestatic 61, 3) := by decide +kernel
theorem dX7_cheapest_18 : decode cX7_cheapest 18 = .ok (.ifCond .ne 5, 3) := by decide +kernel
theorem dX7_cheapest_21 : decode cX7_cheapest 21 = .ok (.iconst (-1), 1) := by decide +kernel
theorem dX7_cheapest_22 : decode cX7_cheapest 22 = .ok (.ireturn, 1) := by decide +kernel
theorem dX7_cheapest_23 : decode cX7_cheapest 23 = .ok (.iconst 0, 1) := by decide +kernel
theorem dX7_cheapest_24 : decode cX7_cheapest 24 = .ok (.istore_n 2, 1) := by decide +kernel
theorem dX7_cheapest_25 : decode cX7_cheapest 25 = .ok (.iconst 1, 1) := by decide +kernel
theorem dX7_cheapest_26 : decode cX7_cheapest 26 = .ok (.istore_n 3, 1) := by decide +kernel
theorem dX7_cheapest_27 : decode cX7_cheapest 27 = .ok (.iload_n 3, 1) := by decide +kernel
theorem dX7_cheapest_28 : decode cX7_cheapest 28 = .ok (.aload_n 0, 1) := by decide +kernel
theorem dX7_cheapest_29 : decode cX7_cheapest 29 = .ok (.getfield 88, 3) := by decide +kernel
theorem dX7_cheapest_32 : decode cX7_cheapest 32 = .ok (.if_icmp .ge 30, 3) := by decide +kernel
theorem dX7_cheapest_35 : decode cX7_cheapest 35 = .ok (.aload_n 0, 1) := by decide +kernel
theorem dX7_cheapest_36 : decode cX7_cheapest 36 = .ok (.iload_n 3, 1) := by decide +kernel
theorem dX7_cheapest_37 : decode cX7_cheapest 37 = .ok (.iload_n 1, 1) := by decide +kernel
theorem dX7_cheapest_38 : decode cX7_cheapest 38 = .ok (.invokevirtual 124, 3) := by decide +kernel
theorem dX7_cheapest_41 : decode cX7_cheapest 41 = .ok (.aload_n 0, 1) := by decide +kernel
theorem dX7_cheapest_42 : decode cX7_cheapest 42 = .ok (.iload_n 2, 1) := by decide +kernel
theorem dX7_cheapest_43 : decode cX7_cheapest 43 = .ok (.iload_n 1, 1) := by decide +kernel
theorem dX7_cheapest_44 : decode cX7_cheapest 44 = .ok (.invokevirtual 124, 3) := by decide +kernel
theorem dX7_cheapest_47 : decode cX7_cheapest 47 = .ok (.if_icmp .ge 7, 3) := by decide +kernel
theorem dX7_cheapest_50 : decode cX7_cheapest 50 = .ok (.iload_n 3, 1) := by decide +kernel
theorem dX7_cheapest_51 : decode cX7_cheapest 51 = .ok (.goto 4, 3) := by decide +kernel
theorem dX7_cheapest_54 : decode cX7_cheapest 54 = .ok (.iload_n 2, 1) := by decide +kernel
theorem dX7_cheapest_55 : decode cX7_cheapest 55 = .ok (.istore_n 2, 1) := by decide +kernel
theorem dX7_cheapest_56 : decode cX7_cheapest 56 = .ok (.iinc 3 1, 3) := by decide +kernel
theorem dX7_cheapest_59 : decode cX7_cheapest 59 = .ok (.goto (-32), 3) := by decide +kernel
theorem dX7_cheapest_62 : decode cX7_cheapest 62 = .ok (.iload_n 2, 1) := by decide +kernel
theorem dX7_cheapest_63 : decode cX7_cheapest 63 = .ok (.ireturn, 1) := by decide +kernel
theorem dX7_numberOf_0 : decode cX7_numberOf 0 = .ok (.iconst 0, 1) := by decide +kernel
theorem dX7_numberOf_1 : decode cX7_numberOf 1 = .ok (.istore_n 2, 1) := by decide +kernel
theorem dX7_numberOf_2 : decode cX7_numberOf 2 = .ok (.iload_n 2, 1) := by decide +kernel
theorem dX7_numberOf_3 : decode cX7_numberOf 3 = .ok (.aload_n 0, 1) := by decide +kernel
theorem dX7_numberOf_4 : decode cX7_numberOf 4 = .ok (.getfield 88, 3) := by decide +kernel
theorem dX7_numberOf_7 : decode cX7_numberOf 7 = .ok (.if_icmp .ge 64, 3) := by decide +kernel
theorem dX7_numberOf_10 : decode cX7_numberOf 10 = .ok (.iconst 1, 1) := by decide +kernel
theorem dX7_numberOf_11 : decode cX7_numberOf 11 = .ok (.istore_n 3, 1) := by decide +kernel
theorem dX7_numberOf_12 : decode cX7_numberOf 12 = .ok (.iconst 0, 1) := by decide +kernel
theorem dX7_numberOf_13 : decode cX7_numberOf 13 = .ok (.istore 4, 2) := by decide +kernel
theorem dX7_numberOf_15 : decode cX7_numberOf 15 = .ok (.iload 4, 2) := by decide +kernel
theorem dX7_numberOf_17 : decode cX7_numberOf 17 = .ok (.aload_n 0, 1) := by decide +kernel
theorem dX7_numberOf_18 : decode cX7_numberOf 18 = .ok (.getfield 7, 3) := by decide +kernel
theorem dX7_numberOf_21 : decode cX7_numberOf 21 = .ok (.if_icmp .ge 38, 3) := by decide +kernel
theorem dX7_numberOf_24 : decode cX7_numberOf 24 = .ok (.iload_n 3, 1) := by decide +kernel
theorem dX7_numberOf_25 : decode cX7_numberOf 25 = .ok (.ifCond .eq 26, 3) := by decide +kernel
theorem dX7_numberOf_28 : decode cX7_numberOf 28 = .ok (.aload_n 0, 1) := by decide +kernel
theorem dX7_numberOf_29 : decode cX7_numberOf 29 = .ok (.getfield 29, 3) := by decide +kernel
theorem dX7_numberOf_32 : decode cX7_numberOf 32 = .ok (.bipush 6, 2) := by decide +kernel
theorem dX7_numberOf_34 : decode cX7_numberOf 34 = .ok (.iload_n 2, 1) := by decide +kernel
theorem dX7_numberOf_35 : decode cX7_numberOf 35 = .ok (.imul, 1) := by decide +kernel
theorem dX7_numberOf_36 : decode cX7_numberOf 36 = .ok (.iload 4, 2) := by decide +kernel
theorem dX7_numberOf_38 : decode cX7_numberOf 38 = .ok (.iadd, 1) := by decide +kernel
theorem dX7_numberOf_39 : decode cX7_numberOf 39 = .ok (.iaload, 1) := by decide +kernel
theorem dX7_numberOf_40 : decode cX7_numberOf 40 = .ok (.aload_n 1, 1) := by decide +kernel
theorem dX7_numberOf_41 : decode cX7_numberOf 41 = .ok (.iload 4, 2) := by decide +kernel
theorem dX7_numberOf_43 : decode cX7_numberOf 43 = .ok (.iaload, 1) := by decide +kernel
theorem dX7_numberOf_44 : decode cX7_numberOf 44 = .ok (.if_icmp .ne 7, 3) := by decide +kernel
theorem dX7_numberOf_47 : decode cX7_numberOf 47 = .ok (.iconst 1, 1) := by decide +kernel
theorem dX7_numberOf_48 : decode cX7_numberOf 48 = .ok (.goto 4, 3) := by decide +kernel
theorem dX7_numberOf_51 : decode cX7_numberOf 51 = .ok (.iconst 0, 1) := by decide +kernel
theorem dX7_numberOf_52 : decode cX7_numberOf 52 = .ok (.istore_n 3, 1) := by decide +kernel
theorem dX7_numberOf_53 : decode cX7_numberOf 53 = .ok (.iinc 4 1, 3) := by decide +kernel
theorem dX7_numberOf_56 : decode cX7_numberOf 56 = .ok (.goto (-41), 3) := by decide +kernel
theorem dX7_numberOf_59 : decode cX7_numberOf 59 = .ok (.iload_n 3, 1) := by decide +kernel
theorem dX7_numberOf_60 : decode cX7_numberOf 60 = .ok (.ifCond .eq 5, 3) := by decide +kernel
theorem dX7_numberOf_63 : decode cX7_numberOf 63 = .ok (.iload_n 2, 1) := by decide +kernel
theorem dX7_numberOf_64 : decode cX7_numberOf 64 = .ok (.ireturn, 1) := by decide +kernel
theorem dX7_numberOf_65 : decode cX7_numberOf 65 = .ok (.iinc 2 1, 3) := by decide +kernel
theorem dX7_numberOf_68 : decode cX7_numberOf 68 = .ok (.goto (-66), 3) := by decide +kernel
theorem dX7_numberOf_71 : decode cX7_numberOf 71 = .ok (.iconst (-1), 1) := by decide +kernel
theorem dX7_numberOf_72 : decode cX7_numberOf 72 = .ok (.ireturn, 1) := by decide +kernel
theorem dX7_bound_0 : decode cX7_bound 0 = .ok (.aload_n 0, 1) := by decide +kernel
theorem dX7_bound_1 : decode cX7_bound 1 = .ok (.iconst 0, 1) := by decide +kernel
theorem dX7_bound_2 : decode cX7_bound 2 = .ok (.putfield 58, 3) := by decide +kernel
theorem dX7_bound_5 : decode cX7_bound 5 = .ok (.iload_n 1, 1) := by decide +kernel
theorem dX7_bound_6 : decode cX7_bound 6 = .ok (.iconst 0, 1) := by decide +kernel
theorem dX7_bound_7 : decode cX7_bound 7 = .ok (.iconst 1, 1) := by decide +kernel
theorem dX7_bound_8 : decode cX7_bound 8 = .ok (.invokestatic 61, 3) := by decide +kernel
theorem dX7_bound_11 : decode cX7_bound 11 = .ok (.ifCond .eq 19, 3) := by decide +kernel
theorem dX7_bound_14 : decode cX7_bound 14 = .ok (.aload_n 0, 1) := by decide +kernel
theorem dX7_bound_15 : decode cX7_bound 15 = .ok (.iload_n 2, 1) := by decide +kernel
theorem dX7_bound_16 : decode cX7_bound 16 = .ok (.invokevirtual 120, 3) := by decide +kernel
theorem dX7_bound_19 : decode cX7_bound 19 = .ok (.ifCond .eq 11, 3) := by decide +kernel
theorem dX7_bound_22 : decode cX7_bound 22 = .ok (.aload_n 0, 1) := by decide +kernel
theorem dX7_bound_23 : decode cX7_bound 23 = .ok (.iload_n 3, 1) := by decide +kernel
theorem dX7_bound_24 : decode cX7_bound 24 = .ok (.invokevirtual 120, 3) := by decide +kernel
theorem dX7_bound_27 : decode cX7_bound 27 = .ok (.ifCond .ne 5, 3) := by decide +kernel
theorem dX7_bound_30 : decode cX7_bound 30 = .ok (.iconst (-1), 1) := by decide +kernel
theorem dX7_bound_31 : decode cX7_bound 31 = .ok (.ireturn, 1) := by decide +kernel
theorem dX7_bound_32 : decode cX7_bound 32 = .ok (.iconst 0, 1) := by decide +kernel
theorem dX7_bound_33 : decode cX7_bound 33 = .ok (.istore 4, 2) := by decide +kernel
theorem dX7_bound_35 : decode cX7_bound 35 = .ok (.iload 4, 2) := by decide +kernel
theorem dX7_bound_37 : decode cX7_bound 37 = .ok (.aload_n 0, 1) := by decide +kernel
theorem dX7_bound_38 : decode cX7_bound 38 = .ok (.getfield 7, 3) := by decide +kernel
theorem dX7_bound_41 : decode cX7_bound 41 = .ok (.if_icmp .ge 100, 3) := by decide +kernel
theorem dX7_bound_44 : decode cX7_bound 44 = .ok (.aload_n 0, 1) := by decide +kernel
theorem dX7_bound_45 : decode cX7_bound 45 = .ok (.getfield 29, 3) := by decide +kernel
theorem dX7_bound_48 : decode cX7_bound 48 = .ok (.bipush 6, 2) := by decide +kernel
theorem dX7_bound_50 : decode cX7_bound 50 = .ok (.iload_n 2, 1) := by decide +kernel
theorem dX7_bound_51 : decode cX7_bound 51 = .ok (.imul, 1) := by decide +kernel
theorem dX7_bound_52 : decode cX7_bound 52 = .ok (.iload 4, 2) := by decide +kernel
theorem dX7_bound_54 : decode cX7_bound 54 = .ok (.iadd, 1) := by decide +kernel
theorem dX7_bound_55 : decode cX7_bound 55 = .ok (.iaload, 1) := by decide +kernel
theorem dX7_bound_56 : decode cX7_bound 56 = .ok (.istore 5, 2) := by decide +kernel
theorem dX7_bound_58 : decode cX7_bound 58 = .ok (.aload_n 0, 1) := by decide +kernel
theorem dX7_bound_59 : decode cX7_bound 59 = .ok (.getfield 29, 3) := by decide +kernel
theorem dX7_bound_62 : decode cX7_bound 62 = .ok (.bipush 6, 2) := by decide +kernel
theorem dX7_bound_64 : decode cX7_bound 64 = .ok (.iload_n 3, 1) := by decide +kernel
theorem dX7_bound_65 : decode cX7_bound 65 = .ok (.imul, 1) := by decide +kernel
theorem dX7_bound_66 : decode cX7_bound 66 = .ok (.iload 4, 2) := by decide +kernel
theorem dX7_bound_68 : decode cX7_bound 68 = .ok (.iadd, 1) := by decide +kernel
theorem dX7_bound_69 : decode cX7_bound 69 = .ok (.iaload, 1) := by decide +kernel
theorem dX7_bound_70 : decode cX7_bound 70 = .ok (.istore 6, 2) := by decide +kernel
theorem dX7_bound_72 : decode cX7_bound 72 = .ok (.iload 5, 2) := by decide +kernel
theorem dX7_bound_74 : decode cX7_bound 74 = .ok (.iload 6, 2) := by decide +kernel
theorem dX7_bound_76 : decode cX7_bound 76 = .ok (.if_icmp .eq 24, 3) := by decide +kernel
theorem dX7_bound_79 : decode cX7_bound 79 = .ok (.aload_n 0, 1) := by decide +kernel
theorem dX7_bound_80 : decode cX7_bound 80 = .ok (.iconst 0, 1) := by decide +kernel
theorem dX7_bound_81 : decode cX7_bound 81 = .ok (.iload 4, 2) := by decide +kernel
theorem dX7_bound_83 : decode cX7_bound 83 = .ok (.iload 5, 2) := by decide +kernel
theorem dX7_bound_85 : decode cX7_bound 85 = .ok (.invokevirtual 73, 3) := by decide +kernel
theorem dX7_bound_88 : decode cX7_bound 88 = .ok (.aload_n 0, 1) := by decide +kernel
theorem dX7_bound_89 : decode cX7_bound 89 = .ok (.iconst 0, 1) := by decide +kernel
theorem dX7_bound_90 : decode cX7_bound 90 = .ok (.iload 4, 2) := by decide +kernel
theorem dX7_bound_92 : decode cX7_bound 92 = .ok (.iload 6, 2) := by decide +kernel
theorem dX7_bound_94 : decode cX7_bound 94 = .ok (.invokevirtual 73, 3) := by decide +kernel
theorem dX7_bound_97 : decode cX7_bound 97 = .ok (.if_icmp .ge 7, 3) := by decide +kernel
theorem dX7_bound_100 : decode cX7_bound 100 = .ok (.iconst 1, 1) := by decide +kernel
theorem dX7_bound_101 : decode cX7_bound 101 = .ok (.goto 4, 3) := by decide +kernel
theorem dX7_bound_104 : decode cX7_bound 104 = .ok (.iconst 0, 1) := by decide +kernel
theorem dX7_bound_105 : decode cX7_bound 105 = .ok (.istore 7, 2) := by decide +kernel
theorem dX7_bound_107 : decode cX7_bound 107 = .ok (.aload_n 0, 1) := by decide +kernel
theorem dX7_bound_108 : decode cX7_bound 108 = .ok (.getfield 44, 3) := by decide +kernel
theorem dX7_bound_111 : decode cX7_bound 111 = .ok (.iload 4, 2) := by decide +kernel
theorem dX7_bound_113 : decode cX7_bound 113 = .ok (.iload 7, 2) := by decide +kernel
theorem dX7_bound_115 : decode cX7_bound 115 = .ok (.iload_n 1, 1) := by decide +kernel
theorem dX7_bound_116 : decode cX7_bound 116 = .ok (.ifCond .ne 7, 3) := by decide +kernel
theorem dX7_bound_119 : decode cX7_bound 119 = .ok (.iconst 1, 1) := by decide +kernel
theorem dX7_bound_120 : decode cX7_bound 120 = .ok (.goto 4, 3) := by decide +kernel
theorem dX7_bound_123 : decode cX7_bound 123 = .ok (.iconst 0, 1) := by decide +kernel
theorem dX7_bound_124 : decode cX7_bound 124 = .ok (.if_icmp .ne 8, 3) := by decide +kernel
theorem dX7_bound_127 : decode cX7_bound 127 = .ok (.iload 5, 2) := by decide +kernel
theorem dX7_bound_129 : decode cX7_bound 129 = .ok (.goto 5, 3) := by decide +kernel
theorem dX7_bound_132 : decode cX7_bound 132 = .ok (.iload 6, 2) := by decide +kernel
theorem dX7_bound_134 : decode cX7_bound 134 = .ok (.iastore, 1) := by decide +kernel
theorem dX7_bound_135 : decode cX7_bound 135 = .ok (.iinc 4 1, 3) := by decide +kernel
theorem dX7_bound_138 : decode cX7_bound 138 = .ok (.goto (-103), 3) := by decide +kernel
theorem dX7_bound_141 : decode cX7_bound 141 = .ok (.aload_n 0, 1) := by decide +kernel
theorem dX7_bound_142 : decode cX7_bound 142 = .ok (.aload_n 0, 1) := by decide +kernel
theorem dX7_bound_143 : decode cX7_bound 143 = .ok (.getfield 44, 3) := by decide +kernel
theorem dX7_bound_146 : decode cX7_bound 146 = .ok (.invokevirtual 127, 3) := by decide +kernel
theorem dX7_bound_149 : decode cX7_bound 149 = .ok (.ireturn, 1) := by decide +kernel
theorem dX7_behind_0 : decode cX7_behind 0 = .ok (.aload_n 0, 1) := by decide +kernel
theorem dX7_behind_1 : decode cX7_behind 1 = .ok (.iconst 0, 1) := by decide +kernel
theorem dX7_behind_2 : decode cX7_behind 2 = .ok (.putfield 58, 3) := by decide +kernel
theorem dX7_behind_5 : decode cX7_behind 5 = .ok (.aload_n 0, 1) := by decide +kernel
theorem dX7_behind_6 : decode cX7_behind 6 = .ok (.iload_n 1, 1) := by decide +kernel
theorem dX7_behind_7 : decode cX7_behind 7 = .ok (.invokevirtual 120, 3) := by decide +kernel
theorem dX7_behind_10 : decode cX7_behind 10 = .ok (.ifCond .eq 11, 3) := by decide +kernel
theorem dX7_behind_13 : decode cX7_behind 13 = .ok (.aload_n 0, 1) := by decide +kernel
theorem dX7_behind_14 : decode cX7_behind 14 = .ok (.iload_n 2, 1) := by decide +kernel
theorem dX7_behind_15 : decode cX7_behind 15 = .ok (.invokevirtual 120, 3) := by decide +kernel
theorem dX7_behind_18 : decode cX7_behind 18 = .ok (.ifCond .ne 7, 3) := by decide +kernel
theorem dX7_behind_21 : decode cX7_behind 21 = .ok (.iconst (-1), 1) := by decide +kernel
theorem dX7_behind_22 : decode cX7_behind 22 = .ok (.goto 17, 3) := by decide +kernel
theorem dX7_behind_25 : decode cX7_behind 25 = .ok (.aload_n 0, 1) := by decide +kernel
theorem dX7_behind_26 : decode cX7_behind 26 = .ok (.iload_n 1, 1) := by decide +kernel
theorem dX7_behind_27 : decode cX7_behind 27 = .ok (.iload_n 2, 1) := by decide +kernel
theorem dX7_behind_28 : decode cX7_behind 28 = .ok (.invokevirtual 99, 3) := by decide +kernel
theorem dX7_behind_31 : decode cX7_behind 31 = .ok (.ifCond .eq 7, 3) := by decide +kernel
theorem dX7_behind_34 : decode cX7_behind 34 = .ok (.iconst 1, 1) := by decide +kernel
theorem dX7_behind_35 : decode cX7_behind 35 = .ok (.goto 4, 3) := by decide +kernel
theorem dX7_behind_38 : decode cX7_behind 38 = .ok (.iconst 0, 1) := by decide +kernel
theorem dX7_behind_39 : decode cX7_behind 39 = .ok (.ireturn, 1) := by decide +kernel
theorem dX7_isRotation_0 : decode cX7_isRotation 0 = .ok (.aload_n 0, 1) := by decide +kernel
theorem dX7_isRotation_1 : decode cX7_isRotation 1 = .ok (.getfield 54, 3) := by decide +kernel
theorem dX7_isRotation_4 : decode cX7_isRotation 4 = .ok (.ifCond .eq 21, 3) := by decide +kernel
theorem dX7_isRotation_7 : decode cX7_isRotation 7 = .ok (.iload_n 1, 1) := by decide +kernel
theorem dX7_isRotation_8 : decode cX7_isRotation 8 = .ok (.iconst 0, 1) := by decide +kernel
theorem dX7_isRotation_9 : decode cX7_isRotation 9 = .ok (.aload_n 0, 1) := by decide +kernel
theorem dX7_isRotation_10 : decode cX7_isRotation 10 = .ok (.getfield 102, 3) := by decide +kernel
theorem dX7_isRotation_13 : decode cX7_isRotation 13 = .ok (.iconst 1, 1) := by decide +kernel
theorem dX7_isRotation_14 : decode cX7_isRotation 14 = .ok (.isub, 1) := by decide +kernel
theorem dX7_isRotation_15 : decode cX7_isRotation 15 = .ok (.invokestatic 61, 3) := by decide +kernel
theorem dX7_isRotation_18 : decode cX7_isRotation 18 = .ok (.ifCond .eq 7, 3) := by decide +kernel
theorem dX7_isRotation_21 : decode cX7_isRotation 21 = .ok (.iconst 1, 1) := by decide +kernel
theorem dX7_isRotation_22 : decode cX7_isRotation 22 = .ok (.goto 4, 3) := by decide +kernel
theorem dX7_isRotation_25 : decode cX7_isRotation 25 = .ok (.iconst 0, 1) := by decide +kernel
theorem dX7_isRotation_26 : decode cX7_isRotation 26 = .ok (.ireturn, 1) := by decide +kernel
theorem dX7_rotation_0 : decode cX7_rotation 0 = .ok (.aload_n 0, 1) := by decide +kernel
theorem dX7_rotation_1 : decode cX7_rotation 1 = .ok (.iconst 0, 1) := by decide +kernel
theorem dX7_rotation_2 : decode cX7_rotation 2 = .ok (.putfield 58, 3) := by decide +kernel
theorem dX7_rotation_5 : decode cX7_rotation 5 = .ok (.aload_n 0, 1) := by decide +kernel
theorem dX7_rotation_6 : decode cX7_rotation 6 = .ok (.iload_n 1, 1) := by decide +kernel
theorem dX7_rotation_7 : decode cX7_rotation 7 = .ok (.invokevirtual 131, 3) := by decide +kernel
theorem dX7_rotation_10 : decode cX7_rotation 10 = .ok (.ifCond .eq 28, 3) := by decide +kernel
theorem dX7_rotation_13 : decode cX7_rotation 13 = .ok (.iload_n 2, 1) := by decide +kernel
theorem dX7_rotation_14 : decode cX7_rotation 14 = .ok (.iconst 0, 1) := by decide +kernel
theorem dX7_rotation_15 : decode cX7_rotation 15 = .ok (.aload_n 0, 1) := by decide +kernel
theorem dX7_rotation_16 : decode cX7_rotation 16 = .ok (.getfield 32, 3) := by decide +kernel
theorem dX7_rotation_19 : decode cX7_rotation 19 = .ok (.iload_n 1, 1) := by decide +kernel
theorem dX7_rotation_20 : decode cX7_rotation 20 = .ok (.iaload, 1) := by decide +kernel
theorem dX7_rotation_21 : decode cX7_rotation 21 = .ok (.iconst 1, 1) := by decide +kernel
theorem dX7_rotation_22 : decode cX7_rotation 22 = .ok (.isub, 1) := by decide +kernel
theorem dX7_rotation_23 : decode cX7_rotation 23 = .ok (.invokestatic 61, 3) := by decide +kernel
theorem dX7_rotation_26 : decode cX7_rotation 26 = .ok (.ifCond .eq 12, 3) := by decide +kernel
theorem dX7_rotation_29 : decode cX7_rotation 29 = .ok (.iload_n 3, 1) := by decide +kernel
theorem dX7_rotation_30 : decode cX7_rotation 30 = .ok (.iconst 0, 1) := by decide +kernel
theorem dX7_rotation_31 : decode cX7_rotation 31 = .ok (.iconst 2, 1) := by decide +kernel
theorem dX7_rotation_32 : decode cX7_rotation 32 = .ok (.invokestatic 61, 3) := by decide +kernel
theorem dX7_rotation_35 : decode cX7_rotation 35 = .ok (.ifCond .ne 5, 3) := by decide +kernel
theorem dX7_rotation_38 : decode cX7_rotation 38 = .ok (.iconst (-1), 1) := by decide +kernel
theorem dX7_rotation_39 : decode cX7_rotation 39 = .ok (.ireturn, 1) := by decide +kernel
theorem dX7_rotation_40 : decode cX7_rotation 40 = .ok (.iload_n 3, 1) := by decide +kernel
theorem dX7_rotation_41 : decode cX7_rotation 41 = .ok (.ifCond .ne 17, 3) := by decide +kernel
theorem dX7_rotation_44 : decode cX7_rotation 44 = .ok (.aload_n 0, 1) := by decide +kernel
theorem dX7_rotation_45 : decode cX7_rotation 45 = .ok (.getfield 35, 3) := by decide +kernel
theorem dX7_rotation_48 : decode cX7_rotation 48 = .ok (.bipush 6, 2) := by decide +kernel
theorem dX7_rotation_50 : decode cX7_rotation 50 = .ok (.iload_n 1, 1) := by decide +kernel
theorem dX7_rotation_51 : decode cX7_rotation 51 = .ok (.imul, 1) := by decide +kernel
theorem dX7_rotation_52 : decode cX7_rotation 52 = .ok (.iload_n 2, 1) := by decide +kernel
theorem dX7_rotation_53 : decode cX7_rotation 53 = .ok (.iadd, 1) := by decide +kernel
theorem dX7_rotation_54 : decode cX7_rotation 54 = .ok (.iaload, 1) := by decide +kernel
theorem dX7_rotation_55 : decode cX7_rotation 55 = .ok (.goto 33, 3) := by decide +kernel
theorem dX7_rotation_58 : decode cX7_rotation 58 = .ok (.iload_n 3, 1) := by decide +kernel
theorem dX7_rotation_59 : decode cX7_rotation 59 = .ok (.iconst 1, 1) := by decide +kernel
theorem dX7_rotation_60 : decode cX7_rotation 60 = .ok (.if_icmp .ne 17, 3) := by decide +kernel
theorem dX7_rotation_63 : decode cX7_rotation 63 = .ok (.aload_n 0, 1) := by decide +kernel
theorem dX7_rotation_64 : decode cX7_rotation 64 = .ok (.getfield 38, 3) := by decide +kernel
theorem dX7_rotation_67 : decode cX7_rotation 67 = .ok (.bipush 6, 2) := by decide +kernel
theorem dX7_rotation_69 : decode cX7_rotation 69 = .ok (.iload_n 1, 1) := by decide +kernel
theorem dX7_rotation_70 : decode cX7_rotation 70 = .ok (.imul, 1) := by decide +kernel
theorem dX7_rotation_71 : decode cX7_rotation 71 = .ok (.iload_n 2, 1) := by decide +kernel
theorem dX7_rotation_72 : decode cX7_rotation 72 = .ok (.iadd, 1) := by decide +kernel
theorem dX7_rotation_73 : decode cX7_rotation 73 = .ok (.iaload, 1) := by decide +kernel
theorem dX7_rotation_74 : decode cX7_rotation 74 = .ok (.goto 14, 3) := by decide +kernel
theorem dX7_rotation_77 : decode cX7_rotation 77 = .ok (.aload_n 0, 1) := by decide +kernel
theorem dX7_rotation_78 : decode cX7_rotation 78 = .ok (.getfield 41, 3) := by decide +kernel
theorem dX7_rotation_81 : decode cX7_rotation 81 = .ok (.bipush 6, 2) := by decide +kernel
theorem dX7_rotation_83 : decode cX7_rotation 83 = .ok (.iload_n 1, 1) := by decide +kernel
theorem dX7_rotation_84 : decode cX7_rotation 84 = .ok (.imul, 1) := by decide +kernel
theorem dX7_rotation_85 : decode cX7_rotation 85 = .ok (.iload_n 2, 1) := by decide +kernel
theorem dX7_rotation_86 : decode cX7_rotation 86 = .ok (.iadd, 1) := by decide +kernel
theorem dX7_rotation_87 : decode cX7_rotation 87 = .ok (.iaload, 1) := by decide +kernel
theorem dX7_rotation_88 : decode cX7_rotation 88 = .ok (.ireturn, 1) := by decide +kernel
theorem dX7_isDone_0 : decode cX7_isDone 0 = .ok (.aload_n 0, 1) := by decide +kernel
theorem dX7_isDone_1 : decode cX7_isDone 1 = .ok (.getfield 35, 3) := by decide +kernel
theorem dX7_isDone_4 : decode cX7_isDone 4 = .ok (.bipush 6, 2) := by decide +kernel
theorem dX7_isDone_6 : decode cX7_isDone 6 = .ok (.iload_n 1, 1) := by decide +kernel
theorem dX7_isDone_7 : decode cX7_isDone 7 = .ok (.imul, 1) := by decide +kernel
theorem dX7_isDone_8 : decode cX7_isDone 8 = .ok (.iaload, 1) := by decide +kernel
theorem dX7_isDone_9 : decode cX7_isDone 9 = .ok (.istore_n 3, 1) := by decide +kernel
theorem dX7_isDone_10 : decode cX7_isDone 10 = .ok (.aload_n 0, 1) := by decide +kernel
theorem dX7_isDone_11 : decode cX7_isDone 11 = .ok (.iconst 0, 1) := by decide +kernel
theorem dX7_isDone_12 : decode cX7_isDone 12 = .ok (.iload_n 3, 1) := by decide +kernel
theorem dX7_isDone_13 : decode cX7_isDone 13 = .ok (.aload_n 0, 1) := by decide +kernel
theorem dX7_isDone_14 : decode cX7_isDone 14 = .ok (.getfield 29, 3) := by decide +kernel
theorem dX7_isDone_17 : decode cX7_isDone 17 = .ok (.bipush 6, 2) := by decide +kernel
theorem dX7_isDone_19 : decode cX7_isDone 19 = .ok (.iload_n 2, 1) := by decide +kernel
theorem dX7_isDone_20 : decode cX7_isDone 20 = .ok (.imul, 1) := by decide +kernel
theorem dX7_isDone_21 : decode cX7_isDone 21 = .ok (.iload_n 3, 1) := by decide +kernel
theorem dX7_isDone_22 : decode cX7_isDone 22 = .ok (.iadd, 1) := by decide +kernel
theorem dX7_isDone_23 : decode cX7_isDone 23 = .ok (.iaload, 1) := by decide +kernel
theorem dX7_isDone_24 : decode cX7_isDone 24 = .ok (.invokevirtual 73, 3) := by decide +kernel
theorem dX7_isDone_27 : decode cX7_isDone 27 = .ok (.aload_n 0, 1) := by decide +kernel
theorem dX7_isDone_28 : decode cX7_isDone 28 = .ok (.iconst 0, 1) := by decide +kernel
theorem dX7_isDone_29 : decode cX7_isDone 29 = .ok (.iload_n 3, 1) := by decide +kernel
theorem dX7_isDone_30 : decode cX7_isDone 30 = .ok (.aload_n 0, 1) := by decide +kernel
theorem dX7_isDone_31 : decode cX7_isDone 31 = .ok (.getfield 41, 3) := by decide +kernel
theorem dX7_isDone_34 : decode cX7_isDone 34 = .ok (.bipush 6, 2) := by decide +kernel
theorem dX7_isDone_36 : decode cX7_isDone 36 = .ok (.iload_n 1, 1) := by decide +kernel
theorem dX7_isDone_37 : decode cX7_isDone 37 = .ok (.imul, 1) := by decide +kernel
theorem dX7_isDone_38 : decode cX7_isDone 38 = .ok (.iaload, 1) := by decide +kernel
theorem dX7_isDone_39 : decode cX7_isDone 39 = .ok (.invokevirtual 73, 3) := by decide +kernel
theorem dX7_isDone_42 : decode cX7_isDone 42 = .ok (.if_icmp .lt 7, 3) := by decide +kernel
theorem dX7_isDone_45 : decode cX7_isDone 45 = .ok (.iconst 1, 1) := by decide +kernel
theorem dX7_isDone_46 : decode cX7_isDone 46 = .ok (.goto 4, 3) := by decide +kernel
theorem dX7_isDone_49 : decode cX7_isDone 49 = .ok (.iconst 0, 1) := by decide +kernel
theorem dX7_isDone_50 : decode cX7_isDone 50 = .ok (.ireturn, 1) := by decide +kernel
theorem dX7_done_0 : decode cX7_done 0 = .ok (.aload_n 0, 1) := by decide +kernel
theorem dX7_done_1 : decode cX7_done 1 = .ok (.iconst 0, 1) := by decide +kernel
theorem dX7_done_2 : decode cX7_done 2 = .ok (.putfield 58, 3) := by decide +kernel
theorem dX7_done_5 : decode cX7_done 5 = .ok (.aload_n 0, 1) := by decide +kernel
theorem dX7_done_6 : decode cX7_done 6 = .ok (.iload_n 1, 1) := by decide +kernel
theorem dX7_done_7 : decode cX7_done 7 = .ok (.invokevirtual 131, 3) := by decide +kernel
theorem dX7_done_10 : decode cX7_done 10 = .ok (.ifCond .eq 11, 3) := by decide +kernel
theorem dX7_done_13 : decode cX7_done 13 = .ok (.aload_n 0, 1) := by decide +kernel
theorem dX7_done_14 : decode cX7_done 14 = .ok (.iload_n 2, 1) := by decide +kernel
theorem dX7_done_15 : decode cX7_done 15 = .ok (.invokevirtual 120, 3) := by decide +kernel
theorem dX7_done_18 : decode cX7_done 18 = .ok (.ifCond .ne 7, 3) := by decide +kernel
theorem dX7_done_21 : decode cX7_done 21 = .ok (.iconst (-1), 1) := by decide +kernel
theorem dX7_done_22 : decode cX7_done 22 = .ok (.goto 17, 3) := by decide +kernel
theorem dX7_done_25 : decode cX7_done 25 = .ok (.aload_n 0, 1) := by decide +kernel
theorem dX7_done_26 : decode cX7_done 26 = .ok (.iload_n 1, 1) := by decide +kernel
theorem dX7_done_27 : decode cX7_done 27 = .ok (.iload_n 2, 1) := by decide +kernel
theorem dX7_done_28 : decode cX7_done 28 = .ok (.invokevirtual 134, 3) := by decide +kernel
theorem dX7_done_31 : decode cX7_done 31 = .ok (.ifCond .eq 7, 3) := by decide +kernel
theorem dX7_done_34 : decode cX7_done 34 = .ok (.iconst 1, 1) := by decide +kernel
theorem dX7_done_35 : decode cX7_done 35 = .ok (.goto 4, 3) := by decide +kernel
theorem dX7_done_38 : decode cX7_done 38 = .ok (.iconst 0, 1) := by decide +kernel
theorem dX7_done_39 : decode cX7_done 39 = .ok (.ireturn, 1) := by decide +kernel
theorem dX7_before_0 : decode cX7_before 0 = .ok (.aload_n 0, 1) := by decide +kernel
theorem dX7_before_1 : decode cX7_before 1 = .ok (.iconst 0, 1) := by decide +kernel
theorem dX7_before_2 : decode cX7_before 2 = .ok (.putfield 58, 3) := by decide +kernel
theorem dX7_before_5 : decode cX7_before 5 = .ok (.aload_n 0, 1) := by decide +kernel
theorem dX7_before_6 : decode cX7_before 6 = .ok (.iload_n 1, 1) := by decide +kernel
theorem dX7_before_7 : decode cX7_before 7 = .ok (.invokevirtual 131, 3) := by decide +kernel
theorem dX7_before_10 : decode cX7_before 10 = .ok (.ifCond .eq 11, 3) := by decide +kernel
theorem dX7_before_13 : decode cX7_before 13 = .ok (.aload_n 0, 1) := by decide +kernel
theorem dX7_before_14 : decode cX7_before 14 = .ok (.iload_n 2, 1) := by decide +kernel
theorem dX7_before_15 : decode cX7_before 15 = .ok (.invokevirtual 131, 3) := by decide +kernel
theorem dX7_before_18 : decode cX7_before 18 = .ok (.ifCond .ne 5, 3) := by decide +kernel
theorem dX7_before_21 : decode cX7_before 21 = .ok (.iconst (-1), 1) := by decide +kernel
theorem dX7_before_22 : decode cX7_before 22 = .ok (.ireturn, 1) := by decide +kernel
theorem dX7_before_23 : decode cX7_before 23 = .ok (.iload_n 1, 1) := by decide +kernel
theorem dX7_before_24 : decode cX7_before 24 = .ok (.iload_n 2, 1) := by decide +kernel
theorem dX7_before_25 : decode cX7_before 25 = .ok (.if_icmp .eq 7, 3) := by decide +kernel
theorem dX7_before_28 : decode cX7_before 28 = .ok (.iconst 1, 1) := by decide +kernel
theorem dX7_before_29 : decode cX7_before 29 = .ok (.goto 4, 3) := by decide +kernel
theorem dX7_before_32 : decode cX7_before 32 = .ok (.iconst 0, 1) := by decide +kernel
theorem dX7_before_33 : decode cX7_before 33 = .ok (.istore_n 3, 1) := by decide +kernel
theorem dX7_before_34 : decode cX7_before 34 = .ok (.iconst 0, 1) := by decide +kernel
theorem dX7_before_35 : decode cX7_before 35 = .ok (.istore 4, 2) := by decide +kernel
theorem dX7_before_37 : decode cX7_before 37 = .ok (.iload 4, 2) := by decide +kernel
theorem dX7_before_39 : decode cX7_before 39 = .ok (.aload_n 0, 1) := by decide +kernel
theorem dX7_before_40 : decode cX7_before 40 = .ok (.getfield 88, 3) := by decide +kernel
theorem dX7_before_43 : decode cX7_before 43 = .ok (.if_icmp .ge 39, 3) := by decide +kernel
theorem dX7_before_46 : decode cX7_before 46 = .ok (.iload_n 3, 1) := by decide +kernel
theorem dX7_before_47 : decode cX7_before 47 = .ok (.ifCond .eq 27, 3) := by decide +kernel
theorem dX7_before_50 : decode cX7_before 50 = .ok (.aload_n 0, 1) := by decide +kernel
theorem dX7_before_51 : decode cX7_before 51 = .ok (.iload_n 2, 1) := by decide +kernel
theorem dX7_before_52 : decode cX7_before 52 = .ok (.iload 4, 2) := by decide +kernel
theorem dX7_before_54 : decode cX7_before 54 = .ok (.invokevirtual 134, 3) := by decide +kernel
theorem dX7_before_57 : decode cX7_before 57 = .ok (.ifCond .eq 13, 3) := by decide +kernel
theorem dX7_before_60 : decode cX7_before 60 = .ok (.aload_n 0, 1) := by decide +kernel
theorem dX7_before_61 : decode cX7_before 61 = .ok (.iload_n 1, 1) := by decide +kernel
theorem dX7_before_62 : decode cX7_before 62 = .ok (.iload 4, 2) := by decide +kernel
theorem dX7_before_64 : decode cX7_before 64 = .ok (.invokevirtual 134, 3) := by decide +kernel
theorem dX7_before_67 : decode cX7_before 67 = .ok (.ifCond .eq 7, 3) := by decide +kernel
theorem dX7_before_70 : decode cX7_before 70 = .ok (.iconst 1, 1) := by decide +kernel
theorem dX7_before_71 : decode cX7_before 71 = .ok (.goto 4, 3) := by decide +kernel
theorem dX7_before_74 : decode cX7_before 74 = .ok (.iconst 0, 1) := by decide +kernel
theorem dX7_before_75 : decode cX7_before 75 = .ok (.istore_n 3, 1) := by decide +kernel
theorem dX7_before_76 : decode cX7_before 76 = .ok (.iinc 4 1, 3) := by decide +kernel
theorem dX7_before_79 : decode cX7_before 79 = .ok (.goto (-42), 3) := by decide +kernel
theorem dX7_before_82 : decode cX7_before 82 = .ok (.iload_n 3, 1) := by decide +kernel
theorem dX7_before_83 : decode cX7_before 83 = .ok (.ifCond .eq 7, 3) := by decide +kernel
theorem dX7_before_86 : decode cX7_before 86 = .ok (.iconst 1, 1) := by decide +kernel
theorem dX7_before_87 : decode cX7_before 87 = .ok (.goto 4, 3) := by decide +kernel
theorem dX7_before_90 : decode cX7_before 90 = .ok (.iconst 0, 1) := by decide +kernel
theorem dX7_before_91 : decode cX7_before 91 = .ok (.ireturn, 1) := by decide +kernel
theorem dX7_tell_0 : decode cX7_tell 0 = .ok (.aload_n 0, 1) := by decide +kernel
theorem dX7_tell_1 : decode cX7_tell 1 = .ok (.iload_n 1, 1) := by decide +kernel
theorem dX7_tell_2 : decode cX7_tell 2 = .ok (.iconst 0, 1) := by decide +kernel
theorem dX7_tell_3 : decode cX7_tell 3 = .ok (.aload_n 0, 1) := by decide +kernel
theorem dX7_tell_4 : decode cX7_tell 4 = .ok (.getfield 7, 3) := by decide +kernel
theorem dX7_tell_7 : decode cX7_tell 7 = .ok (.iconst 1, 1) := by decide +kernel
theorem dX7_tell_8 : decode cX7_tell 8 = .ok (.isub, 1) := by decide +kernel
theorem dX7_tell_9 : decode cX7_tell 9 = .ok (.invokestatic 61, 3) := by decide +kernel
theorem dX7_tell_12 : decode cX7_tell 12 = .ok (.ifCond .eq 22, 3) := by decide +kernel
theorem dX7_tell_15 : decode cX7_tell 15 = .ok (.iload_n 2, 1) := by decide +kernel
theorem dX7_tell_16 : decode cX7_tell 16 = .ok (.iconst (-1), 1) := by decide +kernel
theorem dX7_tell_17 : decode cX7_tell 17 = .ok (.if_icmp .eq 21, 3) := by decide +kernel
theorem dX7_tell_20 : decode cX7_tell 20 = .ok (.iload_n 2, 1) := by decide +kernel
theorem dX7_tell_21 : decode cX7_tell 21 = .ok (.iconst 0, 1) := by decide +kernel
theorem dX7_tell_22 : decode cX7_tell 22 = .ok (.aload_n 0, 1) := by decide +kernel
theorem dX7_tell_23 : decode cX7_tell 23 = .ok (.getfield 13, 3) := by decide +kernel
theorem dX7_tell_26 : decode cX7_tell 26 = .ok (.iconst 1, 1) := by decide +kernel
theorem dX7_tell_27 : decode cX7_tell 27 = .ok (.isub, 1) := by decide +kernel
theorem dX7_tell_28 : decode cX7_tell 28 = .ok (.invokestatic 61, 3) := by decide +kernel
theorem dX7_tell_31 : decode cX7_tell 31 = .ok (.ifCond .ne 7, 3) := by decide +kernel
theorem dX7_tell_34 : decode cX7_tell 34 = .ok (.iconst 1, 1) := by decide +kernel
theorem dX7_tell_35 : decode cX7_tell 35 = .ok (.goto 4, 3) := by decide +kernel
theorem dX7_tell_38 : decode cX7_tell 38 = .ok (.iconst 0, 1) := by decide +kernel
theorem dX7_tell_39 : decode cX7_tell 39 = .ok (.putfield 58, 3) := by decide +kernel
theorem dX7_tell_42 : decode cX7_tell 42 = .ok (.aload_n 0, 1) := by decide +kernel
theorem dX7_tell_43 : decode cX7_tell 43 = .ok (.getfield 58, 3) := by decide +kernel
theorem dX7_tell_46 : decode cX7_tell 46 = .ok (.ifCond .ne 10, 3) := by decide +kernel
theorem dX7_tell_49 : decode cX7_tell 49 = .ok (.aload_n 0, 1) := by decide +kernel
theorem dX7_tell_50 : decode cX7_tell 50 = .ok (.getfield 26, 3) := by decide +kernel
theorem dX7_tell_53 : decode cX7_tell 53 = .ok (.iload_n 1, 1) := by decide +kernel
theorem dX7_tell_54 : decode cX7_tell 54 = .ok (.iload_n 2, 1) := by decide +kernel
theorem dX7_tell_55 : decode cX7_tell 55 = .ok (.iastore, 1) := by decide +kernel
theorem dX7_tell_56 : decode cX7_tell 56 = .ok (.return_, 1) := by decide +kernel
theorem dX7_take_0 : decode cX7_take 0 = .ok (.aload_n 0, 1) := by decide +kernel
theorem dX7_take_1 : decode cX7_take 1 = .ok (.aload_n 0, 1) := by decide +kernel
theorem dX7_take_2 : decode cX7_take 2 = .ok (.iload_n 1, 1) := by decide +kernel
theorem dX7_take_3 : decode cX7_take 3 = .ok (.invokevirtual 120, 3) := by decide +kernel
theorem dX7_take_6 : decode cX7_take 6 = .ok (.ifCond .eq 7, 3) := by decide +kernel
theorem dX7_take_9 : decode cX7_take 9 = .ok (.iconst 0, 1) := by decide +kernel
theorem dX7_take_10 : decode cX7_take 10 = .ok (.goto 4, 3) := by decide +kernel
theorem dX7_take_13 : decode cX7_take 13 = .ok (.iconst 1, 1) := by decide +kernel
theorem dX7_take_14 : decode cX7_take 14 = .ok (.putfield 58, 3) := by decide +kernel
theorem dX7_take_17 : decode cX7_take 17 = .ok (.iconst 0, 1) := by decide +kernel
theorem dX7_take_18 : decode cX7_take 18 = .ok (.istore_n 2, 1) := by decide +kernel
theorem dX7_take_19 : decode cX7_take 19 = .ok (.iload_n 2, 1) := by decide +kernel
theorem dX7_take_20 : decode cX7_take 20 = .ok (.aload_n 0, 1) := by decide +kernel
theorem dX7_take_21 : decode cX7_take 21 = .ok (.getfield 7, 3) := by decide +kernel
theorem dX7_take_24 : decode cX7_take 24 = .ok (.if_icmp .ge 33, 3) := by decide +kernel
theorem dX7_take_27 : decode cX7_take 27 = .ok (.aload_n 0, 1) := by decide +kernel
theorem dX7_take_28 : decode cX7_take 28 = .ok (.getfield 58, 3) := by decide +kernel
theorem dX7_take_31 : decode cX7_take 31 = .ok (.ifCond .ne 26, 3) := by decide +kernel
theorem dX7_take_34 : decode cX7_take 34 = .ok (.aload_n 0, 1) := by decide +kernel
theorem dX7_take_35 : decode cX7_take 35 = .ok (.getfield 26, 3) := by decide +kernel
theorem dX7_take_38 : decode cX7_take 38 = .ok (.iload_n 2, 1) := by decide +kernel
theorem dX7_take_39 : decode cX7_take 39 = .ok (.aload_n 0, 1) := by decide +kernel
theorem dX7_take_40 : decode cX7_take 40 = .ok (.getfield 29, 3) := by decide +kernel
theorem dX7_take_43 : decode cX7_take 43 = .ok (.bipush 6, 2) := by decide +kernel
theorem dX7_take_45 : decode cX7_take 45 = .ok (.iload_n 1, 1) := by decide +kernel
theorem dX7_take_46 : decode cX7_take 46 = .ok (.imul, 1) := by decide +kernel
theorem dX7_take_47 : decode cX7_take 47 = .ok (.iload_n 2, 1) := by decide +kernel
theorem dX7_take_48 : decode cX7_take 48 = .ok (.iadd, 1) := by decide +kernel
theorem dX7_take_49 : decode cX7_take 49 = .ok (.iaload, 1) := by decide +kernel
theorem dX7_take_50 : decode cX7_take 50 = .ok (.iastore, 1) := by decide +kernel
theorem dX7_take_51 : decode cX7_take 51 = .ok (.iinc 2 1, 3) := by decide +kernel
theorem dX7_take_54 : decode cX7_take 54 = .ok (.goto (-35), 3) := by decide +kernel
theorem dX7_take_57 : decode cX7_take 57 = .ok (.return_, 1) := by decide +kernel
theorem dX7_fits_0 : decode cX7_fits 0 = .ok (.aload_n 0, 1) := by decide +kernel
theorem dX7_fits_1 : decode cX7_fits 1 = .ok (.iconst 0, 1) := by decide +kernel
theorem dX7_fits_2 : decode cX7_fits 2 = .ok (.putfield 58, 3) := by decide +kernel
theorem dX7_fits_5 : decode cX7_fits 5 = .ok (.aload_n 0, 1) := by decide +kernel
theorem dX7_fits_6 : decode cX7_fits 6 = .ok (.aload_n 0, 1) := by decide +kernel
theorem dX7_fits_7 : decode cX7_fits 7 = .ok (.getfield 26, 3) := by decide +kernel
theorem dX7_fits_10 : decode cX7_fits 10 = .ok (.iconst 0, 1) := by decide +kernel
theorem dX7_fits_11 : decode cX7_fits 11 = .ok (.invokevirtual 137, 3) := by decide +kernel
theorem dX7_fits_14 : decode cX7_fits 14 = .ok (.ifCond .eq 7, 3) := by decide +kernel
theorem dX7_fits_17 : decode cX7_fits 17 = .ok (.iconst 1, 1) := by decide +kernel
theorem dX7_fits_18 : decode cX7_fits 18 = .ok (.goto 4, 3) := by decide +kernel
theorem dX7_fits_21 : decode cX7_fits 21 = .ok (.iconst 0, 1) := by decide +kernel
theorem dX7_fits_22 : decode cX7_fits 22 = .ok (.ireturn, 1) := by decide +kernel
theorem dX7_blocks_0 : decode cX7_blocks 0 = .ok (.aload_n 0, 1) := by decide +kernel
theorem dX7_blocks_1 : decode cX7_blocks 1 = .ok (.iconst 0, 1) := by decide +kernel
theorem dX7_blocks_2 : decode cX7_blocks 2 = .ok (.putfield 58, 3) := by decide +kernel
theorem dX7_blocks_5 : decode cX7_blocks 5 = .ok (.aload_n 0, 1) := by decide +kernel
theorem dX7_blocks_6 : decode cX7_blocks 6 = .ok (.aload_n 0, 1) := by decide +kernel
theorem dX7_blocks_7 : decode cX7_blocks 7 = .ok (.getfield 26, 3) := by decide +kernel
theorem dX7_blocks_10 : decode cX7_blocks 10 = .ok (.iconst 0, 1) := by decide +kernel
theorem dX7_blocks_11 : decode cX7_blocks 11 = .ok (.invokevirtual 137, 3) := by decide +kernel
theorem dX7_blocks_14 : decode cX7_blocks 14 = .ok (.ifCond .eq 15, 3) := by decide +kernel
theorem dX7_blocks_17 : decode cX7_blocks 17 = .ok (.aload_n 0, 1) := by decide +kernel
theorem dX7_blocks_18 : decode cX7_blocks 18 = .ok (.aload_n 0, 1) := by decide +kernel
theorem dX7_blocks_19 : decode cX7_blocks 19 = .ok (.getfield 26, 3) := by decide +kernel
theorem dX7_blocks_22 : decode cX7_blocks 22 = .ok (.iconst 0, 1) := by decide +kernel
theorem dX7_blocks_23 : decode cX7_blocks 23 = .ok (.invokevirtual 91, 3) := by decide +kernel
theorem dX7_blocks_26 : decode cX7_blocks 26 = .ok (.goto 4, 3) := by decide +kernel
theorem dX7_blocks_29 : decode cX7_blocks 29 = .ok (.iconst (-1), 1) := by decide +kernel
theorem dX7_blocks_30 : decode cX7_blocks 30 = .ok (.ireturn, 1) := by decide +kernel
theorem dX7_blocking_0 : decode cX7_blocking 0 = .ok (.aload_n 0, 1) := by decide +kernel
theorem dX7_blocking_1 : decode cX7_blocking 1 = .ok (.iconst 0, 1) := by decide +kernel
theorem dX7_blocking_2 : decode cX7_blocking 2 = .ok (.putfield 58, 3) := by decide +kernel
theorem dX7_blocking_5 : decode cX7_blocking 5 = .ok (.aload_n 0, 1) := by decide +kernel
theorem dX7_blocking_6 : decode cX7_blocking 6 = .ok (.aload_n 0, 1) := by decide +kernel
theorem dX7_blocking_7 : decode cX7_blocking 7 = .ok (.getfield 26, 3) := by decide +kernel
theorem dX7_blocking_10 : decode cX7_blocking 10 = .ok (.iconst 0, 1) := by decide +kernel
theorem dX7_blocking_11 : decode cX7_blocking 11 = .ok (.invokevirtual 137, 3) := by decide +kernel
theorem dX7_blocking_14 : decode cX7_blocking 14 = .ok (.ifCond .ne 5, 3) := by decide +kernel
theorem dX7_blocking_17 : decode cX7_blocking 17 = .ok (.iconst (-1), 1) := by decide +kernel
theorem dX7_blocking_18 : decode cX7_blocking 18 = .ok (.ireturn, 1) := by decide +kernel
theorem dX7_blocking_19 : decode cX7_blocking 19 = .ok (.iconst 0, 1) := by decide +kernel
theorem dX7_blocking_20 : decode cX7_blocking 20 = .ok (.istore_n 2, 1) := by decide +kernel
theorem dX7_blocking_21 : decode cX7_blocking 21 = .ok (.iconst 0, 1) := by decide +kernel
theorem dX7_blocking_22 : decode cX7_blocking 22 = .ok (.istore_n 3, 1) := by decide +kernel
theorem dX7_blocking_23 : decode cX7_blocking 23 = .ok (.iload_n 3, 1) := by decide +kernel
theorem dX7_blocking_24 : decode cX7_blocking 24 = .ok (.aload_n 0, 1) := by decide +kernel
theorem dX7_blocking_25 : decode cX7_blocking 25 = .ok (.getfield 7, 3) := by decide +kernel
theorem dX7_blocking_28 : decode cX7_blocking 28 = .ok (.if_icmp .ge 58, 3) := by decide +kernel
theorem dX7_blocking_31 : decode cX7_blocking 31 = .ok (.iconst 0, 1) := by decide +kernel
theorem dX7_blocking_32 : decode cX7_blocking 32 = .ok (.istore 4, 2) := by decide +kernel
theorem dX7_blocking_34 : decode cX7_blocking 34 = .ok (.iload 4, 2) := by decide +kernel
theorem dX7_blocking_36 : decode cX7_blocking 36 = .ok (.aload_n 0, 1) := by decide +kernel
theorem dX7_blocking_37 : decode cX7_blocking 37 = .ok (.getfield 13, 3) := by decide +kernel
theorem dX7_blocking_40 : decode cX7_blocking 40 = .ok (.if_icmp .ge 40, 3) := by decide +kernel
theorem dX7_blocking_43 : decode cX7_blocking 43 = .ok (.aload_n 0, 1) := by decide +kernel
theorem dX7_blocking_44 : decode cX7_blocking 44 = .ok (.aload_n 0, 1) := by decide +kernel
theorem dX7_blocking_45 : decode cX7_blocking 45 = .ok (.getfield 26, 3) := by decide +kernel
theorem dX7_blocking_48 : decode cX7_blocking 48 = .ok (.iconst 0, 1) := by decide +kernel
theorem dX7_blocking_49 : decode cX7_blocking 49 = .ok (.iload_n 3, 1) := by decide +kernel
theorem dX7_blocking_50 : decode cX7_blocking 50 = .ok (.iload 4, 2) := by decide +kernel
theorem dX7_blocking_52 : decode cX7_blocking 52 = .ok (.invokevirtual 84, 3) := by decide +kernel
theorem dX7_blocking_55 : decode cX7_blocking 55 = .ok (.ifCond .eq 19, 3) := by decide +kernel
theorem dX7_blocking_58 : decode cX7_blocking 58 = .ok (.iload_n 2, 1) := by decide +kernel
theorem dX7_blocking_59 : decode cX7_blocking 59 = .ok (.iload_n 1, 1) := by decide +kernel
theorem dX7_blocking_60 : decode cX7_blocking 60 = .ok (.if_icmp .ne 11, 3) := by decide +kernel
theorem dX7_blocking_63 : decode cX7_blocking 63 = .ok (.bipush 8, 2) := by decide +kernel
theorem dX7_blocking_65 : decode cX7_blocking 65 = .ok (.iload_n 3, 1) := by decide +kernel
theorem dX7_blocking_66 : decode cX7_blocking 66 = .ok (.imul, 1) := by decide +kernel
theorem dX7_blocking_67 : decode cX7_blocking 67 = .ok (.iload 4, 2) := by decide +kernel
theorem dX7_blocking_69 : decode cX7_blocking 69 = .ok (.iadd, 1) := by decide +kernel
theorem dX7_blocking_70 : decode cX7_blocking 70 = .ok (.ireturn, 1) := by decide +kernel
theorem dX7_blocking_71 : decode cX7_blocking 71 = .ok (.iinc 2 1, 3) := by decide +kernel
theorem dX7_blocking_74 : decode cX7_blocking 74 = .ok (.iinc 4 1, 3) := by decide +kernel
theorem dX7_blocking_77 : decode cX7_blocking 77 = .ok (.goto (-43), 3) := by decide +kernel
theorem dX7_blocking_80 : decode cX7_blocking 80 = .ok (.iinc 3 1, 3) := by decide +kernel
theorem dX7_blocking_83 : decode cX7_blocking 83 = .ok (.goto (-60), 3) := by decide +kernel
theorem dX7_blocking_86 : decode cX7_blocking 86 = .ok (.iconst (-1), 1) := by decide +kernel
theorem dX7_blocking_87 : decode cX7_blocking 87 = .ok (.ireturn, 1) := by decide +kernel
theorem dX7_which_0 : decode cX7_which 0 = .ok (.aload_n 0, 1) := by decide +kernel
theorem dX7_which_1 : decode cX7_which 1 = .ok (.iconst 0, 1) := by decide +kernel
theorem dX7_which_2 : decode cX7_which 2 = .ok (.putfield 58, 3) := by decide +kernel
theorem dX7_which_5 : decode cX7_which 5 = .ok (.aload_n 0, 1) := by decide +kernel
theorem dX7_which_6 : decode cX7_which 6 = .ok (.getfield 54, 3) := by decide +kernel
theorem dX7_which_9 : decode cX7_which 9 = .ok (.ifCond .eq 14, 3) := by decide +kernel
theorem dX7_which_12 : decode cX7_which 12 = .ok (.aload_n 0, 1) := by decide +kernel
theorem dX7_which_13 : decode cX7_which 13 = .ok (.aload_n 0, 1) := by decide +kernel
theorem dX7_which_14 : decode cX7_which 14 = .ok (.getfield 26, 3) := by decide +kernel
theorem dX7_which_17 : decode cX7_which 17 = .ok (.invokevirtual 127, 3) := by decide +kernel
theorem dX7_which_20 : decode cX7_which 20 = .ok (.goto 4, 3) := by decide +kernel
theorem dX7_which_23 : decode cX7_which 23 = .ok (.iconst (-1), 1) := by decide +kernel
theorem dX7_which_24 : decode cX7_which 24 = .ok (.ireturn, 1) := by decide +kernel
theorem dX7_check_0 : decode cX7_check 0 = .ok (.aload_n 0, 1) := by decide +kernel
theorem dX7_check_1 : decode cX7_check 1 = .ok (.iconst 0, 1) := by decide +kernel
theorem dX7_check_2 : decode cX7_check 2 = .ok (.putfield 58, 3) := by decide +kernel
theorem dX7_check_5 : decode cX7_check 5 = .ok (.aload_n 0, 1) := by decide +kernel
theorem dX7_check_6 : decode cX7_check 6 = .ok (.getfield 54, 3) := by decide +kernel
theorem dX7_check_9 : decode cX7_check 9 = .ok (.ifCond .eq 7, 3) := by decide +kernel
theorem dX7_check_12 : decode cX7_check 12 = .ok (.iconst 1, 1) := by decide +kernel
theorem dX7_check_13 : decode cX7_check 13 = .ok (.goto 4, 3) := by decide +kernel
theorem dX7_check_16 : decode cX7_check 16 = .ok (.iconst (-1), 1) := by decide +kernel
theorem dX7_check_17 : decode cX7_check 17 = .ok (.ireturn, 1) := by decide +kernel
