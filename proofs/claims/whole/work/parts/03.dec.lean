theorem d_Mi_init_0 : decode cc_Mi_init 0 = .ok (.aload_n 0, 1) := by decide +kernel
theorem d_Mi_init_1 : decode cc_Mi_init 1 = .ok (.invokespecial 3, 3) := by decide +kernel
theorem d_Mi_init_4 : decode cc_Mi_init 4 = .ok (.aload_n 0, 1) := by decide +kernel
theorem d_Mi_init_5 : decode cc_Mi_init 5 = .ok (.bipush 100, 2) := by decide +kernel
theorem d_Mi_init_7 : decode cc_Mi_init 7 = .ok (.newarray .int, 2) := by decide +kernel
theorem d_Mi_init_9 : decode cc_Mi_init 9 = .ok (.putfield 9, 3) := by decide +kernel
theorem d_Mi_init_12 : decode cc_Mi_init 12 = .ok (.aload_n 0, 1) := by decide +kernel
theorem d_Mi_init_13 : decode cc_Mi_init 13 = .ok (.bipush 100, 2) := by decide +kernel
theorem d_Mi_init_15 : decode cc_Mi_init 15 = .ok (.newarray .int, 2) := by decide +kernel
theorem d_Mi_init_17 : decode cc_Mi_init 17 = .ok (.putfield 15, 3) := by decide +kernel
theorem d_Mi_init_20 : decode cc_Mi_init 20 = .ok (.aload_n 0, 1) := by decide +kernel
theorem d_Mi_init_21 : decode cc_Mi_init 21 = .ok (.iconst 0, 1) := by decide +kernel
theorem d_Mi_init_22 : decode cc_Mi_init 22 = .ok (.putfield 18, 3) := by decide +kernel
theorem d_Mi_init_25 : decode cc_Mi_init 25 = .ok (.return_, 1) := by decide +kernel
theorem d_Mi_add_0 : decode cc_Mi_add 0 = .ok (.aload_n 0, 1) := by decide +kernel
theorem d_Mi_add_1 : decode cc_Mi_add 1 = .ok (.getfield 18, 3) := by decide +kernel
theorem d_Mi_add_4 : decode cc_Mi_add 4 = .ok (.bipush 100, 2) := by decide +kernel
theorem d_Mi_add_6 : decode cc_Mi_add 6 = .ok (.if_icmp .ge 33, 3) := by decide +kernel
theorem d_Mi_add_9 : decode cc_Mi_add 9 = .ok (.aload_n 0, 1) := by decide +kernel
theorem d_Mi_add_10 : decode cc_Mi_add 10 = .ok (.getfield 9, 3) := by decide +kernel
theorem d_Mi_add_13 : decode cc_Mi_add 13 = .ok (.aload_n 0, 1) := by decide +kernel
theorem d_Mi_add_14 : decode cc_Mi_add 14 = .ok (.getfield 18, 3) := by decide +kernel
theorem d_Mi_add_17 : decode cc_Mi_add 17 = .ok (.iload_n 1, 1) := by decide +kernel
theorem d_Mi_add_18 : decode cc_Mi_add 18 = .ok (.iastore, 1) := by decide +kernel
theorem d_Mi_add_19 : decode cc_Mi_add 19 = .ok (.aload_n 0, 1) := by decide +kernel
theorem d_Mi_add_20 : decode cc_Mi_add 20 = .ok (.getfield 15, 3) := by decide +kernel
theorem d_Mi_add_23 : decode cc_Mi_add 23 = .ok (.aload_n 0, 1) := by decide +kernel
theorem d_Mi_add_24 : decode cc_Mi_add 24 = .ok (.getfield 18, 3) := by decide +kernel
theorem d_Mi_add_27 : decode cc_Mi_add 27 = .ok (.iload_n 2, 1) := by decide +kernel
theorem d_Mi_add_28 : decode cc_Mi_add 28 = .ok (.iastore, 1) := by decide +kernel
theorem d_Mi_add_29 : decode cc_Mi_add 29 = .ok (.aload_n 0, 1) := by decide +kernel
theorem d_Mi_add_30 : decode cc_Mi_add 30 = .ok (.dup, 1) := by decide +kernel
theorem d_Mi_add_31 : decode cc_Mi_add 31 = .ok (.getfield 18, 3) := by decide +kernel
theorem d_Mi_add_34 : decode cc_Mi_add 34 = .ok (.iconst 1, 1) := by decide +kernel
theorem d_Mi_add_35 : decode cc_Mi_add 35 = .ok (.iadd, 1) := by decide +kernel
theorem d_Mi_add_36 : decode cc_Mi_add 36 = .ok (.putfield 18, 3) := by decide +kernel
theorem d_Mi_add_39 : decode cc_Mi_add 39 = .ok (.return_, 1) := by decide +kernel
theorem d_Ra_init_0 : decode cc_Ra_init 0 = .ok (.aload_n 0, 1) := by decide +kernel
theorem d_Ra_init_1 : decode cc_Ra_init 1 = .ok (.invokespecial 3, 3) := by decide +kernel
theorem d_Ra_init_4 : decode cc_Ra_init 4 = .ok (.aload_n 0, 1) := by decide +kernel
theorem d_Ra_init_5 : decode cc_Ra_init 5 = .ok (.bipush 24, 2) := by decide +kernel
theorem d_Ra_init_7 : decode cc_Ra_init 7 = .ok (.newarray .int, 2) := by decide +kernel
theorem d_Ra_init_9 : decode cc_Ra_init 9 = .ok (.putfield 9, 3) := by decide +kernel
theorem d_Ra_init_12 : decode cc_Ra_init 12 = .ok (.aload_n 0, 1) := by decide +kernel
theorem d_Ra_init_13 : decode cc_Ra_init 13 = .ok (.bipush 24, 2) := by decide +kernel
theorem d_Ra_init_15 : decode cc_Ra_init 15 = .ok (.newarray .int, 2) := by decide +kernel
theorem d_Ra_init_17 : decode cc_Ra_init 17 = .ok (.putfield 15, 3) := by decide +kernel
theorem d_Ra_init_20 : decode cc_Ra_init 20 = .ok (.aload_n 0, 1) := by decide +kernel
theorem d_Ra_init_21 : decode cc_Ra_init 21 = .ok (.bipush 24, 2) := by decide +kernel
theorem d_Ra_init_23 : decode cc_Ra_init 23 = .ok (.newarray .int, 2) := by decide +kernel
theorem d_Ra_init_25 : decode cc_Ra_init 25 = .ok (.putfield 18, 3) := by decide +kernel
theorem d_Ra_init_28 : decode cc_Ra_init 28 = .ok (.aload_n 0, 1) := by decide +kernel
theorem d_Ra_init_29 : decode cc_Ra_init 29 = .ok (.iconst 0, 1) := by decide +kernel
theorem d_Ra_init_30 : decode cc_Ra_init 30 = .ok (.putfield 21, 3) := by decide +kernel
theorem d_Ra_init_33 : decode cc_Ra_init 33 = .ok (.return_, 1) := by decide +kernel
theorem d_Ra_insert_0 : decode cc_Ra_insert 0 = .ok (.aload_n 0, 1) := by decide +kernel
theorem d_Ra_insert_1 : decode cc_Ra_insert 1 = .ok (.getfield 21, 3) := by decide +kernel
theorem d_Ra_insert_4 : decode cc_Ra_insert 4 = .ok (.bipush 24, 2) := by decide +kernel
theorem d_Ra_insert_6 : decode cc_Ra_insert 6 = .ok (.if_icmp .lt 4, 3) := by decide +kernel
theorem d_Ra_insert_9 : decode cc_Ra_insert 9 = .ok (.return_, 1) := by decide +kernel
theorem d_Ra_insert_10 : decode cc_Ra_insert 10 = .ok (.aload_n 0, 1) := by decide +kernel
theorem d_Ra_insert_11 : decode cc_Ra_insert 11 = .ok (.getfield 21, 3) := by decide +kernel
theorem d_Ra_insert_14 : decode cc_Ra_insert 14 = .ok (.istore 4, 2) := by decide +kernel
theorem d_Ra_insert_16 : decode cc_Ra_insert 16 = .ok (.iload 4, 2) := by decide +kernel
theorem d_Ra_insert_18 : decode cc_Ra_insert 18 = .ok (.ifCond .le 70, 3) := by decide +kernel
theorem d_Ra_insert_21 : decode cc_Ra_insert 21 = .ok (.aload_n 0, 1) := by decide +kernel
theorem d_Ra_insert_22 : decode cc_Ra_insert 22 = .ok (.iload_n 2, 1) := by decide +kernel
theorem d_Ra_insert_23 : decode cc_Ra_insert 23 = .ok (.iload_n 3, 1) := by decide +kernel
theorem d_Ra_insert_24 : decode cc_Ra_insert 24 = .ok (.iload 4, 2) := by decide +kernel
theorem d_Ra_insert_26 : decode cc_Ra_insert 26 = .ok (.iconst 1, 1) := by decide +kernel
theorem d_Ra_insert_27 : decode cc_Ra_insert 27 = .ok (.isub, 1) := by decide +kernel
theorem d_Ra_insert_28 : decode cc_Ra_insert 28 = .ok (.invokevirtual 25, 3) := by decide +kernel
theorem d_Ra_insert_31 : decode cc_Ra_insert 31 = .ok (.ifCond .eq 57, 3) := by decide +kernel
theorem d_Ra_insert_34 : decode cc_Ra_insert 34 = .ok (.aload_n 0, 1) := by decide +kernel
theorem d_Ra_insert_35 : decode cc_Ra_insert 35 = .ok (.getfield 9, 3) := by decide +kernel
theorem d_Ra_insert_38 : decode cc_Ra_insert 38 = .ok (.iload 4, 2) := by decide +kernel
theorem d_Ra_insert_40 : decode cc_Ra_insert 40 = .ok (.aload_n 0, 1) := by decide +kernel
theorem d_Ra_insert_41 : decode cc_Ra_insert 41 = .ok (.getfield 9, 3) := by decide +kernel
theorem d_Ra_insert_44 : decode cc_Ra_insert 44 = .ok (.iload 4, 2) := by decide +kernel
theorem d_Ra_insert_46 : decode cc_Ra_insert 46 = .ok (.iconst 1, 1) := by decide +kernel
theorem d_Ra_insert_47 : decode cc_Ra_insert 47 = .ok (.isub, 1) := by decide +kernel
theorem d_Ra_insert_48 : decode cc_Ra_insert 48 = .ok (.iaload, 1) := by decide +kernel
theorem d_Ra_insert_49 : decode cc_Ra_insert 49 = .ok (.iastore, 1) := by decide +kernel
theorem d_Ra_insert_50 : decode cc_Ra_insert 50 = .ok (.aload_n 0, 1) := by decide +kernel
theorem d_Ra_insert_51 : decode cc_Ra_insert 51 = .ok (.getfield 15, 3) := by decide +kernel
theorem d_Ra_insert_54 : decode cc_Ra_insert 54 = .ok (.iload 4, 2) := by decide +kernel
theorem d_Ra_insert_56 : decode cc_Ra_insert 56 = .ok (.aload_n 0, 1) := by decide +kernel
theorem d_Ra_insert_57 : decode cc_Ra_insert 57 = .ok (.getfield 15, 3) := by decide +kernel
theorem d_Ra_insert_60 : decode cc_Ra_insert 60 = .ok (.iload 4, 2) := by decide +kernel
theorem d_Ra_insert_62 : decode cc_Ra_insert 62 = .ok (.iconst 1, 1) := by decide +kernel
theorem d_Ra_insert_63 : decode cc_Ra_insert 63 = .ok (.isub, 1) := by decide +kernel
theorem d_Ra_insert_64 : decode cc_Ra_insert 64 = .ok (.iaload, 1) := by decide +kernel
theorem d_Ra_insert_65 : decode cc_Ra_insert 65 = .ok (.iastore, 1) := by decide +kernel
theorem d_Ra_insert_66 : decode cc_Ra_insert 66 = .ok (.aload_n 0, 1) := by decide +kernel
theorem d_Ra_insert_67 : decode cc_Ra_insert 67 = .ok (.getfield 18, 3) := by decide +kernel
theorem d_Ra_insert_70 : decode cc_Ra_insert 70 = .ok (.iload 4, 2) := by decide +kernel
theorem d_Ra_insert_72 : decode cc_Ra_insert 72 = .ok (.aload_n 0, 1) := by decide +kernel
theorem d_Ra_insert_73 : decode cc_Ra_insert 73 = .ok (.getfield 18, 3) := by decide +kernel
theorem d_Ra_insert_76 : decode cc_Ra_insert 76 = .ok (.iload 4, 2) := by decide +kernel
theorem d_Ra_insert_78 : decode cc_Ra_insert 78 = .ok (.iconst 1, 1) := by decide +kernel
theorem d_Ra_insert_79 : decode cc_Ra_insert 79 = .ok (.isub, 1) := by decide +kernel
theorem d_Ra_insert_80 : decode cc_Ra_insert 80 = .ok (.iaload, 1) := by decide +kernel
theorem d_Ra_insert_81 : decode cc_Ra_insert 81 = .ok (.iastore, 1) := by decide +kernel
theorem d_Ra_insert_82 : decode cc_Ra_insert 82 = .ok (.iinc 4 (-1), 3) := by decide +kernel
theorem d_Ra_insert_85 : decode cc_Ra_insert 85 = .ok (.goto (-69), 3) := by decide +kernel
theorem d_Ra_insert_88 : decode cc_Ra_insert 88 = .ok (.aload_n 0, 1) := by decide +kernel
theorem d_Ra_insert_89 : decode cc_Ra_insert 89 = .ok (.getfield 9, 3) := by decide +kernel
theorem d_Ra_insert_92 : decode cc_Ra_insert 92 = .ok (.iload 4, 2) := by decide +kernel
theorem d_Ra_insert_94 : decode cc_Ra_insert 94 = .ok (.iload_n 1, 1) := by decide +kernel
theorem d_Ra_insert_95 : decode cc_Ra_insert 95 = .ok (.iastore, 1) := by decide +kernel
theorem d_Ra_insert_96 : decode cc_Ra_insert 96 = .ok (.aload_n 0, 1) := by decide +kernel
theorem d_Ra_insert_97 : decode cc_Ra_insert 97 = .ok (.getfield 15, 3) := by decide +kernel
theorem d_Ra_insert_100 : decode cc_Ra_insert 100 = .ok (.iload 4, 2) := by decide +kernel
theorem d_Ra_insert_102 : decode cc_Ra_insert 102 = .ok (.iload_n 2, 1) := by decide +kernel
theorem d_Ra_insert_103 : decode cc_Ra_insert 103 = .ok (.iastore, 1) := by decide +kernel
theorem d_Ra_insert_104 : decode cc_Ra_insert 104 = .ok (.aload_n 0, 1) := by decide +kernel
theorem d_Ra_insert_105 : decode cc_Ra_insert 105 = .ok (.getfield 18, 3) := by decide +kernel
theorem d_Ra_insert_108 : decode cc_Ra_insert 108 = .ok (.iload 4, 2) := by decide +kernel
theorem d_Ra_insert_110 : decode cc_Ra_insert 110 = .ok (.iload_n 3, 1) := by decide +kernel
theorem d_Ra_insert_111 : decode cc_Ra_insert 111 = .ok (.iastore, 1) := by decide +kernel
theorem d_Ra_insert_112 : decode cc_Ra_insert 112 = .ok (.aload_n 0, 1) := by decide +kernel
theorem d_Ra_insert_113 : decode cc_Ra_insert 113 = .ok (.dup, 1) := by decide +kernel
theorem d_Ra_insert_114 : decode cc_Ra_insert 114 = .ok (.getfield 21, 3) := by decide +kernel
theorem d_Ra_insert_117 : decode cc_Ra_insert 117 = .ok (.iconst 1, 1) := by decide +kernel
theorem d_Ra_insert_118 : decode cc_Ra_insert 118 = .ok (.iadd, 1) := by decide +kernel
theorem d_Ra_insert_119 : decode cc_Ra_insert 119 = .ok (.putfield 21, 3) := by decide +kernel
theorem d_Ra_insert_122 : decode cc_Ra_insert 122 = .ok (.return_, 1) := by decide +kernel
theorem d_Ra_isGreater_0 : decode cc_Ra_isGreater 0 = .ok (.iload_n 1, 1) := by decide +kernel
theorem d_Ra_isGreater_1 : decode cc_Ra_isGreater 1 = .ok (.i2l, 1) := by decide +kernel
theorem d_Ra_isGreater_2 : decode cc_Ra_isGreater 2 = .ok (.aload_n 0, 1) := by decide +kernel
theorem d_Ra_isGreater_3 : decode cc_Ra_isGreater 3 = .ok (.getfield 18, 3) := by decide +kernel
theorem d_Ra_isGreater_6 : decode cc_Ra_isGreater 6 = .ok (.iload_n 3, 1) := by decide +kernel
theorem d_Ra_isGreater_7 : decode cc_Ra_isGreater 7 = .ok (.iaload, 1) := by decide +kernel
theorem d_Ra_isGreater_8 : decode cc_Ra_isGreater 8 = .ok (.i2l, 1) := by decide +kernel
theorem d_Ra_isGreater_9 : decode cc_Ra_isGreater 9 = .ok (.lmul, 1) := by decide +kernel
theorem d_Ra_isGreater_10 : decode cc_Ra_isGreater 10 = .ok (.aload_n 0, 1) := by decide +kernel
theorem d_Ra_isGreater_11 : decode cc_Ra_isGreater 11 = .ok (.getfield 15, 3) := by decide +kernel
theorem d_Ra_isGreater_14 : decode cc_Ra_isGreater 14 = .ok (.iload_n 3, 1) := by decide +kernel
theorem d_Ra_isGreater_15 : decode cc_Ra_isGreater 15 = .ok (.iaload, 1) := by decide +kernel
theorem d_Ra_isGreater_16 : decode cc_Ra_isGreater 16 = .ok (.i2l, 1) := by decide +kernel
theorem d_Ra_isGreater_17 : decode cc_Ra_isGreater 17 = .ok (.iload_n 2, 1) := by decide +kernel
theorem d_Ra_isGreater_18 : decode cc_Ra_isGreater 18 = .ok (.i2l, 1) := by decide +kernel
theorem d_Ra_isGreater_19 : decode cc_Ra_isGreater 19 = .ok (.lmul, 1) := by decide +kernel
theorem d_Ra_isGreater_20 : decode cc_Ra_isGreater 20 = .ok (.lcmp, 1) := by decide +kernel
theorem d_Ra_isGreater_21 : decode cc_Ra_isGreater 21 = .ok (.ifCond .le 7, 3) := by decide +kernel
theorem d_Ra_isGreater_24 : decode cc_Ra_isGreater 24 = .ok (.iconst 1, 1) := by decide +kernel
theorem d_Ra_isGreater_25 : decode cc_Ra_isGreater 25 = .ok (.goto 4, 3) := by decide +kernel
theorem d_Ra_isGreater_28 : decode cc_Ra_isGreater 28 = .ok (.iconst 0, 1) := by decide +kernel
theorem d_Ra_isGreater_29 : decode cc_Ra_isGreater 29 = .ok (.ireturn, 1) := by decide +kernel
theorem d_Se_init_0 : decode cc_Se_init 0 = .ok (.aload_n 0, 1) := by decide +kernel
theorem d_Se_init_1 : decode cc_Se_init 1 = .ok (.invokespecial 3, 3) := by decide +kernel
theorem d_Se_init_4 : decode cc_Se_init 4 = .ok (.aload_n 0, 1) := by decide +kernel
theorem d_Se_init_5 : decode cc_Se_init 5 = .ok (.bipush 24, 2) := by decide +kernel
theorem d_Se_init_7 : decode cc_Se_init 7 = .ok (.newarray .int, 2) := by decide +kernel
theorem d_Se_init_9 : decode cc_Se_init 9 = .ok (.putfield 9, 3) := by decide +kernel
theorem d_Se_init_12 : decode cc_Se_init 12 = .ok (.aload_n 0, 1) := by decide +kernel
theorem d_Se_init_13 : decode cc_Se_init 13 = .ok (.iconst 0, 1) := by decide +kernel
theorem d_Se_init_14 : decode cc_Se_init 14 = .ok (.putfield 15, 3) := by decide +kernel
theorem d_Se_init_17 : decode cc_Se_init 17 = .ok (.aload_n 0, 1) := by decide +kernel
theorem d_Se_init_18 : decode cc_Se_init 18 = .ok (.iconst 0, 1) := by decide +kernel
theorem d_Se_init_19 : decode cc_Se_init 19 = .ok (.putfield 19, 3) := by decide +kernel
theorem d_Se_init_22 : decode cc_Se_init 22 = .ok (.aload_n 0, 1) := by decide +kernel
theorem d_Se_init_23 : decode cc_Se_init 23 = .ok (.bipush 20, 2) := by decide +kernel
theorem d_Se_init_25 : decode cc_Se_init 25 = .ok (.newarray .boolean, 2) := by decide +kernel
theorem d_Se_init_27 : decode cc_Se_init 27 = .ok (.putfield 22, 3) := by decide +kernel
theorem d_Se_init_30 : decode cc_Se_init 30 = .ok (.return_, 1) := by decide +kernel
theorem d_Se_startNext_0 : decode cc_Se_startNext 0 = .ok (.aload_n 0, 1) := by decide +kernel
theorem d_Se_startNext_1 : decode cc_Se_startNext 1 = .ok (.iconst 0, 1) := by decide +kernel
theorem d_Se_startNext_2 : decode cc_Se_startNext 2 = .ok (.putfield 15, 3) := by decide +kernel
theorem d_Se_startNext_5 : decode cc_Se_startNext 5 = .ok (.aload_n 0, 1) := by decide +kernel
theorem d_Se_startNext_6 : decode cc_Se_startNext 6 = .ok (.dup, 1) := by decide +kernel
theorem d_Se_startNext_7 : decode cc_Se_startNext 7 = .ok (.getfield 19, 3) := by decide +kernel
theorem d_Se_startNext_10 : decode cc_Se_startNext 10 = .ok (.iconst 1, 1) := by decide +kernel
theorem d_Se_startNext_11 : decode cc_Se_startNext 11 = .ok (.iadd, 1) := by decide +kernel
theorem d_Se_startNext_12 : decode cc_Se_startNext 12 = .ok (.putfield 19, 3) := by decide +kernel
theorem d_Se_startNext_15 : decode cc_Se_startNext 15 = .ok (.return_, 1) := by decide +kernel
theorem d_Se_add_0 : decode cc_Se_add 0 = .ok (.aload_n 0, 1) := by decide +kernel
theorem d_Se_add_1 : decode cc_Se_add 1 = .ok (.getfield 15, 3) := by decide +kernel
theorem d_Se_add_4 : decode cc_Se_add 4 = .ok (.bipush 24, 2) := by decide +kernel
theorem d_Se_add_6 : decode cc_Se_add 6 = .ok (.if_icmp .ge 23, 3) := by decide +kernel
theorem d_Se_add_9 : decode cc_Se_add 9 = .ok (.aload_n 0, 1) := by decide +kernel
theorem d_Se_add_10 : decode cc_Se_add 10 = .ok (.getfield 9, 3) := by decide +kernel
theorem d_Se_add_13 : decode cc_Se_add 13 = .ok (.aload_n 0, 1) := by decide +kernel
theorem d_Se_add_14 : decode cc_Se_add 14 = .ok (.getfield 15, 3) := by decide +kernel
theorem d_Se_add_17 : decode cc_Se_add 17 = .ok (.iload_n 1, 1) := by decide +kernel
theorem d_Se_add_18 : decode cc_Se_add 18 = .ok (.iastore, 1) := by decide +kernel
theorem d_Se_add_19 : decode cc_Se_add 19 = .ok (.aload_n 0, 1) := by decide +kernel
theorem d_Se_add_20 : decode cc_Se_add 20 = .ok (.dup, 1) := by decide +kernel
theorem d_Se_add_21 : decode cc_Se_add 21 = .ok (.getfield 15, 3) := by decide +kernel
theorem d_Se_add_24 : decode cc_Se_add 24 = .ok (.iconst 1, 1) := by decide +kernel
theorem d_Se_add_25 : decode cc_Se_add 25 = .ok (.iadd, 1) := by decide +kernel
theorem d_Se_add_26 : decode cc_Se_add 26 = .ok (.putfield 15, 3) := by decide +kernel
theorem d_Se_add_29 : decode cc_Se_add 29 = .ok (.return_, 1) := by decide +kernel
theorem d_Se_holds_0 : decode cc_Se_holds 0 = .ok (.iconst 0, 1) := by decide +kernel
theorem d_Se_holds_1 : decode cc_Se_holds 1 = .ok (.istore_n 2, 1) := by decide +kernel
theorem d_Se_holds_2 : decode cc_Se_holds 2 = .ok (.iload_n 2, 1) := by decide +kernel
theorem d_Se_holds_3 : decode cc_Se_holds 3 = .ok (.aload_n 0, 1) := by decide +kernel
theorem d_Se_holds_4 : decode cc_Se_holds 4 = .ok (.getfield 15, 3) := by decide +kernel
theorem d_Se_holds_7 : decode cc_Se_holds 7 = .ok (.if_icmp .ge 21, 3) := by decide +kernel
theorem d_Se_holds_10 : decode cc_Se_holds 10 = .ok (.aload_n 0, 1) := by decide +kernel
theorem d_Se_holds_11 : decode cc_Se_holds 11 = .ok (.getfield 9, 3) := by decide +kernel
theorem d_Se_holds_14 : decode cc_Se_holds 14 = .ok (.iload_n 2, 1) := by decide +kernel
theorem d_Se_holds_15 : decode cc_Se_holds 15 = .ok (.iaload, 1) := by decide +kernel
theorem d_Se_holds_16 : decode cc_Se_holds 16 = .ok (.iload_n 1, 1) := by decide +kernel
theorem d_Se_holds_17 : decode cc_Se_holds 17 = .ok (.if_icmp .ne 5, 3) := by decide +kernel
theorem d_Se_holds_20 : decode cc_Se_holds 20 = .ok (.iconst 1, 1) := by decide +kernel
theorem d_Se_holds_21 : decode cc_Se_holds 21 = .ok (.ireturn, 1) := by decide +kernel
theorem d_Se_holds_22 : decode cc_Se_holds 22 = .ok (.iinc 2 1, 3) := by decide +kernel
theorem d_Se_holds_25 : decode cc_Se_holds 25 = .ok (.goto (-23), 3) := by decide +kernel
theorem d_Se_holds_28 : decode cc_Se_holds 28 = .ok (.iconst 0, 1) := by decide +kernel
theorem d_Se_holds_29 : decode cc_Se_holds 29 = .ok (.ireturn, 1) := by decide +kernel
theorem d_So_init_0 : decode cc_So_init 0 = .ok (.aload_n 0, 1) := by decide +kernel
theorem d_So_init_1 : decode cc_So_init 1 = .ok (.invokespecial 3, 3) := by decide +kernel
theorem d_So_init_4 : decode cc_So_init 4 = .ok (.aload_n 0, 1) := by decide +kernel
theorem d_So_init_5 : decode cc_So_init 5 = .ok (.bipush 20, 2) := by decide +kernel
theorem d_So_init_7 : decode cc_So_init 7 = .ok (.newarray .long, 2) := by decide +kernel
theorem d_So_init_9 : decode cc_So_init 9 = .ok (.putfield 9, 3) := by decide +kernel
theorem d_So_init_12 : decode cc_So_init 12 = .ok (.aload_n 0, 1) := by decide +kernel
theorem d_So_init_13 : decode cc_So_init 13 = .ok (.bipush 20, 2) := by decide +kernel
theorem d_So_init_15 : decode cc_So_init 15 = .ok (.newarray .boolean, 2) := by decide +kernel
theorem d_So_init_17 : decode cc_So_init 17 = .ok (.putfield 15, 3) := by decide +kernel
theorem d_So_init_20 : decode cc_So_init 20 = .ok (.aload_n 0, 1) := by decide +kernel
theorem d_So_init_21 : decode cc_So_init 21 = .ok (.iconst 0, 1) := by decide +kernel
theorem d_So_init_22 : decode cc_So_init 22 = .ok (.putfield 19, 3) := by decide +kernel
theorem d_So_init_25 : decode cc_So_init 25 = .ok (.aload_n 0, 1) := by decide +kernel
theorem d_So_init_26 : decode cc_So_init 26 = .ok (.bipush 40, 2) := by decide +kernel
theorem d_So_init_28 : decode cc_So_init 28 = .ok (.newarray .long, 2) := by decide +kernel
theorem d_So_init_30 : decode cc_So_init 30 = .ok (.putfield 23, 3) := by decide +kernel
theorem d_So_init_33 : decode cc_So_init 33 = .ok (.aload_n 0, 1) := by decide +kernel
theorem d_So_init_34 : decode cc_So_init 34 = .ok (.bipush 40, 2) := by decide +kernel
theorem d_So_init_36 : decode cc_So_init 36 = .ok (.newarray .int, 2) := by decide +kernel
theorem d_So_init_38 : decode cc_So_init 38 = .ok (.putfield 26, 3) := by decide +kernel
theorem d_So_init_41 : decode cc_So_init 41 = .ok (.aload_n 0, 1) := by decide +kernel
theorem d_So_init_42 : decode cc_So_init 42 = .ok (.iconst 0, 1) := by decide +kernel
theorem d_So_init_43 : decode cc_So_init 43 = .ok (.putfield 30, 3) := by decide +kernel
theorem d_So_init_46 : decode cc_So_init 46 = .ok (.return_, 1) := by decide +kernel
theorem d_So_hasFile_0 : decode cc_So_hasFile 0 = .ok (.iload_n 1, 1) := by decide +kernel
theorem d_So_hasFile_1 : decode cc_So_hasFile 1 = .ok (.ifCond .lt 15, 3) := by decide +kernel
theorem d_So_hasFile_4 : decode cc_So_hasFile 4 = .ok (.iload_n 1, 1) := by decide +kernel
theorem d_So_hasFile_5 : decode cc_So_hasFile 5 = .ok (.aload_n 0, 1) := by decide +kernel
theorem d_So_hasFile_6 : decode cc_So_hasFile 6 = .ok (.getfield 19, 3) := by decide +kernel
theorem d_So_hasFile_9 : decode cc_So_hasFile 9 = .ok (.if_icmp .ge 7, 3) := by decide +kernel
theorem d_So_hasFile_12 : decode cc_So_hasFile 12 = .ok (.iconst 1, 1) := by decide +kernel
theorem d_So_hasFile_13 : decode cc_So_hasFile 13 = .ok (.goto 4, 3) := by decide +kernel
theorem d_So_hasFile_16 : decode cc_So_hasFile 16 = .ok (.iconst 0, 1) := by decide +kernel
theorem d_So_hasFile_17 : decode cc_So_hasFile 17 = .ok (.ireturn, 1) := by decide +kernel
theorem d_So_hasFunction_0 : decode cc_So_hasFunction 0 = .ok (.iload_n 1, 1) := by decide +kernel
theorem d_So_hasFunction_1 : decode cc_So_hasFunction 1 = .ok (.ifCond .lt 15, 3) := by decide +kernel
theorem d_So_hasFunction_4 : decode cc_So_hasFunction 4 = .ok (.iload_n 1, 1) := by decide +kernel
theorem d_So_hasFunction_5 : decode cc_So_hasFunction 5 = .ok (.aload_n 0, 1) := by decide +kernel
theorem d_So_hasFunction_6 : decode cc_So_hasFunction 6 = .ok (.getfield 30, 3) := by decide +kernel
theorem d_So_hasFunction_9 : decode cc_So_hasFunction 9 = .ok (.if_icmp .ge 7, 3) := by decide +kernel
theorem d_So_hasFunction_12 : decode cc_So_hasFunction 12 = .ok (.iconst 1, 1) := by decide +kernel
theorem d_So_hasFunction_13 : decode cc_So_hasFunction 13 = .ok (.goto 4, 3) := by decide +kernel
theorem d_So_hasFunction_16 : decode cc_So_hasFunction 16 = .ok (.iconst 0, 1) := by decide +kernel
theorem d_So_hasFunction_17 : decode cc_So_hasFunction 17 = .ok (.ireturn, 1) := by decide +kernel
theorem d_So_addFile_0 : decode cc_So_addFile 0 = .ok (.aload_n 0, 1) := by decide +kernel
theorem d_So_addFile_1 : decode cc_So_addFile 1 = .ok (.getfield 19, 3) := by decide +kernel
theorem d_So_addFile_4 : decode cc_So_addFile 4 = .ok (.bipush 20, 2) := by decide +kernel
theorem d_So_addFile_6 : decode cc_So_addFile 6 = .ok (.if_icmp .lt 5, 3) := by decide +kernel
theorem d_So_addFile_9 : decode cc_So_addFile 9 = .ok (.iconst (-1), 1) := by decide +kernel
theorem d_So_addFile_10 : decode cc_So_addFile 10 = .ok (.ireturn, 1) := by decide +kernel
theorem d_So_addFile_11 : decode cc_So_addFile 11 = .ok (.aload_n 0, 1) := by decide +kernel
theorem d_So_addFile_12 : decode cc_So_addFile 12 = .ok (.getfield 9, 3) := by decide +kernel
theorem d_So_addFile_15 : decode cc_So_addFile 15 = .ok (.aload_n 0, 1) := by decide +kernel
theorem d_So_addFile_16 : decode cc_So_addFile 16 = .ok (.getfield 19, 3) := by decide +kernel
theorem d_So_addFile_19 : decode cc_So_addFile 19 = .ok (.lload_n 1, 1) := by decide +kernel
theorem d_So_addFile_20 : decode cc_So_addFile 20 = .ok (.lastore, 1) := by decide +kernel
theorem d_So_addFile_21 : decode cc_So_addFile 21 = .ok (.aload_n 0, 1) := by decide +kernel
theorem d_So_addFile_22 : decode cc_So_addFile 22 = .ok (.getfield 15, 3) := by decide +kernel
theorem d_So_addFile_25 : decode cc_So_addFile 25 = .ok (.aload_n 0, 1) := by decide +kernel
theorem d_So_addFile_26 : decode cc_So_addFile 26 = .ok (.getfield 19, 3) := by decide +kernel
theorem d_So_addFile_29 : decode cc_So_addFile 29 = .ok (.iconst 1, 1) := by decide +kernel
theorem d_So_addFile_30 : decode cc_So_addFile 30 = .ok (.bastore, 1) := by decide +kernel
theorem d_So_addFile_31 : decode cc_So_addFile 31 = .ok (.aload_n 0, 1) := by decide +kernel
theorem d_So_addFile_32 : decode cc_So_addFile 32 = .ok (.dup, 1) := by decide +kernel
theorem d_So_addFile_33 : decode cc_So_addFile 33 = .ok (.getfield 19, 3) := by decide +kernel
theorem d_So_addFile_36 : decode cc_So_addFile 36 = .ok (.iconst 1, 1) := by decide +kernel
theorem d_So_addFile_37 : decode cc_So_addFile 37 = .ok (.iadd, 1) := by decide +kernel
theorem d_So_addFile_38 : decode cc_So_addFile 38 = .ok (.putfield 19, 3) := by decide +kernel
theorem d_So_addFile_41 : decode cc_So_addFile 41 = .ok (.aload_n 0, 1) := by decide +kernel
theorem d_So_addFile_42 : decode cc_So_addFile 42 = .ok (.getfield 19, 3) := by decide +kernel
theorem d_So_addFile_45 : decode cc_So_addFile 45 = .ok (.iconst 1, 1) := by decide +kernel
theorem d_So_addFile_46 : decode cc_So_addFile 46 = .ok (.isub, 1) := by decide +kernel
theorem d_So_addFile_47 : decode cc_So_addFile 47 = .ok (.ireturn, 1) := by decide +kernel
theorem d_So_addFunction_0 : decode cc_So_addFunction 0 = .ok (.aload_n 0, 1) := by decide +kernel
theorem d_So_addFunction_1 : decode cc_So_addFunction 1 = .ok (.getfield 30, 3) := by decide +kernel
theorem d_So_addFunction_4 : decode cc_So_addFunction 4 = .ok (.bipush 40, 2) := by decide +kernel
theorem d_So_addFunction_6 : decode cc_So_addFunction 6 = .ok (.if_icmp .ge 11, 3) := by decide +kernel
theorem d_So_addFunction_9 : decode cc_So_addFunction 9 = .ok (.aload_n 0, 1) := by decide +kernel
theorem d_So_addFunction_10 : decode cc_So_addFunction 10 = .ok (.iload_n 1, 1) := by decide +kernel
theorem d_So_addFunction_11 : decode cc_So_addFunction 11 = .ok (.invokevirtual 33, 3) := by decide +kernel
theorem d_So_addFunction_14 : decode cc_So_addFunction 14 = .ok (.ifCond .ne 5, 3) := by decide +kernel
theorem d_So_addFunction_17 : decode cc_So_addFunction 17 = .ok (.iconst (-1), 1) := by decide +kernel
theorem d_So_addFunction_18 : decode cc_So_addFunction 18 = .ok (.ireturn, 1) := by decide +kernel
theorem d_So_addFunction_19 : decode cc_So_addFunction 19 = .ok (.aload_n 0, 1) := by decide +kernel
theorem d_So_addFunction_20 : decode cc_So_addFunction 20 = .ok (.getfield 23, 3) := by decide +kernel
theorem d_So_addFunction_23 : decode cc_So_addFunction 23 = .ok (.aload_n 0, 1) := by decide +kernel
theorem d_So_addFunction_24 : decode cc_So_addFunction 24 = .ok (.getfield 30, 3) := by decide +kernel
theorem d_So_addFunction_27 : decode cc_So_addFunction 27 = .ok (.lload_n 2, 1) := by decide +kernel
theorem d_So_addFunction_28 : decode cc_So_addFunction 28 = .ok (.lastore, 1) := by decide +kernel
theorem d_So_addFunction_29 : decode cc_So_addFunction 29 = .ok (.aload_n 0, 1) := by decide +kernel
theorem d_So_addFunction_30 : decode cc_So_addFunction 30 = .ok (.getfield 26, 3) := by decide +kernel
theorem d_So_addFunction_33 : decode cc_So_addFunction 33 = .ok (.aload_n 0, 1) := by decide +kernel
theorem d_So_addFunction_34 : decode cc_So_addFunction 34 = .ok (.getfield 30, 3) := by decide +kernel
theorem d_So_addFunction_37 : decode cc_So_addFunction 37 = .ok (.iload_n 1, 1) := by decide +kernel
theorem d_So_addFunction_38 : decode cc_So_addFunction 38 = .ok (.iastore, 1) := by decide +kernel
theorem d_So_addFunction_39 : decode cc_So_addFunction 39 = .ok (.aload_n 0, 1) := by decide +kernel
theorem d_So_addFunction_40 : decode cc_So_addFunction 40 = .ok (.getfield 15, 3) := by decide +kernel
theorem d_So_addFunction_43 : decode cc_So_addFunction 43 = .ok (.iload_n 1, 1) := by decide +kernel
theorem d_So_addFunction_44 : decode cc_So_addFunction 44 = .ok (.iconst 1, 1) := by decide +kernel
theorem d_So_addFunction_45 : decode cc_So_addFunction 45 = .ok (.bastore, 1) := by decide +kernel
theorem d_So_addFunction_46 : decode cc_So_addFunction 46 = .ok (.aload_n 0, 1) := by decide +kernel
theorem d_So_addFunction_47 : decode cc_So_addFunction 47 = .ok (.dup, 1) := by decide +kernel
theorem d_So_addFunction_48 : decode cc_So_addFunction 48 = .ok (.getfield 30, 3) := by decide +kernel
theorem d_So_addFunction_51 : decode cc_So_addFunction 51 = .ok (.iconst 1, 1) := by decide +kernel
theorem d_So_addFunction_52 : decode cc_So_addFunction 52 = .ok (.iadd, 1) := by decide +kernel
theorem d_So_addFunction_53 : decode cc_So_addFunction 53 = .ok (.putfield 30, 3) := by decide +kernel
theorem d_So_addFunction_56 : decode cc_So_addFunction 56 = .ok (.aload_n 0, 1) := by decide +kernel
theorem d_So_addFunction_57 : decode cc_So_addFunction 57 = .ok (.getfield 30, 3) := by decide +kernel
theorem d_So_addFunction_60 : decode cc_So_addFunction 60 = .ok (.iconst 1, 1) := by decide +kernel
theorem d_So_addFunction_61 : decode cc_So_addFunction 61 = .ok (.isub, 1) := by decide +kernel
theorem d_So_addFunction_62 : decode cc_So_addFunction 62 = .ok (.ireturn, 1) := by decide +kernel
theorem d_So_putRest_0 : decode cc_So_putRest 0 = .ok (.aload_n 0, 1) := by decide +kernel
theorem d_So_putRest_1 : decode cc_So_putRest 1 = .ok (.iload_n 1, 1) := by decide +kernel
theorem d_So_putRest_2 : decode cc_So_putRest 2 = .ok (.invokevirtual 33, 3) := by decide +kernel
theorem d_So_putRest_5 : decode cc_So_putRest 5 = .ok (.ifCond .ne 5, 3) := by decide +kernel
theorem d_So_putRest_8 : decode cc_So_putRest 8 = .ok (.iconst 0, 1) := by decide +kernel
theorem d_So_putRest_9 : decode cc_So_putRest 9 = .ok (.ireturn, 1) := by decide +kernel
theorem d_So_putRest_10 : decode cc_So_putRest 10 = .ok (.aload_n 0, 1) := by decide +kernel
theorem d_So_putRest_11 : decode cc_So_putRest 11 = .ok (.getfield 9, 3) := by decide +kernel
theorem d_So_putRest_14 : decode cc_So_putRest 14 = .ok (.iload_n 1, 1) := by decide +kernel
theorem d_So_putRest_15 : decode cc_So_putRest 15 = .ok (.laload, 1) := by decide +kernel
theorem d_So_putRest_16 : decode cc_So_putRest 16 = .ok (.lload_n 2, 1) := by decide +kernel
theorem d_So_putRest_17 : decode cc_So_putRest 17 = .ok (.lcmp, 1) := by decide +kernel
theorem d_So_putRest_18 : decode cc_So_putRest 18 = .ok (.ifCond .eq 17, 3) := by decide +kernel
theorem d_So_putRest_21 : decode cc_So_putRest 21 = .ok (.aload_n 0, 1) := by decide +kernel
theorem d_So_putRest_22 : decode cc_So_putRest 22 = .ok (.getfield 9, 3) := by decide +kernel
theorem d_So_putRest_25 : decode cc_So_putRest 25 = .ok (.iload_n 1, 1) := by decide +kernel
theorem d_So_putRest_26 : decode cc_So_putRest 26 = .ok (.lload_n 2, 1) := by decide +kernel
theorem d_So_putRest_27 : decode cc_So_putRest 27 = .ok (.lastore, 1) := by decide +kernel
theorem d_So_putRest_28 : decode cc_So_putRest 28 = .ok (.aload_n 0, 1) := by decide +kernel
theorem d_So_putRest_29 : decode cc_So_putRest 29 = .ok (.getfield 15, 3) := by decide +kernel
theorem d_So_putRest_32 : decode cc_So_putRest 32 = .ok (.iload_n 1, 1) := by decide +kernel
theorem d_So_putRest_33 : decode cc_So_putRest 33 = .ok (.iconst 1, 1) := by decide +kernel
theorem d_So_putRest_34 : decode cc_So_putRest 34 = .ok (.bastore, 1) := by decide +kernel
theorem d_So_putRest_35 : decode cc_So_putRest 35 = .ok (.iconst 1, 1) := by decide +kernel
theorem d_So_putRest_36 : decode cc_So_putRest 36 = .ok (.ireturn, 1) := by decide +kernel
theorem d_So_putFunction_0 : decode cc_So_putFunction 0 = .ok (.aload_n 0, 1) := by decide +kernel
theorem d_So_putFunction_1 : decode cc_So_putFunction 1 = .ok (.iload_n 1, 1) := by decide +kernel
theorem d_So_putFunction_2 : decode cc_So_putFunction 2 = .ok (.invokevirtual 37, 3) := by decide +kernel
theorem d_So_putFunction_5 : decode cc_So_putFunction 5 = .ok (.ifCond .ne 5, 3) := by decide +kernel
theorem d_So_putFunction_8 : decode cc_So_putFunction 8 = .ok (.iconst 0, 1) := by decide +kernel
theorem d_So_putFunction_9 : decode cc_So_putFunction 9 = .ok (.ireturn, 1) := by decide +kernel
theorem d_So_putFunction_10 : decode cc_So_putFunction 10 = .ok (.aload_n 0, 1) := by decide +kernel
theorem d_So_putFunction_11 : decode cc_So_putFunction 11 = .ok (.getfield 23, 3) := by decide +kernel
theorem d_So_putFunction_14 : decode cc_So_putFunction 14 = .ok (.iload_n 1, 1) := by decide +kernel
theorem d_So_putFunction_15 : decode cc_So_putFunction 15 = .ok (.laload, 1) := by decide +kernel
theorem d_So_putFunction_16 : decode cc_So_putFunction 16 = .ok (.lload_n 2, 1) := by decide +kernel
theorem d_So_putFunction_17 : decode cc_So_putFunction 17 = .ok (.lcmp, 1) := by decide +kernel
theorem d_So_putFunction_18 : decode cc_So_putFunction 18 = .ok (.ifCond .eq 22, 3) := by decide +kernel
theorem d_So_putFunction_21 : decode cc_So_putFunction 21 = .ok (.aload_n 0, 1) := by decide +kernel
theorem d_So_putFunction_22 : decode cc_So_putFunction 22 = .ok (.getfield 23, 3) := by decide +kernel
theorem d_So_putFunction_25 : decode cc_So_putFunction 25 = .ok (.iload_n 1, 1) := by decide +kernel
theorem d_So_putFunction_26 : decode cc_So_putFunction 26 = .ok (.lload_n 2, 1) := by decide +kernel
theorem d_So_putFunction_27 : decode cc_So_putFunction 27 = .ok (.lastore, 1) := by decide +kernel
theorem d_So_putFunction_28 : decode cc_So_putFunction 28 = .ok (.aload_n 0, 1) := by decide +kernel
theorem d_So_putFunction_29 : decode cc_So_putFunction 29 = .ok (.getfield 15, 3) := by decide +kernel
theorem d_So_putFunction_32 : decode cc_So_putFunction 32 = .ok (.aload_n 0, 1) := by decide +kernel
theorem d_So_putFunction_33 : decode cc_So_putFunction 33 = .ok (.getfield 26, 3) := by decide +kernel
theorem d_So_putFunction_36 : decode cc_So_putFunction 36 = .ok (.iload_n 1, 1) := by decide +kernel
theorem d_So_putFunction_37 : decode cc_So_putFunction 37 = .ok (.iaload, 1) := by decide +kernel
theorem d_So_putFunction_38 : decode cc_So_putFunction 38 = .ok (.iconst 1, 1) := by decide +kernel
theorem d_So_putFunction_39 : decode cc_So_putFunction 39 = .ok (.bastore, 1) := by decide +kernel
theorem d_So_putFunction_40 : decode cc_So_putFunction 40 = .ok (.iconst 1, 1) := by decide +kernel
theorem d_So_putFunction_41 : decode cc_So_putFunction 41 = .ok (.ireturn, 1) := by decide +kernel
theorem d_So_handOverTouched_0 : decode cc_So_handOverTouched 0 = .ok (.iconst 0, 1) := by decide +kernel
theorem d_So_handOverTouched_1 : decode cc_So_handOverTouched 1 = .ok (.istore_n 2, 1) := by decide +kernel
theorem d_So_handOverTouched_2 : decode cc_So_handOverTouched 2 = .ok (.iload_n 2, 1) := by decide +kernel
theorem d_So_handOverTouched_3 : decode cc_So_handOverTouched 3 = .ok (.bipush 20, 2) := by decide +kernel
theorem d_So_handOverTouched_5 : decode cc_So_handOverTouched 5 = .ok (.if_icmp .ge 25, 3) := by decide +kernel
theorem d_So_handOverTouched_8 : decode cc_So_handOverTouched 8 = .ok (.aload_n 1, 1) := by decide +kernel
theorem d_So_handOverTouched_9 : decode cc_So_handOverTouched 9 = .ok (.iload_n 2, 1) := by decide +kernel
theorem d_So_handOverTouched_10 : decode cc_So_handOverTouched 10 = .ok (.aload_n 0, 1) := by decide +kernel
theorem d_So_handOverTouched_11 : decode cc_So_handOverTouched 11 = .ok (.getfield 15, 3) := by decide +kernel
theorem d_So_handOverTouched_14 : decode cc_So_handOverTouched 14 = .ok (.iload_n 2, 1) := by decide +kernel
theorem d_So_handOverTouched_15 : decode cc_So_handOverTouched 15 = .ok (.baload, 1) := by decide +kernel
theorem d_So_handOverTouched_16 : decode cc_So_handOverTouched 16 = .ok (.bastore, 1) := by decide +kernel
theorem d_So_handOverTouched_17 : decode cc_So_handOverTouched 17 = .ok (.aload_n 0, 1) := by decide +kernel
theorem d_So_handOverTouched_18 : decode cc_So_handOverTouched 18 = .ok (.getfield 15, 3) := by decide +kernel
theorem d_So_handOverTouched_21 : decode cc_So_handOverTouched 21 = .ok (.iload_n 2, 1) := by decide +kernel
theorem d_So_handOverTouched_22 : decode cc_So_handOverTouched 22 = .ok (.iconst 0, 1) := by decide +kernel
theorem d_So_handOverTouched_23 : decode cc_So_handOverTouched 23 = .ok (.bastore, 1) := by decide +kernel
theorem d_So_handOverTouched_24 : decode cc_So_handOverTouched 24 = .ok (.iinc 2 1, 3) := by decide +kernel
theorem d_So_handOverTouched_27 : decode cc_So_handOverTouched 27 = .ok (.goto (-25), 3) := by decide +kernel
theorem d_So_handOverTouched_30 : decode cc_So_handOverTouched 30 = .ok (.return_, 1) := by decide +kernel
theorem d_Tr_init_0 : decode cc_Tr_init 0 = .ok (.aload_n 0, 1) := by decide +kernel
theorem d_Tr_init_1 : decode cc_Tr_init 1 = .ok (.invokespecial 3, 3) := by decide +kernel
theorem d_Tr_init_4 : decode cc_Tr_init 4 = .ok (.aload_n 0, 1) := by decide +kernel
theorem d_Tr_init_5 : decode cc_Tr_init 5 = .ok (.lconst 0, 1) := by decide +kernel
theorem d_Tr_init_6 : decode cc_Tr_init 6 = .ok (.putfield 9, 3) := by decide +kernel
theorem d_Tr_init_9 : decode cc_Tr_init 9 = .ok (.aload_n 0, 1) := by decide +kernel
theorem d_Tr_init_10 : decode cc_Tr_init 10 = .ok (.lconst 0, 1) := by decide +kernel
theorem d_Tr_init_11 : decode cc_Tr_init 11 = .ok (.putfield 15, 3) := by decide +kernel
theorem d_Tr_init_14 : decode cc_Tr_init 14 = .ok (.aload_n 0, 1) := by decide +kernel
theorem d_Tr_init_15 : decode cc_Tr_init 15 = .ok (.iconst 0, 1) := by decide +kernel
theorem d_Tr_init_16 : decode cc_Tr_init 16 = .ok (.putfield 18, 3) := by decide +kernel
theorem d_Tr_init_19 : decode cc_Tr_init 19 = .ok (.aload_n 0, 1) := by decide +kernel
theorem d_Tr_init_20 : decode cc_Tr_init 20 = .ok (.lconst 0, 1) := by decide +kernel
theorem d_Tr_init_21 : decode cc_Tr_init 21 = .ok (.putfield 22, 3) := by decide +kernel
theorem d_Tr_init_24 : decode cc_Tr_init 24 = .ok (.aload_n 0, 1) := by decide +kernel
theorem d_Tr_init_25 : decode cc_Tr_init 25 = .ok (.lconst 0, 1) := by decide +kernel
theorem d_Tr_init_26 : decode cc_Tr_init 26 = .ok (.putfield 25, 3) := by decide +kernel
theorem d_Tr_init_29 : decode cc_Tr_init 29 = .ok (.aload_n 0, 1) := by decide +kernel
theorem d_Tr_init_30 : decode cc_Tr_init 30 = .ok (.bipush 20, 2) := by decide +kernel
theorem d_Tr_init_32 : decode cc_Tr_init 32 = .ok (.newarray .long, 2) := by decide +kernel
theorem d_Tr_init_34 : decode cc_Tr_init 34 = .ok (.putfield 28, 3) := by decide +kernel
theorem d_Tr_init_37 : decode cc_Tr_init 37 = .ok (.aload_n 0, 1) := by decide +kernel
theorem d_Tr_init_38 : decode cc_Tr_init 38 = .ok (.bipush 40, 2) := by decide +kernel
theorem d_Tr_init_40 : decode cc_Tr_init 40 = .ok (.newarray .long, 2) := by decide +kernel
theorem d_Tr_init_42 : decode cc_Tr_init 42 = .ok (.putfield 32, 3) := by decide +kernel
theorem d_Tr_init_45 : decode cc_Tr_init 45 = .ok (.aload_n 0, 1) := by decide +kernel
theorem d_Tr_init_46 : decode cc_Tr_init 46 = .ok (.iconst 0, 1) := by decide +kernel
theorem d_Tr_init_47 : decode cc_Tr_init 47 = .ok (.putfield 35, 3) := by decide +kernel
theorem d_Tr_init_50 : decode cc_Tr_init 50 = .ok (.aload_n 0, 1) := by decide +kernel
theorem d_Tr_init_51 : decode cc_Tr_init 51 = .ok (.bipush 20, 2) := by decide +kernel
theorem d_Tr_init_53 : decode cc_Tr_init 53 = .ok (.newarray .int, 2) := by decide +kernel
theorem d_Tr_init_55 : decode cc_Tr_init 55 = .ok (.putfield 39, 3) := by decide +kernel
theorem d_Tr_init_58 : decode cc_Tr_init 58 = .ok (.aload_n 0, 1) := by decide +kernel
theorem d_Tr_init_59 : decode cc_Tr_init 59 = .ok (.iload_n 1, 1) := by decide +kernel
theorem d_Tr_init_60 : decode cc_Tr_init 60 = .ok (.putfield 43, 3) := by decide +kernel
theorem d_Tr_init_63 : decode cc_Tr_init 63 = .ok (.aload_n 0, 1) := by decide +kernel
theorem d_Tr_init_64 : decode cc_Tr_init 64 = .ok (.iload_n 2, 1) := by decide +kernel
theorem d_Tr_init_65 : decode cc_Tr_init 65 = .ok (.putfield 46, 3) := by decide +kernel
theorem d_Tr_init_68 : decode cc_Tr_init 68 = .ok (.return_, 1) := by decide +kernel
theorem d_Tr_addRead_0 : decode cc_Tr_addRead 0 = .ok (.lconst 1, 1) := by decide +kernel
theorem d_Tr_addRead_1 : decode cc_Tr_addRead 1 = .ok (.iload_n 1, 1) := by decide +kernel
theorem d_Tr_addRead_2 : decode cc_Tr_addRead 2 = .ok (.lshl, 1) := by decide +kernel
theorem d_Tr_addRead_3 : decode cc_Tr_addRead 3 = .ok (.lstore_n 2, 1) := by decide +kernel
theorem d_Tr_addRead_4 : decode cc_Tr_addRead 4 = .ok (.aload_n 0, 1) := by decide +kernel
theorem d_Tr_addRead_5 : decode cc_Tr_addRead 5 = .ok (.getfield 15, 3) := by decide +kernel
theorem d_Tr_addRead_8 : decode cc_Tr_addRead 8 = .ok (.lload_n 2, 1) := by decide +kernel
theorem d_Tr_addRead_9 : decode cc_Tr_addRead 9 = .ok (.land, 1) := by decide +kernel
theorem d_Tr_addRead_10 : decode cc_Tr_addRead 10 = .ok (.lconst 0, 1) := by decide +kernel
theorem d_Tr_addRead_11 : decode cc_Tr_addRead 11 = .ok (.lcmp, 1) := by decide +kernel
theorem d_Tr_addRead_12 : decode cc_Tr_addRead 12 = .ok (.ifCond .eq 5, 3) := by decide +kernel
theorem d_Tr_addRead_15 : decode cc_Tr_addRead 15 = .ok (.iconst 0, 1) := by decide +kernel
theorem d_Tr_addRead_16 : decode cc_Tr_addRead 16 = .ok (.ireturn, 1) := by decide +kernel
theorem d_Tr_addRead_17 : decode cc_Tr_addRead 17 = .ok (.aload_n 0, 1) := by decide +kernel
theorem d_Tr_addRead_18 : decode cc_Tr_addRead 18 = .ok (.getfield 15, 3) := by decide +kernel
theorem d_Tr_addRead_21 : decode cc_Tr_addRead 21 = .ok (.invokestatic 49, 3) := by decide +kernel
theorem d_Tr_addRead_24 : decode cc_Tr_addRead 24 = .ok (.bipush 30, 2) := by decide +kernel
theorem d_Tr_addRead_26 : decode cc_Tr_addRead 26 = .ok (.if_icmp .lt 5, 3) := by decide +kernel
theorem d_Tr_addRead_29 : decode cc_Tr_addRead 29 = .ok (.iconst (-1), 1) := by decide +kernel
theorem d_Tr_addRead_30 : decode cc_Tr_addRead 30 = .ok (.ireturn, 1) := by decide +kernel
theorem d_Tr_addRead_31 : decode cc_Tr_addRead 31 = .ok (.aload_n 0, 1) := by decide +kernel
theorem d_Tr_addRead_32 : decode cc_Tr_addRead 32 = .ok (.dup, 1) := by decide +kernel
theorem d_Tr_addRead_33 : decode cc_Tr_addRead 33 = .ok (.getfield 15, 3) := by decide +kernel
theorem d_Tr_addRead_36 : decode cc_Tr_addRead 36 = .ok (.lload_n 2, 1) := by decide +kernel
theorem d_Tr_addRead_37 : decode cc_Tr_addRead 37 = .ok (.lor, 1) := by decide +kernel
theorem d_Tr_addRead_38 : decode cc_Tr_addRead 38 = .ok (.putfield 15, 3) := by decide +kernel
theorem d_Tr_addRead_41 : decode cc_Tr_addRead 41 = .ok (.iconst 1, 1) := by decide +kernel
theorem d_Tr_addRead_42 : decode cc_Tr_addRead 42 = .ok (.ireturn, 1) := by decide +kernel
theorem d_Tr_keep_0 : decode cc_Tr_keep 0 = .ok (.aload_n 1, 1) := by decide +kernel
theorem d_Tr_keep_1 : decode cc_Tr_keep 1 = .ok (.getfield 55, 3) := by decide +kernel
theorem d_Tr_keep_4 : decode cc_Tr_keep 4 = .ok (.iconst 0, 1) := by decide +kernel
theorem d_Tr_keep_5 : decode cc_Tr_keep 5 = .ok (.aload_n 0, 1) := by decide +kernel
theorem d_Tr_keep_6 : decode cc_Tr_keep 6 = .ok (.getfield 28, 3) := by decide +kernel
theorem d_Tr_keep_9 : decode cc_Tr_keep 9 = .ok (.iconst 0, 1) := by decide +kernel
theorem d_Tr_keep_10 : decode cc_Tr_keep 10 = .ok (.bipush 20, 2) := by decide +kernel
theorem d_Tr_keep_12 : decode cc_Tr_keep 12 = .ok (.invokestatic 60, 3) := by decide +kernel
theorem d_Tr_keep_15 : decode cc_Tr_keep 15 = .ok (.aload_n 1, 1) := by decide +kernel
theorem d_Tr_keep_16 : decode cc_Tr_keep 16 = .ok (.getfield 66, 3) := by decide +kernel
theorem d_Tr_keep_19 : decode cc_Tr_keep 19 = .ok (.iconst 0, 1) := by decide +kernel
theorem d_Tr_keep_20 : decode cc_Tr_keep 20 = .ok (.aload_n 0, 1) := by decide +kernel
theorem d_Tr_keep_21 : decode cc_Tr_keep 21 = .ok (.getfield 32, 3) := by decide +kernel
theorem d_Tr_keep_24 : decode cc_Tr_keep 24 = .ok (.iconst 0, 1) := by decide +kernel
theorem d_Tr_keep_25 : decode cc_Tr_keep 25 = .ok (.bipush 40, 2) := by decide +kernel
theorem d_Tr_keep_27 : decode cc_Tr_keep 27 = .ok (.invokestatic 60, 3) := by decide +kernel
theorem d_Tr_keep_30 : decode cc_Tr_keep 30 = .ok (.aload_n 0, 1) := by decide +kernel
theorem d_Tr_keep_31 : decode cc_Tr_keep 31 = .ok (.aload_n 1, 1) := by decide +kernel
theorem d_Tr_keep_32 : decode cc_Tr_keep 32 = .ok (.getfield 69, 3) := by decide +kernel
theorem d_Tr_keep_35 : decode cc_Tr_keep 35 = .ok (.putfield 35, 3) := by decide +kernel
theorem d_Tr_keep_38 : decode cc_Tr_keep 38 = .ok (.aload_n 0, 1) := by decide +kernel
theorem d_Tr_keep_39 : decode cc_Tr_keep 39 = .ok (.aload_n 0, 1) := by decide +kernel
theorem d_Tr_keep_40 : decode cc_Tr_keep 40 = .ok (.getfield 9, 3) := by decide +kernel
theorem d_Tr_keep_43 : decode cc_Tr_keep 43 = .ok (.putfield 25, 3) := by decide +kernel
theorem d_Tr_keep_46 : decode cc_Tr_keep 46 = .ok (.aload_n 0, 1) := by decide +kernel
theorem d_Tr_keep_47 : decode cc_Tr_keep 47 = .ok (.aload_n 0, 1) := by decide +kernel
theorem d_Tr_keep_48 : decode cc_Tr_keep 48 = .ok (.getfield 15, 3) := by decide +kernel
theorem d_Tr_keep_51 : decode cc_Tr_keep 51 = .ok (.putfield 22, 3) := by decide +kernel
theorem d_Tr_keep_54 : decode cc_Tr_keep 54 = .ok (.aload_n 0, 1) := by decide +kernel
theorem d_Tr_keep_55 : decode cc_Tr_keep 55 = .ok (.lconst 0, 1) := by decide +kernel
theorem d_Tr_keep_56 : decode cc_Tr_keep 56 = .ok (.putfield 15, 3) := by decide +kernel
theorem d_Tr_keep_59 : decode cc_Tr_keep 59 = .ok (.aload_n 0, 1) := by decide +kernel
theorem d_Tr_keep_60 : decode cc_Tr_keep 60 = .ok (.iconst 1, 1) := by decide +kernel
theorem d_Tr_keep_61 : decode cc_Tr_keep 61 = .ok (.putfield 18, 3) := by decide +kernel
theorem d_Tr_keep_64 : decode cc_Tr_keep 64 = .ok (.aload_n 0, 1) := by decide +kernel
theorem d_Tr_keep_65 : decode cc_Tr_keep 65 = .ok (.getfield 22, 3) := by decide +kernel
theorem d_Tr_keep_68 : decode cc_Tr_keep 68 = .ok (.invokestatic 49, 3) := by decide +kernel
theorem d_Tr_keep_71 : decode cc_Tr_keep 71 = .ok (.ireturn, 1) := by decide +kernel
theorem d_Tr_failWith_0 : decode cc_Tr_failWith 0 = .ok (.iconst 0, 1) := by decide +kernel
theorem d_Tr_failWith_1 : decode cc_Tr_failWith 1 = .ok (.istore_n 2, 1) := by decide +kernel
theorem d_Tr_failWith_2 : decode cc_Tr_failWith 2 = .ok (.iload_n 2, 1) := by decide +kernel
theorem d_Tr_failWith_3 : decode cc_Tr_failWith 3 = .ok (.bipush 20, 2) := by decide +kernel
theorem d_Tr_failWith_5 : decode cc_Tr_failWith 5 = .ok (.if_icmp .ge 25, 3) := by decide +kernel
theorem d_Tr_failWith_8 : decode cc_Tr_failWith 8 = .ok (.aload_n 1, 1) := by decide +kernel
theorem d_Tr_failWith_9 : decode cc_Tr_failWith 9 = .ok (.iload_n 2, 1) := by decide +kernel
theorem d_Tr_failWith_10 : decode cc_Tr_failWith 10 = .ok (.baload, 1) := by decide +kernel
theorem d_Tr_failWith_11 : decode cc_Tr_failWith 11 = .ok (.ifCond .eq 13, 3) := by decide +kernel
theorem d_Tr_failWith_14 : decode cc_Tr_failWith 14 = .ok (.aload_n 0, 1) := by decide +kernel
theorem d_Tr_failWith_15 : decode cc_Tr_failWith 15 = .ok (.getfield 39, 3) := by decide +kernel
theorem d_Tr_failWith_18 : decode cc_Tr_failWith 18 = .ok (.iload_n 2, 1) := by decide +kernel
theorem d_Tr_failWith_19 : decode cc_Tr_failWith 19 = .ok (.dup2, 1) := by decide +kernel
theorem d_Tr_failWith_20 : decode cc_Tr_failWith 20 = .ok (.iaload, 1) := by decide +kernel
theorem d_Tr_failWith_21 : decode cc_Tr_failWith 21 = .ok (.iconst 1, 1) := by decide +kernel
theorem d_Tr_failWith_22 : decode cc_Tr_failWith 22 = .ok (.iadd, 1) := by decide +kernel
theorem d_Tr_failWith_23 : decode cc_Tr_failWith 23 = .ok (.iastore, 1) := by decide +kernel
theorem d_Tr_failWith_24 : decode cc_Tr_failWith 24 = .ok (.iinc 2 1, 3) := by decide +kernel
theorem d_Tr_failWith_27 : decode cc_Tr_failWith 27 = .ok (.goto (-25), 3) := by decide +kernel
theorem d_Tr_failWith_30 : decode cc_Tr_failWith 30 = .ok (.return_, 1) := by decide +kernel
theorem d_Tr_sumFailures_0 : decode cc_Tr_sumFailures 0 = .ok (.iconst 0, 1) := by decide +kernel
theorem d_Tr_sumFailures_1 : decode cc_Tr_sumFailures 1 = .ok (.istore_n 2, 1) := by decide +kernel
theorem d_Tr_sumFailures_2 : decode cc_Tr_sumFailures 2 = .ok (.iconst 0, 1) := by decide +kernel
theorem d_Tr_sumFailures_3 : decode cc_Tr_sumFailures 3 = .ok (.istore_n 3, 1) := by decide +kernel
theorem d_Tr_sumFailures_4 : decode cc_Tr_sumFailures 4 = .ok (.iload_n 3, 1) := by decide +kernel
theorem d_Tr_sumFailures_5 : decode cc_Tr_sumFailures 5 = .ok (.bipush 20, 2) := by decide +kernel
theorem d_Tr_sumFailures_7 : decode cc_Tr_sumFailures 7 = .ok (.if_icmp .ge 24, 3) := by decide +kernel
theorem d_Tr_sumFailures_10 : decode cc_Tr_sumFailures 10 = .ok (.aload_n 1, 1) := by decide +kernel
theorem d_Tr_sumFailures_11 : decode cc_Tr_sumFailures 11 = .ok (.iload_n 3, 1) := by decide +kernel
theorem d_Tr_sumFailures_12 : decode cc_Tr_sumFailures 12 = .ok (.baload, 1) := by decide +kernel
theorem d_Tr_sumFailures_13 : decode cc_Tr_sumFailures 13 = .ok (.ifCond .eq 12, 3) := by decide +kernel
theorem d_Tr_sumFailures_16 : decode cc_Tr_sumFailures 16 = .ok (.iload_n 2, 1) := by decide +kernel
theorem d_Tr_sumFailures_17 : decode cc_Tr_sumFailures 17 = .ok (.aload_n 0, 1) := by decide +kernel
theorem d_Tr_sumFailures_18 : decode cc_Tr_sumFailures 18 = .ok (.getfield 39, 3) := by decide +kernel
theorem d_Tr_sumFailures_21 : decode cc_Tr_sumFailures 21 = .ok (.iload_n 3, 1) := by decide +kernel
theorem d_Tr_sumFailures_22 : decode cc_Tr_sumFailures 22 = .ok (.iaload, 1) := by decide +kernel
theorem d_Tr_sumFailures_23 : decode cc_Tr_sumFailures 23 = .ok (.iadd, 1) := by decide +kernel
theorem d_Tr_sumFailures_24 : decode cc_Tr_sumFailures 24 = .ok (.istore_n 2, 1) := by decide +kernel
theorem d_Tr_sumFailures_25 : decode cc_Tr_sumFailures 25 = .ok (.iinc 3 1, 3) := by decide +kernel
theorem d_Tr_sumFailures_28 : decode cc_Tr_sumFailures 28 = .ok (.goto (-24), 3) := by decide +kernel
theorem d_Tr_sumFailures_31 : decode cc_Tr_sumFailures 31 = .ok (.iload_n 2, 1) := by decide +kernel
theorem d_Tr_sumFailures_32 : decode cc_Tr_sumFailures 32 = .ok (.ireturn, 1) := by decide +kernel
theorem d_Tr_reasonNow_0 : decode cc_Tr_reasonNow 0 = .ok (.aload_n 0, 1) := by decide +kernel
theorem d_Tr_reasonNow_1 : decode cc_Tr_reasonNow 1 = .ok (.getfield 43, 3) := by decide +kernel
theorem d_Tr_reasonNow_4 : decode cc_Tr_reasonNow 4 = .ok (.iconst 2, 1) := by decide +kernel
theorem d_Tr_reasonNow_5 : decode cc_Tr_reasonNow 5 = .ok (.if_icmp .ne 5, 3) := by decide +kernel
theorem d_Tr_reasonNow_8 : decode cc_Tr_reasonNow 8 = .ok (.iconst 1, 1) := by decide +kernel
theorem d_Tr_reasonNow_9 : decode cc_Tr_reasonNow 9 = .ok (.ireturn, 1) := by decide +kernel
theorem d_Tr_reasonNow_10 : decode cc_Tr_reasonNow 10 = .ok (.aload_n 0, 1) := by decide +kernel
theorem d_Tr_reasonNow_11 : decode cc_Tr_reasonNow 11 = .ok (.getfield 18, 3) := by decide +kernel
theorem d_Tr_reasonNow_14 : decode cc_Tr_reasonNow 14 = .ok (.ifCond .ne 5, 3) := by decide +kernel
theorem d_Tr_reasonNow_17 : decode cc_Tr_reasonNow 17 = .ok (.iconst 2, 1) := by decide +kernel
theorem d_Tr_reasonNow_18 : decode cc_Tr_reasonNow 18 = .ok (.ireturn, 1) := by decide +kernel
theorem d_Tr_reasonNow_19 : decode cc_Tr_reasonNow 19 = .ok (.aload_n 0, 1) := by decide +kernel
theorem d_Tr_reasonNow_20 : decode cc_Tr_reasonNow 20 = .ok (.getfield 9, 3) := by decide +kernel
theorem d_Tr_reasonNow_23 : decode cc_Tr_reasonNow 23 = .ok (.aload_n 0, 1) := by decide +kernel
theorem d_Tr_reasonNow_24 : decode cc_Tr_reasonNow 24 = .ok (.getfield 25, 3) := by decide +kernel
theorem d_Tr_reasonNow_27 : decode cc_Tr_reasonNow 27 = .ok (.lcmp, 1) := by decide +kernel
theorem d_Tr_reasonNow_28 : decode cc_Tr_reasonNow 28 = .ok (.ifCond .eq 7, 3) := by decide +kernel
theorem d_Tr_reasonNow_31 : decode cc_Tr_reasonNow 31 = .ok (.iconst 3, 1) := by decide +kernel
theorem d_Tr_reasonNow_32 : decode cc_Tr_reasonNow 32 = .ok (.goto 8, 3) := by decide +kernel
theorem d_Tr_reasonNow_35 : decode cc_Tr_reasonNow 35 = .ok (.aload_n 0, 1) := by decide +kernel
theorem d_Tr_reasonNow_36 : decode cc_Tr_reasonNow 36 = .ok (.aload_n 1, 1) := by decide +kernel
theorem d_Tr_reasonNow_37 : decode cc_Tr_reasonNow 37 = .ok (.invokevirtual 72, 3) := by decide +kernel
theorem d_Tr_reasonNow_40 : decode cc_Tr_reasonNow 40 = .ok (.ireturn, 1) := by decide +kernel
theorem d_Tr_firstReasonOfReads_0 : decode cc_Tr_firstReasonOfReads 0 = .ok (.iconst 0, 1) := by decide +kernel
theorem d_Tr_firstReasonOfReads_1 : decode cc_Tr_firstReasonOfReads 1 = .ok (.istore_n 2, 1) := by decide +kernel
theorem d_Tr_firstReasonOfReads_2 : decode cc_Tr_firstReasonOfReads 2 = .ok (.iconst 0, 1) := by decide +kernel
theorem d_Tr_firstReasonOfReads_3 : decode cc_Tr_firstReasonOfReads 3 = .ok (.istore_n 3, 1) := by decide +kernel
theorem d_Tr_firstReasonOfReads_4 : decode cc_Tr_firstReasonOfReads 4 = .ok (.iload_n 3, 1) := by decide +kernel
theorem d_Tr_firstReasonOfReads_5 : decode cc_Tr_firstReasonOfReads 5 = .ok (.bipush 60, 2) := by decide +kernel
theorem d_Tr_firstReasonOfReads_7 : decode cc_Tr_firstReasonOfReads 7 = .ok (.if_icmp .ge 47, 3) := by decide +kernel
theorem d_Tr_firstReasonOfReads_10 : decode cc_Tr_firstReasonOfReads 10 = .ok (.aload_n 0, 1) := by decide +kernel
theorem d_Tr_firstReasonOfReads_11 : decode cc_Tr_firstReasonOfReads 11 = .ok (.iload_n 3, 1) := by decide +kernel
theorem d_Tr_firstReasonOfReads_12 : decode cc_Tr_firstReasonOfReads 12 = .ok (.invokevirtual 76, 3) := by decide +kernel
theorem d_Tr_firstReasonOfReads_15 : decode cc_Tr_firstReasonOfReads 15 = .ok (.ifCond .eq 12, 3) := by decide +kernel
theorem d_Tr_firstReasonOfReads_18 : decode cc_Tr_firstReasonOfReads 18 = .ok (.aload_n 0, 1) := by decide +kernel
theorem d_Tr_firstReasonOfReads_19 : decode cc_Tr_firstReasonOfReads 19 = .ok (.iload_n 3, 1) := by decide +kernel
theorem d_Tr_firstReasonOfReads_20 : decode cc_Tr_firstReasonOfReads 20 = .ok (.aload_n 1, 1) := by decide +kernel
theorem d_Tr_firstReasonOfReads_21 : decode cc_Tr_firstReasonOfReads 21 = .ok (.invokevirtual 80, 3) := by decide +kernel
theorem d_Tr_firstReasonOfReads_24 : decode cc_Tr_firstReasonOfReads 24 = .ok (.goto 4, 3) := by decide +kernel
theorem d_Tr_firstReasonOfReads_27 : decode cc_Tr_firstReasonOfReads 27 = .ok (.iconst 0, 1) := by decide +kernel
theorem d_Tr_firstReasonOfReads_28 : decode cc_Tr_firstReasonOfReads 28 = .ok (.istore 4, 2) := by decide +kernel
theorem d_Tr_firstReasonOfReads_30 : decode cc_Tr_firstReasonOfReads 30 = .ok (.iload 4, 2) := by decide +kernel
theorem d_Tr_firstReasonOfReads_32 : decode cc_Tr_firstReasonOfReads 32 = .ok (.ifCond .eq 16, 3) := by decide +kernel
theorem d_Tr_firstReasonOfReads_35 : decode cc_Tr_firstReasonOfReads 35 = .ok (.iload_n 2, 1) := by decide +kernel
theorem d_Tr_firstReasonOfReads_36 : decode cc_Tr_firstReasonOfReads 36 = .ok (.ifCond .eq 9, 3) := by decide +kernel
theorem d_Tr_firstReasonOfReads_39 : decode cc_Tr_firstReasonOfReads 39 = .ok (.iload 4, 2) := by decide +kernel
theorem d_Tr_firstReasonOfReads_41 : decode cc_Tr_firstReasonOfReads 41 = .ok (.iload_n 2, 1) := by decide +kernel
theorem d_Tr_firstReasonOfReads_42 : decode cc_Tr_firstReasonOfReads 42 = .ok (.if_icmp .ge 6, 3) := by decide +kernel
theorem d_Tr_firstReasonOfReads_45 : decode cc_Tr_firstReasonOfReads 45 = .ok (.iload 4, 2) := by decide +kernel
theorem d_Tr_firstReasonOfReads_47 : decode cc_Tr_firstReasonOfReads 47 = .ok (.istore_n 2, 1) := by decide +kernel
theorem d_Tr_firstReasonOfReads_48 : decode cc_Tr_firstReasonOfReads 48 = .ok (.iinc 3 1, 3) := by decide +kernel
theorem d_Tr_firstReasonOfReads_51 : decode cc_Tr_firstReasonOfReads 51 = .ok (.goto (-47), 3) := by decide +kernel
theorem d_Tr_firstReasonOfReads_54 : decode cc_Tr_firstReasonOfReads 54 = .ok (.iload_n 2, 1) := by decide +kernel
theorem d_Tr_firstReasonOfReads_55 : decode cc_Tr_firstReasonOfReads 55 = .ok (.ireturn, 1) := by decide +kernel
theorem d_Tr_countHarmless_0 : decode cc_Tr_countHarmless 0 = .ok (.iconst 0, 1) := by decide +kernel
theorem d_Tr_countHarmless_1 : decode cc_Tr_countHarmless 1 = .ok (.istore_n 2, 1) := by decide +kernel
theorem d_Tr_countHarmless_2 : decode cc_Tr_countHarmless 2 = .ok (.iconst 0, 1) := by decide +kernel
theorem d_Tr_countHarmless_3 : decode cc_Tr_countHarmless 3 = .ok (.istore_n 3, 1) := by decide +kernel
theorem d_Tr_countHarmless_4 : decode cc_Tr_countHarmless 4 = .ok (.iload_n 3, 1) := by decide +kernel
theorem d_Tr_countHarmless_5 : decode cc_Tr_countHarmless 5 = .ok (.bipush 60, 2) := by decide +kernel
theorem d_Tr_countHarmless_7 : decode cc_Tr_countHarmless 7 = .ok (.if_icmp .ge 29, 3) := by decide +kernel
theorem d_Tr_countHarmless_10 : decode cc_Tr_countHarmless 10 = .ok (.aload_n 0, 1) := by decide +kernel
theorem d_Tr_countHarmless_11 : decode cc_Tr_countHarmless 11 = .ok (.iload_n 3, 1) := by decide +kernel
theorem d_Tr_countHarmless_12 : decode cc_Tr_countHarmless 12 = .ok (.invokevirtual 76, 3) := by decide +kernel
theorem d_Tr_countHarmless_15 : decode cc_Tr_countHarmless 15 = .ok (.ifCond .eq 15, 3) := by decide +kernel
theorem d_Tr_countHarmless_18 : decode cc_Tr_countHarmless 18 = .ok (.aload_n 0, 1) := by decide +kernel
theorem d_Tr_countHarmless_19 : decode cc_Tr_countHarmless 19 = .ok (.iload_n 3, 1) := by decide +kernel
theorem d_Tr_countHarmless_20 : decode cc_Tr_countHarmless 20 = .ok (.aload_n 1, 1) := by decide +kernel
theorem d_Tr_countHarmless_21 : decode cc_Tr_countHarmless 21 = .ok (.invokevirtual 80, 3) := by decide +kernel
theorem d_Tr_countHarmless_24 : decode cc_Tr_countHarmless 24 = .ok (.ifCond .ne 6, 3) := by decide +kernel
theorem d_Tr_countHarmless_27 : decode cc_Tr_countHarmless 27 = .ok (.iinc 2 1, 3) := by decide +kernel
theorem d_Tr_countHarmless_30 : decode cc_Tr_countHarmless 30 = .ok (.iinc 3 1, 3) := by decide +kernel
theorem d_Tr_countHarmless_33 : decode cc_Tr_countHarmless 33 = .ok (.goto (-29), 3) := by decide +kernel
theorem d_Tr_countHarmless_36 : decode cc_Tr_countHarmless 36 = .ok (.iload_n 2, 1) := by decide +kernel
theorem d_Tr_countHarmless_37 : decode cc_Tr_countHarmless 37 = .ok (.ireturn, 1) := by decide +kernel
theorem d_Tr_hasKept_0 : decode cc_Tr_hasKept 0 = .ok (.aload_n 0, 1) := by decide +kernel
theorem d_Tr_hasKept_1 : decode cc_Tr_hasKept 1 = .ok (.getfield 22, 3) := by decide +kernel
theorem d_Tr_hasKept_4 : decode cc_Tr_hasKept 4 = .ok (.iload_n 1, 1) := by decide +kernel
theorem d_Tr_hasKept_5 : decode cc_Tr_hasKept 5 = .ok (.lushr, 1) := by decide +kernel
theorem d_Tr_hasKept_6 : decode cc_Tr_hasKept 6 = .ok (.lconst 1, 1) := by decide +kernel
theorem d_Tr_hasKept_7 : decode cc_Tr_hasKept 7 = .ok (.land, 1) := by decide +kernel
theorem d_Tr_hasKept_8 : decode cc_Tr_hasKept 8 = .ok (.lconst 0, 1) := by decide +kernel
theorem d_Tr_hasKept_9 : decode cc_Tr_hasKept 9 = .ok (.lcmp, 1) := by decide +kernel
theorem d_Tr_hasKept_10 : decode cc_Tr_hasKept 10 = .ok (.ifCond .eq 7, 3) := by decide +kernel
theorem d_Tr_hasKept_13 : decode cc_Tr_hasKept 13 = .ok (.iconst 1, 1) := by decide +kernel
theorem d_Tr_hasKept_14 : decode cc_Tr_hasKept 14 = .ok (.goto 4, 3) := by decide +kernel
theorem d_Tr_hasKept_17 : decode cc_Tr_hasKept 17 = .ok (.iconst 0, 1) := by decide +kernel
theorem d_Tr_hasKept_18 : decode cc_Tr_hasKept 18 = .ok (.ireturn, 1) := by decide +kernel
theorem d_Tr_reasonOfRead_0 : decode cc_Tr_reasonOfRead 0 = .ok (.iload_n 1, 1) := by decide +kernel
theorem d_Tr_reasonOfRead_1 : decode cc_Tr_reasonOfRead 1 = .ok (.bipush 20, 2) := by decide +kernel
theorem d_Tr_reasonOfRead_3 : decode cc_Tr_reasonOfRead 3 = .ok (.if_icmp .ge 18, 3) := by decide +kernel
theorem d_Tr_reasonOfRead_6 : decode cc_Tr_reasonOfRead 6 = .ok (.aload_n 0, 1) := by decide +kernel
theorem d_Tr_reasonOfRead_7 : decode cc_Tr_reasonOfRead 7 = .ok (.iload_n 1, 1) := by decide +kernel
theorem d_Tr_reasonOfRead_8 : decode cc_Tr_reasonOfRead 8 = .ok (.aload_n 2, 1) := by decide +kernel
theorem d_Tr_reasonOfRead_9 : decode cc_Tr_reasonOfRead 9 = .ok (.invokevirtual 84, 3) := by decide +kernel
theorem d_Tr_reasonOfRead_12 : decode cc_Tr_reasonOfRead 12 = .ok (.ifCond .eq 7, 3) := by decide +kernel
theorem d_Tr_reasonOfRead_15 : decode cc_Tr_reasonOfRead 15 = .ok (.iconst 0, 1) := by decide +kernel
theorem d_Tr_reasonOfRead_16 : decode cc_Tr_reasonOfRead 16 = .ok (.goto 4, 3) := by decide +kernel
theorem d_Tr_reasonOfRead_19 : decode cc_Tr_reasonOfRead 19 = .ok (.iconst 4, 1) := by decide +kernel
theorem d_Tr_reasonOfRead_20 : decode cc_Tr_reasonOfRead 20 = .ok (.ireturn, 1) := by decide +kernel
theorem d_Tr_reasonOfRead_21 : decode cc_Tr_reasonOfRead 21 = .ok (.iload_n 1, 1) := by decide +kernel
theorem d_Tr_reasonOfRead_22 : decode cc_Tr_reasonOfRead 22 = .ok (.bipush 20, 2) := by decide +kernel
theorem d_Tr_reasonOfRead_24 : decode cc_Tr_reasonOfRead 24 = .ok (.isub, 1) := by decide +kernel
theorem d_Tr_reasonOfRead_25 : decode cc_Tr_reasonOfRead 25 = .ok (.istore_n 3, 1) := by decide +kernel
theorem d_Tr_reasonOfRead_26 : decode cc_Tr_reasonOfRead 26 = .ok (.aload_n 2, 1) := by decide +kernel
theorem d_Tr_reasonOfRead_27 : decode cc_Tr_reasonOfRead 27 = .ok (.getfield 88, 3) := by decide +kernel
theorem d_Tr_reasonOfRead_30 : decode cc_Tr_reasonOfRead 30 = .ok (.iload_n 3, 1) := by decide +kernel
theorem d_Tr_reasonOfRead_31 : decode cc_Tr_reasonOfRead 31 = .ok (.iaload, 1) := by decide +kernel
theorem d_Tr_reasonOfRead_32 : decode cc_Tr_reasonOfRead 32 = .ok (.istore 4, 2) := by decide +kernel
theorem d_Tr_reasonOfRead_34 : decode cc_Tr_reasonOfRead 34 = .ok (.aload_n 0, 1) := by decide +kernel
theorem d_Tr_reasonOfRead_35 : decode cc_Tr_reasonOfRead 35 = .ok (.getfield 43, 3) := by decide +kernel
theorem d_Tr_reasonOfRead_38 : decode cc_Tr_reasonOfRead 38 = .ok (.iconst 1, 1) := by decide +kernel
theorem d_Tr_reasonOfRead_39 : decode cc_Tr_reasonOfRead 39 = .ok (.if_icmp .eq 19, 3) := by decide +kernel
theorem d_Tr_reasonOfRead_42 : decode cc_Tr_reasonOfRead 42 = .ok (.aload_n 0, 1) := by decide +kernel
theorem d_Tr_reasonOfRead_43 : decode cc_Tr_reasonOfRead 43 = .ok (.iload 4, 2) := by decide +kernel
theorem d_Tr_reasonOfRead_45 : decode cc_Tr_reasonOfRead 45 = .ok (.aload_n 2, 1) := by decide +kernel
theorem d_Tr_reasonOfRead_46 : decode cc_Tr_reasonOfRead 46 = .ok (.invokevirtual 84, 3) := by decide +kernel
theorem d_Tr_reasonOfRead_49 : decode cc_Tr_reasonOfRead 49 = .ok (.ifCond .eq 7, 3) := by decide +kernel
theorem d_Tr_reasonOfRead_52 : decode cc_Tr_reasonOfRead 52 = .ok (.iconst 0, 1) := by decide +kernel
theorem d_Tr_reasonOfRead_53 : decode cc_Tr_reasonOfRead 53 = .ok (.goto 4, 3) := by decide +kernel
theorem d_Tr_reasonOfRead_56 : decode cc_Tr_reasonOfRead 56 = .ok (.iconst 4, 1) := by decide +kernel
theorem d_Tr_reasonOfRead_57 : decode cc_Tr_reasonOfRead 57 = .ok (.ireturn, 1) := by decide +kernel
theorem d_Tr_reasonOfRead_58 : decode cc_Tr_reasonOfRead 58 = .ok (.aload_n 0, 1) := by decide +kernel
theorem d_Tr_reasonOfRead_59 : decode cc_Tr_reasonOfRead 59 = .ok (.getfield 32, 3) := by decide +kernel
theorem d_Tr_reasonOfRead_62 : decode cc_Tr_reasonOfRead 62 = .ok (.iload_n 3, 1) := by decide +kernel
theorem d_Tr_reasonOfRead_63 : decode cc_Tr_reasonOfRead 63 = .ok (.laload, 1) := by decide +kernel
theorem d_Tr_reasonOfRead_64 : decode cc_Tr_reasonOfRead 64 = .ok (.aload_n 2, 1) := by decide +kernel
theorem d_Tr_reasonOfRead_65 : decode cc_Tr_reasonOfRead 65 = .ok (.getfield 66, 3) := by decide +kernel
theorem d_Tr_reasonOfRead_68 : decode cc_Tr_reasonOfRead 68 = .ok (.iload_n 3, 1) := by decide +kernel
theorem d_Tr_reasonOfRead_69 : decode cc_Tr_reasonOfRead 69 = .ok (.laload, 1) := by decide +kernel
theorem d_Tr_reasonOfRead_70 : decode cc_Tr_reasonOfRead 70 = .ok (.lcmp, 1) := by decide +kernel
theorem d_Tr_reasonOfRead_71 : decode cc_Tr_reasonOfRead 71 = .ok (.ifCond .eq 5, 3) := by decide +kernel
theorem d_Tr_reasonOfRead_74 : decode cc_Tr_reasonOfRead 74 = .ok (.iconst 5, 1) := by decide +kernel
theorem d_Tr_reasonOfRead_75 : decode cc_Tr_reasonOfRead 75 = .ok (.ireturn, 1) := by decide +kernel
theorem d_Tr_reasonOfRead_76 : decode cc_Tr_reasonOfRead 76 = .ok (.aload_n 0, 1) := by decide +kernel
theorem d_Tr_reasonOfRead_77 : decode cc_Tr_reasonOfRead 77 = .ok (.getfield 28, 3) := by decide +kernel
theorem d_Tr_reasonOfRead_80 : decode cc_Tr_reasonOfRead 80 = .ok (.iload 4, 2) := by decide +kernel
theorem d_Tr_reasonOfRead_82 : decode cc_Tr_reasonOfRead 82 = .ok (.laload, 1) := by decide +kernel
theorem d_Tr_reasonOfRead_83 : decode cc_Tr_reasonOfRead 83 = .ok (.aload_n 2, 1) := by decide +kernel
theorem d_Tr_reasonOfRead_84 : decode cc_Tr_reasonOfRead 84 = .ok (.getfield 55, 3) := by decide +kernel
theorem d_Tr_reasonOfRead_87 : decode cc_Tr_reasonOfRead 87 = .ok (.iload 4, 2) := by decide +kernel
theorem d_Tr_reasonOfRead_89 : decode cc_Tr_reasonOfRead 89 = .ok (.laload, 1) := by decide +kernel
theorem d_Tr_reasonOfRead_90 : decode cc_Tr_reasonOfRead 90 = .ok (.lcmp, 1) := by decide +kernel
theorem d_Tr_reasonOfRead_91 : decode cc_Tr_reasonOfRead 91 = .ok (.ifCond .eq 8, 3) := by decide +kernel
theorem d_Tr_reasonOfRead_94 : decode cc_Tr_reasonOfRead 94 = .ok (.bipush 6, 2) := by decide +kernel
theorem d_Tr_reasonOfRead_96 : decode cc_Tr_reasonOfRead 96 = .ok (.goto 4, 3) := by decide +kernel
theorem d_Tr_reasonOfRead_99 : decode cc_Tr_reasonOfRead 99 = .ok (.iconst 0, 1) := by decide +kernel
theorem d_Tr_reasonOfRead_100 : decode cc_Tr_reasonOfRead 100 = .ok (.ireturn, 1) := by decide +kernel
theorem d_Tr_isAsItWas_0 : decode cc_Tr_isAsItWas 0 = .ok (.aload_n 0, 1) := by decide +kernel
theorem d_Tr_isAsItWas_1 : decode cc_Tr_isAsItWas 1 = .ok (.getfield 28, 3) := by decide +kernel
theorem d_Tr_isAsItWas_4 : decode cc_Tr_isAsItWas 4 = .ok (.iload_n 1, 1) := by decide +kernel
theorem d_Tr_isAsItWas_5 : decode cc_Tr_isAsItWas 5 = .ok (.laload, 1) := by decide +kernel
theorem d_Tr_isAsItWas_6 : decode cc_Tr_isAsItWas 6 = .ok (.aload_n 2, 1) := by decide +kernel
theorem d_Tr_isAsItWas_7 : decode cc_Tr_isAsItWas 7 = .ok (.getfield 55, 3) := by decide +kernel
theorem d_Tr_isAsItWas_10 : decode cc_Tr_isAsItWas 10 = .ok (.iload_n 1, 1) := by decide +kernel
theorem d_Tr_isAsItWas_11 : decode cc_Tr_isAsItWas 11 = .ok (.laload, 1) := by decide +kernel
theorem d_Tr_isAsItWas_12 : decode cc_Tr_isAsItWas 12 = .ok (.lcmp, 1) := by decide +kernel
theorem d_Tr_isAsItWas_13 : decode cc_Tr_isAsItWas 13 = .ok (.ifCond .eq 5, 3) := by decide +kernel
theorem d_Tr_isAsItWas_16 : decode cc_Tr_isAsItWas 16 = .ok (.iconst 0, 1) := by decide +kernel
theorem d_Tr_isAsItWas_17 : decode cc_Tr_isAsItWas 17 = .ok (.ireturn, 1) := by decide +kernel
theorem d_Tr_isAsItWas_18 : decode cc_Tr_isAsItWas 18 = .ok (.iconst 0, 1) := by decide +kernel
theorem d_Tr_isAsItWas_19 : decode cc_Tr_isAsItWas 19 = .ok (.istore_n 3, 1) := by decide +kernel
theorem d_Tr_isAsItWas_20 : decode cc_Tr_isAsItWas 20 = .ok (.iload_n 3, 1) := by decide +kernel
theorem d_Tr_isAsItWas_21 : decode cc_Tr_isAsItWas 21 = .ok (.aload_n 2, 1) := by decide +kernel
theorem d_Tr_isAsItWas_22 : decode cc_Tr_isAsItWas 22 = .ok (.getfield 69, 3) := by decide +kernel
theorem d_Tr_isAsItWas_25 : decode cc_Tr_isAsItWas 25 = .ok (.if_icmp .ge 57, 3) := by decide +kernel
theorem d_Tr_isAsItWas_28 : decode cc_Tr_isAsItWas 28 = .ok (.iload_n 3, 1) := by decide +kernel
theorem d_Tr_isAsItWas_29 : decode cc_Tr_isAsItWas 29 = .ok (.aload_n 0, 1) := by decide +kernel
theorem d_Tr_isAsItWas_30 : decode cc_Tr_isAsItWas 30 = .ok (.getfield 35, 3) := by decide +kernel
theorem d_Tr_isAsItWas_33 : decode cc_Tr_isAsItWas 33 = .ok (.if_icmp .ge 23, 3) := by decide +kernel
theorem d_Tr_isAsItWas_36 : decode cc_Tr_isAsItWas 36 = .ok (.aload_n 0, 1) := by decide +kernel
theorem d_Tr_isAsItWas_37 : decode cc_Tr_isAsItWas 37 = .ok (.getfield 32, 3) := by decide +kernel
theorem d_Tr_isAsItWas_40 : decode cc_Tr_isAsItWas 40 = .ok (.iload_n 3, 1) := by decide +kernel
theorem d_Tr_isAsItWas_41 : decode cc_Tr_isAsItWas 41 = .ok (.laload, 1) := by decide +kernel
theorem d_Tr_isAsItWas_42 : decode cc_Tr_isAsItWas 42 = .ok (.aload_n 2, 1) := by decide +kernel
theorem d_Tr_isAsItWas_43 : decode cc_Tr_isAsItWas 43 = .ok (.getfield 66, 3) := by decide +kernel
theorem d_Tr_isAsItWas_46 : decode cc_Tr_isAsItWas 46 = .ok (.iload_n 3, 1) := by decide +kernel
theorem d_Tr_isAsItWas_47 : decode cc_Tr_isAsItWas 47 = .ok (.laload, 1) := by decide +kernel
theorem d_Tr_isAsItWas_48 : decode cc_Tr_isAsItWas 48 = .ok (.lcmp, 1) := by decide +kernel
theorem d_Tr_isAsItWas_49 : decode cc_Tr_isAsItWas 49 = .ok (.ifCond .ne 7, 3) := by decide +kernel
theorem d_Tr_isAsItWas_52 : decode cc_Tr_isAsItWas 52 = .ok (.iconst 1, 1) := by decide +kernel
theorem d_Tr_isAsItWas_53 : decode cc_Tr_isAsItWas 53 = .ok (.goto 4, 3) := by decide +kernel
theorem d_Tr_isAsItWas_56 : decode cc_Tr_isAsItWas 56 = .ok (.iconst 0, 1) := by decide +kernel
theorem d_Tr_isAsItWas_57 : decode cc_Tr_isAsItWas 57 = .ok (.istore 4, 2) := by decide +kernel
theorem d_Tr_isAsItWas_59 : decode cc_Tr_isAsItWas 59 = .ok (.aload_n 2, 1) := by decide +kernel
theorem d_Tr_isAsItWas_60 : decode cc_Tr_isAsItWas 60 = .ok (.getfield 88, 3) := by decide +kernel
theorem d_Tr_isAsItWas_63 : decode cc_Tr_isAsItWas 63 = .ok (.iload_n 3, 1) := by decide +kernel
theorem d_Tr_isAsItWas_64 : decode cc_Tr_isAsItWas 64 = .ok (.iaload, 1) := by decide +kernel
theorem d_Tr_isAsItWas_65 : decode cc_Tr_isAsItWas 65 = .ok (.iload_n 1, 1) := by decide +kernel
theorem d_Tr_isAsItWas_66 : decode cc_Tr_isAsItWas 66 = .ok (.if_icmp .ne 10, 3) := by decide +kernel
theorem d_Tr_isAsItWas_69 : decode cc_Tr_isAsItWas 69 = .ok (.iload 4, 2) := by decide +kernel
theorem d_Tr_isAsItWas_71 : decode cc_Tr_isAsItWas 71 = .ok (.ifCond .ne 5, 3) := by decide +kernel
theorem d_Tr_isAsItWas_74 : decode cc_Tr_isAsItWas 74 = .ok (.iconst 0, 1) := by decide +kernel
theorem d_Tr_isAsItWas_75 : decode cc_Tr_isAsItWas 75 = .ok (.ireturn, 1) := by decide +kernel
theorem d_Tr_isAsItWas_76 : decode cc_Tr_isAsItWas 76 = .ok (.iinc 3 1, 3) := by decide +kernel
theorem d_Tr_isAsItWas_79 : decode cc_Tr_isAsItWas 79 = .ok (.goto (-59), 3) := by decide +kernel
theorem d_Tr_isAsItWas_82 : decode cc_Tr_isAsItWas 82 = .ok (.iconst 1, 1) := by decide +kernel
theorem d_Tr_isAsItWas_83 : decode cc_Tr_isAsItWas 83 = .ok (.ireturn, 1) := by decide +kernel
theorem d_Ts_init_0 : decode cc_Ts_init 0 = .ok (.aload_n 0, 1) := by decide +kernel
theorem d_Ts_init_1 : decode cc_Ts_init 1 = .ok (.invokespecial 3, 3) := by decide +kernel
theorem d_Ts_init_4 : decode cc_Ts_init 4 = .ok (.aload_n 0, 1) := by decide +kernel
theorem d_Ts_init_5 : decode cc_Ts_init 5 = .ok (.new 9, 3) := by decide +kernel
theorem d_Ts_init_8 : decode cc_Ts_init 8 = .ok (.dup, 1) := by decide +kernel
theorem d_Ts_init_9 : decode cc_Ts_init 9 = .ok (.invokespecial 11, 3) := by decide +kernel
theorem d_Ts_init_12 : decode cc_Ts_init 12 = .ok (.putfield 12, 3) := by decide +kernel
theorem d_Ts_init_15 : decode cc_Ts_init 15 = .ok (.aload_n 0, 1) := by decide +kernel
theorem d_Ts_init_16 : decode cc_Ts_init 16 = .ok (.bipush 24, 2) := by decide +kernel
theorem d_Ts_init_18 : decode cc_Ts_init 18 = .ok (.anewarray 16, 3) := by decide +kernel
theorem d_Ts_init_21 : decode cc_Ts_init 21 = .ok (.putfield 18, 3) := by decide +kernel
theorem d_Ts_init_24 : decode cc_Ts_init 24 = .ok (.aload_n 0, 1) := by decide +kernel
theorem d_Ts_init_25 : decode cc_Ts_init 25 = .ok (.iconst 0, 1) := by decide +kernel
theorem d_Ts_init_26 : decode cc_Ts_init 26 = .ok (.putfield 22, 3) := by decide +kernel
theorem d_Ts_init_29 : decode cc_Ts_init 29 = .ok (.aload_n 0, 1) := by decide +kernel
theorem d_Ts_init_30 : decode cc_Ts_init 30 = .ok (.new 26, 3) := by decide +kernel
theorem d_Ts_init_33 : decode cc_Ts_init 33 = .ok (.dup, 1) := by decide +kernel
theorem d_Ts_init_34 : decode cc_Ts_init 34 = .ok (.invokespecial 28, 3) := by decide +kernel
theorem d_Ts_init_37 : decode cc_Ts_init 37 = .ok (.putfield 29, 3) := by decide +kernel
theorem d_Ts_init_40 : decode cc_Ts_init 40 = .ok (.aload_n 0, 1) := by decide +kernel
theorem d_Ts_init_41 : decode cc_Ts_init 41 = .ok (.new 33, 3) := by decide +kernel
theorem d_Ts_init_44 : decode cc_Ts_init 44 = .ok (.dup, 1) := by decide +kernel
theorem d_Ts_init_45 : decode cc_Ts_init 45 = .ok (.invokespecial 35, 3) := by decide +kernel
theorem d_Ts_init_48 : decode cc_Ts_init 48 = .ok (.putfield 36, 3) := by decide +kernel
theorem d_Ts_init_51 : decode cc_Ts_init 51 = .ok (.aload_n 0, 1) := by decide +kernel
theorem d_Ts_init_52 : decode cc_Ts_init 52 = .ok (.new 40, 3) := by decide +kernel
theorem d_Ts_init_55 : decode cc_Ts_init 55 = .ok (.dup, 1) := by decide +kernel
theorem d_Ts_init_56 : decode cc_Ts_init 56 = .ok (.invokespecial 42, 3) := by decide +kernel
theorem d_Ts_init_59 : decode cc_Ts_init 59 = .ok (.putfield 43, 3) := by decide +kernel
theorem d_Ts_init_62 : decode cc_Ts_init 62 = .ok (.return_, 1) := by decide +kernel
theorem d_Ts_file_0 : decode cc_Ts_file 0 = .ok (.aload_n 0, 1) := by decide +kernel
theorem d_Ts_file_1 : decode cc_Ts_file 1 = .ok (.getfield 12, 3) := by decide +kernel
theorem d_Ts_file_4 : decode cc_Ts_file 4 = .ok (.lload_n 1, 1) := by decide +kernel
theorem d_Ts_file_5 : decode cc_Ts_file 5 = .ok (.invokevirtual 47, 3) := by decide +kernel
theorem d_Ts_file_8 : decode cc_Ts_file 8 = .ok (.ireturn, 1) := by decide +kernel
theorem d_Ts_function_0 : decode cc_Ts_function 0 = .ok (.aload_n 0, 1) := by decide +kernel
theorem d_Ts_function_1 : decode cc_Ts_function 1 = .ok (.getfield 12, 3) := by decide +kernel
theorem d_Ts_function_4 : decode cc_Ts_function 4 = .ok (.iload_n 1, 1) := by decide +kernel
theorem d_Ts_function_5 : decode cc_Ts_function 5 = .ok (.lload_n 2, 1) := by decide +kernel
theorem d_Ts_function_6 : decode cc_Ts_function 6 = .ok (.invokevirtual 51, 3) := by decide +kernel
theorem d_Ts_function_9 : decode cc_Ts_function 9 = .ok (.ireturn, 1) := by decide +kernel
theorem d_Ts_change_0 : decode cc_Ts_change 0 = .ok (.aload_n 0, 1) := by decide +kernel
theorem d_Ts_change_1 : decode cc_Ts_change 1 = .ok (.getfield 12, 3) := by decide +kernel
theorem d_Ts_change_4 : decode cc_Ts_change 4 = .ok (.iload_n 1, 1) := by decide +kernel
theorem d_Ts_change_5 : decode cc_Ts_change 5 = .ok (.lload_n 2, 1) := by decide +kernel
theorem d_Ts_change_6 : decode cc_Ts_change 6 = .ok (.invokevirtual 55, 3) := by decide +kernel
theorem d_Ts_change_9 : decode cc_Ts_change 9 = .ok (.ireturn, 1) := by decide +kernel
theorem d_Ts_changeFunction_0 : decode cc_Ts_changeFunction 0 = .ok (.aload_n 0, 1) := by decide +kernel
theorem d_Ts_changeFunction_1 : decode cc_Ts_changeFunction 1 = .ok (.getfield 12, 3) := by decide +kernel
theorem d_Ts_changeFunction_4 : decode cc_Ts_changeFunction 4 = .ok (.iload_n 1, 1) := by decide +kernel
theorem d_Ts_changeFunction_5 : decode cc_Ts_changeFunction 5 = .ok (.lload_n 2, 1) := by decide +kernel
theorem d_Ts_changeFunction_6 : decode cc_Ts_changeFunction 6 = .ok (.invokevirtual 59, 3) := by decide +kernel
theorem d_Ts_changeFunction_9 : decode cc_Ts_changeFunction 9 = .ok (.ireturn, 1) := by decide +kernel
theorem d_Ts_test_0 : decode cc_Ts_test 0 = .ok (.aload_n 0, 1) := by decide +kernel
theorem d_Ts_test_1 : decode cc_Ts_test 1 = .ok (.getfield 22, 3) := by decide +kernel
theorem d_Ts_test_4 : decode cc_Ts_test 4 = .ok (.bipush 24, 2) := by decide +kernel
theorem d_Ts_test_6 : decode cc_Ts_test 6 = .ok (.if_icmp .ge 24, 3) := by decide +kernel
theorem d_Ts_test_9 : decode cc_Ts_test 9 = .ok (.iload_n 1, 1) := by decide +kernel
theorem d_Ts_test_10 : decode cc_Ts_test 10 = .ok (.ifCond .lt 20, 3) := by decide +kernel
theorem d_Ts_test_13 : decode cc_Ts_test 13 = .ok (.iload_n 1, 1) := by decide +kernel
theorem d_Ts_test_14 : decode cc_Ts_test 14 = .ok (.iconst 2, 1) := by decide +kernel
theorem d_Ts_test_15 : decode cc_Ts_test 15 = .ok (.if_icmp .gt 15, 3) := by decide +kernel
theorem d_Ts_test_18 : decode cc_Ts_test 18 = .ok (.iload_n 2, 1) := by decide +kernel
theorem d_Ts_test_19 : decode cc_Ts_test 19 = .ok (.iconst 1, 1) := by decide +kernel
theorem d_Ts_test_20 : decode cc_Ts_test 20 = .ok (.if_icmp .lt 10, 3) := by decide +kernel
theorem d_Ts_test_23 : decode cc_Ts_test 23 = .ok (.iload_n 2, 1) := by decide +kernel
theorem d_Ts_test_24 : decode cc_Ts_test 24 = .ok (.sipush 1000, 3) := by decide +kernel
theorem d_Ts_test_27 : decode cc_Ts_test 27 = .ok (.if_icmp .le 5, 3) := by decide +kernel
theorem d_Ts_test_30 : decode cc_Ts_test 30 = .ok (.iconst (-1), 1) := by decide +kernel
theorem d_Ts_test_31 : decode cc_Ts_test 31 = .ok (.ireturn, 1) := by decide +kernel
theorem d_Ts_test_32 : decode cc_Ts_test 32 = .ok (.aload_n 0, 1) := by decide +kernel
theorem d_Ts_test_33 : decode cc_Ts_test 33 = .ok (.getfield 18, 3) := by decide +kernel
theorem d_Ts_test_36 : decode cc_Ts_test 36 = .ok (.aload_n 0, 1) := by decide +kernel
theorem d_Ts_test_37 : decode cc_Ts_test 37 = .ok (.getfield 22, 3) := by decide +kernel
theorem d_Ts_test_40 : decode cc_Ts_test 40 = .ok (.new 16, 3) := by decide +kernel
theorem d_Ts_test_43 : decode cc_Ts_test 43 = .ok (.dup, 1) := by decide +kernel
theorem d_Ts_test_44 : decode cc_Ts_test 44 = .ok (.iload_n 1, 1) := by decide +kernel
theorem d_Ts_test_45 : decode cc_Ts_test 45 = .ok (.iload_n 2, 1) := by decide +kernel
theorem d_Ts_test_46 : decode cc_Ts_test 46 = .ok (.invokespecial 62, 3) := by decide +kernel
theorem d_Ts_test_49 : decode cc_Ts_test 49 = .ok (.aastore, 1) := by decide +kernel
theorem d_Ts_test_50 : decode cc_Ts_test 50 = .ok (.aload_n 0, 1) := by decide +kernel
theorem d_Ts_test_51 : decode cc_Ts_test 51 = .ok (.dup, 1) := by decide +kernel
theorem d_Ts_test_52 : decode cc_Ts_test 52 = .ok (.getfield 22, 3) := by decide +kernel
theorem d_Ts_test_55 : decode cc_Ts_test 55 = .ok (.iconst 1, 1) := by decide +kernel
theorem d_Ts_test_56 : decode cc_Ts_test 56 = .ok (.iadd, 1) := by decide +kernel
theorem d_Ts_test_57 : decode cc_Ts_test 57 = .ok (.putfield 22, 3) := by decide +kernel
theorem d_Ts_test_60 : decode cc_Ts_test 60 = .ok (.aload_n 0, 1) := by decide +kernel
theorem d_Ts_test_61 : decode cc_Ts_test 61 = .ok (.getfield 22, 3) := by decide +kernel
theorem d_Ts_test_64 : decode cc_Ts_test 64 = .ok (.iconst 1, 1) := by decide +kernel
theorem d_Ts_test_65 : decode cc_Ts_test 65 = .ok (.isub, 1) := by decide +kernel
theorem d_Ts_test_66 : decode cc_Ts_test 66 = .ok (.ireturn, 1) := by decide +kernel
theorem d_Ts_setting_0 : decode cc_Ts_setting 0 = .ok (.aload_n 0, 1) := by decide +kernel
theorem d_Ts_setting_1 : decode cc_Ts_setting 1 = .ok (.iload_n 1, 1) := by decide +kernel
theorem d_Ts_setting_2 : decode cc_Ts_setting 2 = .ok (.invokevirtual 65, 3) := by decide +kernel
theorem d_Ts_setting_5 : decode cc_Ts_setting 5 = .ok (.astore 4, 2) := by decide +kernel
theorem d_Ts_setting_7 : decode cc_Ts_setting 7 = .ok (.aload 4, 2) := by decide +kernel
theorem d_Ts_setting_9 : decode cc_Ts_setting 9 = .ok (.ifnonnull 5, 3) := by decide +kernel
theorem d_Ts_setting_12 : decode cc_Ts_setting 12 = .ok (.iconst 0, 1) := by decide +kernel
theorem d_Ts_setting_13 : decode cc_Ts_setting 13 = .ok (.ireturn, 1) := by decide +kernel
theorem d_Ts_setting_14 : decode cc_Ts_setting 14 = .ok (.aload 4, 2) := by decide +kernel
theorem d_Ts_setting_16 : decode cc_Ts_setting 16 = .ok (.lload_n 2, 1) := by decide +kernel
theorem d_Ts_setting_17 : decode cc_Ts_setting 17 = .ok (.putfield 69, 3) := by decide +kernel
theorem d_Ts_setting_20 : decode cc_Ts_setting 20 = .ok (.iconst 1, 1) := by decide +kernel
theorem d_Ts_setting_21 : decode cc_Ts_setting 21 = .ok (.ireturn, 1) := by decide +kernel
theorem d_Ts_reads_0 : decode cc_Ts_reads 0 = .ok (.aload_n 0, 1) := by decide +kernel
theorem d_Ts_reads_1 : decode cc_Ts_reads 1 = .ok (.iload_n 1, 1) := by decide +kernel
theorem d_Ts_reads_2 : decode cc_Ts_reads 2 = .ok (.invokevirtual 65, 3) := by decide +kernel
theorem d_Ts_reads_5 : decode cc_Ts_reads 5 = .ok (.astore 4, 2) := by decide +kernel
theorem d_Ts_reads_7 : decode cc_Ts_reads 7 = .ok (.aload 4, 2) := by decide +kernel
theorem d_Ts_reads_9 : decode cc_Ts_reads 9 = .ok (.ifnull 14, 3) := by decide +kernel
theorem d_Ts_reads_12 : decode cc_Ts_reads 12 = .ok (.aload_n 0, 1) := by decide +kernel
theorem d_Ts_reads_13 : decode cc_Ts_reads 13 = .ok (.getfield 12, 3) := by decide +kernel
theorem d_Ts_reads_16 : decode cc_Ts_reads 16 = .ok (.iload_n 2, 1) := by decide +kernel
theorem d_Ts_reads_17 : decode cc_Ts_reads 17 = .ok (.invokevirtual 73, 3) := by decide +kernel
theorem d_Ts_reads_20 : decode cc_Ts_reads 20 = .ok (.ifCond .ne 5, 3) := by decide +kernel
theorem d_Ts_reads_23 : decode cc_Ts_reads 23 = .ok (.iconst (-1), 1) := by decide +kernel
theorem d_Ts_reads_24 : decode cc_Ts_reads 24 = .ok (.ireturn, 1) := by decide +kernel
theorem d_Ts_reads_25 : decode cc_Ts_reads 25 = .ok (.iload_n 3, 1) := by decide +kernel
theorem d_Ts_reads_26 : decode cc_Ts_reads 26 = .ok (.iconst (-1), 1) := by decide +kernel
theorem d_Ts_reads_27 : decode cc_Ts_reads 27 = .ok (.if_icmp .ne 10, 3) := by decide +kernel
theorem d_Ts_reads_30 : decode cc_Ts_reads 30 = .ok (.aload 4, 2) := by decide +kernel
theorem d_Ts_reads_32 : decode cc_Ts_reads 32 = .ok (.iload_n 2, 1) := by decide +kernel
theorem d_Ts_reads_33 : decode cc_Ts_reads 33 = .ok (.invokevirtual 77, 3) := by decide +kernel
theorem d_Ts_reads_36 : decode cc_Ts_reads 36 = .ok (.ireturn, 1) := by decide +kernel
theorem d_Ts_reads_37 : decode cc_Ts_reads 37 = .ok (.aload_n 0, 1) := by decide +kernel
theorem d_Ts_reads_38 : decode cc_Ts_reads 38 = .ok (.getfield 12, 3) := by decide +kernel
theorem d_Ts_reads_41 : decode cc_Ts_reads 41 = .ok (.iload_n 3, 1) := by decide +kernel
theorem d_Ts_reads_42 : decode cc_Ts_reads 42 = .ok (.invokevirtual 81, 3) := by decide +kernel
theorem d_Ts_reads_45 : decode cc_Ts_reads 45 = .ok (.ifCond .eq 16, 3) := by decide +kernel
theorem d_Ts_reads_48 : decode cc_Ts_reads 48 = .ok (.aload_n 0, 1) := by decide +kernel
theorem d_Ts_reads_49 : decode cc_Ts_reads 49 = .ok (.getfield 12, 3) := by decide +kernel
theorem d_Ts_reads_52 : decode cc_Ts_reads 52 = .ok (.getfield 84, 3) := by decide +kernel
theorem d_Ts_reads_55 : decode cc_Ts_reads 55 = .ok (.iload_n 3, 1) := by decide +kernel
theorem d_Ts_reads_56 : decode cc_Ts_reads 56 = .ok (.iaload, 1) := by decide +kernel
theorem d_Ts_reads_57 : decode cc_Ts_reads 57 = .ok (.iload_n 2, 1) := by decide +kernel
theorem d_Ts_reads_58 : decode cc_Ts_reads 58 = .ok (.if_icmp .eq 5, 3) := by decide +kernel
theorem d_Ts_reads_61 : decode cc_Ts_reads 61 = .ok (.iconst (-1), 1) := by decide +kernel
theorem d_Ts_reads_62 : decode cc_Ts_reads 62 = .ok (.ireturn, 1) := by decide +kernel
theorem d_Ts_reads_63 : decode cc_Ts_reads 63 = .ok (.aload 4, 2) := by decide +kernel
theorem d_Ts_reads_65 : decode cc_Ts_reads 65 = .ok (.bipush 20, 2) := by decide +kernel
theorem d_Ts_reads_67 : decode cc_Ts_reads 67 = .ok (.iload_n 3, 1) := by decide +kernel
theorem d_Ts_reads_68 : decode cc_Ts_reads 68 = .ok (.iadd, 1) := by decide +kernel
theorem d_Ts_reads_69 : decode cc_Ts_reads 69 = .ok (.invokevirtual 77, 3) := by decide +kernel
theorem d_Ts_reads_72 : decode cc_Ts_reads 72 = .ok (.ireturn, 1) := by decide +kernel
theorem d_Ts_outcome_0 : decode cc_Ts_outcome 0 = .ok (.aload_n 0, 1) := by decide +kernel
theorem d_Ts_outcome_1 : decode cc_Ts_outcome 1 = .ok (.iload_n 1, 1) := by decide +kernel
theorem d_Ts_outcome_2 : decode cc_Ts_outcome 2 = .ok (.invokevirtual 65, 3) := by decide +kernel
theorem d_Ts_outcome_5 : decode cc_Ts_outcome 5 = .ok (.astore_n 3, 1) := by decide +kernel
theorem d_Ts_outcome_6 : decode cc_Ts_outcome 6 = .ok (.aload_n 3, 1) := by decide +kernel
theorem d_Ts_outcome_7 : decode cc_Ts_outcome 7 = .ok (.ifnonnull 5, 3) := by decide +kernel
theorem d_Ts_outcome_10 : decode cc_Ts_outcome 10 = .ok (.iconst (-1), 1) := by decide +kernel
theorem d_Ts_outcome_11 : decode cc_Ts_outcome 11 = .ok (.ireturn, 1) := by decide +kernel
theorem d_Ts_outcome_12 : decode cc_Ts_outcome 12 = .ok (.iload_n 2, 1) := by decide +kernel
theorem d_Ts_outcome_13 : decode cc_Ts_outcome 13 = .ok (.ifCond .ne 50, 3) := by decide +kernel
theorem d_Ts_outcome_16 : decode cc_Ts_outcome 16 = .ok (.aload_n 0, 1) := by decide +kernel
theorem d_Ts_outcome_17 : decode cc_Ts_outcome 17 = .ok (.getfield 29, 3) := by decide +kernel
theorem d_Ts_outcome_20 : decode cc_Ts_outcome 20 = .ok (.getfield 88, 3) := by decide +kernel
theorem d_Ts_outcome_23 : decode cc_Ts_outcome 23 = .ok (.ifCond .le 40, 3) := by decide +kernel
theorem d_Ts_outcome_26 : decode cc_Ts_outcome 26 = .ok (.aload_n 3, 1) := by decide +kernel
theorem d_Ts_outcome_27 : decode cc_Ts_outcome 27 = .ok (.aload_n 0, 1) := by decide +kernel
theorem d_Ts_outcome_28 : decode cc_Ts_outcome 28 = .ok (.getfield 29, 3) := by decide +kernel
theorem d_Ts_outcome_31 : decode cc_Ts_outcome 31 = .ok (.getfield 91, 3) := by decide +kernel
theorem d_Ts_outcome_34 : decode cc_Ts_outcome 34 = .ok (.invokevirtual 95, 3) := by decide +kernel
theorem d_Ts_outcome_37 : decode cc_Ts_outcome 37 = .ok (.aload_n 0, 1) := by decide +kernel
theorem d_Ts_outcome_38 : decode cc_Ts_outcome 38 = .ok (.getfield 29, 3) := by decide +kernel
theorem d_Ts_outcome_41 : decode cc_Ts_outcome 41 = .ok (.iload_n 1, 1) := by decide +kernel
theorem d_Ts_outcome_42 : decode cc_Ts_outcome 42 = .ok (.invokevirtual 99, 3) := by decide +kernel
theorem d_Ts_outcome_45 : decode cc_Ts_outcome 45 = .ok (.ifCond .ne 18, 3) := by decide +kernel
theorem d_Ts_outcome_48 : decode cc_Ts_outcome 48 = .ok (.aload_n 0, 1) := by decide +kernel
theorem d_Ts_outcome_49 : decode cc_Ts_outcome 49 = .ok (.getfield 43, 3) := by decide +kernel
theorem d_Ts_outcome_52 : decode cc_Ts_outcome 52 = .ok (.iload_n 1, 1) := by decide +kernel
theorem d_Ts_outcome_53 : decode cc_Ts_outcome 53 = .ok (.aload_n 0, 1) := by decide +kernel
theorem d_Ts_outcome_54 : decode cc_Ts_outcome 54 = .ok (.getfield 29, 3) := by decide +kernel
theorem d_Ts_outcome_57 : decode cc_Ts_outcome 57 = .ok (.getfield 88, 3) := by decide +kernel
theorem d_Ts_outcome_60 : decode cc_Ts_outcome 60 = .ok (.invokevirtual 102, 3) := by decide +kernel
theorem d_Ts_outcome_63 : decode cc_Ts_outcome 63 = .ok (.aload_n 3, 1) := by decide +kernel
theorem d_Ts_outcome_64 : decode cc_Ts_outcome 64 = .ok (.aload_n 0, 1) := by decide +kernel
theorem d_Ts_outcome_65 : decode cc_Ts_outcome 65 = .ok (.getfield 12, 3) := by decide +kernel
theorem d_Ts_outcome_68 : decode cc_Ts_outcome 68 = .ok (.invokevirtual 105, 3) := by decide +kernel
theorem d_Ts_outcome_71 : decode cc_Ts_outcome 71 = .ok (.ireturn, 1) := by decide +kernel
theorem d_Ts_select_0 : decode cc_Ts_select 0 = .ok (.iload_n 1, 1) := by decide +kernel
theorem d_Ts_select_1 : decode cc_Ts_select 1 = .ok (.ifCond .lt 9, 3) := by decide +kernel
theorem d_Ts_select_4 : decode cc_Ts_select 4 = .ok (.iload_n 1, 1) := by decide +kernel
theorem d_Ts_select_5 : decode cc_Ts_select 5 = .ok (.ldc 109, 2) := by decide +kernel
theorem d_Ts_select_7 : decode cc_Ts_select 7 = .ok (.if_icmp .le 5, 3) := by decide +kernel
theorem d_Ts_select_10 : decode cc_Ts_select 10 = .ok (.iconst (-1), 1) := by decide +kernel
theorem d_Ts_select_11 : decode cc_Ts_select 11 = .ok (.ireturn, 1) := by decide +kernel
theorem d_Ts_select_12 : decode cc_Ts_select 12 = .ok (.aload_n 0, 1) := by decide +kernel
theorem d_Ts_select_13 : decode cc_Ts_select 13 = .ok (.getfield 29, 3) := by decide +kernel
theorem d_Ts_select_16 : decode cc_Ts_select 16 = .ok (.invokevirtual 110, 3) := by decide +kernel
theorem d_Ts_select_19 : decode cc_Ts_select 19 = .ok (.aload_n 0, 1) := by decide +kernel
theorem d_Ts_select_20 : decode cc_Ts_select 20 = .ok (.getfield 36, 3) := by decide +kernel
theorem d_Ts_select_23 : decode cc_Ts_select 23 = .ok (.iconst 0, 1) := by decide +kernel
theorem d_Ts_select_24 : decode cc_Ts_select 24 = .ok (.putfield 113, 3) := by decide +kernel
theorem d_Ts_select_27 : decode cc_Ts_select 27 = .ok (.iconst 0, 1) := by decide +kernel
theorem d_Ts_select_28 : decode cc_Ts_select 28 = .ok (.istore_n 2, 1) := by decide +kernel
theorem d_Ts_select_29 : decode cc_Ts_select 29 = .ok (.iload_n 2, 1) := by decide +kernel
theorem d_Ts_select_30 : decode cc_Ts_select 30 = .ok (.aload_n 0, 1) := by decide +kernel
theorem d_Ts_select_31 : decode cc_Ts_select 31 = .ok (.getfield 22, 3) := by decide +kernel
theorem d_Ts_select_34 : decode cc_Ts_select 34 = .ok (.if_icmp .ge 14, 3) := by decide +kernel
theorem d_Ts_select_37 : decode cc_Ts_select 37 = .ok (.aload_n 0, 1) := by decide +kernel
theorem d_Ts_select_38 : decode cc_Ts_select 38 = .ok (.iload_n 2, 1) := by decide +kernel
theorem d_Ts_select_39 : decode cc_Ts_select 39 = .ok (.invokevirtual 116, 3) := by decide +kernel
theorem d_Ts_select_42 : decode cc_Ts_select 42 = .ok (.iinc 2 1, 3) := by decide +kernel
theorem d_Ts_select_45 : decode cc_Ts_select 45 = .ok (.goto (-16), 3) := by decide +kernel
theorem d_Ts_select_48 : decode cc_Ts_select 48 = .ok (.aload_n 0, 1) := by decide +kernel
theorem d_Ts_select_49 : decode cc_Ts_select 49 = .ok (.iload_n 1, 1) := by decide +kernel
theorem d_Ts_select_50 : decode cc_Ts_select 50 = .ok (.invokevirtual 120, 3) := by decide +kernel
theorem d_Ts_select_53 : decode cc_Ts_select 53 = .ok (.aload_n 0, 1) := by decide +kernel
theorem d_Ts_select_54 : decode cc_Ts_select 54 = .ok (.getfield 12, 3) := by decide +kernel
theorem d_Ts_select_57 : decode cc_Ts_select 57 = .ok (.aload_n 0, 1) := by decide +kernel
theorem d_Ts_select_58 : decode cc_Ts_select 58 = .ok (.getfield 29, 3) := by decide +kernel
theorem d_Ts_select_61 : decode cc_Ts_select 61 = .ok (.getfield 91, 3) := by decide +kernel
theorem d_Ts_select_64 : decode cc_Ts_select 64 = .ok (.invokevirtual 123, 3) := by decide +kernel
theorem d_Ts_select_67 : decode cc_Ts_select 67 = .ok (.aload_n 0, 1) := by decide +kernel
theorem d_Ts_select_68 : decode cc_Ts_select 68 = .ok (.getfield 29, 3) := by decide +kernel
theorem d_Ts_select_71 : decode cc_Ts_select 71 = .ok (.getfield 126, 3) := by decide +kernel
theorem d_Ts_select_74 : decode cc_Ts_select 74 = .ok (.ireturn, 1) := by decide +kernel
theorem d_Ts_at_0 : decode cc_Ts_at 0 = .ok (.iload_n 1, 1) := by decide +kernel
theorem d_Ts_at_1 : decode cc_Ts_at 1 = .ok (.ifCond .lt 26, 3) := by decide +kernel
theorem d_Ts_at_4 : decode cc_Ts_at 4 = .ok (.iload_n 1, 1) := by decide +kernel
theorem d_Ts_at_5 : decode cc_Ts_at 5 = .ok (.aload_n 0, 1) := by decide +kernel
theorem d_Ts_at_6 : decode cc_Ts_at 6 = .ok (.getfield 29, 3) := by decide +kernel
theorem d_Ts_at_9 : decode cc_Ts_at 9 = .ok (.getfield 126, 3) := by decide +kernel
theorem d_Ts_at_12 : decode cc_Ts_at 12 = .ok (.if_icmp .ge 15, 3) := by decide +kernel
theorem d_Ts_at_15 : decode cc_Ts_at 15 = .ok (.aload_n 0, 1) := by decide +kernel
theorem d_Ts_at_16 : decode cc_Ts_at 16 = .ok (.getfield 29, 3) := by decide +kernel
theorem d_Ts_at_19 : decode cc_Ts_at 19 = .ok (.getfield 127, 3) := by decide +kernel
theorem d_Ts_at_22 : decode cc_Ts_at 22 = .ok (.iload_n 1, 1) := by decide +kernel
theorem d_Ts_at_23 : decode cc_Ts_at 23 = .ok (.iaload, 1) := by decide +kernel
theorem d_Ts_at_24 : decode cc_Ts_at 24 = .ok (.goto 4, 3) := by decide +kernel
theorem d_Ts_at_27 : decode cc_Ts_at 27 = .ok (.iconst (-1), 1) := by decide +kernel
theorem d_Ts_at_28 : decode cc_Ts_at 28 = .ok (.ireturn, 1) := by decide +kernel
theorem d_Ts_why_0 : decode cc_Ts_why 0 = .ok (.aload_n 0, 1) := by decide +kernel
theorem d_Ts_why_1 : decode cc_Ts_why 1 = .ok (.iload_n 1, 1) := by decide +kernel
theorem d_Ts_why_2 : decode cc_Ts_why 2 = .ok (.invokevirtual 65, 3) := by decide +kernel
theorem d_Ts_why_5 : decode cc_Ts_why 5 = .ok (.astore_n 2, 1) := by decide +kernel
theorem d_Ts_why_6 : decode cc_Ts_why 6 = .ok (.aload_n 2, 1) := by decide +kernel
theorem d_Ts_why_7 : decode cc_Ts_why 7 = .ok (.ifnonnull 7, 3) := by decide +kernel
theorem d_Ts_why_10 : decode cc_Ts_why 10 = .ok (.iconst (-1), 1) := by decide +kernel
theorem d_Ts_why_11 : decode cc_Ts_why 11 = .ok (.goto 11, 3) := by decide +kernel
theorem d_Ts_why_14 : decode cc_Ts_why 14 = .ok (.aload_n 2, 1) := by decide +kernel
theorem d_Ts_why_15 : decode cc_Ts_why 15 = .ok (.aload_n 0, 1) := by decide +kernel
theorem d_Ts_why_16 : decode cc_Ts_why 16 = .ok (.getfield 12, 3) := by decide +kernel
theorem d_Ts_why_19 : decode cc_Ts_why 19 = .ok (.invokevirtual 130, 3) := by decide +kernel
theorem d_Ts_why_22 : decode cc_Ts_why 22 = .ok (.ireturn, 1) := by decide +kernel
theorem d_Ts_kept_0 : decode cc_Ts_kept 0 = .ok (.aload_n 0, 1) := by decide +kernel
theorem d_Ts_kept_1 : decode cc_Ts_kept 1 = .ok (.iload_n 1, 1) := by decide +kernel
theorem d_Ts_kept_2 : decode cc_Ts_kept 2 = .ok (.invokevirtual 65, 3) := by decide +kernel
theorem d_Ts_kept_5 : decode cc_Ts_kept 5 = .ok (.astore_n 3, 1) := by decide +kernel
theorem d_Ts_kept_6 : decode cc_Ts_kept 6 = .ok (.aload_n 3, 1) := by decide +kernel
theorem d_Ts_kept_7 : decode cc_Ts_kept 7 = .ok (.ifnonnull 5, 3) := by decide +kernel
theorem d_Ts_kept_10 : decode cc_Ts_kept 10 = .ok (.iconst (-1), 1) := by decide +kernel
theorem d_Ts_kept_11 : decode cc_Ts_kept 11 = .ok (.ireturn, 1) := by decide +kernel
theorem d_Ts_kept_12 : decode cc_Ts_kept 12 = .ok (.iload_n 2, 1) := by decide +kernel
theorem d_Ts_kept_13 : decode cc_Ts_kept 13 = .ok (.ifCond .ne 11, 3) := by decide +kernel
theorem d_Ts_kept_16 : decode cc_Ts_kept 16 = .ok (.aload_n 3, 1) := by decide +kernel
theorem d_Ts_kept_17 : decode cc_Ts_kept 17 = .ok (.getfield 133, 3) := by decide +kernel
theorem d_Ts_kept_20 : decode cc_Ts_kept 20 = .ok (.invokestatic 136, 3) := by decide +kernel
theorem d_Ts_kept_23 : decode cc_Ts_kept 23 = .ok (.ireturn, 1) := by decide +kernel
theorem d_Ts_kept_24 : decode cc_Ts_kept 24 = .ok (.iload_n 2, 1) := by decide +kernel
theorem d_Ts_kept_25 : decode cc_Ts_kept 25 = .ok (.iconst 1, 1) := by decide +kernel
theorem d_Ts_kept_26 : decode cc_Ts_kept 26 = .ok (.if_icmp .ne 14, 3) := by decide +kernel
theorem d_Ts_kept_29 : decode cc_Ts_kept 29 = .ok (.aload_n 3, 1) := by decide +kernel
theorem d_Ts_kept_30 : decode cc_Ts_kept 30 = .ok (.aload_n 0, 1) := by decide +kernel
theorem d_Ts_kept_31 : decode cc_Ts_kept 31 = .ok (.getfield 12, 3) := by decide +kernel
theorem d_Ts_kept_34 : decode cc_Ts_kept 34 = .ok (.invokevirtual 141, 3) := by decide +kernel
theorem d_Ts_kept_37 : decode cc_Ts_kept 37 = .ok (.goto 4, 3) := by decide +kernel
theorem d_Ts_kept_40 : decode cc_Ts_kept 40 = .ok (.iconst (-1), 1) := by decide +kernel
theorem d_Ts_kept_41 : decode cc_Ts_kept 41 = .ok (.ireturn, 1) := by decide +kernel
theorem d_Ts_share_0 : decode cc_Ts_share 0 = .ok (.aload_n 0, 1) := by decide +kernel
theorem d_Ts_share_1 : decode cc_Ts_share 1 = .ok (.iload_n 1, 1) := by decide +kernel
theorem d_Ts_share_2 : decode cc_Ts_share 2 = .ok (.invokevirtual 65, 3) := by decide +kernel
theorem d_Ts_share_5 : decode cc_Ts_share 5 = .ok (.astore_n 2, 1) := by decide +kernel
theorem d_Ts_share_6 : decode cc_Ts_share 6 = .ok (.aload_n 2, 1) := by decide +kernel
theorem d_Ts_share_7 : decode cc_Ts_share 7 = .ok (.ifnonnull 7, 3) := by decide +kernel
theorem d_Ts_share_10 : decode cc_Ts_share 10 = .ok (.iconst (-1), 1) := by decide +kernel
theorem d_Ts_share_11 : decode cc_Ts_share 11 = .ok (.goto 14, 3) := by decide +kernel
theorem d_Ts_share_14 : decode cc_Ts_share 14 = .ok (.aload_n 2, 1) := by decide +kernel
theorem d_Ts_share_15 : decode cc_Ts_share 15 = .ok (.aload_n 0, 1) := by decide +kernel
theorem d_Ts_share_16 : decode cc_Ts_share 16 = .ok (.getfield 12, 3) := by decide +kernel
theorem d_Ts_share_19 : decode cc_Ts_share 19 = .ok (.getfield 144, 3) := by decide +kernel
theorem d_Ts_share_22 : decode cc_Ts_share 22 = .ok (.invokevirtual 147, 3) := by decide +kernel
theorem d_Ts_share_25 : decode cc_Ts_share 25 = .ok (.ireturn, 1) := by decide +kernel
theorem d_Ts_together_0 : decode cc_Ts_together 0 = .ok (.aload_n 0, 1) := by decide +kernel
theorem d_Ts_together_1 : decode cc_Ts_together 1 = .ok (.iload_n 1, 1) := by decide +kernel
theorem d_Ts_together_2 : decode cc_Ts_together 2 = .ok (.invokevirtual 65, 3) := by decide +kernel
theorem d_Ts_together_5 : decode cc_Ts_together 5 = .ok (.astore_n 3, 1) := by decide +kernel
theorem d_Ts_together_6 : decode cc_Ts_together 6 = .ok (.aload_n 3, 1) := by decide +kernel
theorem d_Ts_together_7 : decode cc_Ts_together 7 = .ok (.ifnull 14, 3) := by decide +kernel
theorem d_Ts_together_10 : decode cc_Ts_together 10 = .ok (.aload_n 0, 1) := by decide +kernel
theorem d_Ts_together_11 : decode cc_Ts_together 11 = .ok (.getfield 12, 3) := by decide +kernel
theorem d_Ts_together_14 : decode cc_Ts_together 14 = .ok (.iload_n 2, 1) := by decide +kernel
theorem d_Ts_together_15 : decode cc_Ts_together 15 = .ok (.invokevirtual 73, 3) := by decide +kernel
theorem d_Ts_together_18 : decode cc_Ts_together 18 = .ok (.ifCond .ne 7, 3) := by decide +kernel
theorem d_Ts_together_21 : decode cc_Ts_together 21 = .ok (.iconst (-1), 1) := by decide +kernel
theorem d_Ts_together_22 : decode cc_Ts_together 22 = .ok (.goto 9, 3) := by decide +kernel
theorem d_Ts_together_25 : decode cc_Ts_together 25 = .ok (.aload_n 3, 1) := by decide +kernel
theorem d_Ts_together_26 : decode cc_Ts_together 26 = .ok (.getfield 151, 3) := by decide +kernel
theorem d_Ts_together_29 : decode cc_Ts_together 29 = .ok (.iload_n 2, 1) := by decide +kernel
theorem d_Ts_together_30 : decode cc_Ts_together 30 = .ok (.iaload, 1) := by decide +kernel
theorem d_Ts_together_31 : decode cc_Ts_together 31 = .ok (.ireturn, 1) := by decide +kernel
theorem d_Ts_touched_0 : decode cc_Ts_touched 0 = .ok (.aload_n 0, 1) := by decide +kernel
theorem d_Ts_touched_1 : decode cc_Ts_touched 1 = .ok (.getfield 12, 3) := by decide +kernel
theorem d_Ts_touched_4 : decode cc_Ts_touched 4 = .ok (.iload_n 1, 1) := by decide +kernel
theorem d_Ts_touched_5 : decode cc_Ts_touched 5 = .ok (.invokevirtual 73, 3) := by decide +kernel
theorem d_Ts_touched_8 : decode cc_Ts_touched 8 = .ok (.ifCond .eq 19, 3) := by decide +kernel
theorem d_Ts_touched_11 : decode cc_Ts_touched 11 = .ok (.aload_n 0, 1) := by decide +kernel
theorem d_Ts_touched_12 : decode cc_Ts_touched 12 = .ok (.getfield 12, 3) := by decide +kernel
theorem d_Ts_touched_15 : decode cc_Ts_touched 15 = .ok (.getfield 144, 3) := by decide +kernel
theorem d_Ts_touched_18 : decode cc_Ts_touched 18 = .ok (.iload_n 1, 1) := by decide +kernel
theorem d_Ts_touched_19 : decode cc_Ts_touched 19 = .ok (.baload, 1) := by decide +kernel
theorem d_Ts_touched_20 : decode cc_Ts_touched 20 = .ok (.ifCond .eq 7, 3) := by decide +kernel
theorem d_Ts_touched_23 : decode cc_Ts_touched 23 = .ok (.iconst 1, 1) := by decide +kernel
theorem d_Ts_touched_24 : decode cc_Ts_touched 24 = .ok (.goto 4, 3) := by decide +kernel
theorem d_Ts_touched_27 : decode cc_Ts_touched 27 = .ok (.iconst 0, 1) := by decide +kernel
theorem d_Ts_touched_28 : decode cc_Ts_touched 28 = .ok (.ireturn, 1) := by decide +kernel
theorem d_Ts_missed_0 : decode cc_Ts_missed 0 = .ok (.iload_n 1, 1) := by decide +kernel
theorem d_Ts_missed_1 : decode cc_Ts_missed 1 = .ok (.ifCond .lt 14, 3) := by decide +kernel
theorem d_Ts_missed_4 : decode cc_Ts_missed 4 = .ok (.iload_n 1, 1) := by decide +kernel
theorem d_Ts_missed_5 : decode cc_Ts_missed 5 = .ok (.aload_n 0, 1) := by decide +kernel
theorem d_Ts_missed_6 : decode cc_Ts_missed 6 = .ok (.getfield 43, 3) := by decide +kernel
theorem d_Ts_missed_9 : decode cc_Ts_missed 9 = .ok (.getfield 154, 3) := by decide +kernel
theorem d_Ts_missed_12 : decode cc_Ts_missed 12 = .ok (.if_icmp .lt 5, 3) := by decide +kernel
theorem d_Ts_missed_15 : decode cc_Ts_missed 15 = .ok (.iconst (-1), 1) := by decide +kernel
theorem d_Ts_missed_16 : decode cc_Ts_missed 16 = .ok (.ireturn, 1) := by decide +kernel
theorem d_Ts_missed_17 : decode cc_Ts_missed 17 = .ok (.iload_n 2, 1) := by decide +kernel
theorem d_Ts_missed_18 : decode cc_Ts_missed 18 = .ok (.ifCond .ne 13, 3) := by decide +kernel
theorem d_Ts_missed_21 : decode cc_Ts_missed 21 = .ok (.aload_n 0, 1) := by decide +kernel
theorem d_Ts_missed_22 : decode cc_Ts_missed 22 = .ok (.getfield 43, 3) := by decide +kernel
theorem d_Ts_missed_25 : decode cc_Ts_missed 25 = .ok (.getfield 155, 3) := by decide +kernel
theorem d_Ts_missed_28 : decode cc_Ts_missed 28 = .ok (.iload_n 1, 1) := by decide +kernel
theorem d_Ts_missed_29 : decode cc_Ts_missed 29 = .ok (.iaload, 1) := by decide +kernel
theorem d_Ts_missed_30 : decode cc_Ts_missed 30 = .ok (.ireturn, 1) := by decide +kernel
theorem d_Ts_missed_31 : decode cc_Ts_missed 31 = .ok (.iload_n 2, 1) := by decide +kernel
theorem d_Ts_missed_32 : decode cc_Ts_missed 32 = .ok (.iconst 1, 1) := by decide +kernel
theorem d_Ts_missed_33 : decode cc_Ts_missed 33 = .ok (.if_icmp .ne 15, 3) := by decide +kernel
theorem d_Ts_missed_36 : decode cc_Ts_missed 36 = .ok (.aload_n 0, 1) := by decide +kernel
theorem d_Ts_missed_37 : decode cc_Ts_missed 37 = .ok (.getfield 43, 3) := by decide +kernel
theorem d_Ts_missed_40 : decode cc_Ts_missed 40 = .ok (.getfield 157, 3) := by decide +kernel
theorem d_Ts_missed_43 : decode cc_Ts_missed 43 = .ok (.iload_n 1, 1) := by decide +kernel
theorem d_Ts_missed_44 : decode cc_Ts_missed 44 = .ok (.iaload, 1) := by decide +kernel
theorem d_Ts_missed_45 : decode cc_Ts_missed 45 = .ok (.goto 4, 3) := by decide +kernel
theorem d_Ts_missed_48 : decode cc_Ts_missed 48 = .ok (.iconst (-1), 1) := by decide +kernel
theorem d_Ts_missed_49 : decode cc_Ts_missed 49 = .ok (.ireturn, 1) := by decide +kernel
theorem d_Ts_rowOf_0 : decode cc_Ts_rowOf 0 = .ok (.iload_n 1, 1) := by decide +kernel
theorem d_Ts_rowOf_1 : decode cc_Ts_rowOf 1 = .ok (.ifCond .lt 20, 3) := by decide +kernel
theorem d_Ts_rowOf_4 : decode cc_Ts_rowOf 4 = .ok (.iload_n 1, 1) := by decide +kernel
theorem d_Ts_rowOf_5 : decode cc_Ts_rowOf 5 = .ok (.aload_n 0, 1) := by decide +kernel
theorem d_Ts_rowOf_6 : decode cc_Ts_rowOf 6 = .ok (.getfield 22, 3) := by decide +kernel
theorem d_Ts_rowOf_9 : decode cc_Ts_rowOf 9 = .ok (.if_icmp .ge 12, 3) := by decide +kernel
theorem d_Ts_rowOf_12 : decode cc_Ts_rowOf 12 = .ok (.aload_n 0, 1) := by decide +kernel
theorem d_Ts_rowOf_13 : decode cc_Ts_rowOf 13 = .ok (.getfield 18, 3) := by decide +kernel
theorem d_Ts_rowOf_16 : decode cc_Ts_rowOf 16 = .ok (.iload_n 1, 1) := by decide +kernel
theorem d_Ts_rowOf_17 : decode cc_Ts_rowOf 17 = .ok (.aaload, 1) := by decide +kernel
theorem d_Ts_rowOf_18 : decode cc_Ts_rowOf 18 = .ok (.goto 4, 3) := by decide +kernel
theorem d_Ts_rowOf_21 : decode cc_Ts_rowOf 21 = .ok (.aconst_null, 1) := by decide +kernel
theorem d_Ts_rowOf_22 : decode cc_Ts_rowOf 22 = .ok (.areturn, 1) := by decide +kernel
theorem d_Ts_placeInSelection_0 : decode cc_Ts_placeInSelection 0 = .ok (.aload_n 0, 1) := by decide +kernel
theorem d_Ts_placeInSelection_1 : decode cc_Ts_placeInSelection 1 = .ok (.iload_n 1, 1) := by decide +kernel
theorem d_Ts_placeInSelection_2 : decode cc_Ts_placeInSelection 2 = .ok (.invokevirtual 65, 3) := by decide +kernel
theorem d_Ts_placeInSelection_5 : decode cc_Ts_placeInSelection 5 = .ok (.astore_n 2, 1) := by decide +kernel
theorem d_Ts_placeInSelection_6 : decode cc_Ts_placeInSelection 6 = .ok (.aload_n 2, 1) := by decide +kernel
theorem d_Ts_placeInSelection_7 : decode cc_Ts_placeInSelection 7 = .ok (.ifnonnull 4, 3) := by decide +kernel
theorem d_Ts_placeInSelection_10 : decode cc_Ts_placeInSelection 10 = .ok (.return_, 1) := by decide +kernel
theorem d_Ts_placeInSelection_11 : decode cc_Ts_placeInSelection 11 = .ok (.aload_n 2, 1) := by decide +kernel
theorem d_Ts_placeInSelection_12 : decode cc_Ts_placeInSelection 12 = .ok (.aload_n 0, 1) := by decide +kernel
theorem d_Ts_placeInSelection_13 : decode cc_Ts_placeInSelection 13 = .ok (.getfield 12, 3) := by decide +kernel
theorem d_Ts_placeInSelection_16 : decode cc_Ts_placeInSelection 16 = .ok (.invokevirtual 130, 3) := by decide +kernel
theorem d_Ts_placeInSelection_19 : decode cc_Ts_placeInSelection 19 = .ok (.ifCond .eq 12, 3) := by decide +kernel
theorem d_Ts_placeInSelection_22 : decode cc_Ts_placeInSelection 22 = .ok (.aload_n 0, 1) := by decide +kernel
theorem d_Ts_placeInSelection_23 : decode cc_Ts_placeInSelection 23 = .ok (.getfield 29, 3) := by decide +kernel
theorem d_Ts_placeInSelection_26 : decode cc_Ts_placeInSelection 26 = .ok (.iload_n 1, 1) := by decide +kernel
theorem d_Ts_placeInSelection_27 : decode cc_Ts_placeInSelection 27 = .ok (.invokevirtual 160, 3) := by decide +kernel
theorem d_Ts_placeInSelection_30 : decode cc_Ts_placeInSelection 30 = .ok (.return_, 1) := by decide +kernel
theorem d_Ts_placeInSelection_31 : decode cc_Ts_placeInSelection 31 = .ok (.aload_n 2, 1) := by decide +kernel
theorem d_Ts_placeInSelection_32 : decode cc_Ts_placeInSelection 32 = .ok (.aload_n 0, 1) := by decide +kernel
theorem d_Ts_placeInSelection_33 : decode cc_Ts_placeInSelection 33 = .ok (.getfield 12, 3) := by decide +kernel
theorem d_Ts_placeInSelection_36 : decode cc_Ts_placeInSelection 36 = .ok (.getfield 144, 3) := by decide +kernel
theorem d_Ts_placeInSelection_39 : decode cc_Ts_placeInSelection 39 = .ok (.invokevirtual 147, 3) := by decide +kernel
theorem d_Ts_placeInSelection_42 : decode cc_Ts_placeInSelection 42 = .ok (.istore_n 3, 1) := by decide +kernel
theorem d_Ts_placeInSelection_43 : decode cc_Ts_placeInSelection 43 = .ok (.iload_n 3, 1) := by decide +kernel
theorem d_Ts_placeInSelection_44 : decode cc_Ts_placeInSelection 44 = .ok (.ifCond .le 16, 3) := by decide +kernel
theorem d_Ts_placeInSelection_47 : decode cc_Ts_placeInSelection 47 = .ok (.aload_n 0, 1) := by decide +kernel
theorem d_Ts_placeInSelection_48 : decode cc_Ts_placeInSelection 48 = .ok (.getfield 36, 3) := by decide +kernel
theorem d_Ts_placeInSelection_51 : decode cc_Ts_placeInSelection 51 = .ok (.iload_n 1, 1) := by decide +kernel
theorem d_Ts_placeInSelection_52 : decode cc_Ts_placeInSelection 52 = .ok (.iload_n 3, 1) := by decide +kernel
theorem d_Ts_placeInSelection_53 : decode cc_Ts_placeInSelection 53 = .ok (.aload_n 2, 1) := by decide +kernel
theorem d_Ts_placeInSelection_54 : decode cc_Ts_placeInSelection 54 = .ok (.getfield 162, 3) := by decide +kernel
theorem d_Ts_placeInSelection_57 : decode cc_Ts_placeInSelection 57 = .ok (.invokevirtual 165, 3) := by decide +kernel
theorem d_Ts_placeInSelection_60 : decode cc_Ts_placeInSelection 60 = .ok (.return_, 1) := by decide +kernel
theorem d_Ts_takeExtras_0 : decode cc_Ts_takeExtras 0 = .ok (.iload_n 1, 1) := by decide +kernel
theorem d_Ts_takeExtras_1 : decode cc_Ts_takeExtras 1 = .ok (.istore_n 2, 1) := by decide +kernel
theorem d_Ts_takeExtras_2 : decode cc_Ts_takeExtras 2 = .ok (.iconst 0, 1) := by decide +kernel
theorem d_Ts_takeExtras_3 : decode cc_Ts_takeExtras 3 = .ok (.istore_n 3, 1) := by decide +kernel
theorem d_Ts_takeExtras_4 : decode cc_Ts_takeExtras 4 = .ok (.iload_n 3, 1) := by decide +kernel
theorem d_Ts_takeExtras_5 : decode cc_Ts_takeExtras 5 = .ok (.aload_n 0, 1) := by decide +kernel
theorem d_Ts_takeExtras_6 : decode cc_Ts_takeExtras 6 = .ok (.getfield 36, 3) := by decide +kernel
theorem d_Ts_takeExtras_9 : decode cc_Ts_takeExtras 9 = .ok (.getfield 113, 3) := by decide +kernel
theorem d_Ts_takeExtras_12 : decode cc_Ts_takeExtras 12 = .ok (.if_icmp .ge 50, 3) := by decide +kernel
theorem d_Ts_takeExtras_15 : decode cc_Ts_takeExtras 15 = .ok (.aload_n 0, 1) := by decide +kernel
theorem d_Ts_takeExtras_16 : decode cc_Ts_takeExtras 16 = .ok (.getfield 36, 3) := by decide +kernel
theorem d_Ts_takeExtras_19 : decode cc_Ts_takeExtras 19 = .ok (.getfield 169, 3) := by decide +kernel
theorem d_Ts_takeExtras_22 : decode cc_Ts_takeExtras 22 = .ok (.iload_n 3, 1) := by decide +kernel
theorem d_Ts_takeExtras_23 : decode cc_Ts_takeExtras 23 = .ok (.iaload, 1) := by decide +kernel
theorem d_Ts_takeExtras_24 : decode cc_Ts_takeExtras 24 = .ok (.iload_n 2, 1) := by decide +kernel
theorem d_Ts_takeExtras_25 : decode cc_Ts_takeExtras 25 = .ok (.if_icmp .gt 31, 3) := by decide +kernel
theorem d_Ts_takeExtras_28 : decode cc_Ts_takeExtras 28 = .ok (.iload_n 2, 1) := by decide +kernel
theorem d_Ts_takeExtras_29 : decode cc_Ts_takeExtras 29 = .ok (.aload_n 0, 1) := by decide +kernel
theorem d_Ts_takeExtras_30 : decode cc_Ts_takeExtras 30 = .ok (.getfield 36, 3) := by decide +kernel
theorem d_Ts_takeExtras_33 : decode cc_Ts_takeExtras 33 = .ok (.getfield 169, 3) := by decide +kernel
theorem d_Ts_takeExtras_36 : decode cc_Ts_takeExtras 36 = .ok (.iload_n 3, 1) := by decide +kernel
theorem d_Ts_takeExtras_37 : decode cc_Ts_takeExtras 37 = .ok (.iaload, 1) := by decide +kernel
theorem d_Ts_takeExtras_38 : decode cc_Ts_takeExtras 38 = .ok (.isub, 1) := by decide +kernel
theorem d_Ts_takeExtras_39 : decode cc_Ts_takeExtras 39 = .ok (.istore_n 2, 1) := by decide +kernel
theorem d_Ts_takeExtras_40 : decode cc_Ts_takeExtras 40 = .ok (.aload_n 0, 1) := by decide +kernel
theorem d_Ts_takeExtras_41 : decode cc_Ts_takeExtras 41 = .ok (.getfield 29, 3) := by decide +kernel
theorem d_Ts_takeExtras_44 : decode cc_Ts_takeExtras 44 = .ok (.aload_n 0, 1) := by decide +kernel
theorem d_Ts_takeExtras_45 : decode cc_Ts_takeExtras 45 = .ok (.getfield 36, 3) := by decide +kernel
theorem d_Ts_takeExtras_48 : decode cc_Ts_takeExtras 48 = .ok (.getfield 172, 3) := by decide +kernel
theorem d_Ts_takeExtras_51 : decode cc_Ts_takeExtras 51 = .ok (.iload_n 3, 1) := by decide +kernel
theorem d_Ts_takeExtras_52 : decode cc_Ts_takeExtras 52 = .ok (.iaload, 1) := by decide +kernel
theorem d_Ts_takeExtras_53 : decode cc_Ts_takeExtras 53 = .ok (.invokevirtual 160, 3) := by decide +kernel
theorem d_Ts_takeExtras_56 : decode cc_Ts_takeExtras 56 = .ok (.iinc 3 1, 3) := by decide +kernel
theorem d_Ts_takeExtras_59 : decode cc_Ts_takeExtras 59 = .ok (.goto (-55), 3) := by decide +kernel
theorem d_Ts_takeExtras_62 : decode cc_Ts_takeExtras 62 = .ok (.return_, 1) := by decide +kernel
theorem d_Lo_bitCount_0 : decode cc_Lo_bitCount 0 = .ok (.lload_n 0, 1) := by decide +kernel
theorem d_Lo_bitCount_1 : decode cc_Lo_bitCount 1 = .ok (.lload_n 0, 1) := by decide +kernel
theorem d_Lo_bitCount_2 : decode cc_Lo_bitCount 2 = .ok (.iconst 1, 1) := by decide +kernel
theorem d_Lo_bitCount_3 : decode cc_Lo_bitCount 3 = .ok (.lushr, 1) := by decide +kernel
theorem d_Lo_bitCount_4 : decode cc_Lo_bitCount 4 = .ok (.ldc2_w 314, 3) := by decide +kernel
theorem d_Lo_bitCount_7 : decode cc_Lo_bitCount 7 = .ok (.land, 1) := by decide +kernel
theorem d_Lo_bitCount_8 : decode cc_Lo_bitCount 8 = .ok (.lsub, 1) := by decide +kernel
theorem d_Lo_bitCount_9 : decode cc_Lo_bitCount 9 = .ok (.lstore_n 0, 1) := by decide +kernel
theorem d_Lo_bitCount_10 : decode cc_Lo_bitCount 10 = .ok (.lload_n 0, 1) := by decide +kernel
theorem d_Lo_bitCount_11 : decode cc_Lo_bitCount 11 = .ok (.ldc2_w 316, 3) := by decide +kernel
theorem d_Lo_bitCount_14 : decode cc_Lo_bitCount 14 = .ok (.land, 1) := by decide +kernel
theorem d_Lo_bitCount_15 : decode cc_Lo_bitCount 15 = .ok (.lload_n 0, 1) := by decide +kernel
theorem d_Lo_bitCount_16 : decode cc_Lo_bitCount 16 = .ok (.iconst 2, 1) := by decide +kernel
theorem d_Lo_bitCount_17 : decode cc_Lo_bitCount 17 = .ok (.lushr, 1) := by decide +kernel
theorem d_Lo_bitCount_18 : decode cc_Lo_bitCount 18 = .ok (.ldc2_w 316, 3) := by decide +kernel
theorem d_Lo_bitCount_21 : decode cc_Lo_bitCount 21 = .ok (.land, 1) := by decide +kernel
theorem d_Lo_bitCount_22 : decode cc_Lo_bitCount 22 = .ok (.ladd, 1) := by decide +kernel
theorem d_Lo_bitCount_23 : decode cc_Lo_bitCount 23 = .ok (.lstore_n 0, 1) := by decide +kernel
theorem d_Lo_bitCount_24 : decode cc_Lo_bitCount 24 = .ok (.lload_n 0, 1) := by decide +kernel
theorem d_Lo_bitCount_25 : decode cc_Lo_bitCount 25 = .ok (.lload_n 0, 1) := by decide +kernel
theorem d_Lo_bitCount_26 : decode cc_Lo_bitCount 26 = .ok (.iconst 4, 1) := by decide +kernel
theorem d_Lo_bitCount_27 : decode cc_Lo_bitCount 27 = .ok (.lushr, 1) := by decide +kernel
theorem d_Lo_bitCount_28 : decode cc_Lo_bitCount 28 = .ok (.ladd, 1) := by decide +kernel
theorem d_Lo_bitCount_29 : decode cc_Lo_bitCount 29 = .ok (.ldc2_w 318, 3) := by decide +kernel
theorem d_Lo_bitCount_32 : decode cc_Lo_bitCount 32 = .ok (.land, 1) := by decide +kernel
theorem d_Lo_bitCount_33 : decode cc_Lo_bitCount 33 = .ok (.lstore_n 0, 1) := by decide +kernel
theorem d_Lo_bitCount_34 : decode cc_Lo_bitCount 34 = .ok (.lload_n 0, 1) := by decide +kernel
theorem d_Lo_bitCount_35 : decode cc_Lo_bitCount 35 = .ok (.lload_n 0, 1) := by decide +kernel
theorem d_Lo_bitCount_36 : decode cc_Lo_bitCount 36 = .ok (.bipush 8, 2) := by decide +kernel
theorem d_Lo_bitCount_38 : decode cc_Lo_bitCount 38 = .ok (.lushr, 1) := by decide +kernel
theorem d_Lo_bitCount_39 : decode cc_Lo_bitCount 39 = .ok (.ladd, 1) := by decide +kernel
theorem d_Lo_bitCount_40 : decode cc_Lo_bitCount 40 = .ok (.lstore_n 0, 1) := by decide +kernel
theorem d_Lo_bitCount_41 : decode cc_Lo_bitCount 41 = .ok (.lload_n 0, 1) := by decide +kernel
theorem d_Lo_bitCount_42 : decode cc_Lo_bitCount 42 = .ok (.lload_n 0, 1) := by decide +kernel
theorem d_Lo_bitCount_43 : decode cc_Lo_bitCount 43 = .ok (.bipush 16, 2) := by decide +kernel
theorem d_Lo_bitCount_45 : decode cc_Lo_bitCount 45 = .ok (.lushr, 1) := by decide +kernel
theorem d_Lo_bitCount_46 : decode cc_Lo_bitCount 46 = .ok (.ladd, 1) := by decide +kernel
theorem d_Lo_bitCount_47 : decode cc_Lo_bitCount 47 = .ok (.lstore_n 0, 1) := by decide +kernel
theorem d_Lo_bitCount_48 : decode cc_Lo_bitCount 48 = .ok (.lload_n 0, 1) := by decide +kernel
theorem d_Lo_bitCount_49 : decode cc_Lo_bitCount 49 = .ok (.lload_n 0, 1) := by decide +kernel
theorem d_Lo_bitCount_50 : decode cc_Lo_bitCount 50 = .ok (.bipush 32, 2) := by decide +kernel
theorem d_Lo_bitCount_52 : decode cc_Lo_bitCount 52 = .ok (.lushr, 1) := by decide +kernel
theorem d_Lo_bitCount_53 : decode cc_Lo_bitCount 53 = .ok (.ladd, 1) := by decide +kernel
theorem d_Lo_bitCount_54 : decode cc_Lo_bitCount 54 = .ok (.lstore_n 0, 1) := by decide +kernel
theorem d_Lo_bitCount_55 : decode cc_Lo_bitCount 55 = .ok (.lload_n 0, 1) := by decide +kernel
theorem d_Lo_bitCount_56 : decode cc_Lo_bitCount 56 = .ok (.l2i, 1) := by decide +kernel
theorem d_Lo_bitCount_57 : decode cc_Lo_bitCount 57 = .ok (.bipush 127, 2) := by decide +kernel
theorem d_Lo_bitCount_59 : decode cc_Lo_bitCount 59 = .ok (.iand, 1) := by decide +kernel
theorem d_Lo_bitCount_60 : decode cc_Lo_bitCount 60 = .ok (.ireturn, 1) := by decide +kernel
