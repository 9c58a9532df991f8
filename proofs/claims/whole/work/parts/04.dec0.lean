theorem dX0_init_0 : decode cX0_init 0 = .ok (.aload_n 0, 1) := by decide +kernel
theorem dX0_init_1 : decode cX0_init 1 = .ok (.invokespecial 3, 3) := by decide +kernel
theorem dX0_init_4 : decode cX0_init 4 = .ok (.aload_n 0, 1) := by decide +kernel
theorem dX0_init_5 : decode cX0_init 5 = .ok (.bipush 10, 2) := by decide +kernel
theorem dX0_init_7 : decode cX0_init 7 = .ok (.newarray .int, 2) := by decide +kernel
theorem dX0_init_9 : decode cX0_init 9 = .ok (.putfield 9, 3) := by decide +kernel
theorem dX0_init_12 : decode cX0_init 12 = .ok (.aload_n 0, 1) := by decide +kernel
theorem dX0_init_13 : decode cX0_init 13 = .ok (.bipush 10, 2) := by decide +kernel
theorem dX0_init_15 : decode cX0_init 15 = .ok (.newarray .int, 2) := by decide +kernel
theorem dX0_init_17 : decode cX0_init 17 = .ok (.putfield 15, 3) := by decide +kernel
theorem dX0_init_20 : decode cX0_init 20 = .ok (.aload_n 0, 1) := by decide +kernel
theorem dX0_init_21 : decode cX0_init 21 = .ok (.bipush 10, 2) := by decide +kernel
theorem dX0_init_23 : decode cX0_init 23 = .ok (.newarray .int, 2) := by decide +kernel
theorem dX0_init_25 : decode cX0_init 25 = .ok (.putfield 18, 3) := by decide +kernel
theorem dX0_init_28 : decode cX0_init 28 = .ok (.aload_n 0, 1) := by decide +kernel
theorem dX0_init_29 : decode cX0_init 29 = .ok (.bipush 10, 2) := by decide +kernel
theorem dX0_init_31 : decode cX0_init 31 = .ok (.anewarray 21, 3) := by decide +kernel
theorem dX0_init_34 : decode cX0_init 34 = .ok (.putfield 23, 3) := by decide +kernel
theorem dX0_init_37 : decode cX0_init 37 = .ok (.aload_n 0, 1) := by decide +kernel
theorem dX0_init_38 : decode cX0_init 38 = .ok (.bipush 6, 2) := by decide +kernel
theorem dX0_init_40 : decode cX0_init 40 = .ok (.anewarray 21, 3) := by decide +kernel
theorem dX0_init_43 : decode cX0_init 43 = .ok (.putfield 27, 3) := by decide +kernel
theorem dX0_init_46 : decode cX0_init 46 = .ok (.aload_n 0, 1) := by decide +kernel
theorem dX0_init_47 : decode cX0_init 47 = .ok (.iconst 3, 1) := by decide +kernel
theorem dX0_init_48 : decode cX0_init 48 = .ok (.newarray .int, 2) := by decide +kernel
theorem dX0_init_50 : decode cX0_init 50 = .ok (.putfield 30, 3) := by decide +kernel
theorem dX0_init_53 : decode cX0_init 53 = .ok (.aload_n 0, 1) := by decide +kernel
theorem dX0_init_54 : decode cX0_init 54 = .ok (.iconst 3, 1) := by decide +kernel
theorem dX0_init_55 : decode cX0_init 55 = .ok (.newarray .int, 2) := by decide +kernel
theorem dX0_init_57 : decode cX0_init 57 = .ok (.putfield 33, 3) := by decide +kernel
theorem dX0_init_60 : decode cX0_init 60 = .ok (.iconst 0, 1) := by decide +kernel
theorem dX0_init_61 : decode cX0_init 61 = .ok (.istore_n 1, 1) := by decide +kernel
theorem dX0_init_62 : decode cX0_init 62 = .ok (.iload_n 1, 1) := by decide +kernel
theorem dX0_init_63 : decode cX0_init 63 = .ok (.bipush 10, 2) := by decide +kernel
theorem dX0_init_65 : decode cX0_init 65 = .ok (.if_icmp .ge 22, 3) := by decide +kernel
theorem dX0_init_68 : decode cX0_init 68 = .ok (.aload_n 0, 1) := by decide +kernel
theorem dX0_init_69 : decode cX0_init 69 = .ok (.getfield 23, 3) := by decide +kernel
theorem dX0_init_72 : decode cX0_init 72 = .ok (.iload_n 1, 1) := by decide +kernel
theorem dX0_init_73 : decode cX0_init 73 = .ok (.new 21, 3) := by decide +kernel
theorem dX0_init_76 : decode cX0_init 76 = .ok (.dup, 1) := by decide +kernel
theorem dX0_init_77 : decode cX0_init 77 = .ok (.invokespecial 36, 3) := by decide +kernel
theorem dX0_init_80 : decode cX0_init 80 = .ok (.aastore, 1) := by decide +kernel
theorem dX0_init_81 : decode cX0_init 81 = .ok (.iinc 1 1, 3) := by decide +kernel
theorem dX0_init_84 : decode cX0_init 84 = .ok (.goto (-22), 3) := by decide +kernel
theorem dX0_init_87 : decode cX0_init 87 = .ok (.iconst 0, 1) := by decide +kernel
theorem dX0_init_88 : decode cX0_init 88 = .ok (.istore_n 1, 1) := by decide +kernel
theorem dX0_init_89 : decode cX0_init 89 = .ok (.iload_n 1, 1) := by decide +kernel
theorem dX0_init_90 : decode cX0_init 90 = .ok (.bipush 6, 2) := by decide +kernel
theorem dX0_init_92 : decode cX0_init 92 = .ok (.if_icmp .ge 22, 3) := by decide +kernel
theorem dX0_init_95 : decode cX0_init 95 = .ok (.aload_n 0, 1) := by decide +kernel
theorem dX0_init_96 : decode cX0_init 96 = .ok (.getfield 27, 3) := by decide +kernel
theorem dX0_init_99 : decode cX0_init 99 = .ok (.iload_n 1, 1) := by decide +kernel
theorem dX0_init_100 : decode cX0_init 100 = .ok (.new 21, 3) := by decide +kernel
theorem dX0_init_103 : decode cX0_init 103 = .ok (.dup, 1) := by decide +kernel
theorem dX0_init_104 : decode cX0_init 104 = .ok (.invokespecial 36, 3) := by decide +kernel
theorem dX0_init_107 : decode cX0_init 107 = .ok (.aastore, 1) := by decide +kernel
theorem dX0_init_108 : decode cX0_init 108 = .ok (.iinc 1 1, 3) := by decide +kernel
theorem dX0_init_111 : decode cX0_init 111 = .ok (.goto (-22), 3) := by decide +kernel
theorem dX0_init_114 : decode cX0_init 114 = .ok (.return_, 1) := by decide +kernel
theorem dX0_wipe_0 : decode cX0_wipe 0 = .ok (.aload_n 0, 1) := by decide +kernel
theorem dX0_wipe_1 : decode cX0_wipe 1 = .ok (.iconst 0, 1) := by decide +kernel
theorem dX0_wipe_2 : decode cX0_wipe 2 = .ok (.putfield 37, 3) := by decide +kernel
theorem dX0_wipe_5 : decode cX0_wipe 5 = .ok (.aload_n 0, 1) := by decide +kernel
theorem dX0_wipe_6 : decode cX0_wipe 6 = .ok (.iconst 0, 1) := by decide +kernel
theorem dX0_wipe_7 : decode cX0_wipe 7 = .ok (.putfield 41, 3) := by decide +kernel
theorem dX0_wipe_10 : decode cX0_wipe 10 = .ok (.aload_n 0, 1) := by decide +kernel
theorem dX0_wipe_11 : decode cX0_wipe 11 = .ok (.iconst 0, 1) := by decide +kernel
theorem dX0_wipe_12 : decode cX0_wipe 12 = .ok (.putfield 44, 3) := by decide +kernel
theorem dX0_wipe_15 : decode cX0_wipe 15 = .ok (.aload_n 0, 1) := by decide +kernel
theorem dX0_wipe_16 : decode cX0_wipe 16 = .ok (.iconst 0, 1) := by decide +kernel
theorem dX0_wipe_17 : decode cX0_wipe 17 = .ok (.putfield 47, 3) := by decide +kernel
theorem dX0_wipe_20 : decode cX0_wipe 20 = .ok (.aload_n 0, 1) := by decide +kernel
theorem dX0_wipe_21 : decode cX0_wipe 21 = .ok (.iconst 0, 1) := by decide +kernel
theorem dX0_wipe_22 : decode cX0_wipe 22 = .ok (.putfield 50, 3) := by decide +kernel
theorem dX0_wipe_25 : decode cX0_wipe 25 = .ok (.aload_n 0, 1) := by decide +kernel
theorem dX0_wipe_26 : decode cX0_wipe 26 = .ok (.iconst 0, 1) := by decide +kernel
theorem dX0_wipe_27 : decode cX0_wipe 27 = .ok (.putfield 53, 3) := by decide +kernel
theorem dX0_wipe_30 : decode cX0_wipe 30 = .ok (.aload_n 0, 1) := by decide +kernel
theorem dX0_wipe_31 : decode cX0_wipe 31 = .ok (.iconst 0, 1) := by decide +kernel
theorem dX0_wipe_32 : decode cX0_wipe 32 = .ok (.putfield 56, 3) := by decide +kernel
theorem dX0_wipe_35 : decode cX0_wipe 35 = .ok (.aload_n 0, 1) := by decide +kernel
theorem dX0_wipe_36 : decode cX0_wipe 36 = .ok (.iconst 0, 1) := by decide +kernel
theorem dX0_wipe_37 : decode cX0_wipe 37 = .ok (.putfield 59, 3) := by decide +kernel
theorem dX0_wipe_40 : decode cX0_wipe 40 = .ok (.aload_n 0, 1) := by decide +kernel
theorem dX0_wipe_41 : decode cX0_wipe 41 = .ok (.iconst 0, 1) := by decide +kernel
theorem dX0_wipe_42 : decode cX0_wipe 42 = .ok (.putfield 62, 3) := by decide +kernel
theorem dX0_wipe_45 : decode cX0_wipe 45 = .ok (.return_, 1) := by decide +kernel
theorem dX0_addFact_0 : decode cX0_addFact 0 = .ok (.aload_n 0, 1) := by decide +kernel
theorem dX0_addFact_1 : decode cX0_addFact 1 = .ok (.getfield 44, 3) := by decide +kernel
theorem dX0_addFact_4 : decode cX0_addFact 4 = .ok (.bipush 10, 2) := by decide +kernel
theorem dX0_addFact_6 : decode cX0_addFact 6 = .ok (.if_icmp .ne 4, 3) := by decide +kernel
theorem dX0_addFact_9 : decode cX0_addFact 9 = .ok (.return_, 1) := by decide +kernel
theorem dX0_addFact_10 : decode cX0_addFact 10 = .ok (.aload_n 0, 1) := by decide +kernel
theorem dX0_addFact_11 : decode cX0_addFact 11 = .ok (.getfield 9, 3) := by decide +kernel
theorem dX0_addFact_14 : decode cX0_addFact 14 = .ok (.aload_n 0, 1) := by decide +kernel
theorem dX0_addFact_15 : decode cX0_addFact 15 = .ok (.getfield 44, 3) := by decide +kernel
theorem dX0_addFact_18 : decode cX0_addFact 18 = .ok (.iload_n 1, 1) := by decide +kernel
theorem dX0_addFact_19 : decode cX0_addFact 19 = .ok (.iastore, 1) := by decide +kernel
theorem dX0_addFact_20 : decode cX0_addFact 20 = .ok (.aload_n 0, 1) := by decide +kernel
theorem dX0_addFact_21 : decode cX0_addFact 21 = .ok (.getfield 15, 3) := by decide +kernel
theorem dX0_addFact_24 : decode cX0_addFact 24 = .ok (.aload_n 0, 1) := by decide +kernel
theorem dX0_addFact_25 : decode cX0_addFact 25 = .ok (.getfield 44, 3) := by decide +kernel
theorem dX0_addFact_28 : decode cX0_addFact 28 = .ok (.iload_n 2, 1) := by decide +kernel
theorem dX0_addFact_29 : decode cX0_addFact 29 = .ok (.iastore, 1) := by decide +kernel
theorem dX0_addFact_30 : decode cX0_addFact 30 = .ok (.aload_n 0, 1) := by decide +kernel
theorem dX0_addFact_31 : decode cX0_addFact 31 = .ok (.getfield 18, 3) := by decide +kernel
theorem dX0_addFact_34 : decode cX0_addFact 34 = .ok (.aload_n 0, 1) := by decide +kernel
theorem dX0_addFact_35 : decode cX0_addFact 35 = .ok (.getfield 44, 3) := by decide +kernel
theorem dX0_addFact_38 : decode cX0_addFact 38 = .ok (.iload_n 3, 1) := by decide +kernel
theorem dX0_addFact_39 : decode cX0_addFact 39 = .ok (.ifCond .eq 12, 3) := by decide +kernel
theorem dX0_addFact_42 : decode cX0_addFact 42 = .ok (.iconst 1, 1) := by decide +kernel
theorem dX0_addFact_43 : decode cX0_addFact 43 = .ok (.aload_n 0, 1) := by decide +kernel
theorem dX0_addFact_44 : decode cX0_addFact 44 = .ok (.getfield 53, 3) := by decide +kernel
theorem dX0_addFact_47 : decode cX0_addFact 47 = .ok (.ishl, 1) := by decide +kernel
theorem dX0_addFact_48 : decode cX0_addFact 48 = .ok (.goto 4, 3) := by decide +kernel
theorem dX0_addFact_51 : decode cX0_addFact 51 = .ok (.iconst 0, 1) := by decide +kernel
theorem dX0_addFact_52 : decode cX0_addFact 52 = .ok (.iastore, 1) := by decide +kernel
theorem dX0_addFact_53 : decode cX0_addFact 53 = .ok (.aload_n 0, 1) := by decide +kernel
theorem dX0_addFact_54 : decode cX0_addFact 54 = .ok (.dup, 1) := by decide +kernel
theorem dX0_addFact_55 : decode cX0_addFact 55 = .ok (.getfield 44, 3) := by decide +kernel
theorem dX0_addFact_58 : decode cX0_addFact 58 = .ok (.iconst 1, 1) := by decide +kernel
theorem dX0_addFact_59 : decode cX0_addFact 59 = .ok (.iadd, 1) := by decide +kernel
theorem dX0_addFact_60 : decode cX0_addFact 60 = .ok (.putfield 44, 3) := by decide +kernel
theorem dX0_addFact_63 : decode cX0_addFact 63 = .ok (.iload_n 3, 1) := by decide +kernel
theorem dX0_addFact_64 : decode cX0_addFact 64 = .ok (.ifCond .eq 13, 3) := by decide +kernel
theorem dX0_addFact_67 : decode cX0_addFact 67 = .ok (.aload_n 0, 1) := by decide +kernel
theorem dX0_addFact_68 : decode cX0_addFact 68 = .ok (.dup, 1) := by decide +kernel
theorem dX0_addFact_69 : decode cX0_addFact 69 = .ok (.getfield 53, 3) := by decide +kernel
theorem dX0_addFact_72 : decode cX0_addFact 72 = .ok (.iconst 1, 1) := by decide +kernel
theorem dX0_addFact_73 : decode cX0_addFact 73 = .ok (.iadd, 1) := by decide +kernel
theorem dX0_addFact_74 : decode cX0_addFact 74 = .ok (.putfield 53, 3) := by decide +kernel
theorem dX0_addFact_77 : decode cX0_addFact 77 = .ok (.return_, 1) := by decide +kernel
theorem dX0_factsAt_0 : decode cX0_factsAt 0 = .ok (.iconst 0, 1) := by decide +kernel
theorem dX0_factsAt_1 : decode cX0_factsAt 1 = .ok (.istore_n 3, 1) := by decide +kernel
theorem dX0_factsAt_2 : decode cX0_factsAt 2 = .ok (.iconst 0, 1) := by decide +kernel
theorem dX0_factsAt_3 : decode cX0_factsAt 3 = .ok (.istore 4, 2) := by decide +kernel
theorem dX0_factsAt_5 : decode cX0_factsAt 5 = .ok (.iload 4, 2) := by decide +kernel
theorem dX0_factsAt_7 : decode cX0_factsAt 7 = .ok (.aload_n 0, 1) := by decide +kernel
theorem dX0_factsAt_8 : decode cX0_factsAt 8 = .ok (.getfield 44, 3) := by decide +kernel
theorem dX0_factsAt_11 : decode cX0_factsAt 11 = .ok (.if_icmp .ge 51, 3) := by decide +kernel
theorem dX0_factsAt_14 : decode cX0_factsAt 14 = .ok (.aload_n 0, 1) := by decide +kernel
theorem dX0_factsAt_15 : decode cX0_factsAt 15 = .ok (.getfield 15, 3) := by decide +kernel
theorem dX0_factsAt_18 : decode cX0_factsAt 18 = .ok (.iload 4, 2) := by decide +kernel
theorem dX0_factsAt_20 : decode cX0_factsAt 20 = .ok (.iaload, 1) := by decide +kernel
theorem dX0_factsAt_21 : decode cX0_factsAt 21 = .ok (.iload_n 1, 1) := by decide +kernel
theorem dX0_factsAt_22 : decode cX0_factsAt 22 = .ok (.if_icmp .ne 34, 3) := by decide +kernel
theorem dX0_factsAt_25 : decode cX0_factsAt 25 = .ok (.aload_n 0, 1) := by decide +kernel
theorem dX0_factsAt_26 : decode cX0_factsAt 26 = .ok (.getfield 18, 3) := by decide +kernel
theorem dX0_factsAt_29 : decode cX0_factsAt 29 = .ok (.iload 4, 2) := by decide +kernel
theorem dX0_factsAt_31 : decode cX0_factsAt 31 = .ok (.iaload, 1) := by decide +kernel
theorem dX0_factsAt_32 : decode cX0_factsAt 32 = .ok (.iload_n 2, 1) := by decide +kernel
theorem dX0_factsAt_33 : decode cX0_factsAt 33 = .ok (.iand, 1) := by decide +kernel
theorem dX0_factsAt_34 : decode cX0_factsAt 34 = .ok (.aload_n 0, 1) := by decide +kernel
theorem dX0_factsAt_35 : decode cX0_factsAt 35 = .ok (.getfield 18, 3) := by decide +kernel
theorem dX0_factsAt_38 : decode cX0_factsAt 38 = .ok (.iload 4, 2) := by decide +kernel
theorem dX0_factsAt_40 : decode cX0_factsAt 40 = .ok (.iaload, 1) := by decide +kernel
theorem dX0_factsAt_41 : decode cX0_factsAt 41 = .ok (.if_icmp .ne 15, 3) := by decide +kernel
theorem dX0_factsAt_44 : decode cX0_factsAt 44 = .ok (.iload_n 3, 1) := by decide +kernel
theorem dX0_factsAt_45 : decode cX0_factsAt 45 = .ok (.iconst 1, 1) := by decide +kernel
theorem dX0_factsAt_46 : decode cX0_factsAt 46 = .ok (.aload_n 0, 1) := by decide +kernel
theorem dX0_factsAt_47 : decode cX0_factsAt 47 = .ok (.getfield 9, 3) := by decide +kernel
theorem dX0_factsAt_50 : decode cX0_factsAt 50 = .ok (.iload 4, 2) := by decide +kernel
theorem dX0_factsAt_52 : decode cX0_factsAt 52 = .ok (.iaload, 1) := by decide +kernel
theorem dX0_factsAt_53 : decode cX0_factsAt 53 = .ok (.ishl, 1) := by decide +kernel
theorem dX0_factsAt_54 : decode cX0_factsAt 54 = .ok (.ior, 1) := by decide +kernel
theorem dX0_factsAt_55 : decode cX0_factsAt 55 = .ok (.istore_n 3, 1) := by decide +kernel
theorem dX0_factsAt_56 : decode cX0_factsAt 56 = .ok (.iinc 4 1, 3) := by decide +kernel
theorem dX0_factsAt_59 : decode cX0_factsAt 59 = .ok (.goto (-54), 3) := by decide +kernel
theorem dX0_factsAt_62 : decode cX0_factsAt 62 = .ok (.iload_n 3, 1) := by decide +kernel
theorem dX0_factsAt_63 : decode cX0_factsAt 63 = .ok (.ireturn, 1) := by decide +kernel
theorem dX0_hitBy_0 : decode cX0_hitBy 0 = .ok (.iload_n 1, 1) := by decide +kernel
theorem dX0_hitBy_1 : decode cX0_hitBy 1 = .ok (.ifCond .eq 8, 3) := by decide +kernel
theorem dX0_hitBy_4 : decode cX0_hitBy 4 = .ok (.iload_n 1, 1) := by decide +kernel
theorem dX0_hitBy_5 : decode cX0_hitBy 5 = .ok (.iconst 3, 1) := by decide +kernel
theorem dX0_hitBy_6 : decode cX0_hitBy 6 = .ok (.if_icmp .ne 10, 3) := by decide +kernel
theorem dX0_hitBy_9 : decode cX0_hitBy 9 = .ok (.aload_n 0, 1) := by decide +kernel
theorem dX0_hitBy_10 : decode cX0_hitBy 10 = .ok (.getfield 50, 3) := by decide +kernel
theorem dX0_hitBy_13 : decode cX0_hitBy 13 = .ok (.goto 7, 3) := by decide +kernel
theorem dX0_hitBy_16 : decode cX0_hitBy 16 = .ok (.aload_n 0, 1) := by decide +kernel
theorem dX0_hitBy_17 : decode cX0_hitBy 17 = .ok (.getfield 37, 3) := by decide +kernel
theorem dX0_hitBy_20 : decode cX0_hitBy 20 = .ok (.ireturn, 1) := by decide +kernel
theorem dX1_init_0 : decode cX1_init 0 = .ok (.aload_n 0, 1) := by decide +kernel
theorem dX1_init_1 : decode cX1_init 1 = .ok (.invokespecial 3, 3) := by decide +kernel
theorem dX1_init_4 : decode cX1_init 4 = .ok (.aload_n 0, 1) := by decide +kernel
theorem dX1_init_5 : decode cX1_init 5 = .ok (.iconst 3, 1) := by decide +kernel
theorem dX1_init_6 : decode cX1_init 6 = .ok (.newarray .int, 2) := by decide +kernel
theorem dX1_init_8 : decode cX1_init 8 = .ok (.putfield 9, 3) := by decide +kernel
theorem dX1_init_11 : decode cX1_init 11 = .ok (.aload_n 0, 1) := by decide +kernel
theorem dX1_init_12 : decode cX1_init 12 = .ok (.iconst 3, 1) := by decide +kernel
theorem dX1_init_13 : decode cX1_init 13 = .ok (.newarray .boolean, 2) := by decide +kernel
theorem dX1_init_15 : decode cX1_init 15 = .ok (.putfield 15, 3) := by decide +kernel
theorem dX1_init_18 : decode cX1_init 18 = .ok (.return_, 1) := by decide +kernel
theorem dX1_wipe_0 : decode cX1_wipe 0 = .ok (.aload_n 0, 1) := by decide +kernel
theorem dX1_wipe_1 : decode cX1_wipe 1 = .ok (.iconst 0, 1) := by decide +kernel
theorem dX1_wipe_2 : decode cX1_wipe 2 = .ok (.putfield 19, 3) := by decide +kernel
theorem dX1_wipe_5 : decode cX1_wipe 5 = .ok (.aload_n 0, 1) := by decide +kernel
theorem dX1_wipe_6 : decode cX1_wipe 6 = .ok (.iconst 0, 1) := by decide +kernel
theorem dX1_wipe_7 : decode cX1_wipe 7 = .ok (.putfield 23, 3) := by decide +kernel
theorem dX1_wipe_10 : decode cX1_wipe 10 = .ok (.aload_n 0, 1) := by decide +kernel
theorem dX1_wipe_11 : decode cX1_wipe 11 = .ok (.iconst 0, 1) := by decide +kernel
theorem dX1_wipe_12 : decode cX1_wipe 12 = .ok (.putfield 26, 3) := by decide +kernel
theorem dX1_wipe_15 : decode cX1_wipe 15 = .ok (.aload_n 0, 1) := by decide +kernel
theorem dX1_wipe_16 : decode cX1_wipe 16 = .ok (.iconst 0, 1) := by decide +kernel
theorem dX1_wipe_17 : decode cX1_wipe 17 = .ok (.putfield 29, 3) := by decide +kernel
theorem dX1_wipe_20 : decode cX1_wipe 20 = .ok (.aload_n 0, 1) := by decide +kernel
theorem dX1_wipe_21 : decode cX1_wipe 21 = .ok (.iconst (-1), 1) := by decide +kernel
theorem dX1_wipe_22 : decode cX1_wipe 22 = .ok (.putfield 32, 3) := by decide +kernel
theorem dX1_wipe_25 : decode cX1_wipe 25 = .ok (.aload_n 0, 1) := by decide +kernel
theorem dX1_wipe_26 : decode cX1_wipe 26 = .ok (.iconst (-1), 1) := by decide +kernel
theorem dX1_wipe_27 : decode cX1_wipe 27 = .ok (.putfield 35, 3) := by decide +kernel
theorem dX1_wipe_30 : decode cX1_wipe 30 = .ok (.aload_n 0, 1) := by decide +kernel
theorem dX1_wipe_31 : decode cX1_wipe 31 = .ok (.iconst 0, 1) := by decide +kernel
theorem dX1_wipe_32 : decode cX1_wipe 32 = .ok (.putfield 38, 3) := by decide +kernel
theorem dX1_wipe_35 : decode cX1_wipe 35 = .ok (.return_, 1) := by decide +kernel
theorem dX1_addCase_0 : decode cX1_addCase 0 = .ok (.aload_n 0, 1) := by decide +kernel
theorem dX1_addCase_1 : decode cX1_addCase 1 = .ok (.getfield 19, 3) := by decide +kernel
theorem dX1_addCase_4 : decode cX1_addCase 4 = .ok (.iconst 3, 1) := by decide +kernel
theorem dX1_addCase_5 : decode cX1_addCase 5 = .ok (.if_icmp .ne 4, 3) := by decide +kernel
theorem dX1_addCase_8 : decode cX1_addCase 8 = .ok (.return_, 1) := by decide +kernel
theorem dX1_addCase_9 : decode cX1_addCase 9 = .ok (.aload_n 0, 1) := by decide +kernel
theorem dX1_addCase_10 : decode cX1_addCase 10 = .ok (.getfield 9, 3) := by decide +kernel
theorem dX1_addCase_13 : decode cX1_addCase 13 = .ok (.aload_n 0, 1) := by decide +kernel
theorem dX1_addCase_14 : decode cX1_addCase 14 = .ok (.getfield 19, 3) := by decide +kernel
theorem dX1_addCase_17 : decode cX1_addCase 17 = .ok (.iload_n 1, 1) := by decide +kernel
theorem dX1_addCase_18 : decode cX1_addCase 18 = .ok (.iastore, 1) := by decide +kernel
theorem dX1_addCase_19 : decode cX1_addCase 19 = .ok (.aload_n 0, 1) := by decide +kernel
theorem dX1_addCase_20 : decode cX1_addCase 20 = .ok (.getfield 15, 3) := by decide +kernel
theorem dX1_addCase_23 : decode cX1_addCase 23 = .ok (.aload_n 0, 1) := by decide +kernel
theorem dX1_addCase_24 : decode cX1_addCase 24 = .ok (.getfield 19, 3) := by decide +kernel
theorem dX1_addCase_27 : decode cX1_addCase 27 = .ok (.iload_n 2, 1) := by decide +kernel
theorem dX1_addCase_28 : decode cX1_addCase 28 = .ok (.bastore, 1) := by decide +kernel
theorem dX1_addCase_29 : decode cX1_addCase 29 = .ok (.aload_n 0, 1) := by decide +kernel
theorem dX1_addCase_30 : decode cX1_addCase 30 = .ok (.dup, 1) := by decide +kernel
theorem dX1_addCase_31 : decode cX1_addCase 31 = .ok (.getfield 19, 3) := by decide +kernel
theorem dX1_addCase_34 : decode cX1_addCase 34 = .ok (.iconst 1, 1) := by decide +kernel
theorem dX1_addCase_35 : decode cX1_addCase 35 = .ok (.iadd, 1) := by decide +kernel
theorem dX1_addCase_36 : decode cX1_addCase 36 = .ok (.putfield 19, 3) := by decide +kernel
theorem dX1_addCase_39 : decode cX1_addCase 39 = .ok (.iload_n 2, 1) := by decide +kernel
theorem dX1_addCase_40 : decode cX1_addCase 40 = .ok (.ifCond .eq 18, 3) := by decide +kernel
theorem dX1_addCase_43 : decode cX1_addCase 43 = .ok (.aload_n 0, 1) := by decide +kernel
theorem dX1_addCase_44 : decode cX1_addCase 44 = .ok (.dup, 1) := by decide +kernel
theorem dX1_addCase_45 : decode cX1_addCase 45 = .ok (.getfield 29, 3) := by decide +kernel
theorem dX1_addCase_48 : decode cX1_addCase 48 = .ok (.iconst 1, 1) := by decide +kernel
theorem dX1_addCase_49 : decode cX1_addCase 49 = .ok (.iload_n 1, 1) := by decide +kernel
theorem dX1_addCase_50 : decode cX1_addCase 50 = .ok (.ishl, 1) := by decide +kernel
theorem dX1_addCase_51 : decode cX1_addCase 51 = .ok (.ior, 1) := by decide +kernel
theorem dX1_addCase_52 : decode cX1_addCase 52 = .ok (.putfield 29, 3) := by decide +kernel
theorem dX1_addCase_55 : decode cX1_addCase 55 = .ok (.goto 15, 3) := by decide +kernel
theorem dX1_addCase_58 : decode cX1_addCase 58 = .ok (.aload_n 0, 1) := by decide +kernel
theorem dX1_addCase_59 : decode cX1_addCase 59 = .ok (.dup, 1) := by decide +kernel
theorem dX1_addCase_60 : decode cX1_addCase 60 = .ok (.getfield 26, 3) := by decide +kernel
theorem dX1_addCase_63 : decode cX1_addCase 63 = .ok (.iconst 1, 1) := by decide +kernel
theorem dX1_addCase_64 : decode cX1_addCase 64 = .ok (.iload_n 1, 1) := by decide +kernel
theorem dX1_addCase_65 : decode cX1_addCase 65 = .ok (.ishl, 1) := by decide +kernel
theorem dX1_addCase_66 : decode cX1_addCase 66 = .ok (.ior, 1) := by decide +kernel
theorem dX1_addCase_67 : decode cX1_addCase 67 = .ok (.putfield 26, 3) := by decide +kernel
theorem dX1_addCase_70 : decode cX1_addCase 70 = .ok (.return_, 1) := by decide +kernel
theorem dX1_isFor_0 : decode cX1_isFor 0 = .ok (.aload_n 0, 1) := by decide +kernel
theorem dX1_isFor_1 : decode cX1_isFor 1 = .ok (.getfield 32, 3) := by decide +kernel
theorem dX1_isFor_4 : decode cX1_isFor 4 = .ok (.iconst (-1), 1) := by decide +kernel
theorem dX1_isFor_5 : decode cX1_isFor 5 = .ok (.if_icmp .eq 11, 3) := by decide +kernel
theorem dX1_isFor_8 : decode cX1_isFor 8 = .ok (.aload_n 0, 1) := by decide +kernel
theorem dX1_isFor_9 : decode cX1_isFor 9 = .ok (.getfield 32, 3) := by decide +kernel
theorem dX1_isFor_12 : decode cX1_isFor 12 = .ok (.iload_n 1, 1) := by decide +kernel
theorem dX1_isFor_13 : decode cX1_isFor 13 = .ok (.if_icmp .ne 7, 3) := by decide +kernel
theorem dX1_isFor_16 : decode cX1_isFor 16 = .ok (.iconst 1, 1) := by decide +kernel
theorem dX1_isFor_17 : decode cX1_isFor 17 = .ok (.goto 4, 3) := by decide +kernel
theorem dX1_isFor_20 : decode cX1_isFor 20 = .ok (.iconst 0, 1) := by decide +kernel
theorem dX1_isFor_21 : decode cX1_isFor 21 = .ok (.ireturn, 1) := by decide +kernel
theorem dX1_holdsAmong_0 : decode cX1_holdsAmong 0 = .ok (.iload_n 1, 1) := by decide +kernel
theorem dX1_holdsAmong_1 : decode cX1_holdsAmong 1 = .ok (.aload_n 0, 1) := by decide +kernel
theorem dX1_holdsAmong_2 : decode cX1_holdsAmong 2 = .ok (.getfield 26, 3) := by decide +kernel
theorem dX1_holdsAmong_5 : decode cX1_holdsAmong 5 = .ok (.iand, 1) := by decide +kernel
theorem dX1_holdsAmong_6 : decode cX1_holdsAmong 6 = .ok (.aload_n 0, 1) := by decide +kernel
theorem dX1_holdsAmong_7 : decode cX1_holdsAmong 7 = .ok (.getfield 26, 3) := by decide +kernel
theorem dX1_holdsAmong_10 : decode cX1_holdsAmong 10 = .ok (.if_icmp .ne 20, 3) := by decide +kernel
theorem dX1_holdsAmong_13 : decode cX1_holdsAmong 13 = .ok (.iload_n 2, 1) := by decide +kernel
theorem dX1_holdsAmong_14 : decode cX1_holdsAmong 14 = .ok (.ifCond .ne 12, 3) := by decide +kernel
theorem dX1_holdsAmong_17 : decode cX1_holdsAmong 17 = .ok (.iload_n 1, 1) := by decide +kernel
theorem dX1_holdsAmong_18 : decode cX1_holdsAmong 18 = .ok (.aload_n 0, 1) := by decide +kernel
theorem dX1_holdsAmong_19 : decode cX1_holdsAmong 19 = .ok (.getfield 29, 3) := by decide +kernel
theorem dX1_holdsAmong_22 : decode cX1_holdsAmong 22 = .ok (.iand, 1) := by decide +kernel
theorem dX1_holdsAmong_23 : decode cX1_holdsAmong 23 = .ok (.ifCond .ne 7, 3) := by decide +kernel
theorem dX1_holdsAmong_26 : decode cX1_holdsAmong 26 = .ok (.iconst 1, 1) := by decide +kernel
theorem dX1_holdsAmong_27 : decode cX1_holdsAmong 27 = .ok (.goto 4, 3) := by decide +kernel
theorem dX1_holdsAmong_30 : decode cX1_holdsAmong 30 = .ok (.iconst 0, 1) := by decide +kernel
theorem dX1_holdsAmong_31 : decode cX1_holdsAmong 31 = .ok (.ireturn, 1) := by decide +kernel
theorem dX2_init_0 : decode cX2_init 0 = .ok (.aload_n 0, 1) := by decide +kernel
theorem dX2_init_1 : decode cX2_init 1 = .ok (.invokespecial 3, 3) := by decide +kernel
theorem dX2_init_4 : decode cX2_init 4 = .ok (.aload_n 0, 1) := by decide +kernel
theorem dX2_init_5 : decode cX2_init 5 = .ok (.sipush 280, 3) := by decide +kernel
theorem dX2_init_8 : decode cX2_init 8 = .ok (.newarray .long, 2) := by decide +kernel
theorem dX2_init_10 : decode cX2_init 10 = .ok (.putfield 9, 3) := by decide +kernel
theorem dX2_init_13 : decode cX2_init 13 = .ok (.aload_n 0, 1) := by decide +kernel
theorem dX2_init_14 : decode cX2_init 14 = .ok (.sipush 280, 3) := by decide +kernel
theorem dX2_init_17 : decode cX2_init 17 = .ok (.newarray .long, 2) := by decide +kernel
theorem dX2_init_19 : decode cX2_init 19 = .ok (.putfield 15, 3) := by decide +kernel
theorem dX2_init_22 : decode cX2_init 22 = .ok (.aload_n 0, 1) := by decide +kernel
theorem dX2_init_23 : decode cX2_init 23 = .ok (.bipush 40, 2) := by decide +kernel
theorem dX2_init_25 : decode cX2_init 25 = .ok (.newarray .long, 2) := by decide +kernel
theorem dX2_init_27 : decode cX2_init 27 = .ok (.putfield 18, 3) := by decide +kernel
theorem dX2_init_30 : decode cX2_init 30 = .ok (.aload_n 0, 1) := by decide +kernel
theorem dX2_init_31 : decode cX2_init 31 = .ok (.bipush 6, 2) := by decide +kernel
theorem dX2_init_33 : decode cX2_init 33 = .ok (.newarray .long, 2) := by decide +kernel
theorem dX2_init_35 : decode cX2_init 35 = .ok (.putfield 21, 3) := by decide +kernel
theorem dX2_init_38 : decode cX2_init 38 = .ok (.aload_n 0, 1) := by decide +kernel
theorem dX2_init_39 : decode cX2_init 39 = .ok (.bipush 42, 2) := by decide +kernel
theorem dX2_init_41 : decode cX2_init 41 = .ok (.newarray .long, 2) := by decide +kernel
theorem dX2_init_43 : decode cX2_init 43 = .ok (.putfield 24, 3) := by decide +kernel
theorem dX2_init_46 : decode cX2_init 46 = .ok (.aload_n 0, 1) := by decide +kernel
theorem dX2_init_47 : decode cX2_init 47 = .ok (.aload_n 1, 1) := by decide +kernel
theorem dX2_init_48 : decode cX2_init 48 = .ok (.putfield 27, 3) := by decide +kernel
theorem dX2_init_51 : decode cX2_init 51 = .ok (.aload_n 0, 1) := by decide +kernel
theorem dX2_init_52 : decode cX2_init 52 = .ok (.aload_n 1, 1) := by decide +kernel
theorem dX2_init_53 : decode cX2_init 53 = .ok (.getfield 31, 3) := by decide +kernel
theorem dX2_init_56 : decode cX2_init 56 = .ok (.putfield 37, 3) := by decide +kernel
theorem dX2_init_59 : decode cX2_init 59 = .ok (.aload_n 0, 1) := by decide +kernel
theorem dX2_init_60 : decode cX2_init 60 = .ok (.aload_n 2, 1) := by decide +kernel
theorem dX2_init_61 : decode cX2_init 61 = .ok (.putfield 38, 3) := by decide +kernel
theorem dX2_init_64 : decode cX2_init 64 = .ok (.return_, 1) := by decide +kernel
theorem dX2_go_0 : decode cX2_go 0 = .ok (.aload_n 0, 1) := by decide +kernel
theorem dX2_go_1 : decode cX2_go 1 = .ok (.aload_n 1, 1) := by decide +kernel
theorem dX2_go_2 : decode cX2_go 2 = .ok (.putfield 27, 3) := by decide +kernel
theorem dX2_go_5 : decode cX2_go 5 = .ok (.aload_n 0, 1) := by decide +kernel
theorem dX2_go_6 : decode cX2_go 6 = .ok (.aload_n 1, 1) := by decide +kernel
theorem dX2_go_7 : decode cX2_go 7 = .ok (.getfield 31, 3) := by decide +kernel
theorem dX2_go_10 : decode cX2_go 10 = .ok (.putfield 37, 3) := by decide +kernel
theorem dX2_go_13 : decode cX2_go 13 = .ok (.aload_n 0, 1) := by decide +kernel
theorem dX2_go_14 : decode cX2_go 14 = .ok (.aload_n 2, 1) := by decide +kernel
theorem dX2_go_15 : decode cX2_go 15 = .ok (.putfield 38, 3) := by decide +kernel
theorem dX2_go_18 : decode cX2_go 18 = .ok (.aload_n 0, 1) := by decide +kernel
theorem dX2_go_19 : decode cX2_go 19 = .ok (.getfield 15, 3) := by decide +kernel
theorem dX2_go_22 : decode cX2_go 22 = .ok (.lconst 0, 1) := by decide +kernel
theorem dX2_go_23 : decode cX2_go 23 = .ok (.invokestatic 42, 3) := by decide +kernel
theorem dX2_go_26 : decode cX2_go 26 = .ok (.aload_n 0, 1) := by decide +kernel
theorem dX2_go_27 : decode cX2_go 27 = .ok (.getfield 18, 3) := by decide +kernel
theorem dX2_go_30 : decode cX2_go 30 = .ok (.lconst 0, 1) := by decide +kernel
theorem dX2_go_31 : decode cX2_go 31 = .ok (.invokestatic 42, 3) := by decide +kernel
theorem dX2_go_34 : decode cX2_go 34 = .ok (.aload_n 0, 1) := by decide +kernel
theorem dX2_go_35 : decode cX2_go 35 = .ok (.getfield 21, 3) := by decide +kernel
theorem dX2_go_38 : decode cX2_go 38 = .ok (.lconst 0, 1) := by decide +kernel
theorem dX2_go_39 : decode cX2_go 39 = .ok (.invokestatic 42, 3) := by decide +kernel
theorem dX2_go_42 : decode cX2_go 42 = .ok (.iconst 0, 1) := by decide +kernel
theorem dX2_go_43 : decode cX2_go 43 = .ok (.istore_n 3, 1) := by decide +kernel
theorem dX2_go_44 : decode cX2_go 44 = .ok (.iload_n 3, 1) := by decide +kernel
theorem dX2_go_45 : decode cX2_go 45 = .ok (.aload_n 0, 1) := by decide +kernel
theorem dX2_go_46 : decode cX2_go 46 = .ok (.getfield 27, 3) := by decide +kernel
theorem dX2_go_49 : decode cX2_go 49 = .ok (.getfield 48, 3) := by decide +kernel
theorem dX2_go_52 : decode cX2_go 52 = .ok (.if_icmp .gt 76, 3) := by decide +kernel
theorem dX2_go_55 : decode cX2_go 55 = .ok (.iconst 0, 1) := by decide +kernel
theorem dX2_go_56 : decode cX2_go 56 = .ok (.istore 4, 2) := by decide +kernel
theorem dX2_go_58 : decode cX2_go 58 = .ok (.iload 4, 2) := by decide +kernel
theorem dX2_go_60 : decode cX2_go 60 = .ok (.aload_n 0, 1) := by decide +kernel
theorem dX2_go_61 : decode cX2_go 61 = .ok (.getfield 37, 3) := by decide +kernel
theorem dX2_go_64 : decode cX2_go 64 = .ok (.getfield 52, 3) := by decide +kernel
theorem dX2_go_67 : decode cX2_go 67 = .ok (.if_icmp .ge 16, 3) := by decide +kernel
theorem dX2_go_70 : decode cX2_go 70 = .ok (.aload_n 0, 1) := by decide +kernel
theorem dX2_go_71 : decode cX2_go 71 = .ok (.iload 4, 2) := by decide +kernel
theorem dX2_go_73 : decode cX2_go 73 = .ok (.iload_n 3, 1) := by decide +kernel
theorem dX2_go_74 : decode cX2_go 74 = .ok (.invokevirtual 57, 3) := by decide +kernel
theorem dX2_go_77 : decode cX2_go 77 = .ok (.iinc 4 1, 3) := by decide +kernel
theorem dX2_go_80 : decode cX2_go 80 = .ok (.goto (-22), 3) := by decide +kernel
theorem dX2_go_83 : decode cX2_go 83 = .ok (.iconst 0, 1) := by decide +kernel
theorem dX2_go_84 : decode cX2_go 84 = .ok (.istore 4, 2) := by decide +kernel
theorem dX2_go_86 : decode cX2_go 86 = .ok (.iload 4, 2) := by decide +kernel
theorem dX2_go_88 : decode cX2_go 88 = .ok (.aload_n 0, 1) := by decide +kernel
theorem dX2_go_89 : decode cX2_go 89 = .ok (.getfield 37, 3) := by decide +kernel
theorem dX2_go_92 : decode cX2_go 92 = .ok (.getfield 60, 3) := by decide +kernel
theorem dX2_go_95 : decode cX2_go 95 = .ok (.if_icmp .ge 27, 3) := by decide +kernel
theorem dX2_go_98 : decode cX2_go 98 = .ok (.iload_n 3, 1) := by decide +kernel
theorem dX2_go_99 : decode cX2_go 99 = .ok (.aload_n 0, 1) := by decide +kernel
theorem dX2_go_100 : decode cX2_go 100 = .ok (.getfield 27, 3) := by decide +kernel
theorem dX2_go_103 : decode cX2_go 103 = .ok (.getfield 48, 3) := by decide +kernel
theorem dX2_go_106 : decode cX2_go 106 = .ok (.if_icmp .ge 16, 3) := by decide +kernel
theorem dX2_go_109 : decode cX2_go 109 = .ok (.aload_n 0, 1) := by decide +kernel
theorem dX2_go_110 : decode cX2_go 110 = .ok (.iload 4, 2) := by decide +kernel
theorem dX2_go_112 : decode cX2_go 112 = .ok (.iload_n 3, 1) := by decide +kernel
theorem dX2_go_113 : decode cX2_go 113 = .ok (.invokevirtual 63, 3) := by decide +kernel
theorem dX2_go_116 : decode cX2_go 116 = .ok (.iinc 4 1, 3) := by decide +kernel
theorem dX2_go_119 : decode cX2_go 119 = .ok (.goto (-33), 3) := by decide +kernel
theorem dX2_go_122 : decode cX2_go 122 = .ok (.iinc 3 1, 3) := by decide +kernel
theorem dX2_go_125 : decode cX2_go 125 = .ok (.goto (-81), 3) := by decide +kernel
theorem dX2_go_128 : decode cX2_go 128 = .ok (.aload_n 0, 1) := by decide +kernel
theorem dX2_go_129 : decode cX2_go 129 = .ok (.invokevirtual 66, 3) := by decide +kernel
theorem dX2_go_132 : decode cX2_go 132 = .ok (.return_, 1) := by decide +kernel
theorem dX2_fill_0 : decode cX2_fill 0 = .ok (.aload_n 0, 1) := by decide +kernel
theorem dX2_fill_1 : decode cX2_fill 1 = .ok (.getfield 38, 3) := by decide +kernel
theorem dX2_fill_4 : decode cX2_fill 4 = .ok (.getfield 69, 3) := by decide +kernel
theorem dX2_fill_7 : decode cX2_fill 7 = .ok (.iload_n 1, 1) := by decide +kernel
theorem dX2_fill_8 : decode cX2_fill 8 = .ok (.bipush 7, 2) := by decide +kernel
theorem dX2_fill_10 : decode cX2_fill 10 = .ok (.imul, 1) := by decide +kernel
theorem dX2_fill_11 : decode cX2_fill 11 = .ok (.iload_n 2, 1) := by decide +kernel
theorem dX2_fill_12 : decode cX2_fill 12 = .ok (.iadd, 1) := by decide +kernel
theorem dX2_fill_13 : decode cX2_fill 13 = .ok (.laload, 1) := by decide +kernel
theorem dX2_fill_14 : decode cX2_fill 14 = .ok (.ldc2_w 74, 3) := by decide +kernel
theorem dX2_fill_17 : decode cX2_fill 17 = .ok (.lxor, 1) := by decide +kernel
theorem dX2_fill_18 : decode cX2_fill 18 = .ok (.lstore_n 3, 1) := by decide +kernel
theorem dX2_fill_19 : decode cX2_fill 19 = .ok (.iload_n 2, 1) := by decide +kernel
theorem dX2_fill_20 : decode cX2_fill 20 = .ok (.iload_n 1, 1) := by decide +kernel
theorem dX2_fill_21 : decode cX2_fill 21 = .ok (.invokestatic 76, 3) := by decide +kernel
theorem dX2_fill_24 : decode cX2_fill 24 = .ok (.bipush 10, 2) := by decide +kernel
theorem dX2_fill_26 : decode cX2_fill 26 = .ok (.imul, 1) := by decide +kernel
theorem dX2_fill_27 : decode cX2_fill 27 = .ok (.istore 5, 2) := by decide +kernel
theorem dX2_fill_29 : decode cX2_fill 29 = .ok (.iload_n 2, 1) := by decide +kernel
theorem dX2_fill_30 : decode cX2_fill 30 = .ok (.ifCond .ne 21, 3) := by decide +kernel
theorem dX2_fill_33 : decode cX2_fill 33 = .ok (.aload_n 0, 1) := by decide +kernel
theorem dX2_fill_34 : decode cX2_fill 34 = .ok (.getfield 37, 3) := by decide +kernel
theorem dX2_fill_37 : decode cX2_fill 37 = .ok (.iload_n 1, 1) := by decide +kernel
theorem dX2_fill_38 : decode cX2_fill 38 = .ok (.aload_n 0, 1) := by decide +kernel
theorem dX2_fill_39 : decode cX2_fill 39 = .ok (.getfield 27, 3) := by decide +kernel
theorem dX2_fill_42 : decode cX2_fill 42 = .ok (.getfield 80, 3) := by decide +kernel
theorem dX2_fill_45 : decode cX2_fill 45 = .ok (.invokevirtual 83, 3) := by decide +kernel
theorem dX2_fill_48 : decode cX2_fill 48 = .ok (.goto 4, 3) := by decide +kernel
theorem dX2_fill_51 : decode cX2_fill 51 = .ok (.iconst 0, 1) := by decide +kernel
theorem dX2_fill_52 : decode cX2_fill 52 = .ok (.istore 6, 2) := by decide +kernel
theorem dX2_fill_54 : decode cX2_fill 54 = .ok (.iconst 0, 1) := by decide +kernel
theorem dX2_fill_55 : decode cX2_fill 55 = .ok (.istore 7, 2) := by decide +kernel
theorem dX2_fill_57 : decode cX2_fill 57 = .ok (.iload 7, 2) := by decide +kernel
theorem dX2_fill_59 : decode cX2_fill 59 = .ok (.aload_n 0, 1) := by decide +kernel
theorem dX2_fill_60 : decode cX2_fill 60 = .ok (.getfield 37, 3) := by decide +kernel
theorem dX2_fill_63 : decode cX2_fill 63 = .ok (.getfield 86, 3) := by decide +kernel
theorem dX2_fill_66 : decode cX2_fill 66 = .ok (.if_icmp .ge 82, 3) := by decide +kernel
theorem dX2_fill_69 : decode cX2_fill 69 = .ok (.aload_n 0, 1) := by decide +kernel
theorem dX2_fill_70 : decode cX2_fill 70 = .ok (.getfield 15, 3) := by decide +kernel
theorem dX2_fill_73 : decode cX2_fill 73 = .ok (.iload 5, 2) := by decide +kernel
theorem dX2_fill_75 : decode cX2_fill 75 = .ok (.iload 7, 2) := by decide +kernel
theorem dX2_fill_77 : decode cX2_fill 77 = .ok (.iadd, 1) := by decide +kernel
theorem dX2_fill_78 : decode cX2_fill 78 = .ok (.laload, 1) := by decide +kernel
theorem dX2_fill_79 : decode cX2_fill 79 = .ok (.lstore 8, 2) := by decide +kernel
theorem dX2_fill_81 : decode cX2_fill 81 = .ok (.iload 6, 2) := by decide +kernel
theorem dX2_fill_83 : decode cX2_fill 83 = .ok (.iload 7, 2) := by decide +kernel
theorem dX2_fill_85 : decode cX2_fill 85 = .ok (.ishr, 1) := by decide +kernel
theorem dX2_fill_86 : decode cX2_fill 86 = .ok (.iconst 1, 1) := by decide +kernel
theorem dX2_fill_87 : decode cX2_fill 87 = .ok (.iand, 1) := by decide +kernel
theorem dX2_fill_88 : decode cX2_fill 88 = .ok (.ifCond .eq 8, 3) := by decide +kernel
theorem dX2_fill_91 : decode cX2_fill 91 = .ok (.ldc2_w 74, 3) := by decide +kernel
theorem dX2_fill_94 : decode cX2_fill 94 = .ok (.lstore 8, 2) := by decide +kernel
theorem dX2_fill_96 : decode cX2_fill 96 = .ok (.aload_n 0, 1) := by decide +kernel
theorem dX2_fill_97 : decode cX2_fill 97 = .ok (.getfield 27, 3) := by decide +kernel
theorem dX2_fill_100 : decode cX2_fill 100 = .ok (.getfield 89, 3) := by decide +kernel
theorem dX2_fill_103 : decode cX2_fill 103 = .ok (.iload 7, 2) := by decide +kernel
theorem dX2_fill_105 : decode cX2_fill 105 = .ok (.ishr, 1) := by decide +kernel
theorem dX2_fill_106 : decode cX2_fill 106 = .ok (.iconst 1, 1) := by decide +kernel
theorem dX2_fill_107 : decode cX2_fill 107 = .ok (.iand, 1) := by decide +kernel
theorem dX2_fill_108 : decode cX2_fill 108 = .ok (.ifCond .eq 20, 3) := by decide +kernel
theorem dX2_fill_111 : decode cX2_fill 111 = .ok (.lload 8, 2) := by decide +kernel
theorem dX2_fill_113 : decode cX2_fill 113 = .ok (.aload_n 0, 1) := by decide +kernel
theorem dX2_fill_114 : decode cX2_fill 114 = .ok (.getfield 18, 3) := by decide +kernel
theorem dX2_fill_117 : decode cX2_fill 117 = .ok (.iload_n 1, 1) := by decide +kernel
theorem dX2_fill_118 : decode cX2_fill 118 = .ok (.bipush 10, 2) := by decide +kernel
theorem dX2_fill_120 : decode cX2_fill 120 = .ok (.imul, 1) := by decide +kernel
theorem dX2_fill_121 : decode cX2_fill 121 = .ok (.iload 7, 2) := by decide +kernel
theorem dX2_fill_123 : decode cX2_fill 123 = .ok (.iadd, 1) := by decide +kernel
theorem dX2_fill_124 : decode cX2_fill 124 = .ok (.laload, 1) := by decide +kernel
theorem dX2_fill_125 : decode cX2_fill 125 = .ok (.lor, 1) := by decide +kernel
theorem dX2_fill_126 : decode cX2_fill 126 = .ok (.lstore 8, 2) := by decide +kernel
theorem dX2_fill_128 : decode cX2_fill 128 = .ok (.aload_n 0, 1) := by decide +kernel
theorem dX2_fill_129 : decode cX2_fill 129 = .ok (.getfield 9, 3) := by decide +kernel
theorem dX2_fill_132 : decode cX2_fill 132 = .ok (.iload 5, 2) := by decide +kernel
theorem dX2_fill_134 : decode cX2_fill 134 = .ok (.iload 7, 2) := by decide +kernel
theorem dX2_fill_136 : decode cX2_fill 136 = .ok (.iadd, 1) := by decide +kernel
theorem dX2_fill_137 : decode cX2_fill 137 = .ok (.lload 8, 2) := by decide +kernel
theorem dX2_fill_139 : decode cX2_fill 139 = .ok (.lload_n 3, 1) := by decide +kernel
theorem dX2_fill_140 : decode cX2_fill 140 = .ok (.land, 1) := by decide +kernel
theorem dX2_fill_141 : decode cX2_fill 141 = .ok (.lastore, 1) := by decide +kernel
theorem dX2_fill_142 : decode cX2_fill 142 = .ok (.iinc 7 1, 3) := by decide +kernel
theorem dX2_fill_145 : decode cX2_fill 145 = .ok (.goto (-88), 3) := by decide +kernel
theorem dX2_fill_148 : decode cX2_fill 148 = .ok (.iload_n 2, 1) := by decide +kernel
theorem dX2_fill_149 : decode cX2_fill 149 = .ok (.ifCond .le 10, 3) := by decide +kernel
theorem dX2_fill_152 : decode cX2_fill 152 = .ok (.aload_n 0, 1) := by decide +kernel
theorem dX2_fill_153 : decode cX2_fill 153 = .ok (.iload_n 1, 1) := by decide +kernel
theorem dX2_fill_154 : decode cX2_fill 154 = .ok (.iload_n 2, 1) := by decide +kernel
theorem dX2_fill_155 : decode cX2_fill 155 = .ok (.lload_n 3, 1) := by decide +kernel
theorem dX2_fill_156 : decode cX2_fill 156 = .ok (.invokevirtual 92, 3) := by decide +kernel
theorem dX2_fill_159 : decode cX2_fill 159 = .ok (.aload_n 0, 1) := by decide +kernel
theorem dX2_fill_160 : decode cX2_fill 160 = .ok (.iload_n 1, 1) := by decide +kernel
theorem dX2_fill_161 : decode cX2_fill 161 = .ok (.iload_n 2, 1) := by decide +kernel
theorem dX2_fill_162 : decode cX2_fill 162 = .ok (.invokevirtual 96, 3) := by decide +kernel
theorem dX2_fill_165 : decode cX2_fill 165 = .ok (.iconst 0, 1) := by decide +kernel
theorem dX2_fill_166 : decode cX2_fill 166 = .ok (.istore 7, 2) := by decide +kernel
theorem dX2_fill_168 : decode cX2_fill 168 = .ok (.iload 7, 2) := by decide +kernel
theorem dX2_fill_170 : decode cX2_fill 170 = .ok (.aload_n 0, 1) := by decide +kernel
theorem dX2_fill_171 : decode cX2_fill 171 = .ok (.getfield 37, 3) := by decide +kernel
theorem dX2_fill_174 : decode cX2_fill 174 = .ok (.getfield 86, 3) := by decide +kernel
theorem dX2_fill_177 : decode cX2_fill 177 = .ok (.if_icmp .ge 49, 3) := by decide +kernel
theorem dX2_fill_180 : decode cX2_fill 180 = .ok (.iload_n 1, 1) := by decide +kernel
theorem dX2_fill_181 : decode cX2_fill 181 = .ok (.bipush 10, 2) := by decide +kernel
theorem dX2_fill_183 : decode cX2_fill 183 = .ok (.imul, 1) := by decide +kernel
theorem dX2_fill_184 : decode cX2_fill 184 = .ok (.iload 7, 2) := by decide +kernel
theorem dX2_fill_186 : decode cX2_fill 186 = .ok (.iadd, 1) := by decide +kernel
theorem dX2_fill_187 : decode cX2_fill 187 = .ok (.istore 8, 2) := by decide +kernel
theorem dX2_fill_189 : decode cX2_fill 189 = .ok (.aload_n 0, 1) := by decide +kernel
theorem dX2_fill_190 : decode cX2_fill 190 = .ok (.getfield 18, 3) := by decide +kernel
theorem dX2_fill_193 : decode cX2_fill 193 = .ok (.iload 8, 2) := by decide +kernel
theorem dX2_fill_195 : decode cX2_fill 195 = .ok (.aload_n 0, 1) := by decide +kernel
theorem dX2_fill_196 : decode cX2_fill 196 = .ok (.getfield 18, 3) := by decide +kernel
theorem dX2_fill_199 : decode cX2_fill 199 = .ok (.iload 8, 2) := by decide +kernel
theorem dX2_fill_201 : decode cX2_fill 201 = .ok (.laload, 1) := by decide +kernel
theorem dX2_fill_202 : decode cX2_fill 202 = .ok (.lload_n 3, 1) := by decide +kernel
theorem dX2_fill_203 : decode cX2_fill 203 = .ok (.ldc2_w 74, 3) := by decide +kernel
theorem dX2_fill_206 : decode cX2_fill 206 = .ok (.lxor, 1) := by decide +kernel
theorem dX2_fill_207 : decode cX2_fill 207 = .ok (.land, 1) := by decide +kernel
theorem dX2_fill_208 : decode cX2_fill 208 = .ok (.aload_n 0, 1) := by decide +kernel
theorem dX2_fill_209 : decode cX2_fill 209 = .ok (.getfield 9, 3) := by decide +kernel
theorem dX2_fill_212 : decode cX2_fill 212 = .ok (.iload 5, 2) := by decide +kernel
theorem dX2_fill_214 : decode cX2_fill 214 = .ok (.iload 7, 2) := by decide +kernel
theorem dX2_fill_216 : decode cX2_fill 216 = .ok (.iadd, 1) := by decide +kernel
theorem dX2_fill_217 : decode cX2_fill 217 = .ok (.laload, 1) := by decide +kernel
theorem dX2_fill_218 : decode cX2_fill 218 = .ok (.lor, 1) := by decide +kernel
theorem dX2_fill_219 : decode cX2_fill 219 = .ok (.lastore, 1) := by decide +kernel
theorem dX2_fill_220 : decode cX2_fill 220 = .ok (.iinc 7 1, 3) := by decide +kernel
theorem dX2_fill_223 : decode cX2_fill 223 = .ok (.goto (-55), 3) := by decide +kernel
theorem dX2_fill_226 : decode cX2_fill 226 = .ok (.return_, 1) := by decide +kernel
theorem dX2_addNext_0 : decode cX2_addNext 0 = .ok (.iload_n 2, 1) := by decide +kernel
theorem dX2_addNext_1 : decode cX2_addNext 1 = .ok (.iload_n 1, 1) := by decide +kernel
theorem dX2_addNext_2 : decode cX2_addNext 2 = .ok (.invokestatic 76, 3) := by decide +kernel
theorem dX2_addNext_5 : decode cX2_addNext 5 = .ok (.bipush 10, 2) := by decide +kernel
theorem dX2_addNext_7 : decode cX2_addNext 7 = .ok (.imul, 1) := by decide +kernel
theorem dX2_addNext_8 : decode cX2_addNext 8 = .ok (.istore 5, 2) := by decide +kernel
theorem dX2_addNext_10 : decode cX2_addNext 10 = .ok (.iconst 0, 1) := by decide +kernel
theorem dX2_addNext_11 : decode cX2_addNext 11 = .ok (.istore 6, 2) := by decide +kernel
theorem dX2_addNext_13 : decode cX2_addNext 13 = .ok (.iload 6, 2) := by decide +kernel
theorem dX2_addNext_15 : decode cX2_addNext 15 = .ok (.aload_n 0, 1) := by decide +kernel
theorem dX2_addNext_16 : decode cX2_addNext 16 = .ok (.getfield 37, 3) := by decide +kernel
theorem dX2_addNext_19 : decode cX2_addNext 19 = .ok (.getfield 99, 3) := by decide +kernel
theorem dX2_addNext_22 : decode cX2_addNext 22 = .ok (.if_icmp .ge 67, 3) := by decide +kernel
theorem dX2_addNext_25 : decode cX2_addNext 25 = .ok (.aload_n 0, 1) := by decide +kernel
theorem dX2_addNext_26 : decode cX2_addNext 26 = .ok (.getfield 37, 3) := by decide +kernel
theorem dX2_addNext_29 : decode cX2_addNext 29 = .ok (.getfield 102, 3) := by decide +kernel
theorem dX2_addNext_32 : decode cX2_addNext 32 = .ok (.iload 6, 2) := by decide +kernel
theorem dX2_addNext_34 : decode cX2_addNext 34 = .ok (.aaload, 1) := by decide +kernel
theorem dX2_addNext_35 : decode cX2_addNext 35 = .ok (.astore 7, 2) := by decide +kernel
theorem dX2_addNext_37 : decode cX2_addNext 37 = .ok (.aload 7, 2) := by decide +kernel
theorem dX2_addNext_39 : decode cX2_addNext 39 = .ok (.getfield 106, 3) := by decide +kernel
theorem dX2_addNext_42 : decode cX2_addNext 42 = .ok (.ifCond .ne 41, 3) := by decide +kernel
theorem dX2_addNext_45 : decode cX2_addNext 45 = .ok (.aload 7, 2) := by decide +kernel
theorem dX2_addNext_47 : decode cX2_addNext 47 = .ok (.iload_n 1, 1) := by decide +kernel
theorem dX2_addNext_48 : decode cX2_addNext 48 = .ok (.invokevirtual 112, 3) := by decide +kernel
theorem dX2_addNext_51 : decode cX2_addNext 51 = .ok (.ifCond .eq 32, 3) := by decide +kernel
theorem dX2_addNext_54 : decode cX2_addNext 54 = .ok (.aload_n 0, 1) := by decide +kernel
theorem dX2_addNext_55 : decode cX2_addNext 55 = .ok (.getfield 9, 3) := by decide +kernel
theorem dX2_addNext_58 : decode cX2_addNext 58 = .ok (.iload 5, 2) := by decide +kernel
theorem dX2_addNext_60 : decode cX2_addNext 60 = .ok (.aload 7, 2) := by decide +kernel
theorem dX2_addNext_62 : decode cX2_addNext 62 = .ok (.getfield 116, 3) := by decide +kernel
theorem dX2_addNext_65 : decode cX2_addNext 65 = .ok (.iadd, 1) := by decide +kernel
theorem dX2_addNext_66 : decode cX2_addNext 66 = .ok (.dup2, 1) := by decide +kernel
theorem dX2_addNext_67 : decode cX2_addNext 67 = .ok (.laload, 1) := by decide +kernel
theorem dX2_addNext_68 : decode cX2_addNext 68 = .ok (.aload_n 0, 1) := by decide +kernel
theorem dX2_addNext_69 : decode cX2_addNext 69 = .ok (.aload 7, 2) := by decide +kernel
theorem dX2_addNext_71 : decode cX2_addNext 71 = .ok (.iload_n 1, 1) := by decide +kernel
theorem dX2_addNext_72 : decode cX2_addNext 72 = .ok (.iload_n 2, 1) := by decide +kernel
theorem dX2_addNext_73 : decode cX2_addNext 73 = .ok (.iconst 1, 1) := by decide +kernel
theorem dX2_addNext_74 : decode cX2_addNext 74 = .ok (.isub, 1) := by decide +kernel
theorem dX2_addNext_75 : decode cX2_addNext 75 = .ok (.iconst 0, 1) := by decide +kernel
theorem dX2_addNext_76 : decode cX2_addNext 76 = .ok (.invokevirtual 119, 3) := by decide +kernel
theorem dX2_addNext_79 : decode cX2_addNext 79 = .ok (.lload_n 3, 1) := by decide +kernel
theorem dX2_addNext_80 : decode cX2_addNext 80 = .ok (.land, 1) := by decide +kernel
theorem dX2_addNext_81 : decode cX2_addNext 81 = .ok (.lor, 1) := by decide +kernel
theorem dX2_addNext_82 : decode cX2_addNext 82 = .ok (.lastore, 1) := by decide +kernel
theorem dX2_addNext_83 : decode cX2_addNext 83 = .ok (.iinc 6 1, 3) := by decide +kernel
theorem dX2_addNext_86 : decode cX2_addNext 86 = .ok (.goto (-73), 3) := by decide +kernel
theorem dX2_addNext_89 : decode cX2_addNext 89 = .ok (.return_, 1) := by decide +kernel
theorem dX2_addNow_0 : decode cX2_addNow 0 = .ok (.iload_n 2, 1) := by decide +kernel
theorem dX2_addNow_1 : decode cX2_addNow 1 = .ok (.iload_n 1, 1) := by decide +kernel
theorem dX2_addNow_2 : decode cX2_addNow 2 = .ok (.invokestatic 76, 3) := by decide +kernel
theorem dX2_addNow_5 : decode cX2_addNow 5 = .ok (.bipush 10, 2) := by decide +kernel
theorem dX2_addNow_7 : decode cX2_addNow 7 = .ok (.imul, 1) := by decide +kernel
theorem dX2_addNow_8 : decode cX2_addNow 8 = .ok (.istore_n 3, 1) := by decide +kernel
theorem dX2_addNow_9 : decode cX2_addNow 9 = .ok (.iconst 1, 1) := by decide +kernel
theorem dX2_addNow_10 : decode cX2_addNow 10 = .ok (.istore 4, 2) := by decide +kernel
theorem dX2_addNow_12 : decode cX2_addNow 12 = .ok (.iconst 0, 1) := by decide +kernel
theorem dX2_addNow_13 : decode cX2_addNow 13 = .ok (.istore 5, 2) := by decide +kernel
theorem dX2_addNow_15 : decode cX2_addNow 15 = .ok (.iload 5, 2) := by decide +kernel
theorem dX2_addNow_17 : decode cX2_addNow 17 = .ok (.bipush 10, 2) := by decide +kernel
theorem dX2_addNow_19 : decode cX2_addNow 19 = .ok (.if_icmp .ge 129, 3) := by decide +kernel
theorem dX2_addNow_22 : decode cX2_addNow 22 = .ok (.iload 4, 2) := by decide +kernel
theorem dX2_addNow_24 : decode cX2_addNow 24 = .ok (.ifCond .eq 124, 3) := by decide +kernel
theorem dX2_addNow_27 : decode cX2_addNow 27 = .ok (.iconst 0, 1) := by decide +kernel
theorem dX2_addNow_28 : decode cX2_addNow 28 = .ok (.istore 4, 2) := by decide +kernel
theorem dX2_addNow_30 : decode cX2_addNow 30 = .ok (.iconst 0, 1) := by decide +kernel
theorem dX2_addNow_31 : decode cX2_addNow 31 = .ok (.istore 6, 2) := by decide +kernel
theorem dX2_addNow_33 : decode cX2_addNow 33 = .ok (.iload 6, 2) := by decide +kernel
theorem dX2_addNow_35 : decode cX2_addNow 35 = .ok (.aload_n 0, 1) := by decide +kernel
theorem dX2_addNow_36 : decode cX2_addNow 36 = .ok (.getfield 37, 3) := by decide +kernel
theorem dX2_addNow_39 : decode cX2_addNow 39 = .ok (.getfield 99, 3) := by decide +kernel
theorem dX2_addNow_42 : decode cX2_addNow 42 = .ok (.if_icmp .ge 100, 3) := by decide +kernel
theorem dX2_addNow_45 : decode cX2_addNow 45 = .ok (.aload_n 0, 1) := by decide +kernel
theorem dX2_addNow_46 : decode cX2_addNow 46 = .ok (.getfield 37, 3) := by decide +kernel
theorem dX2_addNow_49 : decode cX2_addNow 49 = .ok (.getfield 102, 3) := by decide +kernel
theorem dX2_addNow_52 : decode cX2_addNow 52 = .ok (.iload 6, 2) := by decide +kernel
theorem dX2_addNow_54 : decode cX2_addNow 54 = .ok (.aaload, 1) := by decide +kernel
theorem dX2_addNow_55 : decode cX2_addNow 55 = .ok (.astore 7, 2) := by decide +kernel
theorem dX2_addNow_57 : decode cX2_addNow 57 = .ok (.aload 7, 2) := by decide +kernel
theorem dX2_addNow_59 : decode cX2_addNow 59 = .ok (.getfield 106, 3) := by decide +kernel
theorem dX2_addNow_62 : decode cX2_addNow 62 = .ok (.ifCond .eq 74, 3) := by decide +kernel
theorem dX2_addNow_65 : decode cX2_addNow 65 = .ok (.aload 7, 2) := by decide +kernel
theorem dX2_addNow_67 : decode cX2_addNow 67 = .ok (.iload_n 1, 1) := by decide +kernel
theorem dX2_addNow_68 : decode cX2_addNow 68 = .ok (.invokevirtual 112, 3) := by decide +kernel
theorem dX2_addNow_71 : decode cX2_addNow 71 = .ok (.ifCond .eq 65, 3) := by decide +kernel
theorem dX2_addNow_74 : decode cX2_addNow 74 = .ok (.aload_n 0, 1) := by decide +kernel
theorem dX2_addNow_75 : decode cX2_addNow 75 = .ok (.aload 7, 2) := by decide +kernel
theorem dX2_addNow_77 : decode cX2_addNow 77 = .ok (.iload_n 1, 1) := by decide +kernel
theorem dX2_addNow_78 : decode cX2_addNow 78 = .ok (.iload_n 2, 1) := by decide +kernel
theorem dX2_addNow_79 : decode cX2_addNow 79 = .ok (.iconst 0, 1) := by decide +kernel
theorem dX2_addNow_80 : decode cX2_addNow 80 = .ok (.invokevirtual 119, 3) := by decide +kernel
theorem dX2_addNow_83 : decode cX2_addNow 83 = .ok (.aload_n 0, 1) := by decide +kernel
theorem dX2_addNow_84 : decode cX2_addNow 84 = .ok (.getfield 9, 3) := by decide +kernel
theorem dX2_addNow_87 : decode cX2_addNow 87 = .ok (.iload_n 3, 1) := by decide +kernel
theorem dX2_addNow_88 : decode cX2_addNow 88 = .ok (.aload 7, 2) := by decide +kernel
theorem dX2_addNow_90 : decode cX2_addNow 90 = .ok (.getfield 116, 3) := by decide +kernel
theorem dX2_addNow_93 : decode cX2_addNow 93 = .ok (.iadd, 1) := by decide +kernel
theorem dX2_addNow_94 : decode cX2_addNow 94 = .ok (.laload, 1) := by decide +kernel
theorem dX2_addNow_95 : decode cX2_addNow 95 = .ok (.ldc2_w 74, 3) := by decide +kernel
theorem dX2_addNow_98 : decode cX2_addNow 98 = .ok (.lxor, 1) := by decide +kernel
theorem dX2_addNow_99 : decode cX2_addNow 99 = .ok (.land, 1) := by decide +kernel
theorem dX2_addNow_100 : decode cX2_addNow 100 = .ok (.lstore 8, 2) := by decide +kernel
theorem dX2_addNow_102 : decode cX2_addNow 102 = .ok (.aload_n 0, 1) := by decide +kernel
theorem dX2_addNow_103 : decode cX2_addNow 103 = .ok (.getfield 9, 3) := by decide +kernel
theorem dX2_addNow_106 : decode cX2_addNow 106 = .ok (.iload_n 3, 1) := by decide +kernel
theorem dX2_addNow_107 : decode cX2_addNow 107 = .ok (.aload 7, 2) := by decide +kernel
theorem dX2_addNow_109 : decode cX2_addNow 109 = .ok (.getfield 116, 3) := by decide +kernel
theorem dX2_addNow_112 : decode cX2_addNow 112 = .ok (.iadd, 1) := by decide +kernel
theorem dX2_addNow_113 : decode cX2_addNow 113 = .ok (.dup2, 1) := by decide +kernel
theorem dX2_addNow_114 : decode cX2_addNow 114 = .ok (.laload, 1) := by decide +kernel
theorem dX2_addNow_115 : decode cX2_addNow 115 = .ok (.lload 8, 2) := by decide +kernel
theorem dX2_addNow_117 : decode cX2_addNow 117 = .ok (.lor, 1) := by decide +kernel
theorem dX2_addNow_118 : decode cX2_addNow 118 = .ok (.lastore, 1) := by decide +kernel
theorem dX2_addNow_119 : decode cX2_addNow 119 = .ok (.iload 4, 2) := by decide +kernel
theorem dX2_addNow_121 : decode cX2_addNow 121 = .ok (.lload 8, 2) := by decide +kernel
theorem dX2_addNow_123 : decode cX2_addNow 123 = .ok (.lconst 0, 1) := by decide +kernel
theorem dX2_addNow_124 : decode cX2_addNow 124 = .ok (.lcmp, 1) := by decide +kernel
theorem dX2_addNow_125 : decode cX2_addNow 125 = .ok (.ifCond .eq 7, 3) := by decide +kernel
theorem dX2_addNow_128 : decode cX2_addNow 128 = .ok (.iconst 1, 1) := by decide +kernel
theorem dX2_addNow_129 : decode cX2_addNow 129 = .ok (.goto 4, 3) := by decide +kernel
theorem dX2_addNow_132 : decode cX2_addNow 132 = .ok (.iconst 0, 1) := by decide +kernel
theorem dX2_addNow_133 : decode cX2_addNow 133 = .ok (.ior, 1) := by decide +kernel
theorem dX2_addNow_134 : decode cX2_addNow 134 = .ok (.istore 4, 2) := by decide +kernel
theorem dX2_addNow_136 : decode cX2_addNow 136 = .ok (.iinc 6 1, 3) := by decide +kernel
theorem dX2_addNow_139 : decode cX2_addNow 139 = .ok (.goto (-106), 3) := by decide +kernel
theorem dX2_addNow_142 : decode cX2_addNow 142 = .ok (.iinc 5 1, 3) := by decide +kernel
theorem dX2_addNow_145 : decode cX2_addNow 145 = .ok (.goto (-130), 3) := by decide +kernel
theorem dX2_addNow_148 : decode cX2_addNow 148 = .ok (.return_, 1) := by decide +kernel
theorem dX2_held_0 : decode cX2_held 0 = .ok (.iload_n 3, 1) := by decide +kernel
theorem dX2_held_1 : decode cX2_held 1 = .ok (.iconst 4, 1) := by decide +kernel
theorem dX2_held_2 : decode cX2_held 2 = .ok (.imul, 1) := by decide +kernel
theorem dX2_held_3 : decode cX2_held 3 = .ok (.iload_n 2, 1) := by decide +kernel
theorem dX2_held_4 : decode cX2_held 4 = .ok (.iadd, 1) := by decide +kernel
theorem dX2_held_5 : decode cX2_held 5 = .ok (.bipush 10, 2) := by decide +kernel
theorem dX2_held_7 : decode cX2_held 7 = .ok (.imul, 1) := by decide +kernel
theorem dX2_held_8 : decode cX2_held 8 = .ok (.istore 5, 2) := by decide +kernel
theorem dX2_held_10 : decode cX2_held 10 = .ok (.aload_n 0, 1) := by decide +kernel
theorem dX2_held_11 : decode cX2_held 11 = .ok (.getfield 38, 3) := by decide +kernel
theorem dX2_held_14 : decode cX2_held 14 = .ok (.getfield 69, 3) := by decide +kernel
theorem dX2_held_17 : decode cX2_held 17 = .ok (.iload_n 2, 1) := by decide +kernel
theorem dX2_held_18 : decode cX2_held 18 = .ok (.bipush 7, 2) := by decide +kernel
theorem dX2_held_20 : decode cX2_held 20 = .ok (.imul, 1) := by decide +kernel
theorem dX2_held_21 : decode cX2_held 21 = .ok (.iload_n 3, 1) := by decide +kernel
theorem dX2_held_22 : decode cX2_held 22 = .ok (.iadd, 1) := by decide +kernel
theorem dX2_held_23 : decode cX2_held 23 = .ok (.laload, 1) := by decide +kernel
theorem dX2_held_24 : decode cX2_held 24 = .ok (.ldc2_w 74, 3) := by decide +kernel
theorem dX2_held_27 : decode cX2_held 27 = .ok (.lxor, 1) := by decide +kernel
theorem dX2_held_28 : decode cX2_held 28 = .ok (.lstore 6, 2) := by decide +kernel
theorem dX2_held_30 : decode cX2_held 30 = .ok (.iconst 0, 1) := by decide +kernel
theorem dX2_held_31 : decode cX2_held 31 = .ok (.istore 8, 2) := by decide +kernel
theorem dX2_held_33 : decode cX2_held 33 = .ok (.iload 8, 2) := by decide +kernel
theorem dX2_held_35 : decode cX2_held 35 = .ok (.aload_n 1, 1) := by decide +kernel
theorem dX2_held_36 : decode cX2_held 36 = .ok (.getfield 123, 3) := by decide +kernel
theorem dX2_held_39 : decode cX2_held 39 = .ok (.if_icmp .ge 62, 3) := by decide +kernel
theorem dX2_held_42 : decode cX2_held 42 = .ok (.aload_n 0, 1) := by decide +kernel
theorem dX2_held_43 : decode cX2_held 43 = .ok (.getfield 9, 3) := by decide +kernel
theorem dX2_held_46 : decode cX2_held 46 = .ok (.iload 5, 2) := by decide +kernel
theorem dX2_held_48 : decode cX2_held 48 = .ok (.aload_n 1, 1) := by decide +kernel
theorem dX2_held_49 : decode cX2_held 49 = .ok (.getfield 126, 3) := by decide +kernel
theorem dX2_held_52 : decode cX2_held 52 = .ok (.iload 8, 2) := by decide +kernel
theorem dX2_held_54 : decode cX2_held 54 = .ok (.iaload, 1) := by decide +kernel
theorem dX2_held_55 : decode cX2_held 55 = .ok (.iadd, 1) := by decide +kernel
theorem dX2_held_56 : decode cX2_held 56 = .ok (.laload, 1) := by decide +kernel
theorem dX2_held_57 : decode cX2_held 57 = .ok (.lstore 9, 2) := by decide +kernel
theorem dX2_held_59 : decode cX2_held 59 = .ok (.aload_n 1, 1) := by decide +kernel
theorem dX2_held_60 : decode cX2_held 60 = .ok (.getfield 130, 3) := by decide +kernel
theorem dX2_held_63 : decode cX2_held 63 = .ok (.iload 8, 2) := by decide +kernel
theorem dX2_held_65 : decode cX2_held 65 = .ok (.baload, 1) := by decide +kernel
theorem dX2_held_66 : decode cX2_held 66 = .ok (.ifCond .ne 13, 3) := by decide +kernel
theorem dX2_held_69 : decode cX2_held 69 = .ok (.lload 6, 2) := by decide +kernel
theorem dX2_held_71 : decode cX2_held 71 = .ok (.lload 9, 2) := by decide +kernel
theorem dX2_held_73 : decode cX2_held 73 = .ok (.land, 1) := by decide +kernel
theorem dX2_held_74 : decode cX2_held 74 = .ok (.lstore 6, 2) := by decide +kernel
theorem dX2_held_76 : decode cX2_held 76 = .ok (.goto 19, 3) := by decide +kernel
theorem dX2_held_79 : decode cX2_held 79 = .ok (.iload 4, 2) := by decide +kernel
theorem dX2_held_81 : decode cX2_held 81 = .ok (.ifCond .ne 14, 3) := by decide +kernel
theorem dX2_held_84 : decode cX2_held 84 = .ok (.lload 6, 2) := by decide +kernel
theorem dX2_held_86 : decode cX2_held 86 = .ok (.lload 9, 2) := by decide +kernel
theorem dX2_held_88 : decode cX2_held 88 = .ok (.ldc2_w 74, 3) := by decide +kernel
theorem dX2_held_91 : decode cX2_held 91 = .ok (.lxor, 1) := by decide +kernel
theorem dX2_held_92 : decode cX2_held 92 = .ok (.land, 1) := by decide +kernel
theorem dX2_held_93 : decode cX2_held 93 = .ok (.lstore 6, 2) := by decide +kernel
theorem dX2_held_95 : decode cX2_held 95 = .ok (.iinc 8 1, 3) := by decide +kernel
theorem dX2_held_98 : decode cX2_held 98 = .ok (.goto (-65), 3) := by decide +kernel
theorem dX2_held_101 : decode cX2_held 101 = .ok (.lload 6, 2) := by decide +kernel
theorem dX2_held_103 : decode cX2_held 103 = .ok (.lreturn, 1) := by decide +kernel
theorem dX2_sendWords_0 : decode cX2_sendWords 0 = .ok (.aload_n 0, 1) := by decide +kernel
theorem dX2_sendWords_1 : decode cX2_sendWords 1 = .ok (.getfield 37, 3) := by decide +kernel
theorem dX2_sendWords_4 : decode cX2_sendWords 4 = .ok (.getfield 134, 3) := by decide +kernel
theorem dX2_sendWords_7 : decode cX2_sendWords 7 = .ok (.iload_n 1, 1) := by decide +kernel
theorem dX2_sendWords_8 : decode cX2_sendWords 8 = .ok (.aaload, 1) := by decide +kernel
theorem dX2_sendWords_9 : decode cX2_sendWords 9 = .ok (.astore_n 3, 1) := by decide +kernel
theorem dX2_sendWords_10 : decode cX2_sendWords 10 = .ok (.aload_n 0, 1) := by decide +kernel
theorem dX2_sendWords_11 : decode cX2_sendWords 11 = .ok (.aload_n 3, 1) := by decide +kernel
theorem dX2_sendWords_12 : decode cX2_sendWords 12 = .ok (.aload_n 3, 1) := by decide +kernel
theorem dX2_sendWords_13 : decode cX2_sendWords 13 = .ok (.getfield 137, 3) := by decide +kernel
theorem dX2_sendWords_16 : decode cX2_sendWords 16 = .ok (.iload_n 2, 1) := by decide +kernel
theorem dX2_sendWords_17 : decode cX2_sendWords 17 = .ok (.aload_n 0, 1) := by decide +kernel
theorem dX2_sendWords_18 : decode cX2_sendWords 18 = .ok (.getfield 27, 3) := by decide +kernel
theorem dX2_sendWords_21 : decode cX2_sendWords 21 = .ok (.iload_n 1, 1) := by decide +kernel
theorem dX2_sendWords_22 : decode cX2_sendWords 22 = .ok (.invokevirtual 140, 3) := by decide +kernel
theorem dX2_sendWords_25 : decode cX2_sendWords 25 = .ok (.invokevirtual 119, 3) := by decide +kernel
theorem dX2_sendWords_28 : decode cX2_sendWords 28 = .ok (.lstore 4, 2) := by decide +kernel
theorem dX2_sendWords_30 : decode cX2_sendWords 30 = .ok (.lload 4, 2) := by decide +kernel
theorem dX2_sendWords_32 : decode cX2_sendWords 32 = .ok (.lstore 6, 2) := by decide +kernel
theorem dX2_sendWords_34 : decode cX2_sendWords 34 = .ok (.aload_n 0, 1) := by decide +kernel
theorem dX2_sendWords_35 : decode cX2_sendWords 35 = .ok (.getfield 27, 3) := by decide +kernel
theorem dX2_sendWords_38 : decode cX2_sendWords 38 = .ok (.iload_n 1, 1) := by decide +kernel
theorem dX2_sendWords_39 : decode cX2_sendWords 39 = .ok (.invokevirtual 143, 3) := by decide +kernel
theorem dX2_sendWords_42 : decode cX2_sendWords 42 = .ok (.ifCond .eq 43, 3) := by decide +kernel
theorem dX2_sendWords_45 : decode cX2_sendWords 45 = .ok (.lload 6, 2) := by decide +kernel
theorem dX2_sendWords_47 : decode cX2_sendWords 47 = .ok (.aload_n 0, 1) := by decide +kernel
theorem dX2_sendWords_48 : decode cX2_sendWords 48 = .ok (.getfield 21, 3) := by decide +kernel
theorem dX2_sendWords_51 : decode cX2_sendWords 51 = .ok (.iload_n 1, 1) := by decide +kernel
theorem dX2_sendWords_52 : decode cX2_sendWords 52 = .ok (.laload, 1) := by decide +kernel
theorem dX2_sendWords_53 : decode cX2_sendWords 53 = .ok (.lload 4, 2) := by decide +kernel
theorem dX2_sendWords_55 : decode cX2_sendWords 55 = .ok (.ldc2_w 74, 3) := by decide +kernel
theorem dX2_sendWords_58 : decode cX2_sendWords 58 = .ok (.lxor, 1) := by decide +kernel
theorem dX2_sendWords_59 : decode cX2_sendWords 59 = .ok (.land, 1) := by decide +kernel
theorem dX2_sendWords_60 : decode cX2_sendWords 60 = .ok (.aload_n 0, 1) := by decide +kernel
theorem dX2_sendWords_61 : decode cX2_sendWords 61 = .ok (.getfield 38, 3) := by decide +kernel
theorem dX2_sendWords_64 : decode cX2_sendWords 64 = .ok (.getfield 69, 3) := by decide +kernel
theorem dX2_sendWords_67 : decode cX2_sendWords 67 = .ok (.aload_n 3, 1) := by decide +kernel
theorem dX2_sendWords_68 : decode cX2_sendWords 68 = .ok (.getfield 137, 3) := by decide +kernel
theorem dX2_sendWords_71 : decode cX2_sendWords 71 = .ok (.bipush 7, 2) := by decide +kernel
theorem dX2_sendWords_73 : decode cX2_sendWords 73 = .ok (.imul, 1) := by decide +kernel
theorem dX2_sendWords_74 : decode cX2_sendWords 74 = .ok (.iload_n 2, 1) := by decide +kernel
theorem dX2_sendWords_75 : decode cX2_sendWords 75 = .ok (.iadd, 1) := by decide +kernel
theorem dX2_sendWords_76 : decode cX2_sendWords 76 = .ok (.laload, 1) := by decide +kernel
theorem dX2_sendWords_77 : decode cX2_sendWords 77 = .ok (.ldc2_w 74, 3) := by decide +kernel
theorem dX2_sendWords_80 : decode cX2_sendWords 80 = .ok (.lxor, 1) := by decide +kernel
theorem dX2_sendWords_81 : decode cX2_sendWords 81 = .ok (.land, 1) := by decide +kernel
theorem dX2_sendWords_82 : decode cX2_sendWords 82 = .ok (.lor, 1) := by decide +kernel
theorem dX2_sendWords_83 : decode cX2_sendWords 83 = .ok (.lstore 6, 2) := by decide +kernel
theorem dX2_sendWords_85 : decode cX2_sendWords 85 = .ok (.aload_n 0, 1) := by decide +kernel
theorem dX2_sendWords_86 : decode cX2_sendWords 86 = .ok (.getfield 21, 3) := by decide +kernel
theorem dX2_sendWords_89 : decode cX2_sendWords 89 = .ok (.iload_n 1, 1) := by decide +kernel
theorem dX2_sendWords_90 : decode cX2_sendWords 90 = .ok (.lload 4, 2) := by decide +kernel
theorem dX2_sendWords_92 : decode cX2_sendWords 92 = .ok (.lastore, 1) := by decide +kernel
theorem dX2_sendWords_93 : decode cX2_sendWords 93 = .ok (.iload_n 1, 1) := by decide +kernel
theorem dX2_sendWords_94 : decode cX2_sendWords 94 = .ok (.bipush 7, 2) := by decide +kernel
theorem dX2_sendWords_96 : decode cX2_sendWords 96 = .ok (.imul, 1) := by decide +kernel
theorem dX2_sendWords_97 : decode cX2_sendWords 97 = .ok (.iload_n 2, 1) := by decide +kernel
theorem dX2_sendWords_98 : decode cX2_sendWords 98 = .ok (.iadd, 1) := by decide +kernel
theorem dX2_sendWords_99 : decode cX2_sendWords 99 = .ok (.istore 8, 2) := by decide +kernel
theorem dX2_sendWords_101 : decode cX2_sendWords 101 = .ok (.aload_n 0, 1) := by decide +kernel
theorem dX2_sendWords_102 : decode cX2_sendWords 102 = .ok (.getfield 24, 3) := by decide +kernel
theorem dX2_sendWords_105 : decode cX2_sendWords 105 = .ok (.iload 8, 2) := by decide +kernel
theorem dX2_sendWords_107 : decode cX2_sendWords 107 = .ok (.lload 6, 2) := by decide +kernel
theorem dX2_sendWords_109 : decode cX2_sendWords 109 = .ok (.lastore, 1) := by decide +kernel
theorem dX2_sendWords_110 : decode cX2_sendWords 110 = .ok (.lload 6, 2) := by decide +kernel
theorem dX2_sendWords_112 : decode cX2_sendWords 112 = .ok (.aload_n 0, 1) := by decide +kernel
theorem dX2_sendWords_113 : decode cX2_sendWords 113 = .ok (.getfield 38, 3) := by decide +kernel
theorem dX2_sendWords_116 : decode cX2_sendWords 116 = .ok (.getfield 146, 3) := by decide +kernel
theorem dX2_sendWords_119 : decode cX2_sendWords 119 = .ok (.iload 8, 2) := by decide +kernel
theorem dX2_sendWords_121 : decode cX2_sendWords 121 = .ok (.laload, 1) := by decide +kernel
theorem dX2_sendWords_122 : decode cX2_sendWords 122 = .ok (.ldc2_w 74, 3) := by decide +kernel
theorem dX2_sendWords_125 : decode cX2_sendWords 125 = .ok (.lxor, 1) := by decide +kernel
theorem dX2_sendWords_126 : decode cX2_sendWords 126 = .ok (.land, 1) := by decide +kernel
theorem dX2_sendWords_127 : decode cX2_sendWords 127 = .ok (.lstore 9, 2) := by decide +kernel
theorem dX2_sendWords_129 : decode cX2_sendWords 129 = .ok (.aload_n 0, 1) := by decide +kernel
theorem dX2_sendWords_130 : decode cX2_sendWords 130 = .ok (.aload_n 3, 1) := by decide +kernel
theorem dX2_sendWords_131 : decode cX2_sendWords 131 = .ok (.iload_n 2, 1) := by decide +kernel
theorem dX2_sendWords_132 : decode cX2_sendWords 132 = .ok (.iconst 1, 1) := by decide +kernel
theorem dX2_sendWords_133 : decode cX2_sendWords 133 = .ok (.iadd, 1) := by decide +kernel
theorem dX2_sendWords_134 : decode cX2_sendWords 134 = .ok (.lload 9, 2) := by decide +kernel
theorem dX2_sendWords_136 : decode cX2_sendWords 136 = .ok (.aload_n 0, 1) := by decide +kernel
theorem dX2_sendWords_137 : decode cX2_sendWords 137 = .ok (.getfield 38, 3) := by decide +kernel
theorem dX2_sendWords_140 : decode cX2_sendWords 140 = .ok (.getfield 149, 3) := by decide +kernel
theorem dX2_sendWords_143 : decode cX2_sendWords 143 = .ok (.iload 8, 2) := by decide +kernel
theorem dX2_sendWords_145 : decode cX2_sendWords 145 = .ok (.laload, 1) := by decide +kernel
theorem dX2_sendWords_146 : decode cX2_sendWords 146 = .ok (.ldc2_w 74, 3) := by decide +kernel
theorem dX2_sendWords_149 : decode cX2_sendWords 149 = .ok (.lxor, 1) := by decide +kernel
theorem dX2_sendWords_150 : decode cX2_sendWords 150 = .ok (.land, 1) := by decide +kernel
theorem dX2_sendWords_151 : decode cX2_sendWords 151 = .ok (.invokevirtual 152, 3) := by decide +kernel
theorem dX2_sendWords_154 : decode cX2_sendWords 154 = .ok (.aload_n 0, 1) := by decide +kernel
theorem dX2_sendWords_155 : decode cX2_sendWords 155 = .ok (.aload_n 3, 1) := by decide +kernel
theorem dX2_sendWords_156 : decode cX2_sendWords 156 = .ok (.iload_n 2, 1) := by decide +kernel
theorem dX2_sendWords_157 : decode cX2_sendWords 157 = .ok (.iconst 1, 1) := by decide +kernel
theorem dX2_sendWords_158 : decode cX2_sendWords 158 = .ok (.iadd, 1) := by decide +kernel
theorem dX2_sendWords_159 : decode cX2_sendWords 159 = .ok (.iconst 2, 1) := by decide +kernel
theorem dX2_sendWords_160 : decode cX2_sendWords 160 = .ok (.iadd, 1) := by decide +kernel
theorem dX2_sendWords_161 : decode cX2_sendWords 161 = .ok (.lload 9, 2) := by decide +kernel
theorem dX2_sendWords_163 : decode cX2_sendWords 163 = .ok (.aload_n 0, 1) := by decide +kernel
theorem dX2_sendWords_164 : decode cX2_sendWords 164 = .ok (.getfield 38, 3) := by decide +kernel
theorem dX2_sendWords_167 : decode cX2_sendWords 167 = .ok (.getfield 149, 3) := by decide +kernel
theorem dX2_sendWords_170 : decode cX2_sendWords 170 = .ok (.iload 8, 2) := by decide +kernel
theorem dX2_sendWords_172 : decode cX2_sendWords 172 = .ok (.laload, 1) := by decide +kernel
theorem dX2_sendWords_173 : decode cX2_sendWords 173 = .ok (.land, 1) := by decide +kernel
theorem dX2_sendWords_174 : decode cX2_sendWords 174 = .ok (.invokevirtual 152, 3) := by decide +kernel
theorem dX2_sendWords_177 : decode cX2_sendWords 177 = .ok (.return_, 1) := by decide +kernel
theorem dX2_arrive_0 : decode cX2_arrive 0 = .ok (.iload_n 2, 1) := by decide +kernel
theorem dX2_arrive_1 : decode cX2_arrive 1 = .ok (.aload_n 0, 1) := by decide +kernel
theorem dX2_arrive_2 : decode cX2_arrive 2 = .ok (.getfield 27, 3) := by decide +kernel
theorem dX2_arrive_5 : decode cX2_arrive 5 = .ok (.getfield 48, 3) := by decide +kernel
theorem dX2_arrive_8 : decode cX2_arrive 8 = .ok (.if_icmp .gt 28, 3) := by decide +kernel
theorem dX2_arrive_11 : decode cX2_arrive 11 = .ok (.aload_n 0, 1) := by decide +kernel
theorem dX2_arrive_12 : decode cX2_arrive 12 = .ok (.getfield 15, 3) := by decide +kernel
theorem dX2_arrive_15 : decode cX2_arrive 15 = .ok (.iload_n 2, 1) := by decide +kernel
theorem dX2_arrive_16 : decode cX2_arrive 16 = .ok (.aload_n 1, 1) := by decide +kernel
theorem dX2_arrive_17 : decode cX2_arrive 17 = .ok (.getfield 156, 3) := by decide +kernel
theorem dX2_arrive_20 : decode cX2_arrive 20 = .ok (.invokestatic 76, 3) := by decide +kernel
theorem dX2_arrive_23 : decode cX2_arrive 23 = .ok (.bipush 10, 2) := by decide +kernel
theorem dX2_arrive_25 : decode cX2_arrive 25 = .ok (.imul, 1) := by decide +kernel
theorem dX2_arrive_26 : decode cX2_arrive 26 = .ok (.aload_n 1, 1) := by decide +kernel
theorem dX2_arrive_27 : decode cX2_arrive 27 = .ok (.getfield 116, 3) := by decide +kernel
theorem dX2_arrive_30 : decode cX2_arrive 30 = .ok (.iadd, 1) := by decide +kernel
theorem dX2_arrive_31 : decode cX2_arrive 31 = .ok (.dup2, 1) := by decide +kernel
theorem dX2_arrive_32 : decode cX2_arrive 32 = .ok (.laload, 1) := by decide +kernel
theorem dX2_arrive_33 : decode cX2_arrive 33 = .ok (.lload_n 3, 1) := by decide +kernel
theorem dX2_arrive_34 : decode cX2_arrive 34 = .ok (.lor, 1) := by decide +kernel
theorem dX2_arrive_35 : decode cX2_arrive 35 = .ok (.lastore, 1) := by decide +kernel
theorem dX2_arrive_36 : decode cX2_arrive 36 = .ok (.return_, 1) := by decide +kernel
theorem dX2_judge_0 : decode cX2_judge 0 = .ok (.aload_n 0, 1) := by decide +kernel
theorem dX2_judge_1 : decode cX2_judge 1 = .ok (.getfield 27, 3) := by decide +kernel
theorem dX2_judge_4 : decode cX2_judge 4 = .ok (.getfield 48, 3) := by decide +kernel
theorem dX2_judge_7 : decode cX2_judge 7 = .ok (.iconst 0, 1) := by decide +kernel
theorem dX2_judge_8 : decode cX2_judge 8 = .ok (.invokestatic 76, 3) := by decide +kernel
theorem dX2_judge_11 : decode cX2_judge 11 = .ok (.bipush 10, 2) := by decide +kernel
theorem dX2_judge_13 : decode cX2_judge 13 = .ok (.imul, 1) := by decide +kernel
theorem dX2_judge_14 : decode cX2_judge 14 = .ok (.istore_n 1, 1) := by decide +kernel
theorem dX2_judge_15 : decode cX2_judge 15 = .ok (.ldc2_w 74, 3) := by decide +kernel
theorem dX2_judge_18 : decode cX2_judge 18 = .ok (.lstore_n 2, 1) := by decide +kernel
theorem dX2_judge_19 : decode cX2_judge 19 = .ok (.iconst 0, 1) := by decide +kernel
theorem dX2_judge_20 : decode cX2_judge 20 = .ok (.istore 4, 2) := by decide +kernel
theorem dX2_judge_22 : decode cX2_judge 22 = .ok (.iload 4, 2) := by decide +kernel
theorem dX2_judge_24 : decode cX2_judge 24 = .ok (.aload_n 0, 1) := by decide +kernel
theorem dX2_judge_25 : decode cX2_judge 25 = .ok (.getfield 37, 3) := by decide +kernel
theorem dX2_judge_28 : decode cX2_judge 28 = .ok (.getfield 159, 3) := by decide +kernel
theorem dX2_judge_31 : decode cX2_judge 31 = .ok (.if_icmp .ge 29, 3) := by decide +kernel
theorem dX2_judge_34 : decode cX2_judge 34 = .ok (.lload_n 2, 1) := by decide +kernel
theorem dX2_judge_35 : decode cX2_judge 35 = .ok (.aload_n 0, 1) := by decide +kernel
theorem dX2_judge_36 : decode cX2_judge 36 = .ok (.getfield 9, 3) := by decide +kernel
theorem dX2_judge_39 : decode cX2_judge 39 = .ok (.iload_n 1, 1) := by decide +kernel
theorem dX2_judge_40 : decode cX2_judge 40 = .ok (.aload_n 0, 1) := by decide +kernel
theorem dX2_judge_41 : decode cX2_judge 41 = .ok (.getfield 37, 3) := by decide +kernel
theorem dX2_judge_44 : decode cX2_judge 44 = .ok (.getfield 162, 3) := by decide +kernel
theorem dX2_judge_47 : decode cX2_judge 47 = .ok (.iload 4, 2) := by decide +kernel
theorem dX2_judge_49 : decode cX2_judge 49 = .ok (.iaload, 1) := by decide +kernel
theorem dX2_judge_50 : decode cX2_judge 50 = .ok (.iadd, 1) := by decide +kernel
theorem dX2_judge_51 : decode cX2_judge 51 = .ok (.laload, 1) := by decide +kernel
theorem dX2_judge_52 : decode cX2_judge 52 = .ok (.land, 1) := by decide +kernel
theorem dX2_judge_53 : decode cX2_judge 53 = .ok (.lstore_n 2, 1) := by decide +kernel
theorem dX2_judge_54 : decode cX2_judge 54 = .ok (.iinc 4 1, 3) := by decide +kernel
theorem dX2_judge_57 : decode cX2_judge 57 = .ok (.goto (-35), 3) := by decide +kernel
theorem dX2_judge_60 : decode cX2_judge 60 = .ok (.lconst 0, 1) := by decide +kernel
theorem dX2_judge_61 : decode cX2_judge 61 = .ok (.lstore 4, 2) := by decide +kernel
theorem dX2_judge_63 : decode cX2_judge 63 = .ok (.iconst 0, 1) := by decide +kernel
theorem dX2_judge_64 : decode cX2_judge 64 = .ok (.istore 6, 2) := by decide +kernel
theorem dX2_judge_66 : decode cX2_judge 66 = .ok (.iload 6, 2) := by decide +kernel
theorem dX2_judge_68 : decode cX2_judge 68 = .ok (.aload_n 0, 1) := by decide +kernel
theorem dX2_judge_69 : decode cX2_judge 69 = .ok (.getfield 37, 3) := by decide +kernel
theorem dX2_judge_72 : decode cX2_judge 72 = .ok (.getfield 165, 3) := by decide +kernel
theorem dX2_judge_75 : decode cX2_judge 75 = .ok (.if_icmp .ge 31, 3) := by decide +kernel
theorem dX2_judge_78 : decode cX2_judge 78 = .ok (.lload 4, 2) := by decide +kernel
theorem dX2_judge_80 : decode cX2_judge 80 = .ok (.aload_n 0, 1) := by decide +kernel
theorem dX2_judge_81 : decode cX2_judge 81 = .ok (.getfield 9, 3) := by decide +kernel
theorem dX2_judge_84 : decode cX2_judge 84 = .ok (.iload_n 1, 1) := by decide +kernel
theorem dX2_judge_85 : decode cX2_judge 85 = .ok (.aload_n 0, 1) := by decide +kernel
theorem dX2_judge_86 : decode cX2_judge 86 = .ok (.getfield 37, 3) := by decide +kernel
theorem dX2_judge_89 : decode cX2_judge 89 = .ok (.getfield 168, 3) := by decide +kernel
theorem dX2_judge_92 : decode cX2_judge 92 = .ok (.iload 6, 2) := by decide +kernel
theorem dX2_judge_94 : decode cX2_judge 94 = .ok (.iaload, 1) := by decide +kernel
theorem dX2_judge_95 : decode cX2_judge 95 = .ok (.iadd, 1) := by decide +kernel
theorem dX2_judge_96 : decode cX2_judge 96 = .ok (.laload, 1) := by decide +kernel
theorem dX2_judge_97 : decode cX2_judge 97 = .ok (.lor, 1) := by decide +kernel
theorem dX2_judge_98 : decode cX2_judge 98 = .ok (.lstore 4, 2) := by decide +kernel
theorem dX2_judge_100 : decode cX2_judge 100 = .ok (.iinc 6 1, 3) := by decide +kernel
theorem dX2_judge_103 : decode cX2_judge 103 = .ok (.goto (-37), 3) := by decide +kernel
theorem dX2_judge_106 : decode cX2_judge 106 = .ok (.aload_n 0, 1) := by decide +kernel
theorem dX2_judge_107 : decode cX2_judge 107 = .ok (.lload_n 2, 1) := by decide +kernel
theorem dX2_judge_108 : decode cX2_judge 108 = .ok (.lload 4, 2) := by decide +kernel
theorem dX2_judge_110 : decode cX2_judge 110 = .ok (.ldc2_w 74, 3) := by decide +kernel
theorem dX2_judge_113 : decode cX2_judge 113 = .ok (.lxor, 1) := by decide +kernel
theorem dX2_judge_114 : decode cX2_judge 114 = .ok (.land, 1) := by decide +kernel
theorem dX2_judge_115 : decode cX2_judge 115 = .ok (.putfield 171, 3) := by decide +kernel
theorem dX2_judge_118 : decode cX2_judge 118 = .ok (.aload_n 0, 1) := by decide +kernel
theorem dX2_judge_119 : decode cX2_judge 119 = .ok (.lload_n 2, 1) := by decide +kernel
theorem dX2_judge_120 : decode cX2_judge 120 = .ok (.lload 4, 2) := by decide +kernel
theorem dX2_judge_122 : decode cX2_judge 122 = .ok (.land, 1) := by decide +kernel
theorem dX2_judge_123 : decode cX2_judge 123 = .ok (.putfield 175, 3) := by decide +kernel
theorem dX2_judge_126 : decode cX2_judge 126 = .ok (.return_, 1) := by decide +kernel
theorem dX3_init_0 : decode cX3_init 0 = .ok (.aload_n 0, 1) := by decide +kernel
theorem dX3_init_1 : decode cX3_init 1 = .ok (.invokespecial 3, 3) := by decide +kernel
theorem dX3_init_4 : decode cX3_init 4 = .ok (.aload_n 0, 1) := by decide +kernel
theorem dX3_init_5 : decode cX3_init 5 = .ok (.bipush 42, 2) := by decide +kernel
theorem dX3_init_7 : decode cX3_init 7 = .ok (.newarray .long, 2) := by decide +kernel
theorem dX3_init_9 : decode cX3_init 9 = .ok (.putfield 9, 3) := by decide +kernel
theorem dX3_init_12 : decode cX3_init 12 = .ok (.aload_n 0, 1) := by decide +kernel
theorem dX3_init_13 : decode cX3_init 13 = .ok (.bipush 42, 2) := by decide +kernel
theorem dX3_init_15 : decode cX3_init 15 = .ok (.newarray .long, 2) := by decide +kernel
theorem dX3_init_17 : decode cX3_init 17 = .ok (.putfield 15, 3) := by decide +kernel
theorem dX3_init_20 : decode cX3_init 20 = .ok (.aload_n 0, 1) := by decide +kernel
theorem dX3_init_21 : decode cX3_init 21 = .ok (.bipush 28, 2) := by decide +kernel
theorem dX3_init_23 : decode cX3_init 23 = .ok (.newarray .long, 2) := by decide +kernel
theorem dX3_init_25 : decode cX3_init 25 = .ok (.putfield 18, 3) := by decide +kernel
theorem dX3_init_28 : decode cX3_init 28 = .ok (.return_, 1) := by decide +kernel
theorem dX3_wipe_0 : decode cX3_wipe 0 = .ok (.aload_n 0, 1) := by decide +kernel
theorem dX3_wipe_1 : decode cX3_wipe 1 = .ok (.getfield 9, 3) := by decide +kernel
theorem dX3_wipe_4 : decode cX3_wipe 4 = .ok (.lconst 0, 1) := by decide +kernel
theorem dX3_wipe_5 : decode cX3_wipe 5 = .ok (.invokestatic 21, 3) := by decide +kernel
theorem dX3_wipe_8 : decode cX3_wipe 8 = .ok (.aload_n 0, 1) := by decide +kernel
theorem dX3_wipe_9 : decode cX3_wipe 9 = .ok (.getfield 15, 3) := by decide +kernel
theorem dX3_wipe_12 : decode cX3_wipe 12 = .ok (.lconst 0, 1) := by decide +kernel
theorem dX3_wipe_13 : decode cX3_wipe 13 = .ok (.invokestatic 21, 3) := by decide +kernel
theorem dX3_wipe_16 : decode cX3_wipe 16 = .ok (.aload_n 0, 1) := by decide +kernel
theorem dX3_wipe_17 : decode cX3_wipe 17 = .ok (.getfield 18, 3) := by decide +kernel
theorem dX3_wipe_20 : decode cX3_wipe 20 = .ok (.lconst 0, 1) := by decide +kernel
theorem dX3_wipe_21 : decode cX3_wipe 21 = .ok (.invokestatic 21, 3) := by decide +kernel
theorem dX3_wipe_24 : decode cX3_wipe 24 = .ok (.return_, 1) := by decide +kernel
theorem dX3_put_0 : decode cX3_put 0 = .ok (.iload_n 1, 1) := by decide +kernel
theorem dX3_put_1 : decode cX3_put 1 = .ok (.bipush 10, 2) := by decide +kernel
theorem dX3_put_3 : decode cX3_put 3 = .ok (.idiv, 1) := by decide +kernel
theorem dX3_put_4 : decode cX3_put 4 = .ok (.bipush 10, 2) := by decide +kernel
theorem dX3_put_6 : decode cX3_put 6 = .ok (.irem, 1) := by decide +kernel
theorem dX3_put_7 : decode cX3_put 7 = .ok (.istore 4, 2) := by decide +kernel
theorem dX3_put_9 : decode cX3_put 9 = .ok (.iload_n 1, 1) := by decide +kernel
theorem dX3_put_10 : decode cX3_put 10 = .ok (.bipush 10, 2) := by decide +kernel
theorem dX3_put_12 : decode cX3_put 12 = .ok (.irem, 1) := by decide +kernel
theorem dX3_put_13 : decode cX3_put 13 = .ok (.istore 5, 2) := by decide +kernel
theorem dX3_put_15 : decode cX3_put 15 = .ok (.iload_n 1, 1) := by decide +kernel
theorem dX3_put_16 : decode cX3_put 16 = .ok (.bipush 100, 2) := by decide +kernel
theorem dX3_put_18 : decode cX3_put 18 = .ok (.idiv, 1) := by decide +kernel
theorem dX3_put_19 : decode cX3_put 19 = .ok (.tableswitch 99 0 3 #[29, 49, 63, 79], 29) := by decide +kernel
theorem dX3_put_48 : decode cX3_put 48 = .ok (.aload_n 0, 1) := by decide +kernel
theorem dX3_put_49 : decode cX3_put 49 = .ok (.getfield 9, 3) := by decide +kernel
theorem dX3_put_52 : decode cX3_put 52 = .ok (.iload 4, 2) := by decide +kernel
theorem dX3_put_54 : decode cX3_put 54 = .ok (.bipush 7, 2) := by decide +kernel
theorem dX3_put_56 : decode cX3_put 56 = .ok (.imul, 1) := by decide +kernel
theorem dX3_put_57 : decode cX3_put 57 = .ok (.iload 5, 2) := by decide +kernel
theorem dX3_put_59 : decode cX3_put 59 = .ok (.iadd, 1) := by decide +kernel
theorem dX3_put_60 : decode cX3_put 60 = .ok (.dup2, 1) := by decide +kernel
theorem dX3_put_61 : decode cX3_put 61 = .ok (.laload, 1) := by decide +kernel
theorem dX3_put_62 : decode cX3_put 62 = .ok (.lload_n 2, 1) := by decide +kernel
theorem dX3_put_63 : decode cX3_put 63 = .ok (.lor, 1) := by decide +kernel
theorem dX3_put_64 : decode cX3_put 64 = .ok (.lastore, 1) := by decide +kernel
theorem dX3_put_65 : decode cX3_put 65 = .ok (.goto 53, 3) := by decide +kernel
theorem dX3_put_68 : decode cX3_put 68 = .ok (.aload_n 0, 1) := by decide +kernel
theorem dX3_put_69 : decode cX3_put 69 = .ok (.iload 4, 2) := by decide +kernel
theorem dX3_put_71 : decode cX3_put 71 = .ok (.iload 5, 2) := by decide +kernel
theorem dX3_put_73 : decode cX3_put 73 = .ok (.bipush 6, 2) := by decide +kernel
theorem dX3_put_75 : decode cX3_put 75 = .ok (.lload_n 2, 1) := by decide +kernel
theorem dX3_put_76 : decode cX3_put 76 = .ok (.invokevirtual 27, 3) := by decide +kernel
theorem dX3_put_79 : decode cX3_put 79 = .ok (.goto 39, 3) := by decide +kernel
theorem dX3_put_82 : decode cX3_put 82 = .ok (.aload_n 0, 1) := by decide +kernel
theorem dX3_put_83 : decode cX3_put 83 = .ok (.iload 4, 2) := by decide +kernel
theorem dX3_put_85 : decode cX3_put 85 = .ok (.iload 5, 2) := by decide +kernel
theorem dX3_put_87 : decode cX3_put 87 = .ok (.iload 5, 2) := by decide +kernel
theorem dX3_put_89 : decode cX3_put 89 = .ok (.iconst 1, 1) := by decide +kernel
theorem dX3_put_90 : decode cX3_put 90 = .ok (.iadd, 1) := by decide +kernel
theorem dX3_put_91 : decode cX3_put 91 = .ok (.lload_n 2, 1) := by decide +kernel
theorem dX3_put_92 : decode cX3_put 92 = .ok (.invokevirtual 27, 3) := by decide +kernel
theorem dX3_put_95 : decode cX3_put 95 = .ok (.goto 23, 3) := by decide +kernel
theorem dX3_put_98 : decode cX3_put 98 = .ok (.aload_n 0, 1) := by decide +kernel
theorem dX3_put_99 : decode cX3_put 99 = .ok (.getfield 15, 3) := by decide +kernel
theorem dX3_put_102 : decode cX3_put 102 = .ok (.iload 4, 2) := by decide +kernel
theorem dX3_put_104 : decode cX3_put 104 = .ok (.bipush 7, 2) := by decide +kernel
theorem dX3_put_106 : decode cX3_put 106 = .ok (.imul, 1) := by decide +kernel
theorem dX3_put_107 : decode cX3_put 107 = .ok (.iload 5, 2) := by decide +kernel
theorem dX3_put_109 : decode cX3_put 109 = .ok (.iadd, 1) := by decide +kernel
theorem dX3_put_110 : decode cX3_put 110 = .ok (.dup2, 1) := by decide +kernel
theorem dX3_put_111 : decode cX3_put 111 = .ok (.laload, 1) := by decide +kernel
theorem dX3_put_112 : decode cX3_put 112 = .ok (.lload_n 2, 1) := by decide +kernel
theorem dX3_put_113 : decode cX3_put 113 = .ok (.lor, 1) := by decide +kernel
theorem dX3_put_114 : decode cX3_put 114 = .ok (.lastore, 1) := by decide +kernel
theorem dX3_put_115 : decode cX3_put 115 = .ok (.goto 3, 3) := by decide +kernel
theorem dX3_put_118 : decode cX3_put 118 = .ok (.return_, 1) := by decide +kernel
theorem dX3_putDown_0 : decode cX3_putDown 0 = .ok (.iload_n 2, 1) := by decide +kernel
theorem dX3_putDown_1 : decode cX3_putDown 1 = .ok (.istore 6, 2) := by decide +kernel
theorem dX3_putDown_3 : decode cX3_putDown 3 = .ok (.iload 6, 2) := by decide +kernel
theorem dX3_putDown_5 : decode cX3_putDown 5 = .ok (.iload_n 3, 1) := by decide +kernel
theorem dX3_putDown_6 : decode cX3_putDown 6 = .ok (.if_icmp .gt 33, 3) := by decide +kernel
theorem dX3_putDown_9 : decode cX3_putDown 9 = .ok (.iload 6, 2) := by decide +kernel
theorem dX3_putDown_11 : decode cX3_putDown 11 = .ok (.bipush 7, 2) := by decide +kernel
theorem dX3_putDown_13 : decode cX3_putDown 13 = .ok (.if_icmp .ge 26, 3) := by decide +kernel
theorem dX3_putDown_16 : decode cX3_putDown 16 = .ok (.aload_n 0, 1) := by decide +kernel
theorem dX3_putDown_17 : decode cX3_putDown 17 = .ok (.getfield 18, 3) := by decide +kernel
theorem dX3_putDown_20 : decode cX3_putDown 20 = .ok (.iload_n 1, 1) := by decide +kernel
theorem dX3_putDown_21 : decode cX3_putDown 21 = .ok (.bipush 7, 2) := by decide +kernel
theorem dX3_putDown_23 : decode cX3_putDown 23 = .ok (.imul, 1) := by decide +kernel
theorem dX3_putDown_24 : decode cX3_putDown 24 = .ok (.iload 6, 2) := by decide +kernel
theorem dX3_putDown_26 : decode cX3_putDown 26 = .ok (.iadd, 1) := by decide +kernel
theorem dX3_putDown_27 : decode cX3_putDown 27 = .ok (.dup2, 1) := by decide +kernel
theorem dX3_putDown_28 : decode cX3_putDown 28 = .ok (.laload, 1) := by decide +kernel
theorem dX3_putDown_29 : decode cX3_putDown 29 = .ok (.lload 4, 2) := by decide +kernel
theorem dX3_putDown_31 : decode cX3_putDown 31 = .ok (.lor, 1) := by decide +kernel
theorem dX3_putDown_32 : decode cX3_putDown 32 = .ok (.lastore, 1) := by decide +kernel
theorem dX3_putDown_33 : decode cX3_putDown 33 = .ok (.iinc 6 1, 3) := by decide +kernel
theorem dX3_putDown_36 : decode cX3_putDown 36 = .ok (.goto (-33), 3) := by decide +kernel
theorem dX3_putDown_39 : decode cX3_putDown 39 = .ok (.return_, 1) := by decide +kernel
theorem dX3_putAll_0 : decode cX3_putAll 0 = .ok (.aload_n 0, 1) := by decide +kernel
theorem dX3_putAll_1 : decode cX3_putAll 1 = .ok (.invokevirtual 31, 3) := by decide +kernel
theorem dX3_putAll_4 : decode cX3_putAll 4 = .ok (.iconst 0, 1) := by decide +kernel
theorem dX3_putAll_5 : decode cX3_putAll 5 = .ok (.istore_n 2, 1) := by decide +kernel
theorem dX3_putAll_6 : decode cX3_putAll 6 = .ok (.iload_n 2, 1) := by decide +kernel
theorem dX3_putAll_7 : decode cX3_putAll 7 = .ok (.aload_n 1, 1) := by decide +kernel
theorem dX3_putAll_8 : decode cX3_putAll 8 = .ok (.getfield 34, 3) := by decide +kernel
theorem dX3_putAll_11 : decode cX3_putAll 11 = .ok (.if_icmp .ge 22, 3) := by decide +kernel
theorem dX3_putAll_14 : decode cX3_putAll 14 = .ok (.aload_n 0, 1) := by decide +kernel
theorem dX3_putAll_15 : decode cX3_putAll 15 = .ok (.aload_n 1, 1) := by decide +kernel
theorem dX3_putAll_16 : decode cX3_putAll 16 = .ok (.getfield 40, 3) := by decide +kernel
theorem dX3_putAll_19 : decode cX3_putAll 19 = .ok (.iload_n 2, 1) := by decide +kernel
theorem dX3_putAll_20 : decode cX3_putAll 20 = .ok (.iaload, 1) := by decide +kernel
theorem dX3_putAll_21 : decode cX3_putAll 21 = .ok (.ldc2_w 44, 3) := by decide +kernel
theorem dX3_putAll_24 : decode cX3_putAll 24 = .ok (.invokevirtual 46, 3) := by decide +kernel
theorem dX3_putAll_27 : decode cX3_putAll 27 = .ok (.iinc 2 1, 3) := by decide +kernel
theorem dX3_putAll_30 : decode cX3_putAll 30 = .ok (.goto (-24), 3) := by decide +kernel
theorem dX3_putAll_33 : decode cX3_putAll 33 = .ok (.return_, 1) := by decide +kernel
theorem dX4_init_0 : decode cX4_init 0 = .ok (.aload_n 0, 1) := by decide +kernel
theorem dX4_init_1 : decode cX4_init 1 = .ok (.invokespecial 3, 3) := by decide +kernel
theorem dX4_init_4 : decode cX4_init 4 = .ok (.aload_n 0, 1) := by decide +kernel
theorem dX4_init_5 : decode cX4_init 5 = .ok (.iload_n 1, 1) := by decide +kernel
theorem dX4_init_6 : decode cX4_init 6 = .ok (.ifCond .ge 7, 3) := by decide +kernel
theorem dX4_init_9 : decode cX4_init 9 = .ok (.iconst 0, 1) := by decide +kernel
theorem dX4_init_10 : decode cX4_init 10 = .ok (.goto 4, 3) := by decide +kernel
theorem dX4_init_13 : decode cX4_init 13 = .ok (.iload_n 1, 1) := by decide +kernel
theorem dX4_init_14 : decode cX4_init 14 = .ok (.newarray .int, 2) := by decide +kernel
theorem dX4_init_16 : decode cX4_init 16 = .ok (.putfield 9, 3) := by decide +kernel
theorem dX4_init_19 : decode cX4_init 19 = .ok (.return_, 1) := by decide +kernel
theorem dX4_at_0 : decode cX4_at 0 = .ok (.iload_n 1, 1) := by decide +kernel
theorem dX4_at_1 : decode cX4_at 1 = .ok (.ifCond .lt 20, 3) := by decide +kernel
theorem dX4_at_4 : decode cX4_at 4 = .ok (.iload_n 1, 1) := by decide +kernel
theorem dX4_at_5 : decode cX4_at 5 = .ok (.aload_n 0, 1) := by decide +kernel
theorem dX4_at_6 : decode cX4_at 6 = .ok (.getfield 15, 3) := by decide +kernel
theorem dX4_at_9 : decode cX4_at 9 = .ok (.if_icmp .ge 12, 3) := by decide +kernel
theorem dX4_at_12 : decode cX4_at 12 = .ok (.aload_n 0, 1) := by decide +kernel
theorem dX4_at_13 : decode cX4_at 13 = .ok (.getfield 9, 3) := by decide +kernel
theorem dX4_at_16 : decode cX4_at 16 = .ok (.iload_n 1, 1) := by decide +kernel
theorem dX4_at_17 : decode cX4_at 17 = .ok (.iaload, 1) := by decide +kernel
theorem dX4_at_18 : decode cX4_at 18 = .ok (.goto 4, 3) := by decide +kernel
theorem dX4_at_21 : decode cX4_at 21 = .ok (.iconst (-1), 1) := by decide +kernel
theorem dX4_at_22 : decode cX4_at 22 = .ok (.ireturn, 1) := by decide +kernel
theorem dX4_has_0 : decode cX4_has 0 = .ok (.iconst 0, 1) := by decide +kernel
theorem dX4_has_1 : decode cX4_has 1 = .ok (.istore_n 2, 1) := by decide +kernel
theorem dX4_has_2 : decode cX4_has 2 = .ok (.iload_n 2, 1) := by decide +kernel
theorem dX4_has_3 : decode cX4_has 3 = .ok (.aload_n 0, 1) := by decide +kernel
theorem dX4_has_4 : decode cX4_has 4 = .ok (.getfield 15, 3) := by decide +kernel
theorem dX4_has_7 : decode cX4_has 7 = .ok (.if_icmp .ge 21, 3) := by decide +kernel
theorem dX4_has_10 : decode cX4_has 10 = .ok (.aload_n 0, 1) := by decide +kernel
theorem dX4_has_11 : decode cX4_has 11 = .ok (.getfield 9, 3) := by decide +kernel
theorem dX4_has_14 : decode cX4_has 14 = .ok (.iload_n 2, 1) := by decide +kernel
theorem dX4_has_15 : decode cX4_has 15 = .ok (.iaload, 1) := by decide +kernel
theorem dX4_has_16 : decode cX4_has 16 = .ok (.iload_n 1, 1) := by decide +kernel
theorem dX4_has_17 : decode cX4_has 17 = .ok (.if_icmp .ne 5, 3) := by decide +kernel
theorem dX4_has_20 : decode cX4_has 20 = .ok (.iconst 1, 1) := by decide +kernel
theorem dX4_has_21 : decode cX4_has 21 = .ok (.ireturn, 1) := by decide +kernel
theorem dX4_has_22 : decode cX4_has 22 = .ok (.iinc 2 1, 3) := by decide +kernel
theorem dX4_has_25 : decode cX4_has 25 = .ok (.goto (-23), 3) := by decide +kernel
theorem dX4_has_28 : decode cX4_has 28 = .ok (.iconst 0, 1) := by decide +kernel
theorem dX4_has_29 : decode cX4_has 29 = .ok (.ireturn, 1) := by decide +kernel
theorem dX4_wipe_0 : decode cX4_wipe 0 = .ok (.aload_n 0, 1) := by decide +kernel
theorem dX4_wipe_1 : decode cX4_wipe 1 = .ok (.iconst 0, 1) := by decide +kernel
theorem dX4_wipe_2 : decode cX4_wipe 2 = .ok (.putfield 15, 3) := by decide +kernel
theorem dX4_wipe_5 : decode cX4_wipe 5 = .ok (.return_, 1) := by decide +kernel
theorem dX4_append_0 : decode cX4_append 0 = .ok (.aload_n 0, 1) := by decide +kernel
theorem dX4_append_1 : decode cX4_append 1 = .ok (.getfield 15, 3) := by decide +kernel
theorem dX4_append_4 : decode cX4_append 4 = .ok (.aload_n 0, 1) := by decide +kernel
theorem dX4_append_5 : decode cX4_append 5 = .ok (.getfield 9, 3) := by decide +kernel
theorem dX4_append_8 : decode cX4_append 8 = .ok (.arraylength, 1) := by decide +kernel
theorem dX4_append_9 : decode cX4_append 9 = .ok (.if_icmp .ge 23, 3) := by decide +kernel
theorem dX4_append_12 : decode cX4_append 12 = .ok (.aload_n 0, 1) := by decide +kernel
theorem dX4_append_13 : decode cX4_append 13 = .ok (.getfield 9, 3) := by decide +kernel
theorem dX4_append_16 : decode cX4_append 16 = .ok (.aload_n 0, 1) := by decide +kernel
theorem dX4_append_17 : decode cX4_append 17 = .ok (.getfield 15, 3) := by decide +kernel
theorem dX4_append_20 : decode cX4_append 20 = .ok (.iload_n 1, 1) := by decide +kernel
theorem dX4_append_21 : decode cX4_append 21 = .ok (.iastore, 1) := by decide +kernel
theorem dX4_append_22 : decode cX4_append 22 = .ok (.aload_n 0, 1) := by decide +kernel
theorem dX4_append_23 : decode cX4_append 23 = .ok (.dup, 1) := by decide +kernel
theorem dX4_append_24 : decode cX4_append 24 = .ok (.getfield 15, 3) := by decide +kernel
theorem dX4_append_27 : decode cX4_append 27 = .ok (.iconst 1, 1) := by decide +kernel
theorem dX4_append_28 : decode cX4_append 28 = .ok (.iadd, 1) := by decide +kernel
theorem dX4_append_29 : decode cX4_append 29 = .ok (.putfield 15, 3) := by decide +kernel
theorem dX4_append_32 : decode cX4_append 32 = .ok (.return_, 1) := by decide +kernel
theorem dX4_insert_0 : decode cX4_insert 0 = .ok (.aload_n 0, 1) := by decide +kernel
theorem dX4_insert_1 : decode cX4_insert 1 = .ok (.getfield 15, 3) := by decide +kernel
theorem dX4_insert_4 : decode cX4_insert 4 = .ok (.aload_n 0, 1) := by decide +kernel
theorem dX4_insert_5 : decode cX4_insert 5 = .ok (.getfield 9, 3) := by decide +kernel
theorem dX4_insert_8 : decode cX4_insert 8 = .ok (.arraylength, 1) := by decide +kernel
theorem dX4_insert_9 : decode cX4_insert 9 = .ok (.if_icmp .ne 4, 3) := by decide +kernel
theorem dX4_insert_12 : decode cX4_insert 12 = .ok (.return_, 1) := by decide +kernel
theorem dX4_insert_13 : decode cX4_insert 13 = .ok (.aload_n 0, 1) := by decide +kernel
theorem dX4_insert_14 : decode cX4_insert 14 = .ok (.getfield 15, 3) := by decide +kernel
theorem dX4_insert_17 : decode cX4_insert 17 = .ok (.istore_n 2, 1) := by decide +kernel
theorem dX4_insert_18 : decode cX4_insert 18 = .ok (.iload_n 2, 1) := by decide +kernel
theorem dX4_insert_19 : decode cX4_insert 19 = .ok (.ifCond .le 35, 3) := by decide +kernel
theorem dX4_insert_22 : decode cX4_insert 22 = .ok (.aload_n 0, 1) := by decide +kernel
theorem dX4_insert_23 : decode cX4_insert 23 = .ok (.getfield 9, 3) := by decide +kernel
theorem dX4_insert_26 : decode cX4_insert 26 = .ok (.iload_n 2, 1) := by decide +kernel
theorem dX4_insert_27 : decode cX4_insert 27 = .ok (.iconst 1, 1) := by decide +kernel
theorem dX4_insert_28 : decode cX4_insert 28 = .ok (.isub, 1) := by decide +kernel
theorem dX4_insert_29 : decode cX4_insert 29 = .ok (.iaload, 1) := by decide +kernel
theorem dX4_insert_30 : decode cX4_insert 30 = .ok (.iload_n 1, 1) := by decide +kernel
theorem dX4_insert_31 : decode cX4_insert 31 = .ok (.if_icmp .le 23, 3) := by decide +kernel
theorem dX4_insert_34 : decode cX4_insert 34 = .ok (.aload_n 0, 1) := by decide +kernel
theorem dX4_insert_35 : decode cX4_insert 35 = .ok (.getfield 9, 3) := by decide +kernel
theorem dX4_insert_38 : decode cX4_insert 38 = .ok (.iload_n 2, 1) := by decide +kernel
theorem dX4_insert_39 : decode cX4_insert 39 = .ok (.aload_n 0, 1) := by decide +kernel
theorem dX4_insert_40 : decode cX4_insert 40 = .ok (.getfield 9, 3) := by decide +kernel
theorem dX4_insert_43 : decode cX4_insert 43 = .ok (.iload_n 2, 1) := by decide +kernel
theorem dX4_insert_44 : decode cX4_insert 44 = .ok (.iconst 1, 1) := by decide +kernel
theorem dX4_insert_45 : decode cX4_insert 45 = .ok (.isub, 1) := by decide +kernel
theorem dX4_insert_46 : decode cX4_insert 46 = .ok (.iaload, 1) := by decide +kernel
theorem dX4_insert_47 : decode cX4_insert 47 = .ok (.iastore, 1) := by decide +kernel
theorem dX4_insert_48 : decode cX4_insert 48 = .ok (.iinc 2 (-1), 3) := by decide +kernel
theorem dX4_insert_51 : decode cX4_insert 51 = .ok (.goto (-33), 3) := by decide +kernel
theorem dX4_insert_54 : decode cX4_insert 54 = .ok (.aload_n 0, 1) := by decide +kernel
theorem dX4_insert_55 : decode cX4_insert 55 = .ok (.getfield 9, 3) := by decide +kernel
theorem dX4_insert_58 : decode cX4_insert 58 = .ok (.iload_n 2, 1) := by decide +kernel
theorem dX4_insert_59 : decode cX4_insert 59 = .ok (.iload_n 1, 1) := by decide +kernel
theorem dX4_insert_60 : decode cX4_insert 60 = .ok (.iastore, 1) := by decide +kernel
theorem dX4_insert_61 : decode cX4_insert 61 = .ok (.aload_n 0, 1) := by decide +kernel
theorem dX4_insert_62 : decode cX4_insert 62 = .ok (.dup, 1) := by decide +kernel
theorem dX4_insert_63 : decode cX4_insert 63 = .ok (.getfield 15, 3) := by decide +kernel
theorem dX4_insert_66 : decode cX4_insert 66 = .ok (.iconst 1, 1) := by decide +kernel
theorem dX4_insert_67 : decode cX4_insert 67 = .ok (.iadd, 1) := by decide +kernel
theorem dX4_insert_68 : decode cX4_insert 68 = .ok (.putfield 15, 3) := by decide +kernel
theorem dX4_insert_71 : decode cX4_insert 71 = .ok (.return_, 1) := by decide +kernel
theorem dX4_dropAt_0 : decode cX4_dropAt 0 = .ok (.iload_n 1, 1) := by decide +kernel
theorem dX4_dropAt_1 : decode cX4_dropAt 1 = .ok (.ifCond .lt 11, 3) := by decide +kernel
theorem dX4_dropAt_4 : decode cX4_dropAt 4 = .ok (.iload_n 1, 1) := by decide +kernel
theorem dX4_dropAt_5 : decode cX4_dropAt 5 = .ok (.aload_n 0, 1) := by decide +kernel
theorem dX4_dropAt_6 : decode cX4_dropAt 6 = .ok (.getfield 15, 3) := by decide +kernel
theorem dX4_dropAt_9 : decode cX4_dropAt 9 = .ok (.if_icmp .lt 4, 3) := by decide +kernel
theorem dX4_dropAt_12 : decode cX4_dropAt 12 = .ok (.return_, 1) := by decide +kernel
theorem dX4_dropAt_13 : decode cX4_dropAt 13 = .ok (.aload_n 0, 1) := by decide +kernel
theorem dX4_dropAt_14 : decode cX4_dropAt 14 = .ok (.dup, 1) := by decide +kernel
theorem dX4_dropAt_15 : decode cX4_dropAt 15 = .ok (.getfield 15, 3) := by decide +kernel
theorem dX4_dropAt_18 : decode cX4_dropAt 18 = .ok (.iconst 1, 1) := by decide +kernel
theorem dX4_dropAt_19 : decode cX4_dropAt 19 = .ok (.isub, 1) := by decide +kernel
theorem dX4_dropAt_20 : decode cX4_dropAt 20 = .ok (.putfield 15, 3) := by decide +kernel
theorem dX4_dropAt_23 : decode cX4_dropAt 23 = .ok (.iload_n 1, 1) := by decide +kernel
theorem dX4_dropAt_24 : decode cX4_dropAt 24 = .ok (.istore_n 2, 1) := by decide +kernel
theorem dX4_dropAt_25 : decode cX4_dropAt 25 = .ok (.iload_n 2, 1) := by decide +kernel
theorem dX4_dropAt_26 : decode cX4_dropAt 26 = .ok (.aload_n 0, 1) := by decide +kernel
theorem dX4_dropAt_27 : decode cX4_dropAt 27 = .ok (.getfield 15, 3) := by decide +kernel
theorem dX4_dropAt_30 : decode cX4_dropAt 30 = .ok (.if_icmp .ge 23, 3) := by decide +kernel
theorem dX4_dropAt_33 : decode cX4_dropAt 33 = .ok (.aload_n 0, 1) := by decide +kernel
theorem dX4_dropAt_34 : decode cX4_dropAt 34 = .ok (.getfield 9, 3) := by decide +kernel
theorem dX4_dropAt_37 : decode cX4_dropAt 37 = .ok (.iload_n 2, 1) := by decide +kernel
theorem dX4_dropAt_38 : decode cX4_dropAt 38 = .ok (.aload_n 0, 1) := by decide +kernel
theorem dX4_dropAt_39 : decode cX4_dropAt 39 = .ok (.getfield 9, 3) := by decide +kernel
theorem dX4_dropAt_42 : decode cX4_dropAt 42 = .ok (.iload_n 2, 1) := by decide +kernel
theorem dX4_dropAt_43 : decode cX4_dropAt 43 = .ok (.iconst 1, 1) := by decide +kernel
theorem dX4_dropAt_44 : decode cX4_dropAt 44 = .ok (.iadd, 1) := by decide +kernel
theorem dX4_dropAt_45 : decode cX4_dropAt 45 = .ok (.iaload, 1) := by decide +kernel
theorem dX4_dropAt_46 : decode cX4_dropAt 46 = .ok (.iastore, 1) := by decide +kernel
theorem dX4_dropAt_47 : decode cX4_dropAt 47 = .ok (.iinc 2 1, 3) := by decide +kernel
theorem dX4_dropAt_50 : decode cX4_dropAt 50 = .ok (.goto (-25), 3) := by decide +kernel
theorem dX4_dropAt_53 : decode cX4_dropAt 53 = .ok (.return_, 1) := by decide +kernel
theorem dX4_take_0 : decode cX4_take 0 = .ok (.aload_n 0, 1) := by decide +kernel
theorem dX4_take_1 : decode cX4_take 1 = .ok (.iconst 0, 1) := by decide +kernel
theorem dX4_take_2 : decode cX4_take 2 = .ok (.putfield 15, 3) := by decide +kernel
theorem dX4_take_5 : decode cX4_take 5 = .ok (.iconst 0, 1) := by decide +kernel
theorem dX4_take_6 : decode cX4_take 6 = .ok (.istore_n 2, 1) := by decide +kernel
theorem dX4_take_7 : decode cX4_take 7 = .ok (.iload_n 2, 1) := by decide +kernel
theorem dX4_take_8 : decode cX4_take 8 = .ok (.aload_n 1, 1) := by decide +kernel
theorem dX4_take_9 : decode cX4_take 9 = .ok (.getfield 15, 3) := by decide +kernel
theorem dX4_take_12 : decode cX4_take 12 = .ok (.if_icmp .ge 19, 3) := by decide +kernel
theorem dX4_take_15 : decode cX4_take 15 = .ok (.aload_n 0, 1) := by decide +kernel
theorem dX4_take_16 : decode cX4_take 16 = .ok (.aload_n 1, 1) := by decide +kernel
theorem dX4_take_17 : decode cX4_take 17 = .ok (.getfield 9, 3) := by decide +kernel
theorem dX4_take_20 : decode cX4_take 20 = .ok (.iload_n 2, 1) := by decide +kernel
theorem dX4_take_21 : decode cX4_take 21 = .ok (.iaload, 1) := by decide +kernel
theorem dX4_take_22 : decode cX4_take 22 = .ok (.invokevirtual 19, 3) := by decide +kernel
theorem dX4_take_25 : decode cX4_take 25 = .ok (.iinc 2 1, 3) := by decide +kernel
theorem dX4_take_28 : decode cX4_take 28 = .ok (.goto (-21), 3) := by decide +kernel
theorem dX4_take_31 : decode cX4_take 31 = .ok (.return_, 1) := by decide +kernel
theorem dX5_init_0 : decode cX5_init 0 = .ok (.aload_n 0, 1) := by decide +kernel
theorem dX5_init_1 : decode cX5_init 1 = .ok (.invokespecial 3, 3) := by decide +kernel
theorem dX5_init_4 : decode cX5_init 4 = .ok (.aload_n 0, 1) := by decide +kernel
theorem dX5_init_5 : decode cX5_init 5 = .ok (.iconst 4, 1) := by decide +kernel
theorem dX5_init_6 : decode cX5_init 6 = .ok (.newarray .int, 2) := by decide +kernel
theorem dX5_init_8 : decode cX5_init 8 = .ok (.putfield 9, 3) := by decide +kernel
theorem dX5_init_11 : decode cX5_init 11 = .ok (.aload_n 0, 1) := by decide +kernel
theorem dX5_init_12 : decode cX5_init 12 = .ok (.bipush 120, 2) := by decide +kernel
theorem dX5_init_14 : decode cX5_init 14 = .ok (.newarray .int, 2) := by decide +kernel
theorem dX5_init_16 : decode cX5_init 16 = .ok (.putfield 15, 3) := by decide +kernel
theorem dX5_init_19 : decode cX5_init 19 = .ok (.aload_n 0, 1) := by decide +kernel
theorem dX5_init_20 : decode cX5_init 20 = .ok (.iconst 3, 1) := by decide +kernel
theorem dX5_init_21 : decode cX5_init 21 = .ok (.newarray .int, 2) := by decide +kernel
theorem dX5_init_23 : decode cX5_init 23 = .ok (.putfield 18, 3) := by decide +kernel
theorem dX5_init_26 : decode cX5_init 26 = .ok (.aload_n 0, 1) := by decide +kernel
theorem dX5_init_27 : decode cX5_init 27 = .ok (.iconst 4, 1) := by decide +kernel
theorem dX5_init_28 : decode cX5_init 28 = .ok (.newarray .int, 2) := by decide +kernel
theorem dX5_init_30 : decode cX5_init 30 = .ok (.putfield 21, 3) := by decide +kernel
theorem dX5_init_33 : decode cX5_init 33 = .ok (.return_, 1) := by decide +kernel
theorem dX5_beginAnew_0 : decode cX5_beginAnew 0 = .ok (.aload_n 0, 1) := by decide +kernel
theorem dX5_beginAnew_1 : decode cX5_beginAnew 1 = .ok (.getfield 9, 3) := by decide +kernel
theorem dX5_beginAnew_4 : decode cX5_beginAnew 4 = .ok (.iconst 0, 1) := by decide +kernel
theorem dX5_beginAnew_5 : decode cX5_beginAnew 5 = .ok (.iconst 1, 1) := by decide +kernel
theorem dX5_beginAnew_6 : decode cX5_beginAnew 6 = .ok (.iastore, 1) := by decide +kernel
theorem dX5_beginAnew_7 : decode cX5_beginAnew 7 = .ok (.aload_n 0, 1) := by decide +kernel
theorem dX5_beginAnew_8 : decode cX5_beginAnew 8 = .ok (.getfield 9, 3) := by decide +kernel
theorem dX5_beginAnew_11 : decode cX5_beginAnew 11 = .ok (.iconst 1, 1) := by decide +kernel
theorem dX5_beginAnew_12 : decode cX5_beginAnew 12 = .ok (.iconst 1, 1) := by decide +kernel
theorem dX5_beginAnew_13 : decode cX5_beginAnew 13 = .ok (.iastore, 1) := by decide +kernel
theorem dX5_beginAnew_14 : decode cX5_beginAnew 14 = .ok (.aload_n 0, 1) := by decide +kernel
theorem dX5_beginAnew_15 : decode cX5_beginAnew 15 = .ok (.getfield 9, 3) := by decide +kernel
theorem dX5_beginAnew_18 : decode cX5_beginAnew 18 = .ok (.iconst 2, 1) := by decide +kernel
theorem dX5_beginAnew_19 : decode cX5_beginAnew 19 = .ok (.iconst 0, 1) := by decide +kernel
theorem dX5_beginAnew_20 : decode cX5_beginAnew 20 = .ok (.iastore, 1) := by decide +kernel
theorem dX5_beginAnew_21 : decode cX5_beginAnew 21 = .ok (.aload_n 0, 1) := by decide +kernel
theorem dX5_beginAnew_22 : decode cX5_beginAnew 22 = .ok (.getfield 9, 3) := by decide +kernel
theorem dX5_beginAnew_25 : decode cX5_beginAnew 25 = .ok (.iconst 3, 1) := by decide +kernel
theorem dX5_beginAnew_26 : decode cX5_beginAnew 26 = .ok (.iconst 0, 1) := by decide +kernel
theorem dX5_beginAnew_27 : decode cX5_beginAnew 27 = .ok (.iastore, 1) := by decide +kernel
theorem dX5_beginAnew_28 : decode cX5_beginAnew 28 = .ok (.return_, 1) := by decide +kernel
theorem dX5_total_0 : decode cX5_total 0 = .ok (.aload_n 0, 1) := by decide +kernel
theorem dX5_total_1 : decode cX5_total 1 = .ok (.getfield 9, 3) := by decide +kernel
theorem dX5_total_4 : decode cX5_total 4 = .ok (.iconst 0, 1) := by decide +kernel
theorem dX5_total_5 : decode cX5_total 5 = .ok (.iaload, 1) := by decide +kernel
theorem dX5_total_6 : decode cX5_total 6 = .ok (.aload_n 0, 1) := by decide +kernel
theorem dX5_total_7 : decode cX5_total 7 = .ok (.getfield 9, 3) := by decide +kernel
theorem dX5_total_10 : decode cX5_total 10 = .ok (.iconst 1, 1) := by decide +kernel
theorem dX5_total_11 : decode cX5_total 11 = .ok (.iaload, 1) := by decide +kernel
theorem dX5_total_12 : decode cX5_total 12 = .ok (.iadd, 1) := by decide +kernel
theorem dX5_total_13 : decode cX5_total 13 = .ok (.aload_n 0, 1) := by decide +kernel
theorem dX5_total_14 : decode cX5_total 14 = .ok (.getfield 9, 3) := by decide +kernel
theorem dX5_total_17 : decode cX5_total 17 = .ok (.iconst 2, 1) := by decide +kernel
theorem dX5_total_18 : decode cX5_total 18 = .ok (.iaload, 1) := by decide +kernel
theorem dX5_total_19 : decode cX5_total 19 = .ok (.iadd, 1) := by decide +kernel
theorem dX5_total_20 : decode cX5_total 20 = .ok (.aload_n 0, 1) := by decide +kernel
theorem dX5_total_21 : decode cX5_total 21 = .ok (.getfield 9, 3) := by decide +kernel
theorem dX5_total_24 : decode cX5_total 24 = .ok (.iconst 3, 1) := by decide +kernel
theorem dX5_total_25 : decode cX5_total 25 = .ok (.iaload, 1) := by decide +kernel
theorem dX5_total_26 : decode cX5_total 26 = .ok (.iadd, 1) := by decide +kernel
theorem dX5_total_27 : decode cX5_total 27 = .ok (.ireturn, 1) := by decide +kernel
theorem dX5_fallsOf_0 : decode cX5_fallsOf 0 = .ok (.aload_n 0, 1) := by decide +kernel
theorem dX5_fallsOf_1 : decode cX5_fallsOf 1 = .ok (.getfield 9, 3) := by decide +kernel
theorem dX5_fallsOf_4 : decode cX5_fallsOf 4 = .ok (.iload_n 2, 1) := by decide +kernel
theorem dX5_fallsOf_5 : decode cX5_fallsOf 5 = .ok (.iaload, 1) := by decide +kernel
theorem dX5_fallsOf_6 : decode cX5_fallsOf 6 = .ok (.ifCond .ne 7, 3) := by decide +kernel
theorem dX5_fallsOf_9 : decode cX5_fallsOf 9 = .ok (.iconst 0, 1) := by decide +kernel
theorem dX5_fallsOf_10 : decode cX5_fallsOf 10 = .ok (.goto 16, 3) := by decide +kernel
theorem dX5_fallsOf_13 : decode cX5_fallsOf 13 = .ok (.aload_n 1, 1) := by decide +kernel
theorem dX5_fallsOf_14 : decode cX5_fallsOf 14 = .ok (.getfield 24, 3) := by decide +kernel
theorem dX5_fallsOf_17 : decode cX5_fallsOf 17 = .ok (.iload_n 2, 1) := by decide +kernel
theorem dX5_fallsOf_18 : decode cX5_fallsOf 18 = .ok (.invokevirtual 30, 3) := by decide +kernel
theorem dX5_fallsOf_21 : decode cX5_fallsOf 21 = .ok (.aload_n 1, 1) := by decide +kernel
theorem dX5_fallsOf_22 : decode cX5_fallsOf 22 = .ok (.getfield 36, 3) := by decide +kernel
theorem dX5_fallsOf_25 : decode cX5_fallsOf 25 = .ok (.imul, 1) := by decide +kernel
theorem dX5_fallsOf_26 : decode cX5_fallsOf 26 = .ok (.ireturn, 1) := by decide +kernel
theorem dX5_fallCount_0 : decode cX5_fallCount 0 = .ok (.iconst 0, 1) := by decide +kernel
theorem dX5_fallCount_1 : decode cX5_fallCount 1 = .ok (.istore_n 2, 1) := by decide +kernel
theorem dX5_fallCount_2 : decode cX5_fallCount 2 = .ok (.iconst 0, 1) := by decide +kernel
theorem dX5_fallCount_3 : decode cX5_fallCount 3 = .ok (.istore_n 3, 1) := by decide +kernel
theorem dX5_fallCount_4 : decode cX5_fallCount 4 = .ok (.iload_n 3, 1) := by decide +kernel
theorem dX5_fallCount_5 : decode cX5_fallCount 5 = .ok (.iconst 4, 1) := by decide +kernel
theorem dX5_fallCount_6 : decode cX5_fallCount 6 = .ok (.if_icmp .ge 18, 3) := by decide +kernel
theorem dX5_fallCount_9 : decode cX5_fallCount 9 = .ok (.iload_n 2, 1) := by decide +kernel
theorem dX5_fallCount_10 : decode cX5_fallCount 10 = .ok (.aload_n 0, 1) := by decide +kernel
theorem dX5_fallCount_11 : decode cX5_fallCount 11 = .ok (.aload_n 1, 1) := by decide +kernel
theorem dX5_fallCount_12 : decode cX5_fallCount 12 = .ok (.iload_n 3, 1) := by decide +kernel
theorem dX5_fallCount_13 : decode cX5_fallCount 13 = .ok (.invokevirtual 40, 3) := by decide +kernel
theorem dX5_fallCount_16 : decode cX5_fallCount 16 = .ok (.iadd, 1) := by decide +kernel
theorem dX5_fallCount_17 : decode cX5_fallCount 17 = .ok (.istore_n 2, 1) := by decide +kernel
theorem dX5_fallCount_18 : decode cX5_fallCount 18 = .ok (.iinc 3 1, 3) := by decide +kernel
theorem dX5_fallCount_21 : decode cX5_fallCount 21 = .ok (.goto (-17), 3) := by decide +kernel
theorem dX5_fallCount_24 : decode cX5_fallCount 24 = .ok (.iload_n 2, 1) := by decide +kernel
theorem dX5_fallCount_25 : decode cX5_fallCount 25 = .ok (.ireturn, 1) := by decide +kernel
theorem dX5_setCount_0 : decode cX5_setCount 0 = .ok (.iconst 1, 1) := by decide +kernel
theorem dX5_setCount_1 : decode cX5_setCount 1 = .ok (.istore_n 2, 1) := by decide +kernel
theorem dX5_setCount_2 : decode cX5_setCount 2 = .ok (.iconst 0, 1) := by decide +kernel
theorem dX5_setCount_3 : decode cX5_setCount 3 = .ok (.istore_n 3, 1) := by decide +kernel
theorem dX5_setCount_4 : decode cX5_setCount 4 = .ok (.iload_n 3, 1) := by decide +kernel
theorem dX5_setCount_5 : decode cX5_setCount 5 = .ok (.iconst 4, 1) := by decide +kernel
theorem dX5_setCount_6 : decode cX5_setCount 6 = .ok (.if_icmp .ge 77, 3) := by decide +kernel
theorem dX5_setCount_9 : decode cX5_setCount 9 = .ok (.aload_n 0, 1) := by decide +kernel
theorem dX5_setCount_10 : decode cX5_setCount 10 = .ok (.aload_n 1, 1) := by decide +kernel
theorem dX5_setCount_11 : decode cX5_setCount 11 = .ok (.iload_n 3, 1) := by decide +kernel
theorem dX5_setCount_12 : decode cX5_setCount 12 = .ok (.invokevirtual 40, 3) := by decide +kernel
theorem dX5_setCount_15 : decode cX5_setCount 15 = .ok (.istore 4, 2) := by decide +kernel
theorem dX5_setCount_17 : decode cX5_setCount 17 = .ok (.iconst 1, 1) := by decide +kernel
theorem dX5_setCount_18 : decode cX5_setCount 18 = .ok (.istore 5, 2) := by decide +kernel
theorem dX5_setCount_20 : decode cX5_setCount 20 = .ok (.iconst 1, 1) := by decide +kernel
theorem dX5_setCount_21 : decode cX5_setCount 21 = .ok (.istore 6, 2) := by decide +kernel
theorem dX5_setCount_23 : decode cX5_setCount 23 = .ok (.iconst 1, 1) := by decide +kernel
theorem dX5_setCount_24 : decode cX5_setCount 24 = .ok (.istore 7, 2) := by decide +kernel
theorem dX5_setCount_26 : decode cX5_setCount 26 = .ok (.iload 7, 2) := by decide +kernel
theorem dX5_setCount_28 : decode cX5_setCount 28 = .ok (.aload_n 0, 1) := by decide +kernel
theorem dX5_setCount_29 : decode cX5_setCount 29 = .ok (.getfield 9, 3) := by decide +kernel
theorem dX5_setCount_32 : decode cX5_setCount 32 = .ok (.iload_n 3, 1) := by decide +kernel
theorem dX5_setCount_33 : decode cX5_setCount 33 = .ok (.iaload, 1) := by decide +kernel
theorem dX5_setCount_34 : decode cX5_setCount 34 = .ok (.if_icmp .gt 38, 3) := by decide +kernel
theorem dX5_setCount_37 : decode cX5_setCount 37 = .ok (.iload 7, 2) := by decide +kernel
theorem dX5_setCount_39 : decode cX5_setCount 39 = .ok (.iload 4, 2) := by decide +kernel
theorem dX5_setCount_41 : decode cX5_setCount 41 = .ok (.if_icmp .gt 31, 3) := by decide +kernel
theorem dX5_setCount_44 : decode cX5_setCount 44 = .ok (.iload 6, 2) := by decide +kernel
theorem dX5_setCount_46 : decode cX5_setCount 46 = .ok (.iload 4, 2) := by decide +kernel
theorem dX5_setCount_48 : decode cX5_setCount 48 = .ok (.iload 7, 2) := by decide +kernel
theorem dX5_setCount_50 : decode cX5_setCount 50 = .ok (.isub, 1) := by decide +kernel
theorem dX5_setCount_51 : decode cX5_setCount 51 = .ok (.iconst 1, 1) := by decide +kernel
theorem dX5_setCount_52 : decode cX5_setCount 52 = .ok (.iadd, 1) := by decide +kernel
theorem dX5_setCount_53 : decode cX5_setCount 53 = .ok (.imul, 1) := by decide +kernel
theorem dX5_setCount_54 : decode cX5_setCount 54 = .ok (.iload 7, 2) := by decide +kernel
theorem dX5_setCount_56 : decode cX5_setCount 56 = .ok (.idiv, 1) := by decide +kernel
theorem dX5_setCount_57 : decode cX5_setCount 57 = .ok (.istore 6, 2) := by decide +kernel
theorem dX5_setCount_59 : decode cX5_setCount 59 = .ok (.iload 5, 2) := by decide +kernel
theorem dX5_setCount_61 : decode cX5_setCount 61 = .ok (.iload 6, 2) := by decide +kernel
theorem dX5_setCount_63 : decode cX5_setCount 63 = .ok (.iadd, 1) := by decide +kernel
theorem dX5_setCount_64 : decode cX5_setCount 64 = .ok (.istore 5, 2) := by decide +kernel
theorem dX5_setCount_66 : decode cX5_setCount 66 = .ok (.iinc 7 1, 3) := by decide +kernel
theorem dX5_setCount_69 : decode cX5_setCount 69 = .ok (.goto (-43), 3) := by decide +kernel
theorem dX5_setCount_72 : decode cX5_setCount 72 = .ok (.iload_n 2, 1) := by decide +kernel
theorem dX5_setCount_73 : decode cX5_setCount 73 = .ok (.iload 5, 2) := by decide +kernel
theorem dX5_setCount_75 : decode cX5_setCount 75 = .ok (.imul, 1) := by decide +kernel
theorem dX5_setCount_76 : decode cX5_setCount 76 = .ok (.istore_n 2, 1) := by decide +kernel
theorem dX5_setCount_77 : decode cX5_setCount 77 = .ok (.iinc 3 1, 3) := by decide +kernel
theorem dX5_setCount_80 : decode cX5_setCount 80 = .ok (.goto (-76), 3) := by decide +kernel
theorem dX5_setCount_83 : decode cX5_setCount 83 = .ok (.iload_n 2, 1) := by decide +kernel
theorem dX5_setCount_84 : decode cX5_setCount 84 = .ok (.iconst 1, 1) := by decide +kernel
theorem dX5_setCount_85 : decode cX5_setCount 85 = .ok (.isub, 1) := by decide +kernel
theorem dX5_setCount_86 : decode cX5_setCount 86 = .ok (.ireturn, 1) := by decide +kernel
theorem dX5_isTooMuch_0 : decode cX5_isTooMuch 0 = .ok (.aload_n 0, 1) := by decide +kernel
theorem dX5_isTooMuch_1 : decode cX5_isTooMuch 1 = .ok (.invokevirtual 44, 3) := by decide +kernel
theorem dX5_isTooMuch_4 : decode cX5_isTooMuch 4 = .ok (.iconst 3, 1) := by decide +kernel
theorem dX5_isTooMuch_5 : decode cX5_isTooMuch 5 = .ok (.if_icmp .ne 17, 3) := by decide +kernel
theorem dX5_isTooMuch_8 : decode cX5_isTooMuch 8 = .ok (.aload_n 0, 1) := by decide +kernel
theorem dX5_isTooMuch_9 : decode cX5_isTooMuch 9 = .ok (.aload_n 1, 1) := by decide +kernel
theorem dX5_isTooMuch_10 : decode cX5_isTooMuch 10 = .ok (.invokevirtual 48, 3) := by decide +kernel
theorem dX5_isTooMuch_13 : decode cX5_isTooMuch 13 = .ok (.bipush 60, 2) := by decide +kernel
theorem dX5_isTooMuch_15 : decode cX5_isTooMuch 15 = .ok (.if_icmp .le 7, 3) := by decide +kernel
theorem dX5_isTooMuch_18 : decode cX5_isTooMuch 18 = .ok (.iconst 1, 1) := by decide +kernel
theorem dX5_isTooMuch_19 : decode cX5_isTooMuch 19 = .ok (.goto 4, 3) := by decide +kernel
theorem dX5_isTooMuch_22 : decode cX5_isTooMuch 22 = .ok (.iconst 0, 1) := by decide +kernel
theorem dX5_isTooMuch_23 : decode cX5_isTooMuch 23 = .ok (.ireturn, 1) := by decide +kernel
theorem dX5_begin_0 : decode cX5_begin 0 = .ok (.aload_n 0, 1) := by decide +kernel
theorem dX5_begin_1 : decode cX5_begin 1 = .ok (.iconst 0, 1) := by decide +kernel
theorem dX5_begin_2 : decode cX5_begin 2 = .ok (.putfield 52, 3) := by decide +kernel
theorem dX5_begin_5 : decode cX5_begin 5 = .ok (.iconst 0, 1) := by decide +kernel
theorem dX5_begin_6 : decode cX5_begin 6 = .ok (.istore_n 2, 1) := by decide +kernel
theorem dX5_begin_7 : decode cX5_begin 7 = .ok (.iload_n 2, 1) := by decide +kernel
theorem dX5_begin_8 : decode cX5_begin 8 = .ok (.iconst 4, 1) := by decide +kernel
theorem dX5_begin_9 : decode cX5_begin 9 = .ok (.if_icmp .ge 100, 3) := by decide +kernel
theorem dX5_begin_12 : decode cX5_begin 12 = .ok (.aload_n 0, 1) := by decide +kernel
theorem dX5_begin_13 : decode cX5_begin 13 = .ok (.getfield 9, 3) := by decide +kernel
theorem dX5_begin_16 : decode cX5_begin 16 = .ok (.iload_n 2, 1) := by decide +kernel
theorem dX5_begin_17 : decode cX5_begin 17 = .ok (.iaload, 1) := by decide +kernel
theorem dX5_begin_18 : decode cX5_begin 18 = .ok (.ifCond .ne 7, 3) := by decide +kernel
theorem dX5_begin_21 : decode cX5_begin 21 = .ok (.iconst 0, 1) := by decide +kernel
theorem dX5_begin_22 : decode cX5_begin 22 = .ok (.goto 11, 3) := by decide +kernel
theorem dX5_begin_25 : decode cX5_begin 25 = .ok (.aload_n 1, 1) := by decide +kernel
theorem dX5_begin_26 : decode cX5_begin 26 = .ok (.getfield 24, 3) := by decide +kernel
theorem dX5_begin_29 : decode cX5_begin 29 = .ok (.iload_n 2, 1) := by decide +kernel
theorem dX5_begin_30 : decode cX5_begin 30 = .ok (.invokevirtual 30, 3) := by decide +kernel
theorem dX5_begin_33 : decode cX5_begin 33 = .ok (.istore_n 3, 1) := by decide +kernel
theorem dX5_begin_34 : decode cX5_begin 34 = .ok (.iconst 0, 1) := by decide +kernel
theorem dX5_begin_35 : decode cX5_begin 35 = .ok (.istore 4, 2) := by decide +kernel
theorem dX5_begin_37 : decode cX5_begin 37 = .ok (.iload 4, 2) := by decide +kernel
theorem dX5_begin_39 : decode cX5_begin 39 = .ok (.iload_n 3, 1) := by decide +kernel
theorem dX5_begin_40 : decode cX5_begin 40 = .ok (.if_icmp .ge 63, 3) := by decide +kernel
theorem dX5_begin_43 : decode cX5_begin 43 = .ok (.iconst 0, 1) := by decide +kernel
theorem dX5_begin_44 : decode cX5_begin 44 = .ok (.istore 5, 2) := by decide +kernel
theorem dX5_begin_46 : decode cX5_begin 46 = .ok (.iload 5, 2) := by decide +kernel
theorem dX5_begin_48 : decode cX5_begin 48 = .ok (.aload_n 1, 1) := by decide +kernel
theorem dX5_begin_49 : decode cX5_begin 49 = .ok (.getfield 36, 3) := by decide +kernel
theorem dX5_begin_52 : decode cX5_begin 52 = .ok (.if_icmp .ge 45, 3) := by decide +kernel
theorem dX5_begin_55 : decode cX5_begin 55 = .ok (.aload_n 0, 1) := by decide +kernel
theorem dX5_begin_56 : decode cX5_begin 56 = .ok (.getfield 52, 3) := by decide +kernel
theorem dX5_begin_59 : decode cX5_begin 59 = .ok (.bipush 120, 2) := by decide +kernel
theorem dX5_begin_61 : decode cX5_begin 61 = .ok (.if_icmp .ge 36, 3) := by decide +kernel
theorem dX5_begin_64 : decode cX5_begin 64 = .ok (.aload_n 0, 1) := by decide +kernel
theorem dX5_begin_65 : decode cX5_begin 65 = .ok (.getfield 15, 3) := by decide +kernel
theorem dX5_begin_68 : decode cX5_begin 68 = .ok (.aload_n 0, 1) := by decide +kernel
theorem dX5_begin_69 : decode cX5_begin 69 = .ok (.getfield 52, 3) := by decide +kernel
theorem dX5_begin_72 : decode cX5_begin 72 = .ok (.iload_n 2, 1) := by decide +kernel
theorem dX5_begin_73 : decode cX5_begin 73 = .ok (.iload 4, 2) := by decide +kernel
theorem dX5_begin_75 : decode cX5_begin 75 = .ok (.iload 5, 2) := by decide +kernel
theorem dX5_begin_77 : decode cX5_begin 77 = .ok (.invokestatic 55, 3) := by decide +kernel
theorem dX5_begin_80 : decode cX5_begin 80 = .ok (.iastore, 1) := by decide +kernel
theorem dX5_begin_81 : decode cX5_begin 81 = .ok (.aload_n 0, 1) := by decide +kernel
theorem dX5_begin_82 : decode cX5_begin 82 = .ok (.dup, 1) := by decide +kernel
theorem dX5_begin_83 : decode cX5_begin 83 = .ok (.getfield 52, 3) := by decide +kernel
theorem dX5_begin_86 : decode cX5_begin 86 = .ok (.iconst 1, 1) := by decide +kernel
theorem dX5_begin_87 : decode cX5_begin 87 = .ok (.iadd, 1) := by decide +kernel
theorem dX5_begin_88 : decode cX5_begin 88 = .ok (.putfield 52, 3) := by decide +kernel
theorem dX5_begin_91 : decode cX5_begin 91 = .ok (.iinc 5 1, 3) := by decide +kernel
theorem dX5_begin_94 : decode cX5_begin 94 = .ok (.goto (-48), 3) := by decide +kernel
theorem dX5_begin_97 : decode cX5_begin 97 = .ok (.iinc 4 1, 3) := by decide +kernel
theorem dX5_begin_100 : decode cX5_begin 100 = .ok (.goto (-63), 3) := by decide +kernel
theorem dX5_begin_103 : decode cX5_begin 103 = .ok (.iinc 2 1, 3) := by decide +kernel
theorem dX5_begin_106 : decode cX5_begin 106 = .ok (.goto (-99), 3) := by decide +kernel
theorem dX5_begin_109 : decode cX5_begin 109 = .ok (.aload_n 0, 1) := by decide +kernel
theorem dX5_begin_110 : decode cX5_begin 110 = .ok (.iconst 0, 1) := by decide +kernel
theorem dX5_begin_111 : decode cX5_begin 111 = .ok (.putfield 59, 3) := by decide +kernel
theorem dX5_begin_114 : decode cX5_begin 114 = .ok (.aload_n 0, 1) := by decide +kernel
theorem dX5_begin_115 : decode cX5_begin 115 = .ok (.aload_n 0, 1) := by decide +kernel
theorem dX5_begin_116 : decode cX5_begin 116 = .ok (.getfield 52, 3) := by decide +kernel
theorem dX5_begin_119 : decode cX5_begin 119 = .ok (.putfield 62, 3) := by decide +kernel
theorem dX5_begin_122 : decode cX5_begin 122 = .ok (.return_, 1) := by decide +kernel
theorem dX5_advance_0 : decode cX5_advance 0 = .ok (.aload_n 0, 1) := by decide +kernel
theorem dX5_advance_1 : decode cX5_advance 1 = .ok (.getfield 62, 3) := by decide +kernel
theorem dX5_advance_4 : decode cX5_advance 4 = .ok (.bipush 64, 2) := by decide +kernel
theorem dX5_advance_6 : decode cX5_advance 6 = .ok (.iadd, 1) := by decide +kernel
theorem dX5_advance_7 : decode cX5_advance 7 = .ok (.aload_n 0, 1) := by decide +kernel
theorem dX5_advance_8 : decode cX5_advance 8 = .ok (.getfield 52, 3) := by decide +kernel
theorem dX5_advance_11 : decode cX5_advance 11 = .ok (.if_icmp .ge 16, 3) := by decide +kernel
theorem dX5_advance_14 : decode cX5_advance 14 = .ok (.aload_n 0, 1) := by decide +kernel
theorem dX5_advance_15 : decode cX5_advance 15 = .ok (.dup, 1) := by decide +kernel
theorem dX5_advance_16 : decode cX5_advance 16 = .ok (.getfield 62, 3) := by decide +kernel
theorem dX5_advance_19 : decode cX5_advance 19 = .ok (.bipush 64, 2) := by decide +kernel
theorem dX5_advance_21 : decode cX5_advance 21 = .ok (.iadd, 1) := by decide +kernel
theorem dX5_advance_22 : decode cX5_advance 22 = .ok (.putfield 62, 3) := by decide +kernel
theorem dX5_advance_25 : decode cX5_advance 25 = .ok (.iconst 1, 1) := by decide +kernel
theorem dX5_advance_26 : decode cX5_advance 26 = .ok (.ireturn, 1) := by decide +kernel
theorem dX5_advance_27 : decode cX5_advance 27 = .ok (.aload_n 0, 1) := by decide +kernel
theorem dX5_advance_28 : decode cX5_advance 28 = .ok (.iconst 0, 1) := by decide +kernel
theorem dX5_advance_29 : decode cX5_advance 29 = .ok (.putfield 62, 3) := by decide +kernel
theorem dX5_advance_32 : decode cX5_advance 32 = .ok (.aload_n 0, 1) := by decide +kernel
theorem dX5_advance_33 : decode cX5_advance 33 = .ok (.getfield 59, 3) := by decide +kernel
theorem dX5_advance_36 : decode cX5_advance 36 = .ok (.ifCond .le 18, 3) := by decide +kernel
theorem dX5_advance_39 : decode cX5_advance 39 = .ok (.aload_n 0, 1) := by decide +kernel
theorem dX5_advance_40 : decode cX5_advance 40 = .ok (.aload_n 0, 1) := by decide +kernel
theorem dX5_advance_41 : decode cX5_advance 41 = .ok (.getfield 59, 3) := by decide +kernel
theorem dX5_advance_44 : decode cX5_advance 44 = .ok (.iconst 1, 1) := by decide +kernel
theorem dX5_advance_45 : decode cX5_advance 45 = .ok (.isub, 1) := by decide +kernel
theorem dX5_advance_46 : decode cX5_advance 46 = .ok (.invokevirtual 65, 3) := by decide +kernel
theorem dX5_advance_49 : decode cX5_advance 49 = .ok (.ifCond .eq 5, 3) := by decide +kernel
theorem dX5_advance_52 : decode cX5_advance 52 = .ok (.iconst 1, 1) := by decide +kernel
theorem dX5_advance_53 : decode cX5_advance 53 = .ok (.ireturn, 1) := by decide +kernel
theorem dX5_advance_54 : decode cX5_advance 54 = .ok (.aload_n 0, 1) := by decide +kernel
theorem dX5_advance_55 : decode cX5_advance 55 = .ok (.dup, 1) := by decide +kernel
theorem dX5_advance_56 : decode cX5_advance 56 = .ok (.getfield 59, 3) := by decide +kernel
theorem dX5_advance_59 : decode cX5_advance 59 = .ok (.iconst 1, 1) := by decide +kernel
theorem dX5_advance_60 : decode cX5_advance 60 = .ok (.iadd, 1) := by decide +kernel
theorem dX5_advance_61 : decode cX5_advance 61 = .ok (.putfield 59, 3) := by decide +kernel
theorem dX5_advance_64 : decode cX5_advance 64 = .ok (.iconst 0, 1) := by decide +kernel
theorem dX5_advance_65 : decode cX5_advance 65 = .ok (.istore_n 1, 1) := by decide +kernel
theorem dX5_advance_66 : decode cX5_advance 66 = .ok (.iload_n 1, 1) := by decide +kernel
theorem dX5_advance_67 : decode cX5_advance 67 = .ok (.aload_n 0, 1) := by decide +kernel
theorem dX5_advance_68 : decode cX5_advance 68 = .ok (.getfield 59, 3) := by decide +kernel
theorem dX5_advance_71 : decode cX5_advance 71 = .ok (.iconst 1, 1) := by decide +kernel
theorem dX5_advance_72 : decode cX5_advance 72 = .ok (.isub, 1) := by decide +kernel
theorem dX5_advance_73 : decode cX5_advance 73 = .ok (.if_icmp .ge 21, 3) := by decide +kernel
theorem dX5_advance_76 : decode cX5_advance 76 = .ok (.iload_n 1, 1) := by decide +kernel
theorem dX5_advance_77 : decode cX5_advance 77 = .ok (.iconst 3, 1) := by decide +kernel
theorem dX5_advance_78 : decode cX5_advance 78 = .ok (.if_icmp .ge 16, 3) := by decide +kernel
theorem dX5_advance_81 : decode cX5_advance 81 = .ok (.aload_n 0, 1) := by decide +kernel
theorem dX5_advance_82 : decode cX5_advance 82 = .ok (.getfield 18, 3) := by decide +kernel
theorem dX5_advance_85 : decode cX5_advance 85 = .ok (.iload_n 1, 1) := by decide +kernel
theorem dX5_advance_86 : decode cX5_advance 86 = .ok (.iload_n 1, 1) := by decide +kernel
theorem dX5_advance_87 : decode cX5_advance 87 = .ok (.iastore, 1) := by decide +kernel
theorem dX5_advance_88 : decode cX5_advance 88 = .ok (.iinc 1 1, 3) := by decide +kernel
theorem dX5_advance_91 : decode cX5_advance 91 = .ok (.goto (-25), 3) := by decide +kernel
theorem dX5_advance_94 : decode cX5_advance 94 = .ok (.aload_n 0, 1) := by decide +kernel
theorem dX5_advance_95 : decode cX5_advance 95 = .ok (.getfield 59, 3) := by decide +kernel
theorem dX5_advance_98 : decode cX5_advance 98 = .ok (.aload_n 0, 1) := by decide +kernel
theorem dX5_advance_99 : decode cX5_advance 99 = .ok (.invokevirtual 44, 3) := by decide +kernel
theorem dX5_advance_102 : decode cX5_advance 102 = .ok (.if_icmp .gt 18, 3) := by decide +kernel
theorem dX5_advance_105 : decode cX5_advance 105 = .ok (.aload_n 0, 1) := by decide +kernel
theorem dX5_advance_106 : decode cX5_advance 106 = .ok (.getfield 59, 3) := by decide +kernel
theorem dX5_advance_109 : decode cX5_advance 109 = .ok (.aload_n 0, 1) := by decide +kernel
theorem dX5_advance_110 : decode cX5_advance 110 = .ok (.getfield 52, 3) := by decide +kernel
theorem dX5_advance_113 : decode cX5_advance 113 = .ok (.if_icmp .gt 7, 3) := by decide +kernel
theorem dX5_advance_116 : decode cX5_advance 116 = .ok (.iconst 1, 1) := by decide +kernel
theorem dX5_advance_117 : decode cX5_advance 117 = .ok (.goto 4, 3) := by decide +kernel
theorem dX5_advance_120 : decode cX5_advance 120 = .ok (.iconst 0, 1) := by decide +kernel
theorem dX5_advance_121 : decode cX5_advance 121 = .ok (.ireturn, 1) := by decide +kernel
theorem dX5_advanceStem_0 : decode cX5_advanceStem 0 = .ok (.iload_n 1, 1) := by decide +kernel
theorem dX5_advanceStem_1 : decode cX5_advanceStem 1 = .ok (.iconst 3, 1) := by decide +kernel
theorem dX5_advanceStem_2 : decode cX5_advanceStem 2 = .ok (.invokestatic 69, 3) := by decide +kernel
theorem dX5_advanceStem_5 : decode cX5_advanceStem 5 = .ok (.iconst 1, 1) := by decide +kernel
theorem dX5_advanceStem_6 : decode cX5_advanceStem 6 = .ok (.isub, 1) := by decide +kernel
theorem dX5_advanceStem_7 : decode cX5_advanceStem 7 = .ok (.istore_n 2, 1) := by decide +kernel
theorem dX5_advanceStem_8 : decode cX5_advanceStem 8 = .ok (.iload_n 2, 1) := by decide +kernel
theorem dX5_advanceStem_9 : decode cX5_advanceStem 9 = .ok (.ifCond .lt 74, 3) := by decide +kernel
theorem dX5_advanceStem_12 : decode cX5_advanceStem 12 = .ok (.aload_n 0, 1) := by decide +kernel
theorem dX5_advanceStem_13 : decode cX5_advanceStem 13 = .ok (.getfield 18, 3) := by decide +kernel
theorem dX5_advanceStem_16 : decode cX5_advanceStem 16 = .ok (.iload_n 2, 1) := by decide +kernel
theorem dX5_advanceStem_17 : decode cX5_advanceStem 17 = .ok (.iaload, 1) := by decide +kernel
theorem dX5_advanceStem_18 : decode cX5_advanceStem 18 = .ok (.aload_n 0, 1) := by decide +kernel
theorem dX5_advanceStem_19 : decode cX5_advanceStem 19 = .ok (.getfield 52, 3) := by decide +kernel
theorem dX5_advanceStem_22 : decode cX5_advanceStem 22 = .ok (.iload_n 1, 1) := by decide +kernel
theorem dX5_advanceStem_23 : decode cX5_advanceStem 23 = .ok (.isub, 1) := by decide +kernel
theorem dX5_advanceStem_24 : decode cX5_advanceStem 24 = .ok (.iload_n 2, 1) := by decide +kernel
theorem dX5_advanceStem_25 : decode cX5_advanceStem 25 = .ok (.iadd, 1) := by decide +kernel
theorem dX5_advanceStem_26 : decode cX5_advanceStem 26 = .ok (.if_icmp .ge 51, 3) := by decide +kernel
theorem dX5_advanceStem_29 : decode cX5_advanceStem 29 = .ok (.aload_n 0, 1) := by decide +kernel
theorem dX5_advanceStem_30 : decode cX5_advanceStem 30 = .ok (.getfield 18, 3) := by decide +kernel
theorem dX5_advanceStem_33 : decode cX5_advanceStem 33 = .ok (.iload_n 2, 1) := by decide +kernel
theorem dX5_advanceStem_34 : decode cX5_advanceStem 34 = .ok (.dup2, 1) := by decide +kernel
theorem dX5_advanceStem_35 : decode cX5_advanceStem 35 = .ok (.iaload, 1) := by decide +kernel
theorem dX5_advanceStem_36 : decode cX5_advanceStem 36 = .ok (.iconst 1, 1) := by decide +kernel
theorem dX5_advanceStem_37 : decode cX5_advanceStem 37 = .ok (.iadd, 1) := by decide +kernel
theorem dX5_advanceStem_38 : decode cX5_advanceStem 38 = .ok (.iastore, 1) := by decide +kernel
theorem dX5_advanceStem_39 : decode cX5_advanceStem 39 = .ok (.iload_n 2, 1) := by decide +kernel
theorem dX5_advanceStem_40 : decode cX5_advanceStem 40 = .ok (.iconst 1, 1) := by decide +kernel
theorem dX5_advanceStem_41 : decode cX5_advanceStem 41 = .ok (.iadd, 1) := by decide +kernel
theorem dX5_advanceStem_42 : decode cX5_advanceStem 42 = .ok (.istore_n 3, 1) := by decide +kernel
theorem dX5_advanceStem_43 : decode cX5_advanceStem 43 = .ok (.iload_n 3, 1) := by decide +kernel
theorem dX5_advanceStem_44 : decode cX5_advanceStem 44 = .ok (.iload_n 1, 1) := by decide +kernel
theorem dX5_advanceStem_45 : decode cX5_advanceStem 45 = .ok (.if_icmp .ge 30, 3) := by decide +kernel
theorem dX5_advanceStem_48 : decode cX5_advanceStem 48 = .ok (.iload_n 3, 1) := by decide +kernel
theorem dX5_advanceStem_49 : decode cX5_advanceStem 49 = .ok (.iconst 3, 1) := by decide +kernel
theorem dX5_advanceStem_50 : decode cX5_advanceStem 50 = .ok (.if_icmp .ge 25, 3) := by decide +kernel
theorem dX5_advanceStem_53 : decode cX5_advanceStem 53 = .ok (.aload_n 0, 1) := by decide +kernel
theorem dX5_advanceStem_54 : decode cX5_advanceStem 54 = .ok (.getfield 18, 3) := by decide +kernel
theorem dX5_advanceStem_57 : decode cX5_advanceStem 57 = .ok (.iload_n 3, 1) := by decide +kernel
theorem dX5_advanceStem_58 : decode cX5_advanceStem 58 = .ok (.aload_n 0, 1) := by decide +kernel
theorem dX5_advanceStem_59 : decode cX5_advanceStem 59 = .ok (.getfield 18, 3) := by decide +kernel
theorem dX5_advanceStem_62 : decode cX5_advanceStem 62 = .ok (.iload_n 3, 1) := by decide +kernel
theorem dX5_advanceStem_63 : decode cX5_advanceStem 63 = .ok (.iconst 1, 1) := by decide +kernel
theorem dX5_advanceStem_64 : decode cX5_advanceStem 64 = .ok (.isub, 1) := by decide +kernel
theorem dX5_advanceStem_65 : decode cX5_advanceStem 65 = .ok (.iaload, 1) := by decide +kernel
theorem dX5_advanceStem_66 : decode cX5_advanceStem 66 = .ok (.iconst 1, 1) := by decide +kernel
theorem dX5_advanceStem_67 : decode cX5_advanceStem 67 = .ok (.iadd, 1) := by decide +kernel
theorem dX5_advanceStem_68 : decode cX5_advanceStem 68 = .ok (.iastore, 1) := by decide +kernel
theorem dX5_advanceStem_69 : decode cX5_advanceStem 69 = .ok (.iinc 3 1, 3) := by decide +kernel
theorem dX5_advanceStem_72 : decode cX5_advanceStem 72 = .ok (.goto (-29), 3) := by decide +kernel
theorem dX5_advanceStem_75 : decode cX5_advanceStem 75 = .ok (.iconst 1, 1) := by decide +kernel
theorem dX5_advanceStem_76 : decode cX5_advanceStem 76 = .ok (.ireturn, 1) := by decide +kernel
theorem dX5_advanceStem_77 : decode cX5_advanceStem 77 = .ok (.iinc 2 (-1), 3) := by decide +kernel
theorem dX5_advanceStem_80 : decode cX5_advanceStem 80 = .ok (.goto (-72), 3) := by decide +kernel
theorem dX5_advanceStem_83 : decode cX5_advanceStem 83 = .ok (.iconst 0, 1) := by decide +kernel
theorem dX5_advanceStem_84 : decode cX5_advanceStem 84 = .ok (.ireturn, 1) := by decide +kernel
theorem dX5_spread_0 : decode cX5_spread 0 = .ok (.aload_n 1, 1) := by decide +kernel
theorem dX5_spread_1 : decode cX5_spread 1 = .ok (.invokevirtual 75, 3) := by decide +kernel
theorem dX5_spread_4 : decode cX5_spread 4 = .ok (.aload_n 0, 1) := by decide +kernel
theorem dX5_spread_5 : decode cX5_spread 5 = .ok (.lconst 0, 1) := by decide +kernel
theorem dX5_spread_6 : decode cX5_spread 6 = .ok (.putfield 80, 3) := by decide +kernel
theorem dX5_spread_9 : decode cX5_spread 9 = .ok (.iconst 0, 1) := by decide +kernel
theorem dX5_spread_10 : decode cX5_spread 10 = .ok (.istore_n 2, 1) := by decide +kernel
theorem dX5_spread_11 : decode cX5_spread 11 = .ok (.iload_n 2, 1) := by decide +kernel
theorem dX5_spread_12 : decode cX5_spread 12 = .ok (.iconst 4, 1) := by decide +kernel
theorem dX5_spread_13 : decode cX5_spread 13 = .ok (.if_icmp .ge 16, 3) := by decide +kernel
theorem dX5_spread_16 : decode cX5_spread 16 = .ok (.aload_n 0, 1) := by decide +kernel
theorem dX5_spread_17 : decode cX5_spread 17 = .ok (.getfield 21, 3) := by decide +kernel
theorem dX5_spread_20 : decode cX5_spread 20 = .ok (.iload_n 2, 1) := by decide +kernel
theorem dX5_spread_21 : decode cX5_spread 21 = .ok (.iconst 0, 1) := by decide +kernel
theorem dX5_spread_22 : decode cX5_spread 22 = .ok (.iastore, 1) := by decide +kernel
theorem dX5_spread_23 : decode cX5_spread 23 = .ok (.iinc 2 1, 3) := by decide +kernel
theorem dX5_spread_26 : decode cX5_spread 26 = .ok (.goto (-15), 3) := by decide +kernel
theorem dX5_spread_29 : decode cX5_spread 29 = .ok (.iconst 0, 1) := by decide +kernel
theorem dX5_spread_30 : decode cX5_spread 30 = .ok (.istore_n 2, 1) := by decide +kernel
theorem dX5_spread_31 : decode cX5_spread 31 = .ok (.iconst 0, 1) := by decide +kernel
theorem dX5_spread_32 : decode cX5_spread 32 = .ok (.istore_n 3, 1) := by decide +kernel
theorem dX5_spread_33 : decode cX5_spread 33 = .ok (.iload_n 3, 1) := by decide +kernel
theorem dX5_spread_34 : decode cX5_spread 34 = .ok (.aload_n 0, 1) := by decide +kernel
theorem dX5_spread_35 : decode cX5_spread 35 = .ok (.getfield 59, 3) := by decide +kernel
theorem dX5_spread_38 : decode cX5_spread 38 = .ok (.iconst 1, 1) := by decide +kernel
theorem dX5_spread_39 : decode cX5_spread 39 = .ok (.isub, 1) := by decide +kernel
theorem dX5_spread_40 : decode cX5_spread 40 = .ok (.if_icmp .ge 83, 3) := by decide +kernel
theorem dX5_spread_43 : decode cX5_spread 43 = .ok (.iload_n 3, 1) := by decide +kernel
theorem dX5_spread_44 : decode cX5_spread 44 = .ok (.iconst 3, 1) := by decide +kernel
theorem dX5_spread_45 : decode cX5_spread 45 = .ok (.if_icmp .ge 78, 3) := by decide +kernel
theorem dX5_spread_48 : decode cX5_spread 48 = .ok (.aload_n 0, 1) := by decide +kernel
theorem dX5_spread_49 : decode cX5_spread 49 = .ok (.getfield 15, 3) := by decide +kernel
theorem dX5_spread_52 : decode cX5_spread 52 = .ok (.aload_n 0, 1) := by decide +kernel
theorem dX5_spread_53 : decode cX5_spread 53 = .ok (.getfield 18, 3) := by decide +kernel
theorem dX5_spread_56 : decode cX5_spread 56 = .ok (.iload_n 3, 1) := by decide +kernel
theorem dX5_spread_57 : decode cX5_spread 57 = .ok (.iaload, 1) := by decide +kernel
theorem dX5_spread_58 : decode cX5_spread 58 = .ok (.iaload, 1) := by decide +kernel
theorem dX5_spread_59 : decode cX5_spread 59 = .ok (.istore 4, 2) := by decide +kernel
theorem dX5_spread_61 : decode cX5_spread 61 = .ok (.aload_n 0, 1) := by decide +kernel
theorem dX5_spread_62 : decode cX5_spread 62 = .ok (.getfield 21, 3) := by decide +kernel
theorem dX5_spread_65 : decode cX5_spread 65 = .ok (.iload 4, 2) := by decide +kernel
theorem dX5_spread_67 : decode cX5_spread 67 = .ok (.bipush 100, 2) := by decide +kernel
theorem dX5_spread_69 : decode cX5_spread 69 = .ok (.idiv, 1) := by decide +kernel
theorem dX5_spread_70 : decode cX5_spread 70 = .ok (.dup2, 1) := by decide +kernel
theorem dX5_spread_71 : decode cX5_spread 71 = .ok (.iaload, 1) := by decide +kernel
theorem dX5_spread_72 : decode cX5_spread 72 = .ok (.iconst 1, 1) := by decide +kernel
theorem dX5_spread_73 : decode cX5_spread 73 = .ok (.iadd, 1) := by decide +kernel
theorem dX5_spread_74 : decode cX5_spread 74 = .ok (.iastore, 1) := by decide +kernel
theorem dX5_spread_75 : decode cX5_spread 75 = .ok (.aload_n 0, 1) := by decide +kernel
theorem dX5_spread_76 : decode cX5_spread 76 = .ok (.getfield 21, 3) := by decide +kernel
theorem dX5_spread_79 : decode cX5_spread 79 = .ok (.iload 4, 2) := by decide +kernel
theorem dX5_spread_81 : decode cX5_spread 81 = .ok (.bipush 100, 2) := by decide +kernel
theorem dX5_spread_83 : decode cX5_spread 83 = .ok (.idiv, 1) := by decide +kernel
theorem dX5_spread_84 : decode cX5_spread 84 = .ok (.iaload, 1) := by decide +kernel
theorem dX5_spread_85 : decode cX5_spread 85 = .ok (.aload_n 0, 1) := by decide +kernel
theorem dX5_spread_86 : decode cX5_spread 86 = .ok (.getfield 9, 3) := by decide +kernel
theorem dX5_spread_89 : decode cX5_spread 89 = .ok (.iload 4, 2) := by decide +kernel
theorem dX5_spread_91 : decode cX5_spread 91 = .ok (.bipush 100, 2) := by decide +kernel
theorem dX5_spread_93 : decode cX5_spread 93 = .ok (.idiv, 1) := by decide +kernel
theorem dX5_spread_94 : decode cX5_spread 94 = .ok (.iaload, 1) := by decide +kernel
theorem dX5_spread_95 : decode cX5_spread 95 = .ok (.if_icmp .le 4, 3) := by decide +kernel
theorem dX5_spread_98 : decode cX5_spread 98 = .ok (.return_, 1) := by decide +kernel
theorem dX5_spread_99 : decode cX5_spread 99 = .ok (.aload_n 1, 1) := by decide +kernel
theorem dX5_spread_100 : decode cX5_spread 100 = .ok (.iload 4, 2) := by decide +kernel
theorem dX5_spread_102 : decode cX5_spread 102 = .ok (.ldc2_w 84, 3) := by decide +kernel
theorem dX5_spread_105 : decode cX5_spread 105 = .ok (.invokevirtual 86, 3) := by decide +kernel
theorem dX5_spread_108 : decode cX5_spread 108 = .ok (.aload_n 0, 1) := by decide +kernel
theorem dX5_spread_109 : decode cX5_spread 109 = .ok (.getfield 18, 3) := by decide +kernel
theorem dX5_spread_112 : decode cX5_spread 112 = .ok (.iload_n 3, 1) := by decide +kernel
theorem dX5_spread_113 : decode cX5_spread 113 = .ok (.iaload, 1) := by decide +kernel
theorem dX5_spread_114 : decode cX5_spread 114 = .ok (.iconst 1, 1) := by decide +kernel
theorem dX5_spread_115 : decode cX5_spread 115 = .ok (.iadd, 1) := by decide +kernel
theorem dX5_spread_116 : decode cX5_spread 116 = .ok (.istore_n 2, 1) := by decide +kernel
theorem dX5_spread_117 : decode cX5_spread 117 = .ok (.iinc 3 1, 3) := by decide +kernel
theorem dX5_spread_120 : decode cX5_spread 120 = .ok (.goto (-87), 3) := by decide +kernel
theorem dX5_spread_123 : decode cX5_spread 123 = .ok (.iload_n 2, 1) := by decide +kernel
theorem dX5_spread_124 : decode cX5_spread 124 = .ok (.aload_n 0, 1) := by decide +kernel
theorem dX5_spread_125 : decode cX5_spread 125 = .ok (.getfield 62, 3) := by decide +kernel
theorem dX5_spread_128 : decode cX5_spread 128 = .ok (.invokestatic 90, 3) := by decide +kernel
theorem dX5_spread_131 : decode cX5_spread 131 = .ok (.istore_n 3, 1) := by decide +kernel
theorem dX5_spread_132 : decode cX5_spread 132 = .ok (.iload_n 3, 1) := by decide +kernel
theorem dX5_spread_133 : decode cX5_spread 133 = .ok (.aload_n 0, 1) := by decide +kernel
theorem dX5_spread_134 : decode cX5_spread 134 = .ok (.getfield 52, 3) := by decide +kernel
theorem dX5_spread_137 : decode cX5_spread 137 = .ok (.if_icmp .ge 83, 3) := by decide +kernel
theorem dX5_spread_140 : decode cX5_spread 140 = .ok (.iload_n 3, 1) := by decide +kernel
theorem dX5_spread_141 : decode cX5_spread 141 = .ok (.aload_n 0, 1) := by decide +kernel
theorem dX5_spread_142 : decode cX5_spread 142 = .ok (.getfield 62, 3) := by decide +kernel
theorem dX5_spread_145 : decode cX5_spread 145 = .ok (.bipush 64, 2) := by decide +kernel
theorem dX5_spread_147 : decode cX5_spread 147 = .ok (.iadd, 1) := by decide +kernel
theorem dX5_spread_148 : decode cX5_spread 148 = .ok (.if_icmp .ge 72, 3) := by decide +kernel
theorem dX5_spread_151 : decode cX5_spread 151 = .ok (.aload_n 0, 1) := by decide +kernel
theorem dX5_spread_152 : decode cX5_spread 152 = .ok (.getfield 15, 3) := by decide +kernel
theorem dX5_spread_155 : decode cX5_spread 155 = .ok (.iload_n 3, 1) := by decide +kernel
theorem dX5_spread_156 : decode cX5_spread 156 = .ok (.iaload, 1) := by decide +kernel
theorem dX5_spread_157 : decode cX5_spread 157 = .ok (.bipush 100, 2) := by decide +kernel
theorem dX5_spread_159 : decode cX5_spread 159 = .ok (.idiv, 1) := by decide +kernel
theorem dX5_spread_160 : decode cX5_spread 160 = .ok (.istore 4, 2) := by decide +kernel
theorem dX5_spread_162 : decode cX5_spread 162 = .ok (.aload_n 0, 1) := by decide +kernel
theorem dX5_spread_163 : decode cX5_spread 163 = .ok (.getfield 21, 3) := by decide +kernel
theorem dX5_spread_166 : decode cX5_spread 166 = .ok (.iload 4, 2) := by decide +kernel
theorem dX5_spread_168 : decode cX5_spread 168 = .ok (.iaload, 1) := by decide +kernel
theorem dX5_spread_169 : decode cX5_spread 169 = .ok (.aload_n 0, 1) := by decide +kernel
theorem dX5_spread_170 : decode cX5_spread 170 = .ok (.getfield 9, 3) := by decide +kernel
theorem dX5_spread_173 : decode cX5_spread 173 = .ok (.iload 4, 2) := by decide +kernel
theorem dX5_spread_175 : decode cX5_spread 175 = .ok (.iaload, 1) := by decide +kernel
theorem dX5_spread_176 : decode cX5_spread 176 = .ok (.if_icmp .ge 38, 3) := by decide +kernel
theorem dX5_spread_179 : decode cX5_spread 179 = .ok (.aload_n 0, 1) := by decide +kernel
theorem dX5_spread_180 : decode cX5_spread 180 = .ok (.dup, 1) := by decide +kernel
theorem dX5_spread_181 : decode cX5_spread 181 = .ok (.getfield 80, 3) := by decide +kernel
theorem dX5_spread_184 : decode cX5_spread 184 = .ok (.lconst 1, 1) := by decide +kernel
theorem dX5_spread_185 : decode cX5_spread 185 = .ok (.iload_n 3, 1) := by decide +kernel
theorem dX5_spread_186 : decode cX5_spread 186 = .ok (.aload_n 0, 1) := by decide +kernel
theorem dX5_spread_187 : decode cX5_spread 187 = .ok (.getfield 62, 3) := by decide +kernel
theorem dX5_spread_190 : decode cX5_spread 190 = .ok (.isub, 1) := by decide +kernel
theorem dX5_spread_191 : decode cX5_spread 191 = .ok (.lshl, 1) := by decide +kernel
theorem dX5_spread_192 : decode cX5_spread 192 = .ok (.lor, 1) := by decide +kernel
theorem dX5_spread_193 : decode cX5_spread 193 = .ok (.putfield 80, 3) := by decide +kernel
theorem dX5_spread_196 : decode cX5_spread 196 = .ok (.aload_n 1, 1) := by decide +kernel
theorem dX5_spread_197 : decode cX5_spread 197 = .ok (.aload_n 0, 1) := by decide +kernel
theorem dX5_spread_198 : decode cX5_spread 198 = .ok (.getfield 15, 3) := by decide +kernel
theorem dX5_spread_201 : decode cX5_spread 201 = .ok (.iload_n 3, 1) := by decide +kernel
theorem dX5_spread_202 : decode cX5_spread 202 = .ok (.iaload, 1) := by decide +kernel
theorem dX5_spread_203 : decode cX5_spread 203 = .ok (.lconst 1, 1) := by decide +kernel
theorem dX5_spread_204 : decode cX5_spread 204 = .ok (.iload_n 3, 1) := by decide +kernel
theorem dX5_spread_205 : decode cX5_spread 205 = .ok (.aload_n 0, 1) := by decide +kernel
theorem dX5_spread_206 : decode cX5_spread 206 = .ok (.getfield 62, 3) := by decide +kernel
theorem dX5_spread_209 : decode cX5_spread 209 = .ok (.isub, 1) := by decide +kernel
theorem dX5_spread_210 : decode cX5_spread 210 = .ok (.lshl, 1) := by decide +kernel
theorem dX5_spread_211 : decode cX5_spread 211 = .ok (.invokevirtual 86, 3) := by decide +kernel
theorem dX5_spread_214 : decode cX5_spread 214 = .ok (.iinc 3 1, 3) := by decide +kernel
theorem dX5_spread_217 : decode cX5_spread 217 = .ok (.goto (-85), 3) := by decide +kernel
theorem dX5_spread_220 : decode cX5_spread 220 = .ok (.return_, 1) := by decide +kernel
theorem dX5_writeSet_0 : decode cX5_writeSet 0 = .ok (.aload_n 2, 1) := by decide +kernel
theorem dX5_writeSet_1 : decode cX5_writeSet 1 = .ok (.invokevirtual 93, 3) := by decide +kernel
theorem dX5_writeSet_4 : decode cX5_writeSet 4 = .ok (.iconst 0, 1) := by decide +kernel
theorem dX5_writeSet_5 : decode cX5_writeSet 5 = .ok (.istore_n 3, 1) := by decide +kernel
theorem dX5_writeSet_6 : decode cX5_writeSet 6 = .ok (.iload_n 3, 1) := by decide +kernel
theorem dX5_writeSet_7 : decode cX5_writeSet 7 = .ok (.aload_n 0, 1) := by decide +kernel
theorem dX5_writeSet_8 : decode cX5_writeSet 8 = .ok (.getfield 59, 3) := by decide +kernel
theorem dX5_writeSet_11 : decode cX5_writeSet 11 = .ok (.iconst 1, 1) := by decide +kernel
theorem dX5_writeSet_12 : decode cX5_writeSet 12 = .ok (.isub, 1) := by decide +kernel
theorem dX5_writeSet_13 : decode cX5_writeSet 13 = .ok (.if_icmp .ge 29, 3) := by decide +kernel
theorem dX5_writeSet_16 : decode cX5_writeSet 16 = .ok (.iload_n 3, 1) := by decide +kernel
theorem dX5_writeSet_17 : decode cX5_writeSet 17 = .ok (.iconst 3, 1) := by decide +kernel
theorem dX5_writeSet_18 : decode cX5_writeSet 18 = .ok (.if_icmp .ge 24, 3) := by decide +kernel
theorem dX5_writeSet_21 : decode cX5_writeSet 21 = .ok (.aload_n 2, 1) := by decide +kernel
theorem dX5_writeSet_22 : decode cX5_writeSet 22 = .ok (.aload_n 0, 1) := by decide +kernel
theorem dX5_writeSet_23 : decode cX5_writeSet 23 = .ok (.getfield 15, 3) := by decide +kernel
theorem dX5_writeSet_26 : decode cX5_writeSet 26 = .ok (.aload_n 0, 1) := by decide +kernel
theorem dX5_writeSet_27 : decode cX5_writeSet 27 = .ok (.getfield 18, 3) := by decide +kernel
theorem dX5_writeSet_30 : decode cX5_writeSet 30 = .ok (.iload_n 3, 1) := by decide +kernel
theorem dX5_writeSet_31 : decode cX5_writeSet 31 = .ok (.iaload, 1) := by decide +kernel
theorem dX5_writeSet_32 : decode cX5_writeSet 32 = .ok (.iaload, 1) := by decide +kernel
theorem dX5_writeSet_33 : decode cX5_writeSet 33 = .ok (.invokevirtual 96, 3) := by decide +kernel
theorem dX5_writeSet_36 : decode cX5_writeSet 36 = .ok (.iinc 3 1, 3) := by decide +kernel
theorem dX5_writeSet_39 : decode cX5_writeSet 39 = .ok (.goto (-33), 3) := by decide +kernel
theorem dX5_writeSet_42 : decode cX5_writeSet 42 = .ok (.aload_n 0, 1) := by decide +kernel
theorem dX5_writeSet_43 : decode cX5_writeSet 43 = .ok (.getfield 62, 3) := by decide +kernel
theorem dX5_writeSet_46 : decode cX5_writeSet 46 = .ok (.iload_n 1, 1) := by decide +kernel
theorem dX5_writeSet_47 : decode cX5_writeSet 47 = .ok (.iadd, 1) := by decide +kernel
theorem dX5_writeSet_48 : decode cX5_writeSet 48 = .ok (.istore_n 3, 1) := by decide +kernel
theorem dX5_writeSet_49 : decode cX5_writeSet 49 = .ok (.iload_n 3, 1) := by decide +kernel
theorem dX5_writeSet_50 : decode cX5_writeSet 50 = .ok (.ifCond .lt 21, 3) := by decide +kernel
theorem dX5_writeSet_53 : decode cX5_writeSet 53 = .ok (.iload_n 3, 1) := by decide +kernel
theorem dX5_writeSet_54 : decode cX5_writeSet 54 = .ok (.aload_n 0, 1) := by decide +kernel
theorem dX5_writeSet_55 : decode cX5_writeSet 55 = .ok (.getfield 52, 3) := by decide +kernel
theorem dX5_writeSet_58 : decode cX5_writeSet 58 = .ok (.if_icmp .ge 13, 3) := by decide +kernel
theorem dX5_writeSet_61 : decode cX5_writeSet 61 = .ok (.aload_n 2, 1) := by decide +kernel
theorem dX5_writeSet_62 : decode cX5_writeSet 62 = .ok (.aload_n 0, 1) := by decide +kernel
theorem dX5_writeSet_63 : decode cX5_writeSet 63 = .ok (.getfield 15, 3) := by decide +kernel
theorem dX5_writeSet_66 : decode cX5_writeSet 66 = .ok (.iload_n 3, 1) := by decide +kernel
theorem dX5_writeSet_67 : decode cX5_writeSet 67 = .ok (.iaload, 1) := by decide +kernel
theorem dX5_writeSet_68 : decode cX5_writeSet 68 = .ok (.invokevirtual 96, 3) := by decide +kernel
theorem dX5_writeSet_71 : decode cX5_writeSet 71 = .ok (.return_, 1) := by decide +kernel
theorem dX6_init_0 : decode cX6_init 0 = .ok (.aload_n 0, 1) := by decide +kernel
theorem dX6_init_1 : decode cX6_init 1 = .ok (.invokespecial 3, 3) := by decide +kernel
theorem dX6_init_4 : decode cX6_init 4 = .ok (.aload_n 0, 1) := by decide +kernel
theorem dX6_init_5 : decode cX6_init 5 = .ok (.sipush 700, 3) := by decide +kernel
theorem dX6_init_8 : decode cX6_init 8 = .ok (.newarray .byte, 2) := by decide +kernel
theorem dX6_init_10 : decode cX6_init 10 = .ok (.putfield 9, 3) := by decide +kernel
theorem dX6_init_13 : decode cX6_init 13 = .ok (.aload_n 0, 1) := by decide +kernel
theorem dX6_init_14 : decode cX6_init 14 = .ok (.bipush 14, 2) := by decide +kernel
theorem dX6_init_16 : decode cX6_init 16 = .ok (.newarray .long, 2) := by decide +kernel
theorem dX6_init_18 : decode cX6_init 18 = .ok (.putfield 15, 3) := by decide +kernel
theorem dX6_init_21 : decode cX6_init 21 = .ok (.aload_n 0, 1) := by decide +kernel
theorem dX6_init_22 : decode cX6_init 22 = .ok (.bipush 14, 2) := by decide +kernel
theorem dX6_init_24 : decode cX6_init 24 = .ok (.newarray .int, 2) := by decide +kernel
theorem dX6_init_26 : decode cX6_init 26 = .ok (.putfield 19, 3) := by decide +kernel
theorem dX6_init_29 : decode cX6_init 29 = .ok (.aload_n 0, 1) := by decide +kernel
theorem dX6_init_30 : decode cX6_init 30 = .ok (.aload_n 1, 1) := by decide +kernel
theorem dX6_init_31 : decode cX6_init 31 = .ok (.putfield 23, 3) := by decide +kernel
theorem dX6_init_34 : decode cX6_init 34 = .ok (.return_, 1) := by decide +kernel
theorem dX6_takeNumber_0 : decode cX6_takeNumber 0 = .ok (.bipush 24, 2) := by decide +kernel
theorem dX6_takeNumber_2 : decode cX6_takeNumber 2 = .ok (.istore_n 2, 1) := by decide +kernel
theorem dX6_takeNumber_3 : decode cX6_takeNumber 3 = .ok (.iload_n 2, 1) := by decide +kernel
theorem dX6_takeNumber_4 : decode cX6_takeNumber 4 = .ok (.ifCond .lt 42, 3) := by decide +kernel
theorem dX6_takeNumber_7 : decode cX6_takeNumber 7 = .ok (.aload_n 0, 1) := by decide +kernel
theorem dX6_takeNumber_8 : decode cX6_takeNumber 8 = .ok (.getfield 27, 3) := by decide +kernel
theorem dX6_takeNumber_11 : decode cX6_takeNumber 11 = .ok (.sipush 700, 3) := by decide +kernel
theorem dX6_takeNumber_14 : decode cX6_takeNumber 14 = .ok (.if_icmp .ge 32, 3) := by decide +kernel
theorem dX6_takeNumber_17 : decode cX6_takeNumber 17 = .ok (.aload_n 0, 1) := by decide +kernel
theorem dX6_takeNumber_18 : decode cX6_takeNumber 18 = .ok (.getfield 9, 3) := by decide +kernel
theorem dX6_takeNumber_21 : decode cX6_takeNumber 21 = .ok (.aload_n 0, 1) := by decide +kernel
theorem dX6_takeNumber_22 : decode cX6_takeNumber 22 = .ok (.getfield 27, 3) := by decide +kernel
theorem dX6_takeNumber_25 : decode cX6_takeNumber 25 = .ok (.iload_n 1, 1) := by decide +kernel
theorem dX6_takeNumber_26 : decode cX6_takeNumber 26 = .ok (.iload_n 2, 1) := by decide +kernel
theorem dX6_takeNumber_27 : decode cX6_takeNumber 27 = .ok (.ishr, 1) := by decide +kernel
theorem dX6_takeNumber_28 : decode cX6_takeNumber 28 = .ok (.i2b, 1) := by decide +kernel
theorem dX6_takeNumber_29 : decode cX6_takeNumber 29 = .ok (.bastore, 1) := by decide +kernel
theorem dX6_takeNumber_30 : decode cX6_takeNumber 30 = .ok (.aload_n 0, 1) := by decide +kernel
theorem dX6_takeNumber_31 : decode cX6_takeNumber 31 = .ok (.dup, 1) := by decide +kernel
theorem dX6_takeNumber_32 : decode cX6_takeNumber 32 = .ok (.getfield 27, 3) := by decide +kernel
theorem dX6_takeNumber_35 : decode cX6_takeNumber 35 = .ok (.iconst 1, 1) := by decide +kernel
theorem dX6_takeNumber_36 : decode cX6_takeNumber 36 = .ok (.iadd, 1) := by decide +kernel
theorem dX6_takeNumber_37 : decode cX6_takeNumber 37 = .ok (.putfield 27, 3) := by decide +kernel
theorem dX6_takeNumber_40 : decode cX6_takeNumber 40 = .ok (.iinc 2 (-8), 3) := by decide +kernel
theorem dX6_takeNumber_43 : decode cX6_takeNumber 43 = .ok (.goto (-40), 3) := by decide +kernel
theorem dX6_takeNumber_46 : decode cX6_takeNumber 46 = .ok (.return_, 1) := by decide +kernel
theorem dX6_read_0 : decode cX6_read 0 = .ok (.aload_n 0, 1) := by decide +kernel
theorem dX6_read_1 : decode cX6_read 1 = .ok (.iconst 0, 1) := by decide +kernel
theorem dX6_read_2 : decode cX6_read 2 = .ok (.iload_n 1, 1) := by decide +kernel
theorem dX6_read_3 : decode cX6_read 3 = .ok (.aload_n 0, 1) := by decide +kernel
theorem dX6_read_4 : decode cX6_read 4 = .ok (.getfield 27, 3) := by decide +kernel
theorem dX6_read_7 : decode cX6_read 7 = .ok (.invokestatic 31, 3) := by decide +kernel
theorem dX6_read_10 : decode cX6_read 10 = .ok (.invokestatic 37, 3) := by decide +kernel
theorem dX6_read_13 : decode cX6_read 13 = .ok (.putfield 40, 3) := by decide +kernel
theorem dX6_read_16 : decode cX6_read 16 = .ok (.aload_n 0, 1) := by decide +kernel
theorem dX6_read_17 : decode cX6_read 17 = .ok (.iconst 0, 1) := by decide +kernel
theorem dX6_read_18 : decode cX6_read 18 = .ok (.putfield 27, 3) := by decide +kernel
theorem dX6_read_21 : decode cX6_read 21 = .ok (.aload_n 0, 1) := by decide +kernel
theorem dX6_read_22 : decode cX6_read 22 = .ok (.iconst 0, 1) := by decide +kernel
theorem dX6_read_23 : decode cX6_read 23 = .ok (.putfield 43, 3) := by decide +kernel
theorem dX6_read_26 : decode cX6_read 26 = .ok (.aload_n 0, 1) := by decide +kernel
theorem dX6_read_27 : decode cX6_read 27 = .ok (.iconst 0, 1) := by decide +kernel
theorem dX6_read_28 : decode cX6_read 28 = .ok (.putfield 46, 3) := by decide +kernel
theorem dX6_read_31 : decode cX6_read 31 = .ok (.aload_n 0, 1) := by decide +kernel
theorem dX6_read_32 : decode cX6_read 32 = .ok (.iconst 0, 1) := by decide +kernel
theorem dX6_read_33 : decode cX6_read 33 = .ok (.putfield 49, 3) := by decide +kernel
theorem dX6_read_36 : decode cX6_read 36 = .ok (.aload_n 0, 1) := by decide +kernel
theorem dX6_read_37 : decode cX6_read 37 = .ok (.aload_n 2, 1) := by decide +kernel
theorem dX6_read_38 : decode cX6_read 38 = .ok (.putfield 23, 3) := by decide +kernel
theorem dX6_read_41 : decode cX6_read 41 = .ok (.aload_n 0, 1) := by decide +kernel
theorem dX6_read_42 : decode cX6_read 42 = .ok (.getfield 23, 3) := by decide +kernel
theorem dX6_read_45 : decode cX6_read 45 = .ok (.invokevirtual 52, 3) := by decide +kernel
theorem dX6_read_48 : decode cX6_read 48 = .ok (.iconst 0, 1) := by decide +kernel
theorem dX6_read_49 : decode cX6_read 49 = .ok (.istore_n 3, 1) := by decide +kernel
theorem dX6_read_50 : decode cX6_read 50 = .ok (.iload_n 3, 1) := by decide +kernel
theorem dX6_read_51 : decode cX6_read 51 = .ok (.aload_n 0, 1) := by decide +kernel
theorem dX6_read_52 : decode cX6_read 52 = .ok (.getfield 40, 3) := by decide +kernel
theorem dX6_read_55 : decode cX6_read 55 = .ok (.if_icmp .gt 131, 3) := by decide +kernel
theorem dX6_read_58 : decode cX6_read 58 = .ok (.aload_n 0, 1) := by decide +kernel
theorem dX6_read_59 : decode cX6_read 59 = .ok (.invokevirtual 57, 3) := by decide +kernel
theorem dX6_read_62 : decode cX6_read 62 = .ok (.aload_n 0, 1) := by decide +kernel
theorem dX6_read_63 : decode cX6_read 63 = .ok (.ldc 60, 2) := by decide +kernel
theorem dX6_read_65 : decode cX6_read 65 = .ok (.invokevirtual 62, 3) := by decide +kernel
theorem dX6_read_68 : decode cX6_read 68 = .ok (.ifCond .eq 8, 3) := by decide +kernel
theorem dX6_read_71 : decode cX6_read 71 = .ok (.aload_n 0, 1) := by decide +kernel
theorem dX6_read_72 : decode cX6_read 72 = .ok (.invokevirtual 66, 3) := by decide +kernel
theorem dX6_read_75 : decode cX6_read 75 = .ok (.ireturn, 1) := by decide +kernel
theorem dX6_read_76 : decode cX6_read 76 = .ok (.aload_n 0, 1) := by decide +kernel
theorem dX6_read_77 : decode cX6_read 77 = .ok (.ldc 70, 2) := by decide +kernel
theorem dX6_read_79 : decode cX6_read 79 = .ok (.invokevirtual 62, 3) := by decide +kernel
theorem dX6_read_82 : decode cX6_read 82 = .ok (.ifCond .eq 12, 3) := by decide +kernel
theorem dX6_read_85 : decode cX6_read 85 = .ok (.aload_n 0, 1) := by decide +kernel
theorem dX6_read_86 : decode cX6_read 86 = .ok (.invokevirtual 72, 3) := by decide +kernel
theorem dX6_read_89 : decode cX6_read 89 = .ok (.istore 4, 2) := by decide +kernel
theorem dX6_read_91 : decode cX6_read 91 = .ok (.goto 82, 3) := by decide +kernel
theorem dX6_read_94 : decode cX6_read 94 = .ok (.aload_n 0, 1) := by decide +kernel
theorem dX6_read_95 : decode cX6_read 95 = .ok (.ldc 75, 2) := by decide +kernel
theorem dX6_read_97 : decode cX6_read 97 = .ok (.invokevirtual 62, 3) := by decide +kernel
theorem dX6_read_100 : decode cX6_read 100 = .ok (.ifCond .eq 12, 3) := by decide +kernel
theorem dX6_read_103 : decode cX6_read 103 = .ok (.aload_n 0, 1) := by decide +kernel
theorem dX6_read_104 : decode cX6_read 104 = .ok (.invokevirtual 77, 3) := by decide +kernel
theorem dX6_read_107 : decode cX6_read 107 = .ok (.istore 4, 2) := by decide +kernel
theorem dX6_read_109 : decode cX6_read 109 = .ok (.goto 64, 3) := by decide +kernel
theorem dX6_read_112 : decode cX6_read 112 = .ok (.aload_n 0, 1) := by decide +kernel
theorem dX6_read_113 : decode cX6_read 113 = .ok (.ldc 80, 2) := by decide +kernel
theorem dX6_read_115 : decode cX6_read 115 = .ok (.invokevirtual 62, 3) := by decide +kernel
theorem dX6_read_118 : decode cX6_read 118 = .ok (.ifCond .eq 12, 3) := by decide +kernel
theorem dX6_read_121 : decode cX6_read 121 = .ok (.aload_n 0, 1) := by decide +kernel
theorem dX6_read_122 : decode cX6_read 122 = .ok (.invokevirtual 82, 3) := by decide +kernel
theorem dX6_read_125 : decode cX6_read 125 = .ok (.istore 4, 2) := by decide +kernel
theorem dX6_read_127 : decode cX6_read 127 = .ok (.goto 46, 3) := by decide +kernel
theorem dX6_read_130 : decode cX6_read 130 = .ok (.aload_n 0, 1) := by decide +kernel
theorem dX6_read_131 : decode cX6_read 131 = .ok (.ldc 85, 2) := by decide +kernel
theorem dX6_read_133 : decode cX6_read 133 = .ok (.invokevirtual 62, 3) := by decide +kernel
theorem dX6_read_136 : decode cX6_read 136 = .ok (.ifCond .eq 12, 3) := by decide +kernel
theorem dX6_read_139 : decode cX6_read 139 = .ok (.aload_n 0, 1) := by decide +kernel
theorem dX6_read_140 : decode cX6_read 140 = .ok (.invokevirtual 87, 3) := by decide +kernel
theorem dX6_read_143 : decode cX6_read 143 = .ok (.istore 4, 2) := by decide +kernel
theorem dX6_read_145 : decode cX6_read 145 = .ok (.goto 28, 3) := by decide +kernel
theorem dX6_read_148 : decode cX6_read 148 = .ok (.aload_n 0, 1) := by decide +kernel
theorem dX6_read_149 : decode cX6_read 149 = .ok (.ldc 90, 2) := by decide +kernel
theorem dX6_read_151 : decode cX6_read 151 = .ok (.invokevirtual 62, 3) := by decide +kernel
theorem dX6_read_154 : decode cX6_read 154 = .ok (.ifCond .eq 12, 3) := by decide +kernel
theorem dX6_read_157 : decode cX6_read 157 = .ok (.aload_n 0, 1) := by decide +kernel
theorem dX6_read_158 : decode cX6_read 158 = .ok (.invokevirtual 92, 3) := by decide +kernel
theorem dX6_read_161 : decode cX6_read 161 = .ok (.istore 4, 2) := by decide +kernel
theorem dX6_read_163 : decode cX6_read 163 = .ok (.goto 10, 3) := by decide +kernel
theorem dX6_read_166 : decode cX6_read 166 = .ok (.aload_n 0, 1) := by decide +kernel
theorem dX6_read_167 : decode cX6_read 167 = .ok (.iconst 1, 1) := by decide +kernel
theorem dX6_read_168 : decode cX6_read 168 = .ok (.invokevirtual 95, 3) := by decide +kernel
theorem dX6_read_171 : decode cX6_read 171 = .ok (.istore 4, 2) := by decide +kernel
theorem dX6_read_173 : decode cX6_read 173 = .ok (.iload 4, 2) := by decide +kernel
theorem dX6_read_175 : decode cX6_read 175 = .ok (.ifCond .ne 5, 3) := by decide +kernel
theorem dX6_read_178 : decode cX6_read 178 = .ok (.iconst 0, 1) := by decide +kernel
theorem dX6_read_179 : decode cX6_read 179 = .ok (.ireturn, 1) := by decide +kernel
theorem dX6_read_180 : decode cX6_read 180 = .ok (.iinc 3 1, 3) := by decide +kernel
theorem dX6_read_183 : decode cX6_read 183 = .ok (.goto (-133), 3) := by decide +kernel
theorem dX6_read_186 : decode cX6_read 186 = .ok (.aload_n 0, 1) := by decide +kernel
theorem dX6_read_187 : decode cX6_read 187 = .ok (.iconst 1, 1) := by decide +kernel
theorem dX6_read_188 : decode cX6_read 188 = .ok (.invokevirtual 95, 3) := by decide +kernel
theorem dX6_read_191 : decode cX6_read 191 = .ok (.ireturn, 1) := by decide +kernel
theorem dX6_flawed_0 : decode cX6_flawed 0 = .ok (.aload_n 0, 1) := by decide +kernel
theorem dX6_flawed_1 : decode cX6_flawed 1 = .ok (.iload_n 1, 1) := by decide +kernel
theorem dX6_flawed_2 : decode cX6_flawed 2 = .ok (.putfield 49, 3) := by decide +kernel
theorem dX6_flawed_5 : decode cX6_flawed 5 = .ok (.iconst 0, 1) := by decide +kernel
theorem dX6_flawed_6 : decode cX6_flawed 6 = .ok (.ireturn, 1) := by decide +kernel
theorem dX6_step_0 : decode cX6_step 0 = .ok (.aload_n 0, 1) := by decide +kernel
theorem dX6_step_1 : decode cX6_step 1 = .ok (.aload_n 0, 1) := by decide +kernel
theorem dX6_step_2 : decode cX6_step 2 = .ok (.getfield 43, 3) := by decide +kernel
theorem dX6_step_5 : decode cX6_step 5 = .ok (.putfield 99, 3) := by decide +kernel
theorem dX6_step_8 : decode cX6_step 8 = .ok (.aload_n 0, 1) := by decide +kernel
theorem dX6_step_9 : decode cX6_step 9 = .ok (.getfield 99, 3) := by decide +kernel
theorem dX6_step_12 : decode cX6_step 12 = .ok (.aload_n 0, 1) := by decide +kernel
theorem dX6_step_13 : decode cX6_step 13 = .ok (.getfield 40, 3) := by decide +kernel
theorem dX6_step_16 : decode cX6_step 16 = .ok (.if_icmp .ge 30, 3) := by decide +kernel
theorem dX6_step_19 : decode cX6_step 19 = .ok (.aload_n 0, 1) := by decide +kernel
theorem dX6_step_20 : decode cX6_step 20 = .ok (.getfield 9, 3) := by decide +kernel
theorem dX6_step_23 : decode cX6_step 23 = .ok (.aload_n 0, 1) := by decide +kernel
theorem dX6_step_24 : decode cX6_step 24 = .ok (.getfield 99, 3) := by decide +kernel
theorem dX6_step_27 : decode cX6_step 27 = .ok (.baload, 1) := by decide +kernel
theorem dX6_step_28 : decode cX6_step 28 = .ok (.bipush 32, 2) := by decide +kernel
theorem dX6_step_30 : decode cX6_step 30 = .ok (.if_icmp .ne 16, 3) := by decide +kernel
theorem dX6_step_33 : decode cX6_step 33 = .ok (.aload_n 0, 1) := by decide +kernel
theorem dX6_step_34 : decode cX6_step 34 = .ok (.dup, 1) := by decide +kernel
theorem dX6_step_35 : decode cX6_step 35 = .ok (.getfield 99, 3) := by decide +kernel
theorem dX6_step_38 : decode cX6_step 38 = .ok (.iconst 1, 1) := by decide +kernel
theorem dX6_step_39 : decode cX6_step 39 = .ok (.iadd, 1) := by decide +kernel
theorem dX6_step_40 : decode cX6_step 40 = .ok (.putfield 99, 3) := by decide +kernel
theorem dX6_step_43 : decode cX6_step 43 = .ok (.goto (-35), 3) := by decide +kernel
theorem dX6_step_46 : decode cX6_step 46 = .ok (.aload_n 0, 1) := by decide +kernel
theorem dX6_step_47 : decode cX6_step 47 = .ok (.aload_n 0, 1) := by decide +kernel
theorem dX6_step_48 : decode cX6_step 48 = .ok (.getfield 99, 3) := by decide +kernel
theorem dX6_step_51 : decode cX6_step 51 = .ok (.putfield 43, 3) := by decide +kernel
theorem dX6_step_54 : decode cX6_step 54 = .ok (.aload_n 0, 1) := by decide +kernel
theorem dX6_step_55 : decode cX6_step 55 = .ok (.getfield 99, 3) := by decide +kernel
theorem dX6_step_58 : decode cX6_step 58 = .ok (.aload_n 0, 1) := by decide +kernel
theorem dX6_step_59 : decode cX6_step 59 = .ok (.getfield 40, 3) := by decide +kernel
theorem dX6_step_62 : decode cX6_step 62 = .ok (.if_icmp .lt 11, 3) := by decide +kernel
theorem dX6_step_65 : decode cX6_step 65 = .ok (.aload_n 0, 1) := by decide +kernel
theorem dX6_step_66 : decode cX6_step 66 = .ok (.iconst 0, 1) := by decide +kernel
theorem dX6_step_67 : decode cX6_step 67 = .ok (.putfield 102, 3) := by decide +kernel
theorem dX6_step_70 : decode cX6_step 70 = .ok (.goto 117, 3) := by decide +kernel
theorem dX6_step_73 : decode cX6_step 73 = .ok (.aload_n 0, 1) := by decide +kernel
theorem dX6_step_74 : decode cX6_step 74 = .ok (.getfield 9, 3) := by decide +kernel
theorem dX6_step_77 : decode cX6_step 77 = .ok (.aload_n 0, 1) := by decide +kernel
theorem dX6_step_78 : decode cX6_step 78 = .ok (.getfield 99, 3) := by decide +kernel
theorem dX6_step_81 : decode cX6_step 81 = .ok (.baload, 1) := by decide +kernel
theorem dX6_step_82 : decode cX6_step 82 = .ok (.bipush 59, 2) := by decide +kernel
theorem dX6_step_84 : decode cX6_step 84 = .ok (.if_icmp .ne 21, 3) := by decide +kernel
theorem dX6_step_87 : decode cX6_step 87 = .ok (.aload_n 0, 1) := by decide +kernel
theorem dX6_step_88 : decode cX6_step 88 = .ok (.iconst 1, 1) := by decide +kernel
theorem dX6_step_89 : decode cX6_step 89 = .ok (.putfield 102, 3) := by decide +kernel
theorem dX6_step_92 : decode cX6_step 92 = .ok (.aload_n 0, 1) := by decide +kernel
theorem dX6_step_93 : decode cX6_step 93 = .ok (.aload_n 0, 1) := by decide +kernel
theorem dX6_step_94 : decode cX6_step 94 = .ok (.getfield 99, 3) := by decide +kernel
theorem dX6_step_97 : decode cX6_step 97 = .ok (.iconst 1, 1) := by decide +kernel
theorem dX6_step_98 : decode cX6_step 98 = .ok (.iadd, 1) := by decide +kernel
theorem dX6_step_99 : decode cX6_step 99 = .ok (.putfield 43, 3) := by decide +kernel
theorem dX6_step_102 : decode cX6_step 102 = .ok (.goto 85, 3) := by decide +kernel
theorem dX6_step_105 : decode cX6_step 105 = .ok (.aload_n 0, 1) := by decide +kernel
theorem dX6_step_106 : decode cX6_step 106 = .ok (.getfield 43, 3) := by decide +kernel
theorem dX6_step_109 : decode cX6_step 109 = .ok (.aload_n 0, 1) := by decide +kernel
theorem dX6_step_110 : decode cX6_step 110 = .ok (.getfield 40, 3) := by decide +kernel
theorem dX6_step_113 : decode cX6_step 113 = .ok (.if_icmp .ge 44, 3) := by decide +kernel
theorem dX6_step_116 : decode cX6_step 116 = .ok (.aload_n 0, 1) := by decide +kernel
theorem dX6_step_117 : decode cX6_step 117 = .ok (.getfield 9, 3) := by decide +kernel
theorem dX6_step_120 : decode cX6_step 120 = .ok (.aload_n 0, 1) := by decide +kernel
theorem dX6_step_121 : decode cX6_step 121 = .ok (.getfield 43, 3) := by decide +kernel
theorem dX6_step_124 : decode cX6_step 124 = .ok (.baload, 1) := by decide +kernel
theorem dX6_step_125 : decode cX6_step 125 = .ok (.bipush 97, 2) := by decide +kernel
theorem dX6_step_127 : decode cX6_step 127 = .ok (.if_icmp .lt 30, 3) := by decide +kernel
theorem dX6_step_130 : decode cX6_step 130 = .ok (.aload_n 0, 1) := by decide +kernel
theorem dX6_step_131 : decode cX6_step 131 = .ok (.getfield 9, 3) := by decide +kernel
theorem dX6_step_134 : decode cX6_step 134 = .ok (.aload_n 0, 1) := by decide +kernel
theorem dX6_step_135 : decode cX6_step 135 = .ok (.getfield 43, 3) := by decide +kernel
theorem dX6_step_138 : decode cX6_step 138 = .ok (.baload, 1) := by decide +kernel
theorem dX6_step_139 : decode cX6_step 139 = .ok (.bipush 122, 2) := by decide +kernel
theorem dX6_step_141 : decode cX6_step 141 = .ok (.if_icmp .gt 16, 3) := by decide +kernel
theorem dX6_step_144 : decode cX6_step 144 = .ok (.aload_n 0, 1) := by decide +kernel
theorem dX6_step_145 : decode cX6_step 145 = .ok (.dup, 1) := by decide +kernel
theorem dX6_step_146 : decode cX6_step 146 = .ok (.getfield 43, 3) := by decide +kernel
theorem dX6_step_149 : decode cX6_step 149 = .ok (.iconst 1, 1) := by decide +kernel
theorem dX6_step_150 : decode cX6_step 150 = .ok (.iadd, 1) := by decide +kernel
theorem dX6_step_151 : decode cX6_step 151 = .ok (.putfield 43, 3) := by decide +kernel
theorem dX6_step_154 : decode cX6_step 154 = .ok (.goto (-49), 3) := by decide +kernel
theorem dX6_step_157 : decode cX6_step 157 = .ok (.aload_n 0, 1) := by decide +kernel
theorem dX6_step_158 : decode cX6_step 158 = .ok (.getfield 43, 3) := by decide +kernel
theorem dX6_step_161 : decode cX6_step 161 = .ok (.aload_n 0, 1) := by decide +kernel
theorem dX6_step_162 : decode cX6_step 162 = .ok (.getfield 99, 3) := by decide +kernel
theorem dX6_step_165 : decode cX6_step 165 = .ok (.isub, 1) := by decide +kernel
theorem dX6_step_166 : decode cX6_step 166 = .ok (.istore_n 1, 1) := by decide +kernel
theorem dX6_step_167 : decode cX6_step 167 = .ok (.aload_n 0, 1) := by decide +kernel
theorem dX6_step_168 : decode cX6_step 168 = .ok (.iload_n 1, 1) := by decide +kernel
theorem dX6_step_169 : decode cX6_step 169 = .ok (.iconst 1, 1) := by decide +kernel
theorem dX6_step_170 : decode cX6_step 170 = .ok (.if_icmp .lt 13, 3) := by decide +kernel
theorem dX6_step_173 : decode cX6_step 173 = .ok (.iload_n 1, 1) := by decide +kernel
theorem dX6_step_174 : decode cX6_step 174 = .ok (.bipush 8, 2) := by decide +kernel
theorem dX6_step_176 : decode cX6_step 176 = .ok (.if_icmp .gt 7, 3) := by decide +kernel
theorem dX6_step_179 : decode cX6_step 179 = .ok (.iconst 2, 1) := by decide +kernel
theorem dX6_step_180 : decode cX6_step 180 = .ok (.goto 4, 3) := by decide +kernel
theorem dX6_step_183 : decode cX6_step 183 = .ok (.iconst 3, 1) := by decide +kernel
theorem dX6_step_184 : decode cX6_step 184 = .ok (.putfield 102, 3) := by decide +kernel
theorem dX6_step_187 : decode cX6_step 187 = .ok (.return_, 1) := by decide +kernel
theorem dX6_spells_0 : decode cX6_spells 0 = .ok (.aload_n 0, 1) := by decide +kernel
theorem dX6_spells_1 : decode cX6_spells 1 = .ok (.getfield 102, 3) := by decide +kernel
theorem dX6_spells_4 : decode cX6_spells 4 = .ok (.iconst 2, 1) := by decide +kernel
theorem dX6_spells_5 : decode cX6_spells 5 = .ok (.if_icmp .ne 19, 3) := by decide +kernel
theorem dX6_spells_8 : decode cX6_spells 8 = .ok (.aload_n 0, 1) := by decide +kernel
theorem dX6_spells_9 : decode cX6_spells 9 = .ok (.getfield 43, 3) := by decide +kernel
theorem dX6_spells_12 : decode cX6_spells 12 = .ok (.aload_n 0, 1) := by decide +kernel
theorem dX6_spells_13 : decode cX6_spells 13 = .ok (.getfield 99, 3) := by decide +kernel
theorem dX6_spells_16 : decode cX6_spells 16 = .ok (.isub, 1) := by decide +kernel
theorem dX6_spells_17 : decode cX6_spells 17 = .ok (.aload_n 1, 1) := by decide +kernel
theorem dX6_spells_18 : decode cX6_spells 18 = .ok (.invokevirtual 105, 3) := by decide +kernel
theorem dX6_spells_21 : decode cX6_spells 21 = .ok (.if_icmp .eq 5, 3) := by decide +kernel
theorem dX6_spells_24 : decode cX6_spells 24 = .ok (.iconst 0, 1) := by decide +kernel
theorem dX6_spells_25 : decode cX6_spells 25 = .ok (.ireturn, 1) := by decide +kernel
theorem dX6_spells_26 : decode cX6_spells 26 = .ok (.iconst 0, 1) := by decide +kernel
theorem dX6_spells_27 : decode cX6_spells 27 = .ok (.istore_n 2, 1) := by decide +kernel
theorem dX6_spells_28 : decode cX6_spells 28 = .ok (.iload_n 2, 1) := by decide +kernel
theorem dX6_spells_29 : decode cX6_spells 29 = .ok (.aload_n 1, 1) := by decide +kernel
theorem dX6_spells_30 : decode cX6_spells 30 = .ok (.invokevirtual 105, 3) := by decide +kernel
theorem dX6_spells_33 : decode cX6_spells 33 = .ok (.if_icmp .ge 30, 3) := by decide +kernel
theorem dX6_spells_36 : decode cX6_spells 36 = .ok (.aload_n 0, 1) := by decide +kernel
theorem dX6_spells_37 : decode cX6_spells 37 = .ok (.getfield 9, 3) := by decide +kernel
theorem dX6_spells_40 : decode cX6_spells 40 = .ok (.aload_n 0, 1) := by decide +kernel
theorem dX6_spells_41 : decode cX6_spells 41 = .ok (.getfield 99, 3) := by decide +kernel
theorem dX6_spells_44 : decode cX6_spells 44 = .ok (.iload_n 2, 1) := by decide +kernel
theorem dX6_spells_45 : decode cX6_spells 45 = .ok (.iadd, 1) := by decide +kernel
theorem dX6_spells_46 : decode cX6_spells 46 = .ok (.baload, 1) := by decide +kernel
theorem dX6_spells_47 : decode cX6_spells 47 = .ok (.aload_n 1, 1) := by decide +kernel
theorem dX6_spells_48 : decode cX6_spells 48 = .ok (.iload_n 2, 1) := by decide +kernel
theorem dX6_spells_49 : decode cX6_spells 49 = .ok (.invokevirtual 111, 3) := by decide +kernel
theorem dX6_spells_52 : decode cX6_spells 52 = .ok (.if_icmp .eq 5, 3) := by decide +kernel
theorem dX6_spells_55 : decode cX6_spells 55 = .ok (.iconst 0, 1) := by decide +kernel
theorem dX6_spells_56 : decode cX6_spells 56 = .ok (.ireturn, 1) := by decide +kernel
theorem dX6_spells_57 : decode cX6_spells 57 = .ok (.iinc 2 1, 3) := by decide +kernel
theorem dX6_spells_60 : decode cX6_spells 60 = .ok (.goto (-32), 3) := by decide +kernel
theorem dX6_spells_63 : decode cX6_spells 63 = .ok (.iconst 1, 1) := by decide +kernel
theorem dX6_spells_64 : decode cX6_spells 64 = .ok (.ireturn, 1) := by decide +kernel
theorem dX6_stepTo_0 : decode cX6_stepTo 0 = .ok (.aload_n 0, 1) := by decide +kernel
theorem dX6_stepTo_1 : decode cX6_stepTo 1 = .ok (.invokevirtual 57, 3) := by decide +kernel
theorem dX6_stepTo_4 : decode cX6_stepTo 4 = .ok (.aload_n 0, 1) := by decide +kernel
theorem dX6_stepTo_5 : decode cX6_stepTo 5 = .ok (.aload_n 1, 1) := by decide +kernel
theorem dX6_stepTo_6 : decode cX6_stepTo 6 = .ok (.invokevirtual 62, 3) := by decide +kernel
theorem dX6_stepTo_9 : decode cX6_stepTo 9 = .ok (.ifCond .ne 11, 3) := by decide +kernel
theorem dX6_stepTo_12 : decode cX6_stepTo 12 = .ok (.aload_n 0, 1) := by decide +kernel
theorem dX6_stepTo_13 : decode cX6_stepTo 13 = .ok (.iconst 1, 1) := by decide +kernel
theorem dX6_stepTo_14 : decode cX6_stepTo 14 = .ok (.invokevirtual 95, 3) := by decide +kernel
theorem dX6_stepTo_17 : decode cX6_stepTo 17 = .ok (.ifCond .eq 7, 3) := by decide +kernel
theorem dX6_stepTo_20 : decode cX6_stepTo 20 = .ok (.iconst 1, 1) := by decide +kernel
theorem dX6_stepTo_21 : decode cX6_stepTo 21 = .ok (.goto 4, 3) := by decide +kernel
theorem dX6_stepTo_24 : decode cX6_stepTo 24 = .ok (.iconst 0, 1) := by decide +kernel
theorem dX6_stepTo_25 : decode cX6_stepTo 25 = .ok (.ireturn, 1) := by decide +kernel
theorem dX6_endsLine_0 : decode cX6_endsLine 0 = .ok (.aload_n 0, 1) := by decide +kernel
theorem dX6_endsLine_1 : decode cX6_endsLine 1 = .ok (.getfield 102, 3) := by decide +kernel
theorem dX6_endsLine_4 : decode cX6_endsLine 4 = .ok (.iconst 1, 1) := by decide +kernel
theorem dX6_endsLine_5 : decode cX6_endsLine 5 = .ok (.if_icmp .eq 11, 3) := by decide +kernel
theorem dX6_endsLine_8 : decode cX6_endsLine 8 = .ok (.aload_n 0, 1) := by decide +kernel
theorem dX6_endsLine_9 : decode cX6_endsLine 9 = .ok (.iconst 1, 1) := by decide +kernel
theorem dX6_endsLine_10 : decode cX6_endsLine 10 = .ok (.invokevirtual 95, 3) := by decide +kernel
theorem dX6_endsLine_13 : decode cX6_endsLine 13 = .ok (.ifCond .eq 7, 3) := by decide +kernel
theorem dX6_endsLine_16 : decode cX6_endsLine 16 = .ok (.iconst 1, 1) := by decide +kernel
theorem dX6_endsLine_17 : decode cX6_endsLine 17 = .ok (.goto 4, 3) := by decide +kernel
theorem dX6_endsLine_20 : decode cX6_endsLine 20 = .ok (.iconst 0, 1) := by decide +kernel
theorem dX6_endsLine_21 : decode cX6_endsLine 21 = .ok (.ireturn, 1) := by decide +kernel
theorem dX6_isName_0 : decode cX6_isName 0 = .ok (.aload_n 0, 1) := by decide +kernel
theorem dX6_isName_1 : decode cX6_isName 1 = .ok (.getfield 102, 3) := by decide +kernel
theorem dX6_isName_4 : decode cX6_isName 4 = .ok (.iconst 2, 1) := by decide +kernel
theorem dX6_isName_5 : decode cX6_isName 5 = .ok (.if_icmp .ne 106, 3) := by decide +kernel
theorem dX6_isName_8 : decode cX6_isName 8 = .ok (.aload_n 0, 1) := by decide +kernel
theorem dX6_isName_9 : decode cX6_isName 9 = .ok (.ldc 70, 2) := by decide +kernel
theorem dX6_isName_11 : decode cX6_isName 11 = .ok (.invokevirtual 62, 3) := by decide +kernel
theorem dX6_isName_14 : decode cX6_isName 14 = .ok (.ifCond .ne 97, 3) := by decide +kernel
theorem dX6_isName_17 : decode cX6_isName 17 = .ok (.aload_n 0, 1) := by decide +kernel
theorem dX6_isName_18 : decode cX6_isName 18 = .ok (.ldc 75, 2) := by decide +kernel
theorem dX6_isName_20 : decode cX6_isName 20 = .ok (.invokevirtual 62, 3) := by decide +kernel
theorem dX6_isName_23 : decode cX6_isName 23 = .ok (.ifCond .ne 88, 3) := by decide +kernel
theorem dX6_isName_26 : decode cX6_isName 26 = .ok (.aload_n 0, 1) := by decide +kernel
theorem dX6_isName_27 : decode cX6_isName 27 = .ok (.ldc 80, 2) := by decide +kernel
theorem dX6_isName_29 : decode cX6_isName 29 = .ok (.invokevirtual 62, 3) := by decide +kernel
theorem dX6_isName_32 : decode cX6_isName 32 = .ok (.ifCond .ne 79, 3) := by decide +kernel
theorem dX6_isName_35 : decode cX6_isName 35 = .ok (.aload_n 0, 1) := by decide +kernel
theorem dX6_isName_36 : decode cX6_isName 36 = .ok (.ldc 85, 2) := by decide +kernel
theorem dX6_isName_38 : decode cX6_isName 38 = .ok (.invokevirtual 62, 3) := by decide +kernel
theorem dX6_isName_41 : decode cX6_isName 41 = .ok (.ifCond .ne 70, 3) := by decide +kernel
theorem dX6_isName_44 : decode cX6_isName 44 = .ok (.aload_n 0, 1) := by decide +kernel
theorem dX6_isName_45 : decode cX6_isName 45 = .ok (.ldc 90, 2) := by decide +kernel
theorem dX6_isName_47 : decode cX6_isName 47 = .ok (.invokevirtual 62, 3) := by decide +kernel
theorem dX6_isName_50 : decode cX6_isName 50 = .ok (.ifCond .ne 61, 3) := by decide +kernel
theorem dX6_isName_53 : decode cX6_isName 53 = .ok (.aload_n 0, 1) := by decide +kernel
theorem dX6_isName_54 : decode cX6_isName 54 = .ok (.ldc 60, 2) := by decide +kernel
theorem dX6_isName_56 : decode cX6_isName 56 = .ok (.invokevirtual 62, 3) := by decide +kernel
theorem dX6_isName_59 : decode cX6_isName 59 = .ok (.ifCond .ne 52, 3) := by decide +kernel
theorem dX6_isName_62 : decode cX6_isName 62 = .ok (.aload_n 0, 1) := by decide +kernel
theorem dX6_isName_63 : decode cX6_isName 63 = .ok (.ldc 115, 2) := by decide +kernel
theorem dX6_isName_65 : decode cX6_isName 65 = .ok (.invokevirtual 62, 3) := by decide +kernel
theorem dX6_isName_68 : decode cX6_isName 68 = .ok (.ifCond .ne 43, 3) := by decide +kernel
theorem dX6_isName_71 : decode cX6_isName 71 = .ok (.aload_n 0, 1) := by decide +kernel
theorem dX6_isName_72 : decode cX6_isName 72 = .ok (.ldc 117, 2) := by decide +kernel
theorem dX6_isName_74 : decode cX6_isName 74 = .ok (.invokevirtual 62, 3) := by decide +kernel
theorem dX6_isName_77 : decode cX6_isName 77 = .ok (.ifCond .ne 34, 3) := by decide +kernel
theorem dX6_isName_80 : decode cX6_isName 80 = .ok (.aload_n 0, 1) := by decide +kernel
theorem dX6_isName_81 : decode cX6_isName 81 = .ok (.ldc 119, 2) := by decide +kernel
theorem dX6_isName_83 : decode cX6_isName 83 = .ok (.invokevirtual 62, 3) := by decide +kernel
theorem dX6_isName_86 : decode cX6_isName 86 = .ok (.ifCond .ne 25, 3) := by decide +kernel
theorem dX6_isName_89 : decode cX6_isName 89 = .ok (.aload_n 0, 1) := by decide +kernel
theorem dX6_isName_90 : decode cX6_isName 90 = .ok (.ldc 121, 2) := by decide +kernel
theorem dX6_isName_92 : decode cX6_isName 92 = .ok (.invokevirtual 62, 3) := by decide +kernel
theorem dX6_isName_95 : decode cX6_isName 95 = .ok (.ifCond .ne 16, 3) := by decide +kernel
theorem dX6_isName_98 : decode cX6_isName 98 = .ok (.aload_n 0, 1) := by decide +kernel
theorem dX6_isName_99 : decode cX6_isName 99 = .ok (.ldc 122, 2) := by decide +kernel
theorem dX6_isName_101 : decode cX6_isName 101 = .ok (.invokevirtual 62, 3) := by decide +kernel
theorem dX6_isName_104 : decode cX6_isName 104 = .ok (.ifCond .ne 7, 3) := by decide +kernel
theorem dX6_isName_107 : decode cX6_isName 107 = .ok (.iconst 1, 1) := by decide +kernel
theorem dX6_isName_108 : decode cX6_isName 108 = .ok (.goto 4, 3) := by decide +kernel
theorem dX6_isName_111 : decode cX6_isName 111 = .ok (.iconst 0, 1) := by decide +kernel
theorem dX6_isName_112 : decode cX6_isName 112 = .ok (.ireturn, 1) := by decide +kernel
theorem dX6_spelling_0 : decode cX6_spelling 0 = .ok (.lconst 0, 1) := by decide +kernel
theorem dX6_spelling_1 : decode cX6_spelling 1 = .ok (.lstore_n 1, 1) := by decide +kernel
theorem dX6_spelling_2 : decode cX6_spelling 2 = .ok (.aload_n 0, 1) := by decide +kernel
theorem dX6_spelling_3 : decode cX6_spelling 3 = .ok (.getfield 99, 3) := by decide +kernel
theorem dX6_spelling_6 : decode cX6_spelling 6 = .ok (.istore_n 3, 1) := by decide +kernel
theorem dX6_spelling_7 : decode cX6_spelling 7 = .ok (.iload_n 3, 1) := by decide +kernel
theorem dX6_spelling_8 : decode cX6_spelling 8 = .ok (.aload_n 0, 1) := by decide +kernel
theorem dX6_spelling_9 : decode cX6_spelling 9 = .ok (.getfield 43, 3) := by decide +kernel
theorem dX6_spelling_12 : decode cX6_spelling 12 = .ok (.if_icmp .ge 28, 3) := by decide +kernel
theorem dX6_spelling_15 : decode cX6_spelling 15 = .ok (.lload_n 1, 1) := by decide +kernel
theorem dX6_spelling_16 : decode cX6_spelling 16 = .ok (.ldc2_w 124, 3) := by decide +kernel
theorem dX6_spelling_19 : decode cX6_spelling 19 = .ok (.lmul, 1) := by decide +kernel
theorem dX6_spelling_20 : decode cX6_spelling 20 = .ok (.aload_n 0, 1) := by decide +kernel
theorem dX6_spelling_21 : decode cX6_spelling 21 = .ok (.getfield 9, 3) := by decide +kernel
theorem dX6_spelling_24 : decode cX6_spelling 24 = .ok (.iload_n 3, 1) := by decide +kernel
theorem dX6_spelling_25 : decode cX6_spelling 25 = .ok (.baload, 1) := by decide +kernel
theorem dX6_spelling_26 : decode cX6_spelling 26 = .ok (.bipush 97, 2) := by decide +kernel
theorem dX6_spelling_28 : decode cX6_spelling 28 = .ok (.isub, 1) := by decide +kernel
theorem dX6_spelling_29 : decode cX6_spelling 29 = .ok (.iconst 1, 1) := by decide +kernel
theorem dX6_spelling_30 : decode cX6_spelling 30 = .ok (.iadd, 1) := by decide +kernel
theorem dX6_spelling_31 : decode cX6_spelling 31 = .ok (.i2l, 1) := by decide +kernel
theorem dX6_spelling_32 : decode cX6_spelling 32 = .ok (.ladd, 1) := by decide +kernel
theorem dX6_spelling_33 : decode cX6_spelling 33 = .ok (.lstore_n 1, 1) := by decide +kernel
theorem dX6_spelling_34 : decode cX6_spelling 34 = .ok (.iinc 3 1, 3) := by decide +kernel
theorem dX6_spelling_37 : decode cX6_spelling 37 = .ok (.goto (-30), 3) := by decide +kernel
theorem dX6_spelling_40 : decode cX6_spelling 40 = .ok (.lload_n 1, 1) := by decide +kernel
theorem dX6_spelling_41 : decode cX6_spelling 41 = .ok (.lreturn, 1) := by decide +kernel
theorem dX6_meaning_0 : decode cX6_meaning 0 = .ok (.aload_n 0, 1) := by decide +kernel
theorem dX6_meaning_1 : decode cX6_meaning 1 = .ok (.invokevirtual 126, 3) := by decide +kernel
theorem dX6_meaning_4 : decode cX6_meaning 4 = .ok (.lstore_n 1, 1) := by decide +kernel
theorem dX6_meaning_5 : decode cX6_meaning 5 = .ok (.iconst 0, 1) := by decide +kernel
theorem dX6_meaning_6 : decode cX6_meaning 6 = .ok (.istore_n 3, 1) := by decide +kernel
theorem dX6_meaning_7 : decode cX6_meaning 7 = .ok (.iload_n 3, 1) := by decide +kernel
theorem dX6_meaning_8 : decode cX6_meaning 8 = .ok (.aload_n 0, 1) := by decide +kernel
theorem dX6_meaning_9 : decode cX6_meaning 9 = .ok (.getfield 46, 3) := by decide +kernel
theorem dX6_meaning_12 : decode cX6_meaning 12 = .ok (.if_icmp .ge 27, 3) := by decide +kernel
theorem dX6_meaning_15 : decode cX6_meaning 15 = .ok (.aload_n 0, 1) := by decide +kernel
theorem dX6_meaning_16 : decode cX6_meaning 16 = .ok (.getfield 15, 3) := by decide +kernel
theorem dX6_meaning_19 : decode cX6_meaning 19 = .ok (.iload_n 3, 1) := by decide +kernel
theorem dX6_meaning_20 : decode cX6_meaning 20 = .ok (.laload, 1) := by decide +kernel
theorem dX6_meaning_21 : decode cX6_meaning 21 = .ok (.lload_n 1, 1) := by decide +kernel
theorem dX6_meaning_22 : decode cX6_meaning 22 = .ok (.lcmp, 1) := by decide +kernel
theorem dX6_meaning_23 : decode cX6_meaning 23 = .ok (.ifCond .ne 10, 3) := by decide +kernel
theorem dX6_meaning_26 : decode cX6_meaning 26 = .ok (.aload_n 0, 1) := by decide +kernel
theorem dX6_meaning_27 : decode cX6_meaning 27 = .ok (.getfield 19, 3) := by decide +kernel
theorem dX6_meaning_30 : decode cX6_meaning 30 = .ok (.iload_n 3, 1) := by decide +kernel
theorem dX6_meaning_31 : decode cX6_meaning 31 = .ok (.iaload, 1) := by decide +kernel
theorem dX6_meaning_32 : decode cX6_meaning 32 = .ok (.ireturn, 1) := by decide +kernel
theorem dX6_meaning_33 : decode cX6_meaning 33 = .ok (.iinc 3 1, 3) := by decide +kernel
theorem dX6_meaning_36 : decode cX6_meaning 36 = .ok (.goto (-29), 3) := by decide +kernel
theorem dX6_meaning_39 : decode cX6_meaning 39 = .ok (.iconst (-1), 1) := by decide +kernel
theorem dX6_meaning_40 : decode cX6_meaning 40 = .ok (.ireturn, 1) := by decide +kernel
theorem dX6_stepToNewName_0 : decode cX6_stepToNewName 0 = .ok (.aload_n 0, 1) := by decide +kernel
theorem dX6_stepToNewName_1 : decode cX6_stepToNewName 1 = .ok (.invokevirtual 57, 3) := by decide +kernel
theorem dX6_stepToNewName_4 : decode cX6_stepToNewName 4 = .ok (.aload_n 0, 1) := by decide +kernel
theorem dX6_stepToNewName_5 : decode cX6_stepToNewName 5 = .ok (.invokevirtual 130, 3) := by decide +kernel
theorem dX6_stepToNewName_8 : decode cX6_stepToNewName 8 = .ok (.ifCond .ne 9, 3) := by decide +kernel
theorem dX6_stepToNewName_11 : decode cX6_stepToNewName 11 = .ok (.aload_n 0, 1) := by decide +kernel
theorem dX6_stepToNewName_12 : decode cX6_stepToNewName 12 = .ok (.iconst 1, 1) := by decide +kernel
theorem dX6_stepToNewName_13 : decode cX6_stepToNewName 13 = .ok (.invokevirtual 95, 3) := by decide +kernel
theorem dX6_stepToNewName_16 : decode cX6_stepToNewName 16 = .ok (.ireturn, 1) := by decide +kernel
theorem dX6_stepToNewName_17 : decode cX6_stepToNewName 17 = .ok (.aload_n 0, 1) := by decide +kernel
theorem dX6_stepToNewName_18 : decode cX6_stepToNewName 18 = .ok (.invokevirtual 133, 3) := by decide +kernel
theorem dX6_stepToNewName_21 : decode cX6_stepToNewName 21 = .ok (.iconst (-1), 1) := by decide +kernel
theorem dX6_stepToNewName_22 : decode cX6_stepToNewName 22 = .ok (.if_icmp .ne 15, 3) := by decide +kernel
theorem dX6_stepToNewName_25 : decode cX6_stepToNewName 25 = .ok (.aload_n 0, 1) := by decide +kernel
theorem dX6_stepToNewName_26 : decode cX6_stepToNewName 26 = .ok (.getfield 46, 3) := by decide +kernel
theorem dX6_stepToNewName_29 : decode cX6_stepToNewName 29 = .ok (.aload_n 0, 1) := by decide +kernel
theorem dX6_stepToNewName_30 : decode cX6_stepToNewName 30 = .ok (.getfield 15, 3) := by decide +kernel
theorem dX6_stepToNewName_33 : decode cX6_stepToNewName 33 = .ok (.arraylength, 1) := by decide +kernel
theorem dX6_stepToNewName_34 : decode cX6_stepToNewName 34 = .ok (.if_icmp .ne 9, 3) := by decide +kernel
theorem dX6_stepToNewName_37 : decode cX6_stepToNewName 37 = .ok (.aload_n 0, 1) := by decide +kernel
theorem dX6_stepToNewName_38 : decode cX6_stepToNewName 38 = .ok (.iconst 3, 1) := by decide +kernel
theorem dX6_stepToNewName_39 : decode cX6_stepToNewName 39 = .ok (.invokevirtual 95, 3) := by decide +kernel
theorem dX6_stepToNewName_42 : decode cX6_stepToNewName 42 = .ok (.ireturn, 1) := by decide +kernel
theorem dX6_stepToNewName_43 : decode cX6_stepToNewName 43 = .ok (.aload_n 0, 1) := by decide +kernel
theorem dX6_stepToNewName_44 : decode cX6_stepToNewName 44 = .ok (.getfield 15, 3) := by decide +kernel
theorem dX6_stepToNewName_47 : decode cX6_stepToNewName 47 = .ok (.aload_n 0, 1) := by decide +kernel
theorem dX6_stepToNewName_48 : decode cX6_stepToNewName 48 = .ok (.getfield 46, 3) := by decide +kernel
theorem dX6_stepToNewName_51 : decode cX6_stepToNewName 51 = .ok (.aload_n 0, 1) := by decide +kernel
theorem dX6_stepToNewName_52 : decode cX6_stepToNewName 52 = .ok (.invokevirtual 126, 3) := by decide +kernel
theorem dX6_stepToNewName_55 : decode cX6_stepToNewName 55 = .ok (.lastore, 1) := by decide +kernel
theorem dX6_stepToNewName_56 : decode cX6_stepToNewName 56 = .ok (.aload_n 0, 1) := by decide +kernel
theorem dX6_stepToNewName_57 : decode cX6_stepToNewName 57 = .ok (.getfield 19, 3) := by decide +kernel
theorem dX6_stepToNewName_60 : decode cX6_stepToNewName 60 = .ok (.aload_n 0, 1) := by decide +kernel
theorem dX6_stepToNewName_61 : decode cX6_stepToNewName 61 = .ok (.getfield 46, 3) := by decide +kernel
theorem dX6_stepToNewName_64 : decode cX6_stepToNewName 64 = .ok (.iload_n 1, 1) := by decide +kernel
theorem dX6_stepToNewName_65 : decode cX6_stepToNewName 65 = .ok (.iastore, 1) := by decide +kernel
theorem dX6_stepToNewName_66 : decode cX6_stepToNewName 66 = .ok (.aload_n 0, 1) := by decide +kernel
theorem dX6_stepToNewName_67 : decode cX6_stepToNewName 67 = .ok (.dup, 1) := by decide +kernel
theorem dX6_stepToNewName_68 : decode cX6_stepToNewName 68 = .ok (.getfield 46, 3) := by decide +kernel
theorem dX6_stepToNewName_71 : decode cX6_stepToNewName 71 = .ok (.iconst 1, 1) := by decide +kernel
theorem dX6_stepToNewName_72 : decode cX6_stepToNewName 72 = .ok (.iadd, 1) := by decide +kernel
theorem dX6_stepToNewName_73 : decode cX6_stepToNewName 73 = .ok (.putfield 46, 3) := by decide +kernel
theorem dX6_stepToNewName_76 : decode cX6_stepToNewName 76 = .ok (.iconst 1, 1) := by decide +kernel
theorem dX6_stepToNewName_77 : decode cX6_stepToNewName 77 = .ok (.ireturn, 1) := by decide +kernel
theorem dX6_rowHere_0 : decode cX6_rowHere 0 = .ok (.aload_n 0, 1) := by decide +kernel
theorem dX6_rowHere_1 : decode cX6_rowHere 1 = .ok (.invokevirtual 130, 3) := by decide +kernel
theorem dX6_rowHere_4 : decode cX6_rowHere 4 = .ok (.ifCond .ne 11, 3) := by decide +kernel
theorem dX6_rowHere_7 : decode cX6_rowHere 7 = .ok (.aload_n 0, 1) := by decide +kernel
theorem dX6_rowHere_8 : decode cX6_rowHere 8 = .ok (.iconst 1, 1) := by decide +kernel
theorem dX6_rowHere_9 : decode cX6_rowHere 9 = .ok (.invokevirtual 95, 3) := by decide +kernel
theorem dX6_rowHere_12 : decode cX6_rowHere 12 = .ok (.pop, 1) := by decide +kernel
theorem dX6_rowHere_13 : decode cX6_rowHere 13 = .ok (.iconst (-1), 1) := by decide +kernel
theorem dX6_rowHere_14 : decode cX6_rowHere 14 = .ok (.ireturn, 1) := by decide +kernel
theorem dX6_rowHere_15 : decode cX6_rowHere 15 = .ok (.aload_n 0, 1) := by decide +kernel
theorem dX6_rowHere_16 : decode cX6_rowHere 16 = .ok (.invokevirtual 133, 3) := by decide +kernel
theorem dX6_rowHere_19 : decode cX6_rowHere 19 = .ok (.istore_n 1, 1) := by decide +kernel
theorem dX6_rowHere_20 : decode cX6_rowHere 20 = .ok (.iload_n 1, 1) := by decide +kernel
theorem dX6_rowHere_21 : decode cX6_rowHere 21 = .ok (.iconst 4, 1) := by decide +kernel
theorem dX6_rowHere_22 : decode cX6_rowHere 22 = .ok (.if_icmp .ge 11, 3) := by decide +kernel
theorem dX6_rowHere_25 : decode cX6_rowHere 25 = .ok (.aload_n 0, 1) := by decide +kernel
theorem dX6_rowHere_26 : decode cX6_rowHere 26 = .ok (.iconst 2, 1) := by decide +kernel
theorem dX6_rowHere_27 : decode cX6_rowHere 27 = .ok (.invokevirtual 95, 3) := by decide +kernel
theorem dX6_rowHere_30 : decode cX6_rowHere 30 = .ok (.pop, 1) := by decide +kernel
theorem dX6_rowHere_31 : decode cX6_rowHere 31 = .ok (.iconst (-1), 1) := by decide +kernel
theorem dX6_rowHere_32 : decode cX6_rowHere 32 = .ok (.ireturn, 1) := by decide +kernel
theorem dX6_rowHere_33 : decode cX6_rowHere 33 = .ok (.iload_n 1, 1) := by decide +kernel
theorem dX6_rowHere_34 : decode cX6_rowHere 34 = .ok (.iconst 4, 1) := by decide +kernel
theorem dX6_rowHere_35 : decode cX6_rowHere 35 = .ok (.isub, 1) := by decide +kernel
theorem dX6_rowHere_36 : decode cX6_rowHere 36 = .ok (.ireturn, 1) := by decide +kernel
theorem dX6_stepToRow_0 : decode cX6_stepToRow 0 = .ok (.aload_n 0, 1) := by decide +kernel
theorem dX6_stepToRow_1 : decode cX6_stepToRow 1 = .ok (.invokevirtual 57, 3) := by decide +kernel
theorem dX6_stepToRow_4 : decode cX6_stepToRow 4 = .ok (.aload_n 0, 1) := by decide +kernel
theorem dX6_stepToRow_5 : decode cX6_stepToRow 5 = .ok (.invokevirtual 136, 3) := by decide +kernel
theorem dX6_stepToRow_8 : decode cX6_stepToRow 8 = .ok (.ireturn, 1) := by decide +kernel
theorem dX6_stepToMachine_0 : decode cX6_stepToMachine 0 = .ok (.aload_n 0, 1) := by decide +kernel
theorem dX6_stepToMachine_1 : decode cX6_stepToMachine 1 = .ok (.invokevirtual 57, 3) := by decide +kernel
theorem dX6_stepToMachine_4 : decode cX6_stepToMachine 4 = .ok (.aload_n 0, 1) := by decide +kernel
theorem dX6_stepToMachine_5 : decode cX6_stepToMachine 5 = .ok (.invokevirtual 130, 3) := by decide +kernel
theorem dX6_stepToMachine_8 : decode cX6_stepToMachine 8 = .ok (.ifCond .ne 11, 3) := by decide +kernel
theorem dX6_stepToMachine_11 : decode cX6_stepToMachine 11 = .ok (.aload_n 0, 1) := by decide +kernel
theorem dX6_stepToMachine_12 : decode cX6_stepToMachine 12 = .ok (.iconst 1, 1) := by decide +kernel
theorem dX6_stepToMachine_13 : decode cX6_stepToMachine 13 = .ok (.invokevirtual 95, 3) := by decide +kernel
theorem dX6_stepToMachine_16 : decode cX6_stepToMachine 16 = .ok (.pop, 1) := by decide +kernel
theorem dX6_stepToMachine_17 : decode cX6_stepToMachine 17 = .ok (.iconst (-1), 1) := by decide +kernel
theorem dX6_stepToMachine_18 : decode cX6_stepToMachine 18 = .ok (.ireturn, 1) := by decide +kernel
theorem dX6_stepToMachine_19 : decode cX6_stepToMachine 19 = .ok (.aload_n 0, 1) := by decide +kernel
theorem dX6_stepToMachine_20 : decode cX6_stepToMachine 20 = .ok (.invokevirtual 133, 3) := by decide +kernel
theorem dX6_stepToMachine_23 : decode cX6_stepToMachine 23 = .ok (.istore_n 1, 1) := by decide +kernel
theorem dX6_stepToMachine_24 : decode cX6_stepToMachine 24 = .ok (.iload_n 1, 1) := by decide +kernel
theorem dX6_stepToMachine_25 : decode cX6_stepToMachine 25 = .ok (.iconst (-1), 1) := by decide +kernel
theorem dX6_stepToMachine_26 : decode cX6_stepToMachine 26 = .ok (.if_icmp .eq 8, 3) := by decide +kernel
theorem dX6_stepToMachine_29 : decode cX6_stepToMachine 29 = .ok (.iload_n 1, 1) := by decide +kernel
theorem dX6_stepToMachine_30 : decode cX6_stepToMachine 30 = .ok (.iconst 4, 1) := by decide +kernel
theorem dX6_stepToMachine_31 : decode cX6_stepToMachine 31 = .ok (.if_icmp .lt 11, 3) := by decide +kernel
theorem dX6_stepToMachine_34 : decode cX6_stepToMachine 34 = .ok (.aload_n 0, 1) := by decide +kernel
theorem dX6_stepToMachine_35 : decode cX6_stepToMachine 35 = .ok (.iconst 2, 1) := by decide +kernel
theorem dX6_stepToMachine_36 : decode cX6_stepToMachine 36 = .ok (.invokevirtual 95, 3) := by decide +kernel
theorem dX6_stepToMachine_39 : decode cX6_stepToMachine 39 = .ok (.pop, 1) := by decide +kernel
theorem dX6_stepToMachine_40 : decode cX6_stepToMachine 40 = .ok (.iconst (-1), 1) := by decide +kernel
theorem dX6_stepToMachine_41 : decode cX6_stepToMachine 41 = .ok (.ireturn, 1) := by decide +kernel
theorem dX6_stepToMachine_42 : decode cX6_stepToMachine 42 = .ok (.iload_n 1, 1) := by decide +kernel
theorem dX6_stepToMachine_43 : decode cX6_stepToMachine 43 = .ok (.ireturn, 1) := by decide +kernel
theorem dX6_readMachine_0 : decode cX6_readMachine 0 = .ok (.aload_n 0, 1) := by decide +kernel
theorem dX6_readMachine_1 : decode cX6_readMachine 1 = .ok (.getfield 23, 3) := by decide +kernel
theorem dX6_readMachine_4 : decode cX6_readMachine 4 = .ok (.getfield 139, 3) := by decide +kernel
theorem dX6_readMachine_7 : decode cX6_readMachine 7 = .ok (.iconst 4, 1) := by decide +kernel
theorem dX6_readMachine_8 : decode cX6_readMachine 8 = .ok (.if_icmp .ne 9, 3) := by decide +kernel
theorem dX6_readMachine_11 : decode cX6_readMachine 11 = .ok (.aload_n 0, 1) := by decide +kernel
theorem dX6_readMachine_12 : decode cX6_readMachine 12 = .ok (.iconst 5, 1) := by decide +kernel
theorem dX6_readMachine_13 : decode cX6_readMachine 13 = .ok (.invokevirtual 95, 3) := by decide +kernel
theorem dX6_readMachine_16 : decode cX6_readMachine 16 = .ok (.ireturn, 1) := by decide +kernel
theorem dX6_readMachine_17 : decode cX6_readMachine 17 = .ok (.aload_n 0, 1) := by decide +kernel
theorem dX6_readMachine_18 : decode cX6_readMachine 18 = .ok (.aload_n 0, 1) := by decide +kernel
theorem dX6_readMachine_19 : decode cX6_readMachine 19 = .ok (.getfield 23, 3) := by decide +kernel
theorem dX6_readMachine_22 : decode cX6_readMachine 22 = .ok (.getfield 139, 3) := by decide +kernel
theorem dX6_readMachine_25 : decode cX6_readMachine 25 = .ok (.invokevirtual 142, 3) := by decide +kernel
theorem dX6_readMachine_28 : decode cX6_readMachine 28 = .ok (.ifCond .ne 5, 3) := by decide +kernel
theorem dX6_readMachine_31 : decode cX6_readMachine 31 = .ok (.iconst 0, 1) := by decide +kernel
theorem dX6_readMachine_32 : decode cX6_readMachine 32 = .ok (.ireturn, 1) := by decide +kernel
theorem dX6_readMachine_33 : decode cX6_readMachine 33 = .ok (.aload_n 0, 1) := by decide +kernel
theorem dX6_readMachine_34 : decode cX6_readMachine 34 = .ok (.getfield 23, 3) := by decide +kernel
theorem dX6_readMachine_37 : decode cX6_readMachine 37 = .ok (.dup, 1) := by decide +kernel
theorem dX6_readMachine_38 : decode cX6_readMachine 38 = .ok (.getfield 139, 3) := by decide +kernel
theorem dX6_readMachine_41 : decode cX6_readMachine 41 = .ok (.iconst 1, 1) := by decide +kernel
theorem dX6_readMachine_42 : decode cX6_readMachine 42 = .ok (.iadd, 1) := by decide +kernel
theorem dX6_readMachine_43 : decode cX6_readMachine 43 = .ok (.putfield 139, 3) := by decide +kernel
theorem dX6_readMachine_46 : decode cX6_readMachine 46 = .ok (.aload_n 0, 1) := by decide +kernel
theorem dX6_readMachine_47 : decode cX6_readMachine 47 = .ok (.invokevirtual 57, 3) := by decide +kernel
theorem dX6_readMachine_50 : decode cX6_readMachine 50 = .ok (.aload_n 0, 1) := by decide +kernel
theorem dX6_readMachine_51 : decode cX6_readMachine 51 = .ok (.invokevirtual 145, 3) := by decide +kernel
theorem dX6_readMachine_54 : decode cX6_readMachine 54 = .ok (.ireturn, 1) := by decide +kernel
theorem dX6_readRow_0 : decode cX6_readRow 0 = .ok (.aload_n 0, 1) := by decide +kernel
theorem dX6_readRow_1 : decode cX6_readRow 1 = .ok (.getfield 23, 3) := by decide +kernel
theorem dX6_readRow_4 : decode cX6_readRow 4 = .ok (.getfield 148, 3) := by decide +kernel
theorem dX6_readRow_7 : decode cX6_readRow 7 = .ok (.bipush 10, 2) := by decide +kernel
theorem dX6_readRow_9 : decode cX6_readRow 9 = .ok (.if_icmp .ne 9, 3) := by decide +kernel
theorem dX6_readRow_12 : decode cX6_readRow 12 = .ok (.aload_n 0, 1) := by decide +kernel
theorem dX6_readRow_13 : decode cX6_readRow 13 = .ok (.iconst 5, 1) := by decide +kernel
theorem dX6_readRow_14 : decode cX6_readRow 14 = .ok (.invokevirtual 95, 3) := by decide +kernel
theorem dX6_readRow_17 : decode cX6_readRow 17 = .ok (.ireturn, 1) := by decide +kernel
theorem dX6_readRow_18 : decode cX6_readRow 18 = .ok (.aload_n 0, 1) := by decide +kernel
theorem dX6_readRow_19 : decode cX6_readRow 19 = .ok (.iconst 4, 1) := by decide +kernel
theorem dX6_readRow_20 : decode cX6_readRow 20 = .ok (.aload_n 0, 1) := by decide +kernel
theorem dX6_readRow_21 : decode cX6_readRow 21 = .ok (.getfield 23, 3) := by decide +kernel
theorem dX6_readRow_24 : decode cX6_readRow 24 = .ok (.getfield 148, 3) := by decide +kernel
theorem dX6_readRow_27 : decode cX6_readRow 27 = .ok (.iadd, 1) := by decide +kernel
theorem dX6_readRow_28 : decode cX6_readRow 28 = .ok (.invokevirtual 142, 3) := by decide +kernel
theorem dX6_readRow_31 : decode cX6_readRow 31 = .ok (.ifCond .ne 5, 3) := by decide +kernel
theorem dX6_readRow_34 : decode cX6_readRow 34 = .ok (.iconst 0, 1) := by decide +kernel
theorem dX6_readRow_35 : decode cX6_readRow 35 = .ok (.ireturn, 1) := by decide +kernel
theorem dX6_readRow_36 : decode cX6_readRow 36 = .ok (.aload_n 0, 1) := by decide +kernel
theorem dX6_readRow_37 : decode cX6_readRow 37 = .ok (.invokevirtual 57, 3) := by decide +kernel
theorem dX6_readRow_40 : decode cX6_readRow 40 = .ok (.aload_n 0, 1) := by decide +kernel
theorem dX6_readRow_41 : decode cX6_readRow 41 = .ok (.ldc 151, 2) := by decide +kernel
theorem dX6_readRow_43 : decode cX6_readRow 43 = .ok (.invokevirtual 62, 3) := by decide +kernel
theorem dX6_readRow_46 : decode cX6_readRow 46 = .ok (.ifCond .eq 28, 3) := by decide +kernel
theorem dX6_readRow_49 : decode cX6_readRow 49 = .ok (.aload_n 0, 1) := by decide +kernel
theorem dX6_readRow_50 : decode cX6_readRow 50 = .ok (.getfield 23, 3) := by decide +kernel
theorem dX6_readRow_53 : decode cX6_readRow 53 = .ok (.dup, 1) := by decide +kernel
theorem dX6_readRow_54 : decode cX6_readRow 54 = .ok (.getfield 153, 3) := by decide +kernel
theorem dX6_readRow_57 : decode cX6_readRow 57 = .ok (.iconst 1, 1) := by decide +kernel
theorem dX6_readRow_58 : decode cX6_readRow 58 = .ok (.aload_n 0, 1) := by decide +kernel
theorem dX6_readRow_59 : decode cX6_readRow 59 = .ok (.getfield 23, 3) := by decide +kernel
theorem dX6_readRow_62 : decode cX6_readRow 62 = .ok (.getfield 148, 3) := by decide +kernel
theorem dX6_readRow_65 : decode cX6_readRow 65 = .ok (.ishl, 1) := by decide +kernel
theorem dX6_readRow_66 : decode cX6_readRow 66 = .ok (.ior, 1) := by decide +kernel
theorem dX6_readRow_67 : decode cX6_readRow 67 = .ok (.putfield 153, 3) := by decide +kernel
theorem dX6_readRow_70 : decode cX6_readRow 70 = .ok (.aload_n 0, 1) := by decide +kernel
theorem dX6_readRow_71 : decode cX6_readRow 71 = .ok (.invokevirtual 57, 3) := by decide +kernel
theorem dX6_readRow_74 : decode cX6_readRow 74 = .ok (.aload_n 0, 1) := by decide +kernel
theorem dX6_readRow_75 : decode cX6_readRow 75 = .ok (.getfield 23, 3) := by decide +kernel
theorem dX6_readRow_78 : decode cX6_readRow 78 = .ok (.dup, 1) := by decide +kernel
theorem dX6_readRow_79 : decode cX6_readRow 79 = .ok (.getfield 148, 3) := by decide +kernel
theorem dX6_readRow_82 : decode cX6_readRow 82 = .ok (.iconst 1, 1) := by decide +kernel
theorem dX6_readRow_83 : decode cX6_readRow 83 = .ok (.iadd, 1) := by decide +kernel
theorem dX6_readRow_84 : decode cX6_readRow 84 = .ok (.putfield 148, 3) := by decide +kernel
theorem dX6_readRow_87 : decode cX6_readRow 87 = .ok (.aload_n 0, 1) := by decide +kernel
theorem dX6_readRow_88 : decode cX6_readRow 88 = .ok (.invokevirtual 145, 3) := by decide +kernel
theorem dX6_readRow_91 : decode cX6_readRow 91 = .ok (.ireturn, 1) := by decide +kernel
theorem dX6_readFact_0 : decode cX6_readFact 0 = .ok (.aload_n 0, 1) := by decide +kernel
theorem dX6_readFact_1 : decode cX6_readFact 1 = .ok (.getfield 23, 3) := by decide +kernel
theorem dX6_readFact_4 : decode cX6_readFact 4 = .ok (.getfield 155, 3) := by decide +kernel
theorem dX6_readFact_7 : decode cX6_readFact 7 = .ok (.bipush 10, 2) := by decide +kernel
theorem dX6_readFact_9 : decode cX6_readFact 9 = .ok (.if_icmp .ne 9, 3) := by decide +kernel
theorem dX6_readFact_12 : decode cX6_readFact 12 = .ok (.aload_n 0, 1) := by decide +kernel
theorem dX6_readFact_13 : decode cX6_readFact 13 = .ok (.iconst 5, 1) := by decide +kernel
theorem dX6_readFact_14 : decode cX6_readFact 14 = .ok (.invokevirtual 95, 3) := by decide +kernel
theorem dX6_readFact_17 : decode cX6_readFact 17 = .ok (.ireturn, 1) := by decide +kernel
theorem dX6_readFact_18 : decode cX6_readFact 18 = .ok (.aload_n 0, 1) := by decide +kernel
theorem dX6_readFact_19 : decode cX6_readFact 19 = .ok (.invokevirtual 158, 3) := by decide +kernel
theorem dX6_readFact_22 : decode cX6_readFact 22 = .ok (.istore_n 1, 1) := by decide +kernel
theorem dX6_readFact_23 : decode cX6_readFact 23 = .ok (.iload_n 1, 1) := by decide +kernel
theorem dX6_readFact_24 : decode cX6_readFact 24 = .ok (.iconst (-1), 1) := by decide +kernel
theorem dX6_readFact_25 : decode cX6_readFact 25 = .ok (.if_icmp .eq 12, 3) := by decide +kernel
theorem dX6_readFact_28 : decode cX6_readFact 28 = .ok (.aload_n 0, 1) := by decide +kernel
theorem dX6_readFact_29 : decode cX6_readFact 29 = .ok (.ldc 121, 2) := by decide +kernel
theorem dX6_readFact_31 : decode cX6_readFact 31 = .ok (.invokevirtual 161, 3) := by decide +kernel
theorem dX6_readFact_34 : decode cX6_readFact 34 = .ok (.ifCond .ne 5, 3) := by decide +kernel
theorem dX6_readFact_37 : decode cX6_readFact 37 = .ok (.iconst 0, 1) := by decide +kernel
theorem dX6_readFact_38 : decode cX6_readFact 38 = .ok (.ireturn, 1) := by decide +kernel
theorem dX6_readFact_39 : decode cX6_readFact 39 = .ok (.aload_n 0, 1) := by decide +kernel
theorem dX6_readFact_40 : decode cX6_readFact 40 = .ok (.invokevirtual 164, 3) := by decide +kernel
theorem dX6_readFact_43 : decode cX6_readFact 43 = .ok (.istore_n 2, 1) := by decide +kernel
theorem dX6_readFact_44 : decode cX6_readFact 44 = .ok (.iload_n 2, 1) := by decide +kernel
theorem dX6_readFact_45 : decode cX6_readFact 45 = .ok (.iconst (-1), 1) := by decide +kernel
theorem dX6_readFact_46 : decode cX6_readFact 46 = .ok (.if_icmp .ne 5, 3) := by decide +kernel
theorem dX6_readFact_49 : decode cX6_readFact 49 = .ok (.iconst 0, 1) := by decide +kernel
theorem dX6_readFact_50 : decode cX6_readFact 50 = .ok (.ireturn, 1) := by decide +kernel
theorem dX6_readFact_51 : decode cX6_readFact 51 = .ok (.aload_n 0, 1) := by decide +kernel
theorem dX6_readFact_52 : decode cX6_readFact 52 = .ok (.invokevirtual 57, 3) := by decide +kernel
theorem dX6_readFact_55 : decode cX6_readFact 55 = .ok (.aload_n 0, 1) := by decide +kernel
theorem dX6_readFact_56 : decode cX6_readFact 56 = .ok (.ldc 167, 2) := by decide +kernel
theorem dX6_readFact_58 : decode cX6_readFact 58 = .ok (.invokevirtual 62, 3) := by decide +kernel
theorem dX6_readFact_61 : decode cX6_readFact 61 = .ok (.istore_n 3, 1) := by decide +kernel
theorem dX6_readFact_62 : decode cX6_readFact 62 = .ok (.iload_n 3, 1) := by decide +kernel
theorem dX6_readFact_63 : decode cX6_readFact 63 = .ok (.ifCond .eq 7, 3) := by decide +kernel
theorem dX6_readFact_66 : decode cX6_readFact 66 = .ok (.aload_n 0, 1) := by decide +kernel
theorem dX6_readFact_67 : decode cX6_readFact 67 = .ok (.invokevirtual 57, 3) := by decide +kernel
theorem dX6_readFact_70 : decode cX6_readFact 70 = .ok (.aload_n 0, 1) := by decide +kernel
theorem dX6_readFact_71 : decode cX6_readFact 71 = .ok (.getfield 23, 3) := by decide +kernel
theorem dX6_readFact_74 : decode cX6_readFact 74 = .ok (.iload_n 1, 1) := by decide +kernel
theorem dX6_readFact_75 : decode cX6_readFact 75 = .ok (.iload_n 2, 1) := by decide +kernel
theorem dX6_readFact_76 : decode cX6_readFact 76 = .ok (.iload_n 3, 1) := by decide +kernel
theorem dX6_readFact_77 : decode cX6_readFact 77 = .ok (.invokevirtual 169, 3) := by decide +kernel
theorem dX6_readFact_80 : decode cX6_readFact 80 = .ok (.aload_n 0, 1) := by decide +kernel
theorem dX6_readFact_81 : decode cX6_readFact 81 = .ok (.invokevirtual 145, 3) := by decide +kernel
theorem dX6_readFact_84 : decode cX6_readFact 84 = .ok (.ireturn, 1) := by decide +kernel
theorem dX6_readRule_0 : decode cX6_readRule 0 = .ok (.aload_n 0, 1) := by decide +kernel
theorem dX6_readRule_1 : decode cX6_readRule 1 = .ok (.getfield 23, 3) := by decide +kernel
theorem dX6_readRule_4 : decode cX6_readRule 4 = .ok (.getfield 173, 3) := by decide +kernel
theorem dX6_readRule_7 : decode cX6_readRule 7 = .ok (.bipush 10, 2) := by decide +kernel
theorem dX6_readRule_9 : decode cX6_readRule 9 = .ok (.if_icmp .ne 9, 3) := by decide +kernel
theorem dX6_readRule_12 : decode cX6_readRule 12 = .ok (.aload_n 0, 1) := by decide +kernel
theorem dX6_readRule_13 : decode cX6_readRule 13 = .ok (.iconst 5, 1) := by decide +kernel
theorem dX6_readRule_14 : decode cX6_readRule 14 = .ok (.invokevirtual 95, 3) := by decide +kernel
theorem dX6_readRule_17 : decode cX6_readRule 17 = .ok (.ireturn, 1) := by decide +kernel
theorem dX6_readRule_18 : decode cX6_readRule 18 = .ok (.aload_n 0, 1) := by decide +kernel
theorem dX6_readRule_19 : decode cX6_readRule 19 = .ok (.getfield 23, 3) := by decide +kernel
theorem dX6_readRule_22 : decode cX6_readRule 22 = .ok (.getfield 176, 3) := by decide +kernel
theorem dX6_readRule_25 : decode cX6_readRule 25 = .ok (.aload_n 0, 1) := by decide +kernel
theorem dX6_readRule_26 : decode cX6_readRule 26 = .ok (.getfield 23, 3) := by decide +kernel
theorem dX6_readRule_29 : decode cX6_readRule 29 = .ok (.getfield 173, 3) := by decide +kernel
theorem dX6_readRule_32 : decode cX6_readRule 32 = .ok (.aaload, 1) := by decide +kernel
theorem dX6_readRule_33 : decode cX6_readRule 33 = .ok (.astore_n 1, 1) := by decide +kernel
theorem dX6_readRule_34 : decode cX6_readRule 34 = .ok (.aload_n 1, 1) := by decide +kernel
theorem dX6_readRule_35 : decode cX6_readRule 35 = .ok (.invokevirtual 179, 3) := by decide +kernel
theorem dX6_readRule_38 : decode cX6_readRule 38 = .ok (.aload_n 1, 1) := by decide +kernel
theorem dX6_readRule_39 : decode cX6_readRule 39 = .ok (.aload_n 0, 1) := by decide +kernel
theorem dX6_readRule_40 : decode cX6_readRule 40 = .ok (.invokevirtual 158, 3) := by decide +kernel
theorem dX6_readRule_43 : decode cX6_readRule 43 = .ok (.putfield 182, 3) := by decide +kernel
theorem dX6_readRule_46 : decode cX6_readRule 46 = .ok (.aload_n 1, 1) := by decide +kernel
theorem dX6_readRule_47 : decode cX6_readRule 47 = .ok (.getfield 182, 3) := by decide +kernel
theorem dX6_readRule_50 : decode cX6_readRule 50 = .ok (.iconst (-1), 1) := by decide +kernel
theorem dX6_readRule_51 : decode cX6_readRule 51 = .ok (.if_icmp .ne 5, 3) := by decide +kernel
theorem dX6_readRule_54 : decode cX6_readRule 54 = .ok (.iconst 0, 1) := by decide +kernel
theorem dX6_readRule_55 : decode cX6_readRule 55 = .ok (.ireturn, 1) := by decide +kernel
theorem dX6_readRule_56 : decode cX6_readRule 56 = .ok (.aload_n 0, 1) := by decide +kernel
theorem dX6_readRule_57 : decode cX6_readRule 57 = .ok (.invokevirtual 57, 3) := by decide +kernel
theorem dX6_readRule_60 : decode cX6_readRule 60 = .ok (.aload_n 1, 1) := by decide +kernel
theorem dX6_readRule_61 : decode cX6_readRule 61 = .ok (.aload_n 0, 1) := by decide +kernel
theorem dX6_readRule_62 : decode cX6_readRule 62 = .ok (.ldc 184, 2) := by decide +kernel
theorem dX6_readRule_64 : decode cX6_readRule 64 = .ok (.invokevirtual 62, 3) := by decide +kernel
theorem dX6_readRule_67 : decode cX6_readRule 67 = .ok (.putfield 186, 3) := by decide +kernel
theorem dX6_readRule_70 : decode cX6_readRule 70 = .ok (.aload_n 1, 1) := by decide +kernel
theorem dX6_readRule_71 : decode cX6_readRule 71 = .ok (.getfield 186, 3) := by decide +kernel
theorem dX6_readRule_74 : decode cX6_readRule 74 = .ok (.ifCond .ne 18, 3) := by decide +kernel
theorem dX6_readRule_77 : decode cX6_readRule 77 = .ok (.aload_n 0, 1) := by decide +kernel
theorem dX6_readRule_78 : decode cX6_readRule 78 = .ok (.ldc 189, 2) := by decide +kernel
theorem dX6_readRule_80 : decode cX6_readRule 80 = .ok (.invokevirtual 62, 3) := by decide +kernel
theorem dX6_readRule_83 : decode cX6_readRule 83 = .ok (.ifCond .ne 9, 3) := by decide +kernel
theorem dX6_readRule_86 : decode cX6_readRule 86 = .ok (.aload_n 0, 1) := by decide +kernel
theorem dX6_readRule_87 : decode cX6_readRule 87 = .ok (.iconst 1, 1) := by decide +kernel
theorem dX6_readRule_88 : decode cX6_readRule 88 = .ok (.invokevirtual 95, 3) := by decide +kernel
theorem dX6_readRule_91 : decode cX6_readRule 91 = .ok (.ireturn, 1) := by decide +kernel
theorem dX6_readRule_92 : decode cX6_readRule 92 = .ok (.aload_n 0, 1) := by decide +kernel
theorem dX6_readRule_93 : decode cX6_readRule 93 = .ok (.ldc 122, 2) := by decide +kernel
theorem dX6_readRule_95 : decode cX6_readRule 95 = .ok (.invokevirtual 161, 3) := by decide +kernel
theorem dX6_readRule_98 : decode cX6_readRule 98 = .ok (.ifCond .eq 23, 3) := by decide +kernel
theorem dX6_readRule_101 : decode cX6_readRule 101 = .ok (.aload_n 0, 1) := by decide +kernel
theorem dX6_readRule_102 : decode cX6_readRule 102 = .ok (.aload_n 1, 1) := by decide +kernel
theorem dX6_readRule_103 : decode cX6_readRule 103 = .ok (.aload_n 1, 1) := by decide +kernel
theorem dX6_readRule_104 : decode cX6_readRule 104 = .ok (.getfield 186, 3) := by decide +kernel
theorem dX6_readRule_107 : decode cX6_readRule 107 = .ok (.ifCond .ne 7, 3) := by decide +kernel
theorem dX6_readRule_110 : decode cX6_readRule 110 = .ok (.iconst 1, 1) := by decide +kernel
theorem dX6_readRule_111 : decode cX6_readRule 111 = .ok (.goto 4, 3) := by decide +kernel
theorem dX6_readRule_114 : decode cX6_readRule 114 = .ok (.iconst 0, 1) := by decide +kernel
theorem dX6_readRule_115 : decode cX6_readRule 115 = .ok (.invokevirtual 191, 3) := by decide +kernel
theorem dX6_readRule_118 : decode cX6_readRule 118 = .ok (.ifCond .ne 5, 3) := by decide +kernel
theorem dX6_readRule_121 : decode cX6_readRule 121 = .ok (.iconst 0, 1) := by decide +kernel
theorem dX6_readRule_122 : decode cX6_readRule 122 = .ok (.ireturn, 1) := by decide +kernel
theorem dX6_readRule_123 : decode cX6_readRule 123 = .ok (.aload_n 0, 1) := by decide +kernel
theorem dX6_readRule_124 : decode cX6_readRule 124 = .ok (.ldc 121, 2) := by decide +kernel
theorem dX6_readRule_126 : decode cX6_readRule 126 = .ok (.invokevirtual 62, 3) := by decide +kernel
theorem dX6_readRule_129 : decode cX6_readRule 129 = .ok (.ifCond .eq 25, 3) := by decide +kernel
theorem dX6_readRule_132 : decode cX6_readRule 132 = .ok (.aload_n 1, 1) := by decide +kernel
theorem dX6_readRule_133 : decode cX6_readRule 133 = .ok (.aload_n 0, 1) := by decide +kernel
theorem dX6_readRule_134 : decode cX6_readRule 134 = .ok (.invokevirtual 164, 3) := by decide +kernel
theorem dX6_readRule_137 : decode cX6_readRule 137 = .ok (.putfield 195, 3) := by decide +kernel
theorem dX6_readRule_140 : decode cX6_readRule 140 = .ok (.aload_n 1, 1) := by decide +kernel
theorem dX6_readRule_141 : decode cX6_readRule 141 = .ok (.getfield 195, 3) := by decide +kernel
theorem dX6_readRule_144 : decode cX6_readRule 144 = .ok (.iconst (-1), 1) := by decide +kernel
theorem dX6_readRule_145 : decode cX6_readRule 145 = .ok (.if_icmp .ne 5, 3) := by decide +kernel
theorem dX6_readRule_148 : decode cX6_readRule 148 = .ok (.iconst 0, 1) := by decide +kernel
theorem dX6_readRule_149 : decode cX6_readRule 149 = .ok (.ireturn, 1) := by decide +kernel
theorem dX6_readRule_150 : decode cX6_readRule 150 = .ok (.aload_n 0, 1) := by decide +kernel
theorem dX6_readRule_151 : decode cX6_readRule 151 = .ok (.invokevirtual 57, 3) := by decide +kernel
theorem dX6_readRule_154 : decode cX6_readRule 154 = .ok (.aload_n 0, 1) := by decide +kernel
theorem dX6_readRule_155 : decode cX6_readRule 155 = .ok (.getfield 23, 3) := by decide +kernel
theorem dX6_readRule_158 : decode cX6_readRule 158 = .ok (.dup, 1) := by decide +kernel
theorem dX6_readRule_159 : decode cX6_readRule 159 = .ok (.getfield 173, 3) := by decide +kernel
theorem dX6_readRule_162 : decode cX6_readRule 162 = .ok (.iconst 1, 1) := by decide +kernel
theorem dX6_readRule_163 : decode cX6_readRule 163 = .ok (.iadd, 1) := by decide +kernel
theorem dX6_readRule_164 : decode cX6_readRule 164 = .ok (.putfield 173, 3) := by decide +kernel
theorem dX6_readRule_167 : decode cX6_readRule 167 = .ok (.aload_n 0, 1) := by decide +kernel
theorem dX6_readRule_168 : decode cX6_readRule 168 = .ok (.invokevirtual 145, 3) := by decide +kernel
theorem dX6_readRule_171 : decode cX6_readRule 171 = .ok (.ireturn, 1) := by decide +kernel
theorem dX6_readSend_0 : decode cX6_readSend 0 = .ok (.aload_n 0, 1) := by decide +kernel
theorem dX6_readSend_1 : decode cX6_readSend 1 = .ok (.getfield 23, 3) := by decide +kernel
theorem dX6_readSend_4 : decode cX6_readSend 4 = .ok (.getfield 198, 3) := by decide +kernel
theorem dX6_readSend_7 : decode cX6_readSend 7 = .ok (.bipush 6, 2) := by decide +kernel
theorem dX6_readSend_9 : decode cX6_readSend 9 = .ok (.if_icmp .ne 9, 3) := by decide +kernel
theorem dX6_readSend_12 : decode cX6_readSend 12 = .ok (.aload_n 0, 1) := by decide +kernel
theorem dX6_readSend_13 : decode cX6_readSend 13 = .ok (.iconst 5, 1) := by decide +kernel
theorem dX6_readSend_14 : decode cX6_readSend 14 = .ok (.invokevirtual 95, 3) := by decide +kernel
theorem dX6_readSend_17 : decode cX6_readSend 17 = .ok (.ireturn, 1) := by decide +kernel
theorem dX6_readSend_18 : decode cX6_readSend 18 = .ok (.aload_n 0, 1) := by decide +kernel
theorem dX6_readSend_19 : decode cX6_readSend 19 = .ok (.getfield 23, 3) := by decide +kernel
theorem dX6_readSend_22 : decode cX6_readSend 22 = .ok (.getfield 201, 3) := by decide +kernel
theorem dX6_readSend_25 : decode cX6_readSend 25 = .ok (.aload_n 0, 1) := by decide +kernel
theorem dX6_readSend_26 : decode cX6_readSend 26 = .ok (.getfield 23, 3) := by decide +kernel
theorem dX6_readSend_29 : decode cX6_readSend 29 = .ok (.getfield 198, 3) := by decide +kernel
theorem dX6_readSend_32 : decode cX6_readSend 32 = .ok (.aaload, 1) := by decide +kernel
theorem dX6_readSend_33 : decode cX6_readSend 33 = .ok (.astore_n 1, 1) := by decide +kernel
theorem dX6_readSend_34 : decode cX6_readSend 34 = .ok (.aload_n 1, 1) := by decide +kernel
theorem dX6_readSend_35 : decode cX6_readSend 35 = .ok (.invokevirtual 179, 3) := by decide +kernel
theorem dX6_readSend_38 : decode cX6_readSend 38 = .ok (.aload_n 1, 1) := by decide +kernel
theorem dX6_readSend_39 : decode cX6_readSend 39 = .ok (.aload_n 0, 1) := by decide +kernel
theorem dX6_readSend_40 : decode cX6_readSend 40 = .ok (.invokevirtual 158, 3) := by decide +kernel
theorem dX6_readSend_43 : decode cX6_readSend 43 = .ok (.putfield 182, 3) := by decide +kernel
theorem dX6_readSend_46 : decode cX6_readSend 46 = .ok (.aload_n 1, 1) := by decide +kernel
theorem dX6_readSend_47 : decode cX6_readSend 47 = .ok (.getfield 182, 3) := by decide +kernel
theorem dX6_readSend_50 : decode cX6_readSend 50 = .ok (.iconst (-1), 1) := by decide +kernel
theorem dX6_readSend_51 : decode cX6_readSend 51 = .ok (.if_icmp .eq 12, 3) := by decide +kernel
theorem dX6_readSend_54 : decode cX6_readSend 54 = .ok (.aload_n 0, 1) := by decide +kernel
theorem dX6_readSend_55 : decode cX6_readSend 55 = .ok (.ldc 203, 2) := by decide +kernel
theorem dX6_readSend_57 : decode cX6_readSend 57 = .ok (.invokevirtual 161, 3) := by decide +kernel
theorem dX6_readSend_60 : decode cX6_readSend 60 = .ok (.ifCond .ne 5, 3) := by decide +kernel
theorem dX6_readSend_63 : decode cX6_readSend 63 = .ok (.iconst 0, 1) := by decide +kernel
theorem dX6_readSend_64 : decode cX6_readSend 64 = .ok (.ireturn, 1) := by decide +kernel
theorem dX6_readSend_65 : decode cX6_readSend 65 = .ok (.aload_n 1, 1) := by decide +kernel
theorem dX6_readSend_66 : decode cX6_readSend 66 = .ok (.aload_n 0, 1) := by decide +kernel
theorem dX6_readSend_67 : decode cX6_readSend 67 = .ok (.invokevirtual 164, 3) := by decide +kernel
theorem dX6_readSend_70 : decode cX6_readSend 70 = .ok (.putfield 205, 3) := by decide +kernel
theorem dX6_readSend_73 : decode cX6_readSend 73 = .ok (.aload_n 1, 1) := by decide +kernel
theorem dX6_readSend_74 : decode cX6_readSend 74 = .ok (.getfield 205, 3) := by decide +kernel
theorem dX6_readSend_77 : decode cX6_readSend 77 = .ok (.iconst (-1), 1) := by decide +kernel
theorem dX6_readSend_78 : decode cX6_readSend 78 = .ok (.if_icmp .eq 21, 3) := by decide +kernel
theorem dX6_readSend_81 : decode cX6_readSend 81 = .ok (.aload_n 0, 1) := by decide +kernel
theorem dX6_readSend_82 : decode cX6_readSend 82 = .ok (.ldc 122, 2) := by decide +kernel
theorem dX6_readSend_84 : decode cX6_readSend 84 = .ok (.invokevirtual 161, 3) := by decide +kernel
theorem dX6_readSend_87 : decode cX6_readSend 87 = .ok (.ifCond .eq 12, 3) := by decide +kernel
theorem dX6_readSend_90 : decode cX6_readSend 90 = .ok (.aload_n 0, 1) := by decide +kernel
theorem dX6_readSend_91 : decode cX6_readSend 91 = .ok (.aload_n 1, 1) := by decide +kernel
theorem dX6_readSend_92 : decode cX6_readSend 92 = .ok (.iconst 1, 1) := by decide +kernel
theorem dX6_readSend_93 : decode cX6_readSend 93 = .ok (.invokevirtual 191, 3) := by decide +kernel
theorem dX6_readSend_96 : decode cX6_readSend 96 = .ok (.ifCond .ne 5, 3) := by decide +kernel
theorem dX6_readSend_99 : decode cX6_readSend 99 = .ok (.iconst 0, 1) := by decide +kernel
theorem dX6_readSend_100 : decode cX6_readSend 100 = .ok (.ireturn, 1) := by decide +kernel
theorem dX6_readSend_101 : decode cX6_readSend 101 = .ok (.aload_n 0, 1) := by decide +kernel
theorem dX6_readSend_102 : decode cX6_readSend 102 = .ok (.ldc 121, 2) := by decide +kernel
theorem dX6_readSend_104 : decode cX6_readSend 104 = .ok (.invokevirtual 62, 3) := by decide +kernel
theorem dX6_readSend_107 : decode cX6_readSend 107 = .ok (.ifCond .ne 9, 3) := by decide +kernel
theorem dX6_readSend_110 : decode cX6_readSend 110 = .ok (.aload_n 0, 1) := by decide +kernel
theorem dX6_readSend_111 : decode cX6_readSend 111 = .ok (.iconst 1, 1) := by decide +kernel
theorem dX6_readSend_112 : decode cX6_readSend 112 = .ok (.invokevirtual 95, 3) := by decide +kernel
theorem dX6_readSend_115 : decode cX6_readSend 115 = .ok (.ireturn, 1) := by decide +kernel
theorem dX6_readSend_116 : decode cX6_readSend 116 = .ok (.aload_n 1, 1) := by decide +kernel
theorem dX6_readSend_117 : decode cX6_readSend 117 = .ok (.aload_n 0, 1) := by decide +kernel
theorem dX6_readSend_118 : decode cX6_readSend 118 = .ok (.invokevirtual 164, 3) := by decide +kernel
theorem dX6_readSend_121 : decode cX6_readSend 121 = .ok (.putfield 195, 3) := by decide +kernel
theorem dX6_readSend_124 : decode cX6_readSend 124 = .ok (.aload_n 1, 1) := by decide +kernel
theorem dX6_readSend_125 : decode cX6_readSend 125 = .ok (.getfield 195, 3) := by decide +kernel
theorem dX6_readSend_128 : decode cX6_readSend 128 = .ok (.iconst (-1), 1) := by decide +kernel
theorem dX6_readSend_129 : decode cX6_readSend 129 = .ok (.if_icmp .ne 5, 3) := by decide +kernel
theorem dX6_readSend_132 : decode cX6_readSend 132 = .ok (.iconst 0, 1) := by decide +kernel
theorem dX6_readSend_133 : decode cX6_readSend 133 = .ok (.ireturn, 1) := by decide +kernel
theorem dX6_readSend_134 : decode cX6_readSend 134 = .ok (.aload_n 1, 1) := by decide +kernel
theorem dX6_readSend_135 : decode cX6_readSend 135 = .ok (.getfield 195, 3) := by decide +kernel
theorem dX6_readSend_138 : decode cX6_readSend 138 = .ok (.aload_n 1, 1) := by decide +kernel
theorem dX6_readSend_139 : decode cX6_readSend 139 = .ok (.getfield 205, 3) := by decide +kernel
theorem dX6_readSend_142 : decode cX6_readSend 142 = .ok (.if_icmp .ne 9, 3) := by decide +kernel
theorem dX6_readSend_145 : decode cX6_readSend 145 = .ok (.aload_n 0, 1) := by decide +kernel
theorem dX6_readSend_146 : decode cX6_readSend 146 = .ok (.iconst 3, 1) := by decide +kernel
theorem dX6_readSend_147 : decode cX6_readSend 147 = .ok (.invokevirtual 95, 3) := by decide +kernel
theorem dX6_readSend_150 : decode cX6_readSend 150 = .ok (.ireturn, 1) := by decide +kernel
theorem dX6_readSend_151 : decode cX6_readSend 151 = .ok (.aload_n 0, 1) := by decide +kernel
theorem dX6_readSend_152 : decode cX6_readSend 152 = .ok (.getfield 23, 3) := by decide +kernel
theorem dX6_readSend_155 : decode cX6_readSend 155 = .ok (.dup, 1) := by decide +kernel
theorem dX6_readSend_156 : decode cX6_readSend 156 = .ok (.getfield 198, 3) := by decide +kernel
theorem dX6_readSend_159 : decode cX6_readSend 159 = .ok (.iconst 1, 1) := by decide +kernel
theorem dX6_readSend_160 : decode cX6_readSend 160 = .ok (.iadd, 1) := by decide +kernel
theorem dX6_readSend_161 : decode cX6_readSend 161 = .ok (.putfield 198, 3) := by decide +kernel
theorem dX6_readSend_164 : decode cX6_readSend 164 = .ok (.aload_n 0, 1) := by decide +kernel
theorem dX6_readSend_165 : decode cX6_readSend 165 = .ok (.invokevirtual 57, 3) := by decide +kernel
theorem dX6_readSend_168 : decode cX6_readSend 168 = .ok (.aload_n 0, 1) := by decide +kernel
theorem dX6_readSend_169 : decode cX6_readSend 169 = .ok (.invokevirtual 145, 3) := by decide +kernel
theorem dX6_readSend_172 : decode cX6_readSend 172 = .ok (.ireturn, 1) := by decide +kernel
theorem dX6_readCases_0 : decode cX6_readCases 0 = .ok (.iconst 0, 1) := by decide +kernel
theorem dX6_readCases_1 : decode cX6_readCases 1 = .ok (.istore_n 3, 1) := by decide +kernel
theorem dX6_readCases_2 : decode cX6_readCases 2 = .ok (.iload_n 3, 1) := by decide +kernel
theorem dX6_readCases_3 : decode cX6_readCases 3 = .ok (.iconst 3, 1) := by decide +kernel
theorem dX6_readCases_4 : decode cX6_readCases 4 = .ok (.if_icmp .gt 106, 3) := by decide +kernel
theorem dX6_readCases_7 : decode cX6_readCases 7 = .ok (.aload_n 0, 1) := by decide +kernel
theorem dX6_readCases_8 : decode cX6_readCases 8 = .ok (.invokevirtual 57, 3) := by decide +kernel
theorem dX6_readCases_11 : decode cX6_readCases 11 = .ok (.iload_n 2, 1) := by decide +kernel
theorem dX6_readCases_12 : decode cX6_readCases 12 = .ok (.ifCond .eq 16, 3) := by decide +kernel
theorem dX6_readCases_15 : decode cX6_readCases 15 = .ok (.aload_n 0, 1) := by decide +kernel
theorem dX6_readCases_16 : decode cX6_readCases 16 = .ok (.ldc 115, 2) := by decide +kernel
theorem dX6_readCases_18 : decode cX6_readCases 18 = .ok (.invokevirtual 62, 3) := by decide +kernel
theorem dX6_readCases_21 : decode cX6_readCases 21 = .ok (.ifCond .eq 7, 3) := by decide +kernel
theorem dX6_readCases_24 : decode cX6_readCases 24 = .ok (.iconst 1, 1) := by decide +kernel
theorem dX6_readCases_25 : decode cX6_readCases 25 = .ok (.goto 4, 3) := by decide +kernel
theorem dX6_readCases_28 : decode cX6_readCases 28 = .ok (.iconst 0, 1) := by decide +kernel
theorem dX6_readCases_29 : decode cX6_readCases 29 = .ok (.istore 4, 2) := by decide +kernel
theorem dX6_readCases_31 : decode cX6_readCases 31 = .ok (.iload 4, 2) := by decide +kernel
theorem dX6_readCases_33 : decode cX6_readCases 33 = .ok (.ifCond .eq 14, 3) := by decide +kernel
theorem dX6_readCases_36 : decode cX6_readCases 36 = .ok (.iload_n 3, 1) := by decide +kernel
theorem dX6_readCases_37 : decode cX6_readCases 37 = .ok (.iconst 3, 1) := by decide +kernel
theorem dX6_readCases_38 : decode cX6_readCases 38 = .ok (.if_icmp .ne 9, 3) := by decide +kernel
theorem dX6_readCases_41 : decode cX6_readCases 41 = .ok (.aload_n 0, 1) := by decide +kernel
theorem dX6_readCases_42 : decode cX6_readCases 42 = .ok (.iconst 5, 1) := by decide +kernel
theorem dX6_readCases_43 : decode cX6_readCases 43 = .ok (.invokevirtual 95, 3) := by decide +kernel
theorem dX6_readCases_46 : decode cX6_readCases 46 = .ok (.ireturn, 1) := by decide +kernel
theorem dX6_readCases_47 : decode cX6_readCases 47 = .ok (.iload 4, 2) := by decide +kernel
theorem dX6_readCases_49 : decode cX6_readCases 49 = .ok (.ifCond .eq 7, 3) := by decide +kernel
theorem dX6_readCases_52 : decode cX6_readCases 52 = .ok (.aload_n 0, 1) := by decide +kernel
theorem dX6_readCases_53 : decode cX6_readCases 53 = .ok (.invokevirtual 57, 3) := by decide +kernel
theorem dX6_readCases_56 : decode cX6_readCases 56 = .ok (.aload_n 0, 1) := by decide +kernel
theorem dX6_readCases_57 : decode cX6_readCases 57 = .ok (.invokevirtual 136, 3) := by decide +kernel
theorem dX6_readCases_60 : decode cX6_readCases 60 = .ok (.istore 5, 2) := by decide +kernel
theorem dX6_readCases_62 : decode cX6_readCases 62 = .ok (.iload 5, 2) := by decide +kernel
theorem dX6_readCases_64 : decode cX6_readCases 64 = .ok (.iconst (-1), 1) := by decide +kernel
theorem dX6_readCases_65 : decode cX6_readCases 65 = .ok (.if_icmp .ne 5, 3) := by decide +kernel
theorem dX6_readCases_68 : decode cX6_readCases 68 = .ok (.iconst 0, 1) := by decide +kernel
theorem dX6_readCases_69 : decode cX6_readCases 69 = .ok (.ireturn, 1) := by decide +kernel
theorem dX6_readCases_70 : decode cX6_readCases 70 = .ok (.iload_n 3, 1) := by decide +kernel
theorem dX6_readCases_71 : decode cX6_readCases 71 = .ok (.iconst 3, 1) := by decide +kernel
theorem dX6_readCases_72 : decode cX6_readCases 72 = .ok (.if_icmp .ne 9, 3) := by decide +kernel
theorem dX6_readCases_75 : decode cX6_readCases 75 = .ok (.aload_n 0, 1) := by decide +kernel
theorem dX6_readCases_76 : decode cX6_readCases 76 = .ok (.iconst 5, 1) := by decide +kernel
theorem dX6_readCases_77 : decode cX6_readCases 77 = .ok (.invokevirtual 95, 3) := by decide +kernel
theorem dX6_readCases_80 : decode cX6_readCases 80 = .ok (.ireturn, 1) := by decide +kernel
theorem dX6_readCases_81 : decode cX6_readCases 81 = .ok (.aload_n 1, 1) := by decide +kernel
theorem dX6_readCases_82 : decode cX6_readCases 82 = .ok (.iload 5, 2) := by decide +kernel
theorem dX6_readCases_84 : decode cX6_readCases 84 = .ok (.iload 4, 2) := by decide +kernel
theorem dX6_readCases_86 : decode cX6_readCases 86 = .ok (.invokevirtual 208, 3) := by decide +kernel
theorem dX6_readCases_89 : decode cX6_readCases 89 = .ok (.aload_n 0, 1) := by decide +kernel
theorem dX6_readCases_90 : decode cX6_readCases 90 = .ok (.invokevirtual 57, 3) := by decide +kernel
theorem dX6_readCases_93 : decode cX6_readCases 93 = .ok (.aload_n 0, 1) := by decide +kernel
theorem dX6_readCases_94 : decode cX6_readCases 94 = .ok (.ldc 117, 2) := by decide +kernel
theorem dX6_readCases_96 : decode cX6_readCases 96 = .ok (.invokevirtual 62, 3) := by decide +kernel
theorem dX6_readCases_99 : decode cX6_readCases 99 = .ok (.ifCond .ne 5, 3) := by decide +kernel
theorem dX6_readCases_102 : decode cX6_readCases 102 = .ok (.iconst 1, 1) := by decide +kernel
theorem dX6_readCases_103 : decode cX6_readCases 103 = .ok (.ireturn, 1) := by decide +kernel
theorem dX6_readCases_104 : decode cX6_readCases 104 = .ok (.iinc 3 1, 3) := by decide +kernel
theorem dX6_readCases_107 : decode cX6_readCases 107 = .ok (.goto (-105), 3) := by decide +kernel
theorem dX6_readCases_110 : decode cX6_readCases 110 = .ok (.aload_n 0, 1) := by decide +kernel
theorem dX6_readCases_111 : decode cX6_readCases 111 = .ok (.iconst 5, 1) := by decide +kernel
theorem dX6_readCases_112 : decode cX6_readCases 112 = .ok (.invokevirtual 95, 3) := by decide +kernel
theorem dX6_readCases_115 : decode cX6_readCases 115 = .ok (.ireturn, 1) := by decide +kernel
theorem dX6_readPromise_0 : decode cX6_readPromise 0 = .ok (.aload_n 0, 1) := by decide +kernel
theorem dX6_readPromise_1 : decode cX6_readPromise 1 = .ok (.getfield 23, 3) := by decide +kernel
theorem dX6_readPromise_4 : decode cX6_readPromise 4 = .ok (.aload_n 0, 1) := by decide +kernel
theorem dX6_readPromise_5 : decode cX6_readPromise 5 = .ok (.aload_n 0, 1) := by decide +kernel
theorem dX6_readPromise_6 : decode cX6_readPromise 6 = .ok (.getfield 23, 3) := by decide +kernel
theorem dX6_readPromise_9 : decode cX6_readPromise 9 = .ok (.getfield 212, 3) := by decide +kernel
theorem dX6_readPromise_12 : decode cX6_readPromise 12 = .ok (.ldc 117, 2) := by decide +kernel
theorem dX6_readPromise_14 : decode cX6_readPromise 14 = .ok (.invokevirtual 215, 3) := by decide +kernel
theorem dX6_readPromise_17 : decode cX6_readPromise 17 = .ok (.putfield 219, 3) := by decide +kernel
theorem dX6_readPromise_20 : decode cX6_readPromise 20 = .ok (.aload_n 0, 1) := by decide +kernel
theorem dX6_readPromise_21 : decode cX6_readPromise 21 = .ok (.getfield 23, 3) := by decide +kernel
theorem dX6_readPromise_24 : decode cX6_readPromise 24 = .ok (.getfield 219, 3) := by decide +kernel
theorem dX6_readPromise_27 : decode cX6_readPromise 27 = .ok (.iconst (-1), 1) := by decide +kernel
theorem dX6_readPromise_28 : decode cX6_readPromise 28 = .ok (.if_icmp .ne 5, 3) := by decide +kernel
theorem dX6_readPromise_31 : decode cX6_readPromise 31 = .ok (.iconst 0, 1) := by decide +kernel
theorem dX6_readPromise_32 : decode cX6_readPromise 32 = .ok (.ireturn, 1) := by decide +kernel
theorem dX6_readPromise_33 : decode cX6_readPromise 33 = .ok (.aload_n 0, 1) := by decide +kernel
theorem dX6_readPromise_34 : decode cX6_readPromise 34 = .ok (.ldc 222, 2) := by decide +kernel
theorem dX6_readPromise_36 : decode cX6_readPromise 36 = .ok (.invokevirtual 62, 3) := by decide +kernel
theorem dX6_readPromise_39 : decode cX6_readPromise 39 = .ok (.ifCond .ne 9, 3) := by decide +kernel
theorem dX6_readPromise_42 : decode cX6_readPromise 42 = .ok (.aload_n 0, 1) := by decide +kernel
theorem dX6_readPromise_43 : decode cX6_readPromise 43 = .ok (.iconst 1, 1) := by decide +kernel
theorem dX6_readPromise_44 : decode cX6_readPromise 44 = .ok (.invokevirtual 95, 3) := by decide +kernel
theorem dX6_readPromise_47 : decode cX6_readPromise 47 = .ok (.ireturn, 1) := by decide +kernel
theorem dX6_readPromise_48 : decode cX6_readPromise 48 = .ok (.aload_n 0, 1) := by decide +kernel
theorem dX6_readPromise_49 : decode cX6_readPromise 49 = .ok (.getfield 23, 3) := by decide +kernel
theorem dX6_readPromise_52 : decode cX6_readPromise 52 = .ok (.aload_n 0, 1) := by decide +kernel
theorem dX6_readPromise_53 : decode cX6_readPromise 53 = .ok (.aload_n 0, 1) := by decide +kernel
theorem dX6_readPromise_54 : decode cX6_readPromise 54 = .ok (.getfield 23, 3) := by decide +kernel
theorem dX6_readPromise_57 : decode cX6_readPromise 57 = .ok (.getfield 224, 3) := by decide +kernel
theorem dX6_readPromise_60 : decode cX6_readPromise 60 = .ok (.ldc 119, 2) := by decide +kernel
theorem dX6_readPromise_62 : decode cX6_readPromise 62 = .ok (.invokevirtual 215, 3) := by decide +kernel
theorem dX6_readPromise_65 : decode cX6_readPromise 65 = .ok (.putfield 227, 3) := by decide +kernel
theorem dX6_readPromise_68 : decode cX6_readPromise 68 = .ok (.aload_n 0, 1) := by decide +kernel
theorem dX6_readPromise_69 : decode cX6_readPromise 69 = .ok (.getfield 23, 3) := by decide +kernel
theorem dX6_readPromise_72 : decode cX6_readPromise 72 = .ok (.getfield 227, 3) := by decide +kernel
theorem dX6_readPromise_75 : decode cX6_readPromise 75 = .ok (.iconst (-1), 1) := by decide +kernel
theorem dX6_readPromise_76 : decode cX6_readPromise 76 = .ok (.if_icmp .ne 5, 3) := by decide +kernel
theorem dX6_readPromise_79 : decode cX6_readPromise 79 = .ok (.iconst 0, 1) := by decide +kernel
theorem dX6_readPromise_80 : decode cX6_readPromise 80 = .ok (.ireturn, 1) := by decide +kernel
theorem dX6_readPromise_81 : decode cX6_readPromise 81 = .ok (.aload_n 0, 1) := by decide +kernel
theorem dX6_readPromise_82 : decode cX6_readPromise 82 = .ok (.getfield 102, 3) := by decide +kernel
theorem dX6_readPromise_85 : decode cX6_readPromise 85 = .ok (.ifCond .eq 11, 3) := by decide +kernel
theorem dX6_readPromise_88 : decode cX6_readPromise 88 = .ok (.aload_n 0, 1) := by decide +kernel
theorem dX6_readPromise_89 : decode cX6_readPromise 89 = .ok (.iconst 1, 1) := by decide +kernel
theorem dX6_readPromise_90 : decode cX6_readPromise 90 = .ok (.invokevirtual 95, 3) := by decide +kernel
theorem dX6_readPromise_93 : decode cX6_readPromise 93 = .ok (.ifCond .eq 7, 3) := by decide +kernel
theorem dX6_readPromise_96 : decode cX6_readPromise 96 = .ok (.iconst 1, 1) := by decide +kernel
theorem dX6_readPromise_97 : decode cX6_readPromise 97 = .ok (.goto 4, 3) := by decide +kernel
theorem dX6_readPromise_100 : decode cX6_readPromise 100 = .ok (.iconst 0, 1) := by decide +kernel
theorem dX6_readPromise_101 : decode cX6_readPromise 101 = .ok (.ireturn, 1) := by decide +kernel
theorem dX6_readPlaces_0 : decode cX6_readPlaces 0 = .ok (.iconst 0, 1) := by decide +kernel
theorem dX6_readPlaces_1 : decode cX6_readPlaces 1 = .ok (.istore_n 3, 1) := by decide +kernel
theorem dX6_readPlaces_2 : decode cX6_readPlaces 2 = .ok (.iload_n 3, 1) := by decide +kernel
theorem dX6_readPlaces_3 : decode cX6_readPlaces 3 = .ok (.iconst 3, 1) := by decide +kernel
theorem dX6_readPlaces_4 : decode cX6_readPlaces 4 = .ok (.if_icmp .gt 100, 3) := by decide +kernel
theorem dX6_readPlaces_7 : decode cX6_readPlaces 7 = .ok (.aload_n 0, 1) := by decide +kernel
theorem dX6_readPlaces_8 : decode cX6_readPlaces 8 = .ok (.invokevirtual 57, 3) := by decide +kernel
theorem dX6_readPlaces_11 : decode cX6_readPlaces 11 = .ok (.aload_n 0, 1) := by decide +kernel
theorem dX6_readPlaces_12 : decode cX6_readPlaces 12 = .ok (.invokevirtual 136, 3) := by decide +kernel
theorem dX6_readPlaces_15 : decode cX6_readPlaces 15 = .ok (.istore 4, 2) := by decide +kernel
theorem dX6_readPlaces_17 : decode cX6_readPlaces 17 = .ok (.iload 4, 2) := by decide +kernel
theorem dX6_readPlaces_19 : decode cX6_readPlaces 19 = .ok (.iconst (-1), 1) := by decide +kernel
theorem dX6_readPlaces_20 : decode cX6_readPlaces 20 = .ok (.if_icmp .ne 5, 3) := by decide +kernel
theorem dX6_readPlaces_23 : decode cX6_readPlaces 23 = .ok (.iconst (-1), 1) := by decide +kernel
theorem dX6_readPlaces_24 : decode cX6_readPlaces 24 = .ok (.ireturn, 1) := by decide +kernel
theorem dX6_readPlaces_25 : decode cX6_readPlaces 25 = .ok (.iload_n 3, 1) := by decide +kernel
theorem dX6_readPlaces_26 : decode cX6_readPlaces 26 = .ok (.iconst 3, 1) := by decide +kernel
theorem dX6_readPlaces_27 : decode cX6_readPlaces 27 = .ok (.if_icmp .ge 9, 3) := by decide +kernel
theorem dX6_readPlaces_30 : decode cX6_readPlaces 30 = .ok (.iload_n 3, 1) := by decide +kernel
theorem dX6_readPlaces_31 : decode cX6_readPlaces 31 = .ok (.aload_n 1, 1) := by decide +kernel
theorem dX6_readPlaces_32 : decode cX6_readPlaces 32 = .ok (.arraylength, 1) := by decide +kernel
theorem dX6_readPlaces_33 : decode cX6_readPlaces 33 = .ok (.if_icmp .lt 11, 3) := by decide +kernel
theorem dX6_readPlaces_36 : decode cX6_readPlaces 36 = .ok (.aload_n 0, 1) := by decide +kernel
theorem dX6_readPlaces_37 : decode cX6_readPlaces 37 = .ok (.iconst 5, 1) := by decide +kernel
theorem dX6_readPlaces_38 : decode cX6_readPlaces 38 = .ok (.invokevirtual 95, 3) := by decide +kernel
theorem dX6_readPlaces_41 : decode cX6_readPlaces 41 = .ok (.pop, 1) := by decide +kernel
theorem dX6_readPlaces_42 : decode cX6_readPlaces 42 = .ok (.iconst (-1), 1) := by decide +kernel
theorem dX6_readPlaces_43 : decode cX6_readPlaces 43 = .ok (.ireturn, 1) := by decide +kernel
theorem dX6_readPlaces_44 : decode cX6_readPlaces 44 = .ok (.aload_n 0, 1) := by decide +kernel
theorem dX6_readPlaces_45 : decode cX6_readPlaces 45 = .ok (.ldc 121, 2) := by decide +kernel
theorem dX6_readPlaces_47 : decode cX6_readPlaces 47 = .ok (.invokevirtual 161, 3) := by decide +kernel
theorem dX6_readPlaces_50 : decode cX6_readPlaces 50 = .ok (.ifCond .eq 10, 3) := by decide +kernel
theorem dX6_readPlaces_53 : decode cX6_readPlaces 53 = .ok (.aload_n 0, 1) := by decide +kernel
theorem dX6_readPlaces_54 : decode cX6_readPlaces 54 = .ok (.invokevirtual 164, 3) := by decide +kernel
theorem dX6_readPlaces_57 : decode cX6_readPlaces 57 = .ok (.goto 4, 3) := by decide +kernel
theorem dX6_readPlaces_60 : decode cX6_readPlaces 60 = .ok (.iconst (-1), 1) := by decide +kernel
theorem dX6_readPlaces_61 : decode cX6_readPlaces 61 = .ok (.istore 5, 2) := by decide +kernel
theorem dX6_readPlaces_63 : decode cX6_readPlaces 63 = .ok (.iload 5, 2) := by decide +kernel
theorem dX6_readPlaces_65 : decode cX6_readPlaces 65 = .ok (.iconst (-1), 1) := by decide +kernel
theorem dX6_readPlaces_66 : decode cX6_readPlaces 66 = .ok (.if_icmp .ne 5, 3) := by decide +kernel
theorem dX6_readPlaces_69 : decode cX6_readPlaces 69 = .ok (.iconst (-1), 1) := by decide +kernel
theorem dX6_readPlaces_70 : decode cX6_readPlaces 70 = .ok (.ireturn, 1) := by decide +kernel
theorem dX6_readPlaces_71 : decode cX6_readPlaces 71 = .ok (.aload_n 1, 1) := by decide +kernel
theorem dX6_readPlaces_72 : decode cX6_readPlaces 72 = .ok (.iload_n 3, 1) := by decide +kernel
theorem dX6_readPlaces_73 : decode cX6_readPlaces 73 = .ok (.iload 5, 2) := by decide +kernel
theorem dX6_readPlaces_75 : decode cX6_readPlaces 75 = .ok (.bipush 10, 2) := by decide +kernel
theorem dX6_readPlaces_77 : decode cX6_readPlaces 77 = .ok (.imul, 1) := by decide +kernel
theorem dX6_readPlaces_78 : decode cX6_readPlaces 78 = .ok (.iload 4, 2) := by decide +kernel
theorem dX6_readPlaces_80 : decode cX6_readPlaces 80 = .ok (.iadd, 1) := by decide +kernel
theorem dX6_readPlaces_81 : decode cX6_readPlaces 81 = .ok (.iastore, 1) := by decide +kernel
theorem dX6_readPlaces_82 : decode cX6_readPlaces 82 = .ok (.aload_n 0, 1) := by decide +kernel
theorem dX6_readPlaces_83 : decode cX6_readPlaces 83 = .ok (.invokevirtual 57, 3) := by decide +kernel
theorem dX6_readPlaces_86 : decode cX6_readPlaces 86 = .ok (.aload_n 0, 1) := by decide +kernel
theorem dX6_readPlaces_87 : decode cX6_readPlaces 87 = .ok (.aload_n 2, 1) := by decide +kernel
theorem dX6_readPlaces_88 : decode cX6_readPlaces 88 = .ok (.invokevirtual 62, 3) := by decide +kernel
theorem dX6_readPlaces_91 : decode cX6_readPlaces 91 = .ok (.ifCond .ne 7, 3) := by decide +kernel
theorem dX6_readPlaces_94 : decode cX6_readPlaces 94 = .ok (.iload_n 3, 1) := by decide +kernel
theorem dX6_readPlaces_95 : decode cX6_readPlaces 95 = .ok (.iconst 1, 1) := by decide +kernel
theorem dX6_readPlaces_96 : decode cX6_readPlaces 96 = .ok (.iadd, 1) := by decide +kernel
theorem dX6_readPlaces_97 : decode cX6_readPlaces 97 = .ok (.ireturn, 1) := by decide +kernel
theorem dX6_readPlaces_98 : decode cX6_readPlaces 98 = .ok (.iinc 3 1, 3) := by decide +kernel
theorem dX6_readPlaces_101 : decode cX6_readPlaces 101 = .ok (.goto (-99), 3) := by decide +kernel
theorem dX6_readPlaces_104 : decode cX6_readPlaces 104 = .ok (.iconst (-1), 1) := by decide +kernel
theorem dX6_readPlaces_105 : decode cX6_readPlaces 105 = .ok (.ireturn, 1) := by decide +kernel
theorem dX7_init_0 : decode cX7_init 0 = .ok (.aload_n 0, 1) := by decide +kernel
theorem dX7_init_1 : decode cX7_init 1 = .ok (.invokespecial 3, 3) := by decide +kernel
theorem dX7_init_4 : decode cX7_init 4 = .ok (.aload_n 0, 1) := by decide +kernel
theorem dX7_init_5 : decode cX7_init 5 = .ok (.sipush 280, 3) := by decide +kernel
theorem dX7_init_8 : decode cX7_init 8 = .ok (.newarray .long, 2) := by decide +kernel
theorem dX7_init_10 : decode cX7_init 10 = .ok (.putfield 9, 3) := by decide +kernel
theorem dX7_init_13 : decode cX7_init 13 = .ok (.aload_n 0, 1) := by decide +kernel
theorem dX7_init_14 : decode cX7_init 14 = .ok (.aload_n 1, 1) := by decide +kernel
theorem dX7_init_15 : decode cX7_init 15 = .ok (.putfield 15, 3) := by decide +kernel
theorem dX7_init_18 : decode cX7_init 18 = .ok (.aload_n 0, 1) := by decide +kernel
theorem dX7_init_19 : decode cX7_init 19 = .ok (.aload_n 1, 1) := by decide +kernel
theorem dX7_init_20 : decode cX7_init 20 = .ok (.getfield 19, 3) := by decide +kernel
theorem dX7_init_23 : decode cX7_init 23 = .ok (.putfield 25, 3) := by decide +kernel
theorem dX7_init_26 : decode cX7_init 26 = .ok (.aload_n 0, 1) := by decide +kernel
theorem dX7_init_27 : decode cX7_init 27 = .ok (.aload_n 2, 1) := by decide +kernel
theorem dX7_init_28 : decode cX7_init 28 = .ok (.putfield 26, 3) := by decide +kernel
theorem dX7_init_31 : decode cX7_init 31 = .ok (.aload_n 0, 1) := by decide +kernel
theorem dX7_init_32 : decode cX7_init 32 = .ok (.aload_n 3, 1) := by decide +kernel
theorem dX7_init_33 : decode cX7_init 33 = .ok (.putfield 30, 3) := by decide +kernel
theorem dX7_init_36 : decode cX7_init 36 = .ok (.return_, 1) := by decide +kernel
theorem dX7_spoiledLanes_0 : decode cX7_spoiledLanes 0 = .ok (.aload_n 0, 1) := by decide +kernel
theorem dX7_spoiledLanes_1 : decode cX7_spoiledLanes 1 = .ok (.aload_n 1, 1) := by decide +kernel
theorem dX7_spoiledLanes_2 : decode cX7_spoiledLanes 2 = .ok (.putfield 15, 3) := by decide +kernel
theorem dX7_spoiledLanes_5 : decode cX7_spoiledLanes 5 = .ok (.aload_n 0, 1) := by decide +kernel
theorem dX7_spoiledLanes_6 : decode cX7_spoiledLanes 6 = .ok (.aload_n 1, 1) := by decide +kernel
theorem dX7_spoiledLanes_7 : decode cX7_spoiledLanes 7 = .ok (.getfield 19, 3) := by decide +kernel
theorem dX7_spoiledLanes_10 : decode cX7_spoiledLanes 10 = .ok (.putfield 25, 3) := by decide +kernel
theorem dX7_spoiledLanes_13 : decode cX7_spoiledLanes 13 = .ok (.aload_n 0, 1) := by decide +kernel
theorem dX7_spoiledLanes_14 : decode cX7_spoiledLanes 14 = .ok (.aload_n 2, 1) := by decide +kernel
theorem dX7_spoiledLanes_15 : decode cX7_spoiledLanes 15 = .ok (.putfield 26, 3) := by decide +kernel
theorem dX7_spoiledLanes_18 : decode cX7_spoiledLanes 18 = .ok (.aload_n 0, 1) := by decide +kernel
theorem dX7_spoiledLanes_19 : decode cX7_spoiledLanes 19 = .ok (.aload_n 3, 1) := by decide +kernel
theorem dX7_spoiledLanes_20 : decode cX7_spoiledLanes 20 = .ok (.putfield 30, 3) := by decide +kernel
theorem dX7_spoiledLanes_23 : decode cX7_spoiledLanes 23 = .ok (.iconst 0, 1) := by decide +kernel
theorem dX7_spoiledLanes_24 : decode cX7_spoiledLanes 24 = .ok (.istore 4, 2) := by decide +kernel
theorem dX7_spoiledLanes_26 : decode cX7_spoiledLanes 26 = .ok (.iload 4, 2) := by decide +kernel
theorem dX7_spoiledLanes_28 : decode cX7_spoiledLanes 28 = .ok (.aload_n 0, 1) := by decide +kernel
theorem dX7_spoiledLanes_29 : decode cX7_spoiledLanes 29 = .ok (.getfield 15, 3) := by decide +kernel
theorem dX7_spoiledLanes_32 : decode cX7_spoiledLanes 32 = .ok (.getfield 34, 3) := by decide +kernel
theorem dX7_spoiledLanes_35 : decode cX7_spoiledLanes 35 = .ok (.if_icmp .gt 38, 3) := by decide +kernel
theorem dX7_spoiledLanes_38 : decode cX7_spoiledLanes 38 = .ok (.iconst 0, 1) := by decide +kernel
theorem dX7_spoiledLanes_39 : decode cX7_spoiledLanes 39 = .ok (.istore 5, 2) := by decide +kernel
theorem dX7_spoiledLanes_41 : decode cX7_spoiledLanes 41 = .ok (.iload 5, 2) := by decide +kernel
theorem dX7_spoiledLanes_43 : decode cX7_spoiledLanes 43 = .ok (.aload_n 0, 1) := by decide +kernel
theorem dX7_spoiledLanes_44 : decode cX7_spoiledLanes 44 = .ok (.getfield 25, 3) := by decide +kernel
theorem dX7_spoiledLanes_47 : decode cX7_spoiledLanes 47 = .ok (.getfield 38, 3) := by decide +kernel
theorem dX7_spoiledLanes_50 : decode cX7_spoiledLanes 50 = .ok (.if_icmp .ge 17, 3) := by decide +kernel
theorem dX7_spoiledLanes_53 : decode cX7_spoiledLanes 53 = .ok (.aload_n 0, 1) := by decide +kernel
theorem dX7_spoiledLanes_54 : decode cX7_spoiledLanes 54 = .ok (.iload 5, 2) := by decide +kernel
theorem dX7_spoiledLanes_56 : decode cX7_spoiledLanes 56 = .ok (.iload 4, 2) := by decide +kernel
theorem dX7_spoiledLanes_58 : decode cX7_spoiledLanes 58 = .ok (.invokevirtual 43, 3) := by decide +kernel
theorem dX7_spoiledLanes_61 : decode cX7_spoiledLanes 61 = .ok (.iinc 5 1, 3) := by decide +kernel
theorem dX7_spoiledLanes_64 : decode cX7_spoiledLanes 64 = .ok (.goto (-23), 3) := by decide +kernel
theorem dX7_spoiledLanes_67 : decode cX7_spoiledLanes 67 = .ok (.iinc 4 1, 3) := by decide +kernel
theorem dX7_spoiledLanes_70 : decode cX7_spoiledLanes 70 = .ok (.goto (-44), 3) := by decide +kernel
theorem dX7_spoiledLanes_73 : decode cX7_spoiledLanes 73 = .ok (.aload_n 0, 1) := by decide +kernel
theorem dX7_spoiledLanes_74 : decode cX7_spoiledLanes 74 = .ok (.getfield 15, 3) := by decide +kernel
theorem dX7_spoiledLanes_77 : decode cX7_spoiledLanes 77 = .ok (.getfield 34, 3) := by decide +kernel
theorem dX7_spoiledLanes_80 : decode cX7_spoiledLanes 80 = .ok (.iconst 0, 1) := by decide +kernel
theorem dX7_spoiledLanes_81 : decode cX7_spoiledLanes 81 = .ok (.invokestatic 47, 3) := by decide +kernel
theorem dX7_spoiledLanes_84 : decode cX7_spoiledLanes 84 = .ok (.bipush 10, 2) := by decide +kernel
theorem dX7_spoiledLanes_86 : decode cX7_spoiledLanes 86 = .ok (.imul, 1) := by decide +kernel
theorem dX7_spoiledLanes_87 : decode cX7_spoiledLanes 87 = .ok (.istore 4, 2) := by decide +kernel
theorem dX7_spoiledLanes_89 : decode cX7_spoiledLanes 89 = .ok (.lconst 0, 1) := by decide +kernel
theorem dX7_spoiledLanes_90 : decode cX7_spoiledLanes 90 = .ok (.lstore 5, 2) := by decide +kernel
theorem dX7_spoiledLanes_92 : decode cX7_spoiledLanes 92 = .ok (.iconst 0, 1) := by decide +kernel
theorem dX7_spoiledLanes_93 : decode cX7_spoiledLanes 93 = .ok (.istore 7, 2) := by decide +kernel
theorem dX7_spoiledLanes_95 : decode cX7_spoiledLanes 95 = .ok (.iload 7, 2) := by decide +kernel
theorem dX7_spoiledLanes_97 : decode cX7_spoiledLanes 97 = .ok (.aload_n 0, 1) := by decide +kernel
theorem dX7_spoiledLanes_98 : decode cX7_spoiledLanes 98 = .ok (.getfield 25, 3) := by decide +kernel
theorem dX7_spoiledLanes_101 : decode cX7_spoiledLanes 101 = .ok (.getfield 51, 3) := by decide +kernel
theorem dX7_spoiledLanes_104 : decode cX7_spoiledLanes 104 = .ok (.if_icmp .ge 32, 3) := by decide +kernel
theorem dX7_spoiledLanes_107 : decode cX7_spoiledLanes 107 = .ok (.lload 5, 2) := by decide +kernel
theorem dX7_spoiledLanes_109 : decode cX7_spoiledLanes 109 = .ok (.aload_n 0, 1) := by decide +kernel
theorem dX7_spoiledLanes_110 : decode cX7_spoiledLanes 110 = .ok (.getfield 9, 3) := by decide +kernel
theorem dX7_spoiledLanes_113 : decode cX7_spoiledLanes 113 = .ok (.iload 4, 2) := by decide +kernel
theorem dX7_spoiledLanes_115 : decode cX7_spoiledLanes 115 = .ok (.aload_n 0, 1) := by decide +kernel
theorem dX7_spoiledLanes_116 : decode cX7_spoiledLanes 116 = .ok (.getfield 25, 3) := by decide +kernel
theorem dX7_spoiledLanes_119 : decode cX7_spoiledLanes 119 = .ok (.getfield 54, 3) := by decide +kernel
theorem dX7_spoiledLanes_122 : decode cX7_spoiledLanes 122 = .ok (.iload 7, 2) := by decide +kernel
theorem dX7_spoiledLanes_124 : decode cX7_spoiledLanes 124 = .ok (.iaload, 1) := by decide +kernel
theorem dX7_spoiledLanes_125 : decode cX7_spoiledLanes 125 = .ok (.iadd, 1) := by decide +kernel
theorem dX7_spoiledLanes_126 : decode cX7_spoiledLanes 126 = .ok (.laload, 1) := by decide +kernel
theorem dX7_spoiledLanes_127 : decode cX7_spoiledLanes 127 = .ok (.lor, 1) := by decide +kernel
theorem dX7_spoiledLanes_128 : decode cX7_spoiledLanes 128 = .ok (.lstore 5, 2) := by decide +kernel
theorem dX7_spoiledLanes_130 : decode cX7_spoiledLanes 130 = .ok (.iinc 7 1, 3) := by decide +kernel
theorem dX7_spoiledLanes_133 : decode cX7_spoiledLanes 133 = .ok (.goto (-38), 3) := by decide +kernel
theorem dX7_spoiledLanes_136 : decode cX7_spoiledLanes 136 = .ok (.lload 5, 2) := by decide +kernel
theorem dX7_spoiledLanes_138 : decode cX7_spoiledLanes 138 = .ok (.ldc2_w 58, 3) := by decide +kernel
theorem dX7_spoiledLanes_141 : decode cX7_spoiledLanes 141 = .ok (.lxor, 1) := by decide +kernel
theorem dX7_spoiledLanes_142 : decode cX7_spoiledLanes 142 = .ok (.lreturn, 1) := by decide +kernel
theorem dX7_settle_0 : decode cX7_settle 0 = .ok (.iload_n 2, 1) := by decide +kernel
theorem dX7_settle_1 : decode cX7_settle 1 = .ok (.iload_n 1, 1) := by decide +kernel
theorem dX7_settle_2 : decode cX7_settle 2 = .ok (.invokestatic 47, 3) := by decide +kernel
theorem dX7_settle_5 : decode cX7_settle 5 = .ok (.bipush 10, 2) := by decide +kernel
theorem dX7_settle_7 : decode cX7_settle 7 = .ok (.imul, 1) := by decide +kernel
theorem dX7_settle_8 : decode cX7_settle 8 = .ok (.istore_n 3, 1) := by decide +kernel
theorem dX7_settle_9 : decode cX7_settle 9 = .ok (.iconst 0, 1) := by decide +kernel
theorem dX7_settle_10 : decode cX7_settle 10 = .ok (.istore 4, 2) := by decide +kernel
theorem dX7_settle_12 : decode cX7_settle 12 = .ok (.iload 4, 2) := by decide +kernel
theorem dX7_settle_14 : decode cX7_settle 14 = .ok (.aload_n 0, 1) := by decide +kernel
theorem dX7_settle_15 : decode cX7_settle 15 = .ok (.getfield 25, 3) := by decide +kernel
theorem dX7_settle_18 : decode cX7_settle 18 = .ok (.getfield 60, 3) := by decide +kernel
theorem dX7_settle_21 : decode cX7_settle 21 = .ok (.if_icmp .ge 19, 3) := by decide +kernel
theorem dX7_settle_24 : decode cX7_settle 24 = .ok (.aload_n 0, 1) := by decide +kernel
theorem dX7_settle_25 : decode cX7_settle 25 = .ok (.getfield 9, 3) := by decide +kernel
theorem dX7_settle_28 : decode cX7_settle 28 = .ok (.iload_n 3, 1) := by decide +kernel
theorem dX7_settle_29 : decode cX7_settle 29 = .ok (.iload 4, 2) := by decide +kernel
theorem dX7_settle_31 : decode cX7_settle 31 = .ok (.iadd, 1) := by decide +kernel
theorem dX7_settle_32 : decode cX7_settle 32 = .ok (.lconst 0, 1) := by decide +kernel
theorem dX7_settle_33 : decode cX7_settle 33 = .ok (.lastore, 1) := by decide +kernel
theorem dX7_settle_34 : decode cX7_settle 34 = .ok (.iinc 4 1, 3) := by decide +kernel
theorem dX7_settle_37 : decode cX7_settle 37 = .ok (.goto (-25), 3) := by decide +kernel
theorem dX7_settle_40 : decode cX7_settle 40 = .ok (.aload_n 0, 1) := by decide +kernel
theorem dX7_settle_41 : decode cX7_settle 41 = .ok (.getfield 26, 3) := by decide +kernel
theorem dX7_settle_44 : decode cX7_settle 44 = .ok (.getfield 63, 3) := by decide +kernel
theorem dX7_settle_47 : decode cX7_settle 47 = .ok (.iload_n 2, 1) := by decide +kernel
theorem dX7_settle_48 : decode cX7_settle 48 = .ok (.iload_n 1, 1) := by decide +kernel
theorem dX7_settle_49 : decode cX7_settle 49 = .ok (.invokestatic 47, 3) := by decide +kernel
theorem dX7_settle_52 : decode cX7_settle 52 = .ok (.iaload, 1) := by decide +kernel
theorem dX7_settle_53 : decode cX7_settle 53 = .ok (.ifCond .ne 4, 3) := by decide +kernel
theorem dX7_settle_56 : decode cX7_settle 56 = .ok (.return_, 1) := by decide +kernel
theorem dX7_settle_57 : decode cX7_settle 57 = .ok (.aload_n 0, 1) := by decide +kernel
theorem dX7_settle_58 : decode cX7_settle 58 = .ok (.getfield 30, 3) := by decide +kernel
theorem dX7_settle_61 : decode cX7_settle 61 = .ok (.getfield 68, 3) := by decide +kernel
theorem dX7_settle_64 : decode cX7_settle 64 = .ok (.iload_n 1, 1) := by decide +kernel
theorem dX7_settle_65 : decode cX7_settle 65 = .ok (.bipush 7, 2) := by decide +kernel
theorem dX7_settle_67 : decode cX7_settle 67 = .ok (.imul, 1) := by decide +kernel
theorem dX7_settle_68 : decode cX7_settle 68 = .ok (.iload_n 2, 1) := by decide +kernel
theorem dX7_settle_69 : decode cX7_settle 69 = .ok (.iadd, 1) := by decide +kernel
theorem dX7_settle_70 : decode cX7_settle 70 = .ok (.laload, 1) := by decide +kernel
theorem dX7_settle_71 : decode cX7_settle 71 = .ok (.ldc2_w 58, 3) := by decide +kernel
theorem dX7_settle_74 : decode cX7_settle 74 = .ok (.lxor, 1) := by decide +kernel
theorem dX7_settle_75 : decode cX7_settle 75 = .ok (.lstore 4, 2) := by decide +kernel
theorem dX7_settle_77 : decode cX7_settle 77 = .ok (.iload_n 2, 1) := by decide +kernel
theorem dX7_settle_78 : decode cX7_settle 78 = .ok (.ifCond .ne 13, 3) := by decide +kernel
theorem dX7_settle_81 : decode cX7_settle 81 = .ok (.aload_n 0, 1) := by decide +kernel
theorem dX7_settle_82 : decode cX7_settle 82 = .ok (.iload_n 1, 1) := by decide +kernel
theorem dX7_settle_83 : decode cX7_settle 83 = .ok (.lload 4, 2) := by decide +kernel
theorem dX7_settle_85 : decode cX7_settle 85 = .ok (.invokevirtual 73, 3) := by decide +kernel
theorem dX7_settle_88 : decode cX7_settle 88 = .ok (.goto 27, 3) := by decide +kernel
theorem dX7_settle_91 : decode cX7_settle 91 = .ok (.aload_n 0, 1) := by decide +kernel
theorem dX7_settle_92 : decode cX7_settle 92 = .ok (.iload_n 1, 1) := by decide +kernel
theorem dX7_settle_93 : decode cX7_settle 93 = .ok (.iload_n 2, 1) := by decide +kernel
theorem dX7_settle_94 : decode cX7_settle 94 = .ok (.lload 4, 2) := by decide +kernel
theorem dX7_settle_96 : decode cX7_settle 96 = .ok (.invokevirtual 77, 3) := by decide +kernel
theorem dX7_settle_99 : decode cX7_settle 99 = .ok (.aload_n 0, 1) := by decide +kernel
theorem dX7_settle_100 : decode cX7_settle 100 = .ok (.iload_n 1, 1) := by decide +kernel
theorem dX7_settle_101 : decode cX7_settle 101 = .ok (.iload_n 2, 1) := by decide +kernel
theorem dX7_settle_102 : decode cX7_settle 102 = .ok (.lload 4, 2) := by decide +kernel
theorem dX7_settle_104 : decode cX7_settle 104 = .ok (.invokevirtual 81, 3) := by decide +kernel
theorem dX7_settle_107 : decode cX7_settle 107 = .ok (.aload_n 0, 1) := by decide +kernel
theorem dX7_settle_108 : decode cX7_settle 108 = .ok (.iload_n 1, 1) := by decide +kernel
theorem dX7_settle_109 : decode cX7_settle 109 = .ok (.iload_n 2, 1) := by decide +kernel
theorem dX7_settle_110 : decode cX7_settle 110 = .ok (.lload 4, 2) := by decide +kernel
theorem dX7_settle_112 : decode cX7_settle 112 = .ok (.invokevirtual 84, 3) := by decide +kernel
theorem dX7_settle_115 : decode cX7_settle 115 = .ok (.aload_n 0, 1) := by decide +kernel
theorem dX7_settle_116 : decode cX7_settle 116 = .ok (.iload_n 1, 1) := by decide +kernel
theorem dX7_settle_117 : decode cX7_settle 117 = .ok (.iload_n 2, 1) := by decide +kernel
theorem dX7_settle_118 : decode cX7_settle 118 = .ok (.invokevirtual 87, 3) := by decide +kernel
theorem dX7_settle_121 : decode cX7_settle 121 = .ok (.return_, 1) := by decide +kernel
theorem dX7_addFacts_0 : decode cX7_addFacts 0 = .ok (.aload_n 0, 1) := by decide +kernel
theorem dX7_addFacts_1 : decode cX7_addFacts 1 = .ok (.getfield 25, 3) := by decide +kernel
theorem dX7_addFacts_4 : decode cX7_addFacts 4 = .ok (.iload_n 1, 1) := by decide +kernel
theorem dX7_addFacts_5 : decode cX7_addFacts 5 = .ok (.aload_n 0, 1) := by decide +kernel
theorem dX7_addFacts_6 : decode cX7_addFacts 6 = .ok (.getfield 15, 3) := by decide +kernel
theorem dX7_addFacts_9 : decode cX7_addFacts 9 = .ok (.getfield 90, 3) := by decide +kernel
theorem dX7_addFacts_12 : decode cX7_addFacts 12 = .ok (.invokevirtual 93, 3) := by decide +kernel
theorem dX7_addFacts_15 : decode cX7_addFacts 15 = .ok (.istore 4, 2) := by decide +kernel
theorem dX7_addFacts_17 : decode cX7_addFacts 17 = .ok (.iconst 0, 1) := by decide +kernel
theorem dX7_addFacts_18 : decode cX7_addFacts 18 = .ok (.iload_n 1, 1) := by decide +kernel
theorem dX7_addFacts_19 : decode cX7_addFacts 19 = .ok (.invokestatic 47, 3) := by decide +kernel
theorem dX7_addFacts_22 : decode cX7_addFacts 22 = .ok (.bipush 10, 2) := by decide +kernel
theorem dX7_addFacts_24 : decode cX7_addFacts 24 = .ok (.imul, 1) := by decide +kernel
theorem dX7_addFacts_25 : decode cX7_addFacts 25 = .ok (.istore 5, 2) := by decide +kernel
theorem dX7_addFacts_27 : decode cX7_addFacts 27 = .ok (.iconst 0, 1) := by decide +kernel
theorem dX7_addFacts_28 : decode cX7_addFacts 28 = .ok (.istore 6, 2) := by decide +kernel
theorem dX7_addFacts_30 : decode cX7_addFacts 30 = .ok (.iload 6, 2) := by decide +kernel
theorem dX7_addFacts_32 : decode cX7_addFacts 32 = .ok (.aload_n 0, 1) := by decide +kernel
theorem dX7_addFacts_33 : decode cX7_addFacts 33 = .ok (.getfield 25, 3) := by decide +kernel
theorem dX7_addFacts_36 : decode cX7_addFacts 36 = .ok (.getfield 60, 3) := by decide +kernel
theorem dX7_addFacts_39 : decode cX7_addFacts 39 = .ok (.if_icmp .ge 30, 3) := by decide +kernel
theorem dX7_addFacts_42 : decode cX7_addFacts 42 = .ok (.iload 4, 2) := by decide +kernel
theorem dX7_addFacts_44 : decode cX7_addFacts 44 = .ok (.iload 6, 2) := by decide +kernel
theorem dX7_addFacts_46 : decode cX7_addFacts 46 = .ok (.ishr, 1) := by decide +kernel
theorem dX7_addFacts_47 : decode cX7_addFacts 47 = .ok (.iconst 1, 1) := by decide +kernel
theorem dX7_addFacts_48 : decode cX7_addFacts 48 = .ok (.iand, 1) := by decide +kernel
theorem dX7_addFacts_49 : decode cX7_addFacts 49 = .ok (.ifCond .eq 14, 3) := by decide +kernel
theorem dX7_addFacts_52 : decode cX7_addFacts 52 = .ok (.aload_n 0, 1) := by decide +kernel
theorem dX7_addFacts_53 : decode cX7_addFacts 53 = .ok (.getfield 9, 3) := by decide +kernel
theorem dX7_addFacts_56 : decode cX7_addFacts 56 = .ok (.iload 5, 2) := by decide +kernel
theorem dX7_addFacts_58 : decode cX7_addFacts 58 = .ok (.iload 6, 2) := by decide +kernel
theorem dX7_addFacts_60 : decode cX7_addFacts 60 = .ok (.iadd, 1) := by decide +kernel
theorem dX7_addFacts_61 : decode cX7_addFacts 61 = .ok (.lload_n 2, 1) := by decide +kernel
theorem dX7_addFacts_62 : decode cX7_addFacts 62 = .ok (.lastore, 1) := by decide +kernel
theorem dX7_addFacts_63 : decode cX7_addFacts 63 = .ok (.iinc 6 1, 3) := by decide +kernel
theorem dX7_addFacts_66 : decode cX7_addFacts 66 = .ok (.goto (-36), 3) := by decide +kernel
theorem dX7_addFacts_69 : decode cX7_addFacts 69 = .ok (.return_, 1) := by decide +kernel
theorem dX7_addWords_0 : decode cX7_addWords 0 = .ok (.iconst 0, 1) := by decide +kernel
theorem dX7_addWords_1 : decode cX7_addWords 1 = .ok (.istore 5, 2) := by decide +kernel
theorem dX7_addWords_3 : decode cX7_addWords 3 = .ok (.iload 5, 2) := by decide +kernel
theorem dX7_addWords_5 : decode cX7_addWords 5 = .ok (.aload_n 0, 1) := by decide +kernel
theorem dX7_addWords_6 : decode cX7_addWords 6 = .ok (.getfield 25, 3) := by decide +kernel
theorem dX7_addWords_9 : decode cX7_addWords 9 = .ok (.getfield 96, 3) := by decide +kernel
theorem dX7_addWords_12 : decode cX7_addWords 12 = .ok (.if_icmp .ge 50, 3) := by decide +kernel
theorem dX7_addWords_15 : decode cX7_addWords 15 = .ok (.aload_n 0, 1) := by decide +kernel
theorem dX7_addWords_16 : decode cX7_addWords 16 = .ok (.getfield 25, 3) := by decide +kernel
theorem dX7_addWords_19 : decode cX7_addWords 19 = .ok (.getfield 99, 3) := by decide +kernel
theorem dX7_addWords_22 : decode cX7_addWords 22 = .ok (.iload 5, 2) := by decide +kernel
theorem dX7_addWords_24 : decode cX7_addWords 24 = .ok (.aaload, 1) := by decide +kernel
theorem dX7_addWords_25 : decode cX7_addWords 25 = .ok (.getfield 103, 3) := by decide +kernel
theorem dX7_addWords_28 : decode cX7_addWords 28 = .ok (.iload_n 1, 1) := by decide +kernel
theorem dX7_addWords_29 : decode cX7_addWords 29 = .ok (.if_icmp .ne 27, 3) := by decide +kernel
theorem dX7_addWords_32 : decode cX7_addWords 32 = .ok (.aload_n 0, 1) := by decide +kernel
theorem dX7_addWords_33 : decode cX7_addWords 33 = .ok (.iload 5, 2) := by decide +kernel
theorem dX7_addWords_35 : decode cX7_addWords 35 = .ok (.iload_n 2, 1) := by decide +kernel
theorem dX7_addWords_36 : decode cX7_addWords 36 = .ok (.iconst 1, 1) := by decide +kernel
theorem dX7_addWords_37 : decode cX7_addWords 37 = .ok (.isub, 1) := by decide +kernel
theorem dX7_addWords_38 : decode cX7_addWords 38 = .ok (.iload_n 2, 1) := by decide +kernel
theorem dX7_addWords_39 : decode cX7_addWords 39 = .ok (.lload_n 3, 1) := by decide +kernel
theorem dX7_addWords_40 : decode cX7_addWords 40 = .ok (.invokevirtual 108, 3) := by decide +kernel
theorem dX7_addWords_43 : decode cX7_addWords 43 = .ok (.aload_n 0, 1) := by decide +kernel
theorem dX7_addWords_44 : decode cX7_addWords 44 = .ok (.iload 5, 2) := by decide +kernel
theorem dX7_addWords_46 : decode cX7_addWords 46 = .ok (.iload_n 2, 1) := by decide +kernel
theorem dX7_addWords_47 : decode cX7_addWords 47 = .ok (.iconst 1, 1) := by decide +kernel
theorem dX7_addWords_48 : decode cX7_addWords 48 = .ok (.isub, 1) := by decide +kernel
theorem dX7_addWords_49 : decode cX7_addWords 49 = .ok (.iconst 2, 1) := by decide +kernel
theorem dX7_addWords_50 : decode cX7_addWords 50 = .ok (.isub, 1) := by decide +kernel
theorem dX7_addWords_51 : decode cX7_addWords 51 = .ok (.iload_n 2, 1) := by decide +kernel
theorem dX7_addWords_52 : decode cX7_addWords 52 = .ok (.lload_n 3, 1) := by decide +kernel
theorem dX7_addWords_53 : decode cX7_addWords 53 = .ok (.invokevirtual 108, 3) := by decide +kernel
theorem dX7_addWords_56 : decode cX7_addWords 56 = .ok (.iinc 5 1, 3) := by decide +kernel
theorem dX7_addWords_59 : decode cX7_addWords 59 = .ok (.goto (-56), 3) := by decide +kernel
theorem dX7_addWords_62 : decode cX7_addWords 62 = .ok (.return_, 1) := by decide +kernel
theorem dX7_addWord_0 : decode cX7_addWord 0 = .ok (.iload_n 2, 1) := by decide +kernel
theorem dX7_addWord_1 : decode cX7_addWord 1 = .ok (.ifCond .lt 16, 3) := by decide +kernel
theorem dX7_addWord_4 : decode cX7_addWord 4 = .ok (.aload_n 0, 1) := by decide +kernel
theorem dX7_addWord_5 : decode cX7_addWord 5 = .ok (.getfield 26, 3) := by decide +kernel
theorem dX7_addWord_8 : decode cX7_addWord 8 = .ok (.iload_n 1, 1) := by decide +kernel
theorem dX7_addWord_9 : decode cX7_addWord 9 = .ok (.iload_n 2, 1) := by decide +kernel
theorem dX7_addWord_10 : decode cX7_addWord 10 = .ok (.iload_n 3, 1) := by decide +kernel
theorem dX7_addWord_11 : decode cX7_addWord 11 = .ok (.invokevirtual 112, 3) := by decide +kernel
theorem dX7_addWord_14 : decode cX7_addWord 14 = .ok (.ifCond .ne 4, 3) := by decide +kernel
theorem dX7_addWord_17 : decode cX7_addWord 17 = .ok (.return_, 1) := by decide +kernel
theorem dX7_addWord_18 : decode cX7_addWord 18 = .ok (.aload_n 0, 1) := by decide +kernel
theorem dX7_addWord_19 : decode cX7_addWord 19 = .ok (.getfield 25, 3) := by decide +kernel
theorem dX7_addWord_22 : decode cX7_addWord 22 = .ok (.getfield 99, 3) := by decide +kernel
theorem dX7_addWord_25 : decode cX7_addWord 25 = .ok (.iload_n 1, 1) := by decide +kernel
theorem dX7_addWord_26 : decode cX7_addWord 26 = .ok (.aaload, 1) := by decide +kernel
theorem dX7_addWord_27 : decode cX7_addWord 27 = .ok (.astore 6, 2) := by decide +kernel
theorem dX7_addWord_29 : decode cX7_addWord 29 = .ok (.iload_n 1, 1) := by decide +kernel
theorem dX7_addWord_30 : decode cX7_addWord 30 = .ok (.bipush 7, 2) := by decide +kernel
theorem dX7_addWord_32 : decode cX7_addWord 32 = .ok (.imul, 1) := by decide +kernel
theorem dX7_addWord_33 : decode cX7_addWord 33 = .ok (.iload_n 2, 1) := by decide +kernel
theorem dX7_addWord_34 : decode cX7_addWord 34 = .ok (.iadd, 1) := by decide +kernel
theorem dX7_addWord_35 : decode cX7_addWord 35 = .ok (.istore 7, 2) := by decide +kernel
theorem dX7_addWord_37 : decode cX7_addWord 37 = .ok (.aload_n 0, 1) := by decide +kernel
theorem dX7_addWord_38 : decode cX7_addWord 38 = .ok (.getfield 30, 3) := by decide +kernel
theorem dX7_addWord_41 : decode cX7_addWord 41 = .ok (.getfield 116, 3) := by decide +kernel
theorem dX7_addWord_44 : decode cX7_addWord 44 = .ok (.iload 7, 2) := by decide +kernel
theorem dX7_addWord_46 : decode cX7_addWord 46 = .ok (.laload, 1) := by decide +kernel
theorem dX7_addWord_47 : decode cX7_addWord 47 = .ok (.ldc2_w 58, 3) := by decide +kernel
theorem dX7_addWord_50 : decode cX7_addWord 50 = .ok (.lxor, 1) := by decide +kernel
theorem dX7_addWord_51 : decode cX7_addWord 51 = .ok (.aload_n 0, 1) := by decide +kernel
theorem dX7_addWord_52 : decode cX7_addWord 52 = .ok (.getfield 30, 3) := by decide +kernel
theorem dX7_addWord_55 : decode cX7_addWord 55 = .ok (.getfield 119, 3) := by decide +kernel
theorem dX7_addWord_58 : decode cX7_addWord 58 = .ok (.iload 7, 2) := by decide +kernel
theorem dX7_addWord_60 : decode cX7_addWord 60 = .ok (.laload, 1) := by decide +kernel
theorem dX7_addWord_61 : decode cX7_addWord 61 = .ok (.ldc2_w 58, 3) := by decide +kernel
theorem dX7_addWord_64 : decode cX7_addWord 64 = .ok (.lxor, 1) := by decide +kernel
theorem dX7_addWord_65 : decode cX7_addWord 65 = .ok (.land, 1) := by decide +kernel
theorem dX7_addWord_66 : decode cX7_addWord 66 = .ok (.aload_n 0, 1) := by decide +kernel
theorem dX7_addWord_67 : decode cX7_addWord 67 = .ok (.getfield 30, 3) := by decide +kernel
theorem dX7_addWord_70 : decode cX7_addWord 70 = .ok (.getfield 68, 3) := by decide +kernel
theorem dX7_addWord_73 : decode cX7_addWord 73 = .ok (.aload 6, 2) := by decide +kernel
theorem dX7_addWord_75 : decode cX7_addWord 75 = .ok (.getfield 122, 3) := by decide +kernel
theorem dX7_addWord_78 : decode cX7_addWord 78 = .ok (.bipush 7, 2) := by decide +kernel
theorem dX7_addWord_80 : decode cX7_addWord 80 = .ok (.imul, 1) := by decide +kernel
theorem dX7_addWord_81 : decode cX7_addWord 81 = .ok (.iload_n 2, 1) := by decide +kernel
theorem dX7_addWord_82 : decode cX7_addWord 82 = .ok (.iadd, 1) := by decide +kernel
theorem dX7_addWord_83 : decode cX7_addWord 83 = .ok (.laload, 1) := by decide +kernel
theorem dX7_addWord_84 : decode cX7_addWord 84 = .ok (.ldc2_w 58, 3) := by decide +kernel
theorem dX7_addWord_87 : decode cX7_addWord 87 = .ok (.lxor, 1) := by decide +kernel
theorem dX7_addWord_88 : decode cX7_addWord 88 = .ok (.land, 1) := by decide +kernel
theorem dX7_addWord_89 : decode cX7_addWord 89 = .ok (.lstore 8, 2) := by decide +kernel
theorem dX7_addWord_91 : decode cX7_addWord 91 = .ok (.lload 8, 2) := by decide +kernel
theorem dX7_addWord_93 : decode cX7_addWord 93 = .ok (.aload_n 0, 1) := by decide +kernel
theorem dX7_addWord_94 : decode cX7_addWord 94 = .ok (.aload 6, 2) := by decide +kernel
theorem dX7_addWord_96 : decode cX7_addWord 96 = .ok (.aload 6, 2) := by decide +kernel
theorem dX7_addWord_98 : decode cX7_addWord 98 = .ok (.getfield 122, 3) := by decide +kernel
theorem dX7_addWord_101 : decode cX7_addWord 101 = .ok (.aload_n 0, 1) := by decide +kernel
theorem dX7_addWord_102 : decode cX7_addWord 102 = .ok (.getfield 26, 3) := by decide +kernel
theorem dX7_addWord_105 : decode cX7_addWord 105 = .ok (.iload_n 1, 1) := by decide +kernel
theorem dX7_addWord_106 : decode cX7_addWord 106 = .ok (.iload_n 2, 1) := by decide +kernel
theorem dX7_addWord_107 : decode cX7_addWord 107 = .ok (.invokevirtual 125, 3) := by decide +kernel
theorem dX7_addWord_110 : decode cX7_addWord 110 = .ok (.invokevirtual 128, 3) := by decide +kernel
theorem dX7_addWord_113 : decode cX7_addWord 113 = .ok (.land, 1) := by decide +kernel
theorem dX7_addWord_114 : decode cX7_addWord 114 = .ok (.lstore 8, 2) := by decide +kernel
theorem dX7_addWord_116 : decode cX7_addWord 116 = .ok (.aload_n 0, 1) := by decide +kernel
theorem dX7_addWord_117 : decode cX7_addWord 117 = .ok (.getfield 9, 3) := by decide +kernel
theorem dX7_addWord_120 : decode cX7_addWord 120 = .ok (.iload_n 3, 1) := by decide +kernel
theorem dX7_addWord_121 : decode cX7_addWord 121 = .ok (.aload 6, 2) := by decide +kernel
theorem dX7_addWord_123 : decode cX7_addWord 123 = .ok (.getfield 103, 3) := by decide +kernel
theorem dX7_addWord_126 : decode cX7_addWord 126 = .ok (.invokestatic 47, 3) := by decide +kernel
theorem dX7_addWord_129 : decode cX7_addWord 129 = .ok (.bipush 10, 2) := by decide +kernel
theorem dX7_addWord_131 : decode cX7_addWord 131 = .ok (.imul, 1) := by decide +kernel
theorem dX7_addWord_132 : decode cX7_addWord 132 = .ok (.aload 6, 2) := by decide +kernel
theorem dX7_addWord_134 : decode cX7_addWord 134 = .ok (.getfield 132, 3) := by decide +kernel
theorem dX7_addWord_137 : decode cX7_addWord 137 = .ok (.iadd, 1) := by decide +kernel
theorem dX7_addWord_138 : decode cX7_addWord 138 = .ok (.dup2, 1) := by decide +kernel
theorem dX7_addWord_139 : decode cX7_addWord 139 = .ok (.laload, 1) := by decide +kernel
theorem dX7_addWord_140 : decode cX7_addWord 140 = .ok (.lload 8, 2) := by decide +kernel
theorem dX7_addWord_142 : decode cX7_addWord 142 = .ok (.lload 4, 2) := by decide +kernel
theorem dX7_addWord_144 : decode cX7_addWord 144 = .ok (.land, 1) := by decide +kernel
theorem dX7_addWord_145 : decode cX7_addWord 145 = .ok (.lor, 1) := by decide +kernel
theorem dX7_addWord_146 : decode cX7_addWord 146 = .ok (.lastore, 1) := by decide +kernel
theorem dX7_addWord_147 : decode cX7_addWord 147 = .ok (.return_, 1) := by decide +kernel
theorem dX7_addKept_0 : decode cX7_addKept 0 = .ok (.aload_n 0, 1) := by decide +kernel
theorem dX7_addKept_1 : decode cX7_addKept 1 = .ok (.getfield 26, 3) := by decide +kernel
theorem dX7_addKept_4 : decode cX7_addKept 4 = .ok (.iload_n 1, 1) := by decide +kernel
theorem dX7_addKept_5 : decode cX7_addKept 5 = .ok (.iload_n 2, 1) := by decide +kernel
theorem dX7_addKept_6 : decode cX7_addKept 6 = .ok (.invokevirtual 135, 3) := by decide +kernel
theorem dX7_addKept_9 : decode cX7_addKept 9 = .ok (.istore 5, 2) := by decide +kernel
theorem dX7_addKept_11 : decode cX7_addKept 11 = .ok (.iload 5, 2) := by decide +kernel
theorem dX7_addKept_13 : decode cX7_addKept 13 = .ok (.iconst (-1), 1) := by decide +kernel
theorem dX7_addKept_14 : decode cX7_addKept 14 = .ok (.if_icmp .ne 4, 3) := by decide +kernel
theorem dX7_addKept_17 : decode cX7_addKept 17 = .ok (.return_, 1) := by decide +kernel
theorem dX7_addKept_18 : decode cX7_addKept 18 = .ok (.iload_n 2, 1) := by decide +kernel
theorem dX7_addKept_19 : decode cX7_addKept 19 = .ok (.iload_n 1, 1) := by decide +kernel
theorem dX7_addKept_20 : decode cX7_addKept 20 = .ok (.invokestatic 47, 3) := by decide +kernel
theorem dX7_addKept_23 : decode cX7_addKept 23 = .ok (.bipush 10, 2) := by decide +kernel
theorem dX7_addKept_25 : decode cX7_addKept 25 = .ok (.imul, 1) := by decide +kernel
theorem dX7_addKept_26 : decode cX7_addKept 26 = .ok (.istore 6, 2) := by decide +kernel
theorem dX7_addKept_28 : decode cX7_addKept 28 = .ok (.iload 5, 2) := by decide +kernel
theorem dX7_addKept_30 : decode cX7_addKept 30 = .ok (.iload_n 1, 1) := by decide +kernel
theorem dX7_addKept_31 : decode cX7_addKept 31 = .ok (.invokestatic 47, 3) := by decide +kernel
theorem dX7_addKept_34 : decode cX7_addKept 34 = .ok (.bipush 10, 2) := by decide +kernel
theorem dX7_addKept_36 : decode cX7_addKept 36 = .ok (.imul, 1) := by decide +kernel
theorem dX7_addKept_37 : decode cX7_addKept 37 = .ok (.istore 7, 2) := by decide +kernel
theorem dX7_addKept_39 : decode cX7_addKept 39 = .ok (.iconst 0, 1) := by decide +kernel
theorem dX7_addKept_40 : decode cX7_addKept 40 = .ok (.istore 8, 2) := by decide +kernel
theorem dX7_addKept_42 : decode cX7_addKept 42 = .ok (.iload 8, 2) := by decide +kernel
theorem dX7_addKept_44 : decode cX7_addKept 44 = .ok (.aload_n 0, 1) := by decide +kernel
theorem dX7_addKept_45 : decode cX7_addKept 45 = .ok (.getfield 25, 3) := by decide +kernel
theorem dX7_addKept_48 : decode cX7_addKept 48 = .ok (.getfield 60, 3) := by decide +kernel
