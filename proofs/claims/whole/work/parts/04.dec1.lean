theorem dX7_addKept_51 : decode cX7_addKept 51 = .ok (.if_icmp .ge 49, 3) := by decide +kernel
theorem dX7_addKept_54 : decode cX7_addKept 54 = .ok (.aload_n 0, 1) := by decide +kernel
theorem dX7_addKept_55 : decode cX7_addKept 55 = .ok (.getfield 15, 3) := by decide +kernel
theorem dX7_addKept_58 : decode cX7_addKept 58 = .ok (.getfield 138, 3) := by decide +kernel
theorem dX7_addKept_61 : decode cX7_addKept 61 = .ok (.iload 8, 2) := by decide +kernel
theorem dX7_addKept_63 : decode cX7_addKept 63 = .ok (.ishr, 1) := by decide +kernel
theorem dX7_addKept_64 : decode cX7_addKept 64 = .ok (.iconst 1, 1) := by decide +kernel
theorem dX7_addKept_65 : decode cX7_addKept 65 = .ok (.iand, 1) := by decide +kernel
theorem dX7_addKept_66 : decode cX7_addKept 66 = .ok (.ifCond .eq 28, 3) := by decide +kernel
theorem dX7_addKept_69 : decode cX7_addKept 69 = .ok (.aload_n 0, 1) := by decide +kernel
theorem dX7_addKept_70 : decode cX7_addKept 70 = .ok (.getfield 9, 3) := by decide +kernel
theorem dX7_addKept_73 : decode cX7_addKept 73 = .ok (.iload 6, 2) := by decide +kernel
theorem dX7_addKept_75 : decode cX7_addKept 75 = .ok (.iload 8, 2) := by decide +kernel
theorem dX7_addKept_77 : decode cX7_addKept 77 = .ok (.iadd, 1) := by decide +kernel
theorem dX7_addKept_78 : decode cX7_addKept 78 = .ok (.dup2, 1) := by decide +kernel
theorem dX7_addKept_79 : decode cX7_addKept 79 = .ok (.laload, 1) := by decide +kernel
theorem dX7_addKept_80 : decode cX7_addKept 80 = .ok (.aload_n 0, 1) := by decide +kernel
theorem dX7_addKept_81 : decode cX7_addKept 81 = .ok (.getfield 9, 3) := by decide +kernel
theorem dX7_addKept_84 : decode cX7_addKept 84 = .ok (.iload 7, 2) := by decide +kernel
theorem dX7_addKept_86 : decode cX7_addKept 86 = .ok (.iload 8, 2) := by decide +kernel
theorem dX7_addKept_88 : decode cX7_addKept 88 = .ok (.iadd, 1) := by decide +kernel
theorem dX7_addKept_89 : decode cX7_addKept 89 = .ok (.laload, 1) := by decide +kernel
theorem dX7_addKept_90 : decode cX7_addKept 90 = .ok (.lload_n 3, 1) := by decide +kernel
theorem dX7_addKept_91 : decode cX7_addKept 91 = .ok (.land, 1) := by decide +kernel
theorem dX7_addKept_92 : decode cX7_addKept 92 = .ok (.lor, 1) := by decide +kernel
theorem dX7_addKept_93 : decode cX7_addKept 93 = .ok (.lastore, 1) := by decide +kernel
theorem dX7_addKept_94 : decode cX7_addKept 94 = .ok (.iinc 8 1, 3) := by decide +kernel
theorem dX7_addKept_97 : decode cX7_addKept 97 = .ok (.goto (-55), 3) := by decide +kernel
theorem dX7_addKept_100 : decode cX7_addKept 100 = .ok (.return_, 1) := by decide +kernel
theorem dX7_addNext_0 : decode cX7_addNext 0 = .ok (.iload_n 2, 1) := by decide +kernel
theorem dX7_addNext_1 : decode cX7_addNext 1 = .ok (.iload_n 1, 1) := by decide +kernel
theorem dX7_addNext_2 : decode cX7_addNext 2 = .ok (.invokestatic 47, 3) := by decide +kernel
theorem dX7_addNext_5 : decode cX7_addNext 5 = .ok (.bipush 10, 2) := by decide +kernel
theorem dX7_addNext_7 : decode cX7_addNext 7 = .ok (.imul, 1) := by decide +kernel
theorem dX7_addNext_8 : decode cX7_addNext 8 = .ok (.istore 5, 2) := by decide +kernel
theorem dX7_addNext_10 : decode cX7_addNext 10 = .ok (.lload_n 3, 1) := by decide +kernel
theorem dX7_addNext_11 : decode cX7_addNext 11 = .ok (.aload_n 0, 1) := by decide +kernel
theorem dX7_addNext_12 : decode cX7_addNext 12 = .ok (.getfield 30, 3) := by decide +kernel
theorem dX7_addNext_15 : decode cX7_addNext 15 = .ok (.getfield 68, 3) := by decide +kernel
theorem dX7_addNext_18 : decode cX7_addNext 18 = .ok (.iload_n 1, 1) := by decide +kernel
theorem dX7_addNext_19 : decode cX7_addNext 19 = .ok (.bipush 7, 2) := by decide +kernel
theorem dX7_addNext_21 : decode cX7_addNext 21 = .ok (.imul, 1) := by decide +kernel
theorem dX7_addNext_22 : decode cX7_addNext 22 = .ok (.iload_n 2, 1) := by decide +kernel
theorem dX7_addNext_23 : decode cX7_addNext 23 = .ok (.iadd, 1) := by decide +kernel
theorem dX7_addNext_24 : decode cX7_addNext 24 = .ok (.iconst 1, 1) := by decide +kernel
theorem dX7_addNext_25 : decode cX7_addNext 25 = .ok (.isub, 1) := by decide +kernel
theorem dX7_addNext_26 : decode cX7_addNext 26 = .ok (.laload, 1) := by decide +kernel
theorem dX7_addNext_27 : decode cX7_addNext 27 = .ok (.ldc2_w 58, 3) := by decide +kernel
theorem dX7_addNext_30 : decode cX7_addNext 30 = .ok (.lxor, 1) := by decide +kernel
theorem dX7_addNext_31 : decode cX7_addNext 31 = .ok (.land, 1) := by decide +kernel
theorem dX7_addNext_32 : decode cX7_addNext 32 = .ok (.lstore 6, 2) := by decide +kernel
theorem dX7_addNext_34 : decode cX7_addNext 34 = .ok (.iconst 0, 1) := by decide +kernel
theorem dX7_addNext_35 : decode cX7_addNext 35 = .ok (.istore 8, 2) := by decide +kernel
theorem dX7_addNext_37 : decode cX7_addNext 37 = .ok (.iload 8, 2) := by decide +kernel
theorem dX7_addNext_39 : decode cX7_addNext 39 = .ok (.aload_n 0, 1) := by decide +kernel
theorem dX7_addNext_40 : decode cX7_addNext 40 = .ok (.getfield 25, 3) := by decide +kernel
theorem dX7_addNext_43 : decode cX7_addNext 43 = .ok (.getfield 141, 3) := by decide +kernel
theorem dX7_addNext_46 : decode cX7_addNext 46 = .ok (.if_icmp .ge 64, 3) := by decide +kernel
theorem dX7_addNext_49 : decode cX7_addNext 49 = .ok (.aload_n 0, 1) := by decide +kernel
theorem dX7_addNext_50 : decode cX7_addNext 50 = .ok (.getfield 25, 3) := by decide +kernel
theorem dX7_addNext_53 : decode cX7_addNext 53 = .ok (.getfield 144, 3) := by decide +kernel
theorem dX7_addNext_56 : decode cX7_addNext 56 = .ok (.iload 8, 2) := by decide +kernel
theorem dX7_addNext_58 : decode cX7_addNext 58 = .ok (.aaload, 1) := by decide +kernel
theorem dX7_addNext_59 : decode cX7_addNext 59 = .ok (.astore 9, 2) := by decide +kernel
theorem dX7_addNext_61 : decode cX7_addNext 61 = .ok (.aload_n 0, 1) := by decide +kernel
theorem dX7_addNext_62 : decode cX7_addNext 62 = .ok (.getfield 26, 3) := by decide +kernel
theorem dX7_addNext_65 : decode cX7_addNext 65 = .ok (.aload 9, 2) := by decide +kernel
theorem dX7_addNext_67 : decode cX7_addNext 67 = .ok (.iload_n 1, 1) := by decide +kernel
theorem dX7_addNext_68 : decode cX7_addNext 68 = .ok (.iload_n 2, 1) := by decide +kernel
theorem dX7_addNext_69 : decode cX7_addNext 69 = .ok (.invokevirtual 147, 3) := by decide +kernel
theorem dX7_addNext_72 : decode cX7_addNext 72 = .ok (.ifCond .eq 32, 3) := by decide +kernel
theorem dX7_addNext_75 : decode cX7_addNext 75 = .ok (.aload_n 0, 1) := by decide +kernel
theorem dX7_addNext_76 : decode cX7_addNext 76 = .ok (.getfield 9, 3) := by decide +kernel
theorem dX7_addNext_79 : decode cX7_addNext 79 = .ok (.iload 5, 2) := by decide +kernel
theorem dX7_addNext_81 : decode cX7_addNext 81 = .ok (.aload 9, 2) := by decide +kernel
theorem dX7_addNext_83 : decode cX7_addNext 83 = .ok (.getfield 132, 3) := by decide +kernel
theorem dX7_addNext_86 : decode cX7_addNext 86 = .ok (.iadd, 1) := by decide +kernel
theorem dX7_addNext_87 : decode cX7_addNext 87 = .ok (.dup2, 1) := by decide +kernel
theorem dX7_addNext_88 : decode cX7_addNext 88 = .ok (.laload, 1) := by decide +kernel
theorem dX7_addNext_89 : decode cX7_addNext 89 = .ok (.lload 6, 2) := by decide +kernel
theorem dX7_addNext_91 : decode cX7_addNext 91 = .ok (.aload_n 0, 1) := by decide +kernel
theorem dX7_addNext_92 : decode cX7_addNext 92 = .ok (.aload 9, 2) := by decide +kernel
theorem dX7_addNext_94 : decode cX7_addNext 94 = .ok (.iload_n 1, 1) := by decide +kernel
theorem dX7_addNext_95 : decode cX7_addNext 95 = .ok (.iload_n 2, 1) := by decide +kernel
theorem dX7_addNext_96 : decode cX7_addNext 96 = .ok (.iconst 1, 1) := by decide +kernel
theorem dX7_addNext_97 : decode cX7_addNext 97 = .ok (.isub, 1) := by decide +kernel
theorem dX7_addNext_98 : decode cX7_addNext 98 = .ok (.invokevirtual 128, 3) := by decide +kernel
theorem dX7_addNext_101 : decode cX7_addNext 101 = .ok (.land, 1) := by decide +kernel
theorem dX7_addNext_102 : decode cX7_addNext 102 = .ok (.lor, 1) := by decide +kernel
theorem dX7_addNext_103 : decode cX7_addNext 103 = .ok (.lastore, 1) := by decide +kernel
theorem dX7_addNext_104 : decode cX7_addNext 104 = .ok (.iinc 8 1, 3) := by decide +kernel
theorem dX7_addNext_107 : decode cX7_addNext 107 = .ok (.goto (-70), 3) := by decide +kernel
theorem dX7_addNext_110 : decode cX7_addNext 110 = .ok (.return_, 1) := by decide +kernel
theorem dX7_addNow_0 : decode cX7_addNow 0 = .ok (.iload_n 2, 1) := by decide +kernel
theorem dX7_addNow_1 : decode cX7_addNow 1 = .ok (.iload_n 1, 1) := by decide +kernel
theorem dX7_addNow_2 : decode cX7_addNow 2 = .ok (.invokestatic 47, 3) := by decide +kernel
theorem dX7_addNow_5 : decode cX7_addNow 5 = .ok (.bipush 10, 2) := by decide +kernel
theorem dX7_addNow_7 : decode cX7_addNow 7 = .ok (.imul, 1) := by decide +kernel
theorem dX7_addNow_8 : decode cX7_addNow 8 = .ok (.istore_n 3, 1) := by decide +kernel
theorem dX7_addNow_9 : decode cX7_addNow 9 = .ok (.iconst 1, 1) := by decide +kernel
theorem dX7_addNow_10 : decode cX7_addNow 10 = .ok (.istore 4, 2) := by decide +kernel
theorem dX7_addNow_12 : decode cX7_addNow 12 = .ok (.iconst 0, 1) := by decide +kernel
theorem dX7_addNow_13 : decode cX7_addNow 13 = .ok (.istore 5, 2) := by decide +kernel
theorem dX7_addNow_15 : decode cX7_addNow 15 = .ok (.iload 5, 2) := by decide +kernel
theorem dX7_addNow_17 : decode cX7_addNow 17 = .ok (.bipush 10, 2) := by decide +kernel
theorem dX7_addNow_19 : decode cX7_addNow 19 = .ok (.if_icmp .ge 128, 3) := by decide +kernel
theorem dX7_addNow_22 : decode cX7_addNow 22 = .ok (.iload 4, 2) := by decide +kernel
theorem dX7_addNow_24 : decode cX7_addNow 24 = .ok (.ifCond .eq 123, 3) := by decide +kernel
theorem dX7_addNow_27 : decode cX7_addNow 27 = .ok (.iconst 0, 1) := by decide +kernel
theorem dX7_addNow_28 : decode cX7_addNow 28 = .ok (.istore 4, 2) := by decide +kernel
theorem dX7_addNow_30 : decode cX7_addNow 30 = .ok (.iconst 0, 1) := by decide +kernel
theorem dX7_addNow_31 : decode cX7_addNow 31 = .ok (.istore 6, 2) := by decide +kernel
theorem dX7_addNow_33 : decode cX7_addNow 33 = .ok (.iload 6, 2) := by decide +kernel
theorem dX7_addNow_35 : decode cX7_addNow 35 = .ok (.aload_n 0, 1) := by decide +kernel
theorem dX7_addNow_36 : decode cX7_addNow 36 = .ok (.getfield 25, 3) := by decide +kernel
theorem dX7_addNow_39 : decode cX7_addNow 39 = .ok (.getfield 141, 3) := by decide +kernel
theorem dX7_addNow_42 : decode cX7_addNow 42 = .ok (.if_icmp .ge 99, 3) := by decide +kernel
theorem dX7_addNow_45 : decode cX7_addNow 45 = .ok (.aload_n 0, 1) := by decide +kernel
theorem dX7_addNow_46 : decode cX7_addNow 46 = .ok (.getfield 25, 3) := by decide +kernel
theorem dX7_addNow_49 : decode cX7_addNow 49 = .ok (.getfield 144, 3) := by decide +kernel
theorem dX7_addNow_52 : decode cX7_addNow 52 = .ok (.iload 6, 2) := by decide +kernel
theorem dX7_addNow_54 : decode cX7_addNow 54 = .ok (.aaload, 1) := by decide +kernel
theorem dX7_addNow_55 : decode cX7_addNow 55 = .ok (.astore 7, 2) := by decide +kernel
theorem dX7_addNow_57 : decode cX7_addNow 57 = .ok (.aload 7, 2) := by decide +kernel
theorem dX7_addNow_59 : decode cX7_addNow 59 = .ok (.getfield 151, 3) := by decide +kernel
theorem dX7_addNow_62 : decode cX7_addNow 62 = .ok (.ifCond .eq 73, 3) := by decide +kernel
theorem dX7_addNow_65 : decode cX7_addNow 65 = .ok (.aload 7, 2) := by decide +kernel
theorem dX7_addNow_67 : decode cX7_addNow 67 = .ok (.iload_n 1, 1) := by decide +kernel
theorem dX7_addNow_68 : decode cX7_addNow 68 = .ok (.invokevirtual 155, 3) := by decide +kernel
theorem dX7_addNow_71 : decode cX7_addNow 71 = .ok (.ifCond .eq 64, 3) := by decide +kernel
theorem dX7_addNow_74 : decode cX7_addNow 74 = .ok (.aload_n 0, 1) := by decide +kernel
theorem dX7_addNow_75 : decode cX7_addNow 75 = .ok (.aload 7, 2) := by decide +kernel
theorem dX7_addNow_77 : decode cX7_addNow 77 = .ok (.iload_n 1, 1) := by decide +kernel
theorem dX7_addNow_78 : decode cX7_addNow 78 = .ok (.iload_n 2, 1) := by decide +kernel
theorem dX7_addNow_79 : decode cX7_addNow 79 = .ok (.invokevirtual 128, 3) := by decide +kernel
theorem dX7_addNow_82 : decode cX7_addNow 82 = .ok (.aload_n 0, 1) := by decide +kernel
theorem dX7_addNow_83 : decode cX7_addNow 83 = .ok (.getfield 9, 3) := by decide +kernel
theorem dX7_addNow_86 : decode cX7_addNow 86 = .ok (.iload_n 3, 1) := by decide +kernel
theorem dX7_addNow_87 : decode cX7_addNow 87 = .ok (.aload 7, 2) := by decide +kernel
theorem dX7_addNow_89 : decode cX7_addNow 89 = .ok (.getfield 132, 3) := by decide +kernel
theorem dX7_addNow_92 : decode cX7_addNow 92 = .ok (.iadd, 1) := by decide +kernel
theorem dX7_addNow_93 : decode cX7_addNow 93 = .ok (.laload, 1) := by decide +kernel
theorem dX7_addNow_94 : decode cX7_addNow 94 = .ok (.ldc2_w 58, 3) := by decide +kernel
theorem dX7_addNow_97 : decode cX7_addNow 97 = .ok (.lxor, 1) := by decide +kernel
theorem dX7_addNow_98 : decode cX7_addNow 98 = .ok (.land, 1) := by decide +kernel
theorem dX7_addNow_99 : decode cX7_addNow 99 = .ok (.lstore 8, 2) := by decide +kernel
theorem dX7_addNow_101 : decode cX7_addNow 101 = .ok (.aload_n 0, 1) := by decide +kernel
theorem dX7_addNow_102 : decode cX7_addNow 102 = .ok (.getfield 9, 3) := by decide +kernel
theorem dX7_addNow_105 : decode cX7_addNow 105 = .ok (.iload_n 3, 1) := by decide +kernel
theorem dX7_addNow_106 : decode cX7_addNow 106 = .ok (.aload 7, 2) := by decide +kernel
theorem dX7_addNow_108 : decode cX7_addNow 108 = .ok (.getfield 132, 3) := by decide +kernel
theorem dX7_addNow_111 : decode cX7_addNow 111 = .ok (.iadd, 1) := by decide +kernel
theorem dX7_addNow_112 : decode cX7_addNow 112 = .ok (.dup2, 1) := by decide +kernel
theorem dX7_addNow_113 : decode cX7_addNow 113 = .ok (.laload, 1) := by decide +kernel
theorem dX7_addNow_114 : decode cX7_addNow 114 = .ok (.lload 8, 2) := by decide +kernel
theorem dX7_addNow_116 : decode cX7_addNow 116 = .ok (.lor, 1) := by decide +kernel
theorem dX7_addNow_117 : decode cX7_addNow 117 = .ok (.lastore, 1) := by decide +kernel
theorem dX7_addNow_118 : decode cX7_addNow 118 = .ok (.iload 4, 2) := by decide +kernel
theorem dX7_addNow_120 : decode cX7_addNow 120 = .ok (.lload 8, 2) := by decide +kernel
theorem dX7_addNow_122 : decode cX7_addNow 122 = .ok (.lconst 0, 1) := by decide +kernel
theorem dX7_addNow_123 : decode cX7_addNow 123 = .ok (.lcmp, 1) := by decide +kernel
theorem dX7_addNow_124 : decode cX7_addNow 124 = .ok (.ifCond .eq 7, 3) := by decide +kernel
theorem dX7_addNow_127 : decode cX7_addNow 127 = .ok (.iconst 1, 1) := by decide +kernel
theorem dX7_addNow_128 : decode cX7_addNow 128 = .ok (.goto 4, 3) := by decide +kernel
theorem dX7_addNow_131 : decode cX7_addNow 131 = .ok (.iconst 0, 1) := by decide +kernel
theorem dX7_addNow_132 : decode cX7_addNow 132 = .ok (.ior, 1) := by decide +kernel
theorem dX7_addNow_133 : decode cX7_addNow 133 = .ok (.istore 4, 2) := by decide +kernel
theorem dX7_addNow_135 : decode cX7_addNow 135 = .ok (.iinc 6 1, 3) := by decide +kernel
theorem dX7_addNow_138 : decode cX7_addNow 138 = .ok (.goto (-105), 3) := by decide +kernel
theorem dX7_addNow_141 : decode cX7_addNow 141 = .ok (.iinc 5 1, 3) := by decide +kernel
theorem dX7_addNow_144 : decode cX7_addNow 144 = .ok (.goto (-129), 3) := by decide +kernel
theorem dX7_addNow_147 : decode cX7_addNow 147 = .ok (.return_, 1) := by decide +kernel
theorem dX7_casesStand_0 : decode cX7_casesStand 0 = .ok (.iload_n 3, 1) := by decide +kernel
theorem dX7_casesStand_1 : decode cX7_casesStand 1 = .ok (.iconst 4, 1) := by decide +kernel
theorem dX7_casesStand_2 : decode cX7_casesStand 2 = .ok (.imul, 1) := by decide +kernel
theorem dX7_casesStand_3 : decode cX7_casesStand 3 = .ok (.iload_n 2, 1) := by decide +kernel
theorem dX7_casesStand_4 : decode cX7_casesStand 4 = .ok (.iadd, 1) := by decide +kernel
theorem dX7_casesStand_5 : decode cX7_casesStand 5 = .ok (.bipush 10, 2) := by decide +kernel
theorem dX7_casesStand_7 : decode cX7_casesStand 7 = .ok (.imul, 1) := by decide +kernel
theorem dX7_casesStand_8 : decode cX7_casesStand 8 = .ok (.istore 4, 2) := by decide +kernel
theorem dX7_casesStand_10 : decode cX7_casesStand 10 = .ok (.ldc2_w 58, 3) := by decide +kernel
theorem dX7_casesStand_13 : decode cX7_casesStand 13 = .ok (.lstore 5, 2) := by decide +kernel
theorem dX7_casesStand_15 : decode cX7_casesStand 15 = .ok (.iconst 0, 1) := by decide +kernel
theorem dX7_casesStand_16 : decode cX7_casesStand 16 = .ok (.istore 7, 2) := by decide +kernel
theorem dX7_casesStand_18 : decode cX7_casesStand 18 = .ok (.iload 7, 2) := by decide +kernel
theorem dX7_casesStand_20 : decode cX7_casesStand 20 = .ok (.aload_n 1, 1) := by decide +kernel
theorem dX7_casesStand_21 : decode cX7_casesStand 21 = .ok (.getfield 159, 3) := by decide +kernel
theorem dX7_casesStand_24 : decode cX7_casesStand 24 = .ok (.if_icmp .ge 39, 3) := by decide +kernel
theorem dX7_casesStand_27 : decode cX7_casesStand 27 = .ok (.aload_n 1, 1) := by decide +kernel
theorem dX7_casesStand_28 : decode cX7_casesStand 28 = .ok (.getfield 162, 3) := by decide +kernel
theorem dX7_casesStand_31 : decode cX7_casesStand 31 = .ok (.iload 7, 2) := by decide +kernel
theorem dX7_casesStand_33 : decode cX7_casesStand 33 = .ok (.baload, 1) := by decide +kernel
theorem dX7_casesStand_34 : decode cX7_casesStand 34 = .ok (.ifCond .ne 23, 3) := by decide +kernel
theorem dX7_casesStand_37 : decode cX7_casesStand 37 = .ok (.lload 5, 2) := by decide +kernel
theorem dX7_casesStand_39 : decode cX7_casesStand 39 = .ok (.aload_n 0, 1) := by decide +kernel
theorem dX7_casesStand_40 : decode cX7_casesStand 40 = .ok (.getfield 9, 3) := by decide +kernel
theorem dX7_casesStand_43 : decode cX7_casesStand 43 = .ok (.iload 4, 2) := by decide +kernel
theorem dX7_casesStand_45 : decode cX7_casesStand 45 = .ok (.aload_n 1, 1) := by decide +kernel
theorem dX7_casesStand_46 : decode cX7_casesStand 46 = .ok (.getfield 166, 3) := by decide +kernel
theorem dX7_casesStand_49 : decode cX7_casesStand 49 = .ok (.iload 7, 2) := by decide +kernel
theorem dX7_casesStand_51 : decode cX7_casesStand 51 = .ok (.iaload, 1) := by decide +kernel
theorem dX7_casesStand_52 : decode cX7_casesStand 52 = .ok (.iadd, 1) := by decide +kernel
theorem dX7_casesStand_53 : decode cX7_casesStand 53 = .ok (.laload, 1) := by decide +kernel
theorem dX7_casesStand_54 : decode cX7_casesStand 54 = .ok (.land, 1) := by decide +kernel
theorem dX7_casesStand_55 : decode cX7_casesStand 55 = .ok (.lstore 5, 2) := by decide +kernel
theorem dX7_casesStand_57 : decode cX7_casesStand 57 = .ok (.iinc 7 1, 3) := by decide +kernel
theorem dX7_casesStand_60 : decode cX7_casesStand 60 = .ok (.goto (-42), 3) := by decide +kernel
theorem dX7_casesStand_63 : decode cX7_casesStand 63 = .ok (.lload 5, 2) := by decide +kernel
theorem dX7_casesStand_65 : decode cX7_casesStand 65 = .ok (.lreturn, 1) := by decide +kernel
theorem dX8_init_0 : decode cX8_init 0 = .ok (.aload_n 0, 1) := by decide +kernel
theorem dX8_init_1 : decode cX8_init 1 = .ok (.invokespecial 3, 3) := by decide +kernel
theorem dX8_init_4 : decode cX8_init 4 = .ok (.aload_n 0, 1) := by decide +kernel
theorem dX8_init_5 : decode cX8_init 5 = .ok (.bipush 28, 2) := by decide +kernel
theorem dX8_init_7 : decode cX8_init 7 = .ok (.newarray .int, 2) := by decide +kernel
theorem dX8_init_9 : decode cX8_init 9 = .ok (.putfield 9, 3) := by decide +kernel
theorem dX8_init_12 : decode cX8_init 12 = .ok (.aload_n 0, 1) := by decide +kernel
theorem dX8_init_13 : decode cX8_init 13 = .ok (.iconst 4, 1) := by decide +kernel
theorem dX8_init_14 : decode cX8_init 14 = .ok (.newarray .int, 2) := by decide +kernel
theorem dX8_init_16 : decode cX8_init 16 = .ok (.putfield 15, 3) := by decide +kernel
theorem dX8_init_19 : decode cX8_init 19 = .ok (.aload_n 0, 1) := by decide +kernel
theorem dX8_init_20 : decode cX8_init 20 = .ok (.bipush 6, 2) := by decide +kernel
theorem dX8_init_22 : decode cX8_init 22 = .ok (.newarray .int, 2) := by decide +kernel
theorem dX8_init_24 : decode cX8_init 24 = .ok (.putfield 18, 3) := by decide +kernel
theorem dX8_init_27 : decode cX8_init 27 = .ok (.aload_n 0, 1) := by decide +kernel
theorem dX8_init_28 : decode cX8_init 28 = .ok (.bipush 42, 2) := by decide +kernel
theorem dX8_init_30 : decode cX8_init 30 = .ok (.newarray .int, 2) := by decide +kernel
theorem dX8_init_32 : decode cX8_init 32 = .ok (.putfield 21, 3) := by decide +kernel
theorem dX8_init_35 : decode cX8_init 35 = .ok (.aload_n 0, 1) := by decide +kernel
theorem dX8_init_36 : decode cX8_init 36 = .ok (.bipush 24, 2) := by decide +kernel
theorem dX8_init_38 : decode cX8_init 38 = .ok (.newarray .int, 2) := by decide +kernel
theorem dX8_init_40 : decode cX8_init 40 = .ok (.putfield 24, 3) := by decide +kernel
theorem dX8_init_43 : decode cX8_init 43 = .ok (.return_, 1) := by decide +kernel
theorem dX8_take_0 : decode cX8_take 0 = .ok (.iconst 0, 1) := by decide +kernel
theorem dX8_take_1 : decode cX8_take 1 = .ok (.istore 4, 2) := by decide +kernel
theorem dX8_take_3 : decode cX8_take 3 = .ok (.iload 4, 2) := by decide +kernel
theorem dX8_take_5 : decode cX8_take 5 = .ok (.aload_n 1, 1) := by decide +kernel
theorem dX8_take_6 : decode cX8_take 6 = .ok (.getfield 27, 3) := by decide +kernel
theorem dX8_take_9 : decode cX8_take 9 = .ok (.getfield 33, 3) := by decide +kernel
theorem dX8_take_12 : decode cX8_take 12 = .ok (.if_icmp .ge 87, 3) := by decide +kernel
theorem dX8_take_15 : decode cX8_take 15 = .ok (.aload_n 0, 1) := by decide +kernel
theorem dX8_take_16 : decode cX8_take 16 = .ok (.getfield 15, 3) := by decide +kernel
theorem dX8_take_19 : decode cX8_take 19 = .ok (.iload 4, 2) := by decide +kernel
theorem dX8_take_21 : decode cX8_take 21 = .ok (.iconst 0, 1) := by decide +kernel
theorem dX8_take_22 : decode cX8_take 22 = .ok (.iastore, 1) := by decide +kernel
theorem dX8_take_23 : decode cX8_take 23 = .ok (.iconst 0, 1) := by decide +kernel
theorem dX8_take_24 : decode cX8_take 24 = .ok (.istore 5, 2) := by decide +kernel
theorem dX8_take_26 : decode cX8_take 26 = .ok (.iload 5, 2) := by decide +kernel
theorem dX8_take_28 : decode cX8_take 28 = .ok (.aload_n 1, 1) := by decide +kernel
theorem dX8_take_29 : decode cX8_take 29 = .ok (.getfield 39, 3) := by decide +kernel
theorem dX8_take_32 : decode cX8_take 32 = .ok (.if_icmp .gt 61, 3) := by decide +kernel
theorem dX8_take_35 : decode cX8_take 35 = .ok (.aload_n 2, 1) := by decide +kernel
theorem dX8_take_36 : decode cX8_take 36 = .ok (.getfield 42, 3) := by decide +kernel
theorem dX8_take_39 : decode cX8_take 39 = .ok (.iload 4, 2) := by decide +kernel
theorem dX8_take_41 : decode cX8_take 41 = .ok (.bipush 7, 2) := by decide +kernel
theorem dX8_take_43 : decode cX8_take 43 = .ok (.imul, 1) := by decide +kernel
theorem dX8_take_44 : decode cX8_take 44 = .ok (.iload 5, 2) := by decide +kernel
theorem dX8_take_46 : decode cX8_take 46 = .ok (.iadd, 1) := by decide +kernel
theorem dX8_take_47 : decode cX8_take 47 = .ok (.laload, 1) := by decide +kernel
theorem dX8_take_48 : decode cX8_take 48 = .ok (.lconst 1, 1) := by decide +kernel
theorem dX8_take_49 : decode cX8_take 49 = .ok (.land, 1) := by decide +kernel
theorem dX8_take_50 : decode cX8_take 50 = .ok (.l2i, 1) := by decide +kernel
theorem dX8_take_51 : decode cX8_take 51 = .ok (.istore 6, 2) := by decide +kernel
theorem dX8_take_53 : decode cX8_take 53 = .ok (.aload_n 0, 1) := by decide +kernel
theorem dX8_take_54 : decode cX8_take 54 = .ok (.getfield 15, 3) := by decide +kernel
theorem dX8_take_57 : decode cX8_take 57 = .ok (.iload 4, 2) := by decide +kernel
theorem dX8_take_59 : decode cX8_take 59 = .ok (.dup2, 1) := by decide +kernel
theorem dX8_take_60 : decode cX8_take 60 = .ok (.iaload, 1) := by decide +kernel
theorem dX8_take_61 : decode cX8_take 61 = .ok (.iload 6, 2) := by decide +kernel
theorem dX8_take_63 : decode cX8_take 63 = .ok (.iload 5, 2) := by decide +kernel
theorem dX8_take_65 : decode cX8_take 65 = .ok (.ishl, 1) := by decide +kernel
theorem dX8_take_66 : decode cX8_take 66 = .ok (.ior, 1) := by decide +kernel
theorem dX8_take_67 : decode cX8_take 67 = .ok (.iastore, 1) := by decide +kernel
theorem dX8_take_68 : decode cX8_take 68 = .ok (.aload_n 0, 1) := by decide +kernel
theorem dX8_take_69 : decode cX8_take 69 = .ok (.aload_n 1, 1) := by decide +kernel
theorem dX8_take_70 : decode cX8_take 70 = .ok (.getfield 27, 3) := by decide +kernel
theorem dX8_take_73 : decode cX8_take 73 = .ok (.getfield 48, 3) := by decide +kernel
theorem dX8_take_76 : decode cX8_take 76 = .ok (.iload 5, 2) := by decide +kernel
theorem dX8_take_78 : decode cX8_take 78 = .ok (.iload 4, 2) := by decide +kernel
theorem dX8_take_80 : decode cX8_take 80 = .ok (.invokestatic 51, 3) := by decide +kernel
theorem dX8_take_83 : decode cX8_take 83 = .ok (.aload_n 3, 1) := by decide +kernel
theorem dX8_take_84 : decode cX8_take 84 = .ok (.invokevirtual 55, 3) := by decide +kernel
theorem dX8_take_87 : decode cX8_take 87 = .ok (.iinc 5 1, 3) := by decide +kernel
theorem dX8_take_90 : decode cX8_take 90 = .ok (.goto (-64), 3) := by decide +kernel
theorem dX8_take_93 : decode cX8_take 93 = .ok (.iinc 4 1, 3) := by decide +kernel
theorem dX8_take_96 : decode cX8_take 96 = .ok (.goto (-93), 3) := by decide +kernel
theorem dX8_take_99 : decode cX8_take 99 = .ok (.iconst 0, 1) := by decide +kernel
theorem dX8_take_100 : decode cX8_take 100 = .ok (.istore 4, 2) := by decide +kernel
theorem dX8_take_102 : decode cX8_take 102 = .ok (.iload 4, 2) := by decide +kernel
theorem dX8_take_104 : decode cX8_take 104 = .ok (.aload_n 1, 1) := by decide +kernel
theorem dX8_take_105 : decode cX8_take 105 = .ok (.getfield 27, 3) := by decide +kernel
theorem dX8_take_108 : decode cX8_take 108 = .ok (.getfield 59, 3) := by decide +kernel
theorem dX8_take_111 : decode cX8_take 111 = .ok (.if_icmp .ge 46, 3) := by decide +kernel
theorem dX8_take_114 : decode cX8_take 114 = .ok (.aload_n 0, 1) := by decide +kernel
theorem dX8_take_115 : decode cX8_take 115 = .ok (.getfield 18, 3) := by decide +kernel
theorem dX8_take_118 : decode cX8_take 118 = .ok (.iload 4, 2) := by decide +kernel
theorem dX8_take_120 : decode cX8_take 120 = .ok (.iconst 0, 1) := by decide +kernel
theorem dX8_take_121 : decode cX8_take 121 = .ok (.iastore, 1) := by decide +kernel
theorem dX8_take_122 : decode cX8_take 122 = .ok (.iconst 0, 1) := by decide +kernel
theorem dX8_take_123 : decode cX8_take 123 = .ok (.istore 5, 2) := by decide +kernel
theorem dX8_take_125 : decode cX8_take 125 = .ok (.iload 5, 2) := by decide +kernel
theorem dX8_take_127 : decode cX8_take 127 = .ok (.aload_n 1, 1) := by decide +kernel
theorem dX8_take_128 : decode cX8_take 128 = .ok (.getfield 39, 3) := by decide +kernel
theorem dX8_take_131 : decode cX8_take 131 = .ok (.if_icmp .ge 20, 3) := by decide +kernel
theorem dX8_take_134 : decode cX8_take 134 = .ok (.aload_n 0, 1) := by decide +kernel
theorem dX8_take_135 : decode cX8_take 135 = .ok (.aload_n 1, 1) := by decide +kernel
theorem dX8_take_136 : decode cX8_take 136 = .ok (.aload_n 2, 1) := by decide +kernel
theorem dX8_take_137 : decode cX8_take 137 = .ok (.aload_n 3, 1) := by decide +kernel
theorem dX8_take_138 : decode cX8_take 138 = .ok (.iload 4, 2) := by decide +kernel
theorem dX8_take_140 : decode cX8_take 140 = .ok (.iload 5, 2) := by decide +kernel
theorem dX8_take_142 : decode cX8_take 142 = .ok (.invokevirtual 62, 3) := by decide +kernel
theorem dX8_take_145 : decode cX8_take 145 = .ok (.iinc 5 1, 3) := by decide +kernel
theorem dX8_take_148 : decode cX8_take 148 = .ok (.goto (-23), 3) := by decide +kernel
theorem dX8_take_151 : decode cX8_take 151 = .ok (.iinc 4 1, 3) := by decide +kernel
theorem dX8_take_154 : decode cX8_take 154 = .ok (.goto (-52), 3) := by decide +kernel
theorem dX8_take_157 : decode cX8_take 157 = .ok (.aload_n 0, 1) := by decide +kernel
theorem dX8_take_158 : decode cX8_take 158 = .ok (.aload_n 3, 1) := by decide +kernel
theorem dX8_take_159 : decode cX8_take 159 = .ok (.getfield 66, 3) := by decide +kernel
theorem dX8_take_162 : decode cX8_take 162 = .ok (.lconst 1, 1) := by decide +kernel
theorem dX8_take_163 : decode cX8_take 163 = .ok (.land, 1) := by decide +kernel
theorem dX8_take_164 : decode cX8_take 164 = .ok (.lconst 0, 1) := by decide +kernel
theorem dX8_take_165 : decode cX8_take 165 = .ok (.lcmp, 1) := by decide +kernel
theorem dX8_take_166 : decode cX8_take 166 = .ok (.ifCond .eq 7, 3) := by decide +kernel
theorem dX8_take_169 : decode cX8_take 169 = .ok (.iconst 2, 1) := by decide +kernel
theorem dX8_take_170 : decode cX8_take 170 = .ok (.goto 19, 3) := by decide +kernel
theorem dX8_take_173 : decode cX8_take 173 = .ok (.aload_n 3, 1) := by decide +kernel
theorem dX8_take_174 : decode cX8_take 174 = .ok (.getfield 72, 3) := by decide +kernel
theorem dX8_take_177 : decode cX8_take 177 = .ok (.lconst 1, 1) := by decide +kernel
theorem dX8_take_178 : decode cX8_take 178 = .ok (.land, 1) := by decide +kernel
theorem dX8_take_179 : decode cX8_take 179 = .ok (.lconst 0, 1) := by decide +kernel
theorem dX8_take_180 : decode cX8_take 180 = .ok (.lcmp, 1) := by decide +kernel
theorem dX8_take_181 : decode cX8_take 181 = .ok (.ifCond .eq 7, 3) := by decide +kernel
theorem dX8_take_184 : decode cX8_take 184 = .ok (.iconst 0, 1) := by decide +kernel
theorem dX8_take_185 : decode cX8_take 185 = .ok (.goto 4, 3) := by decide +kernel
theorem dX8_take_188 : decode cX8_take 188 = .ok (.iconst 1, 1) := by decide +kernel
theorem dX8_take_189 : decode cX8_take 189 = .ok (.putfield 75, 3) := by decide +kernel
theorem dX8_take_192 : decode cX8_take 192 = .ok (.return_, 1) := by decide +kernel
theorem dX8_takeRows_0 : decode cX8_takeRows 0 = .ok (.iconst 0, 1) := by decide +kernel
theorem dX8_takeRows_1 : decode cX8_takeRows 1 = .ok (.istore 4, 2) := by decide +kernel
theorem dX8_takeRows_3 : decode cX8_takeRows 3 = .ok (.iconst 0, 1) := by decide +kernel
theorem dX8_takeRows_4 : decode cX8_takeRows 4 = .ok (.istore 5, 2) := by decide +kernel
theorem dX8_takeRows_6 : decode cX8_takeRows 6 = .ok (.iload 5, 2) := by decide +kernel
theorem dX8_takeRows_8 : decode cX8_takeRows 8 = .ok (.iload_n 1, 1) := by decide +kernel
theorem dX8_takeRows_9 : decode cX8_takeRows 9 = .ok (.if_icmp .ge 32, 3) := by decide +kernel
theorem dX8_takeRows_12 : decode cX8_takeRows 12 = .ok (.iload 4, 2) := by decide +kernel
theorem dX8_takeRows_14 : decode cX8_takeRows 14 = .ok (.aload_n 3, 1) := by decide +kernel
theorem dX8_takeRows_15 : decode cX8_takeRows 15 = .ok (.getfield 78, 3) := by decide +kernel
theorem dX8_takeRows_18 : decode cX8_takeRows 18 = .ok (.iload_n 2, 1) := by decide +kernel
theorem dX8_takeRows_19 : decode cX8_takeRows 19 = .ok (.bipush 10, 2) := by decide +kernel
theorem dX8_takeRows_21 : decode cX8_takeRows 21 = .ok (.imul, 1) := by decide +kernel
theorem dX8_takeRows_22 : decode cX8_takeRows 22 = .ok (.iload 5, 2) := by decide +kernel
theorem dX8_takeRows_24 : decode cX8_takeRows 24 = .ok (.iadd, 1) := by decide +kernel
theorem dX8_takeRows_25 : decode cX8_takeRows 25 = .ok (.laload, 1) := by decide +kernel
theorem dX8_takeRows_26 : decode cX8_takeRows 26 = .ok (.lconst 1, 1) := by decide +kernel
theorem dX8_takeRows_27 : decode cX8_takeRows 27 = .ok (.land, 1) := by decide +kernel
theorem dX8_takeRows_28 : decode cX8_takeRows 28 = .ok (.l2i, 1) := by decide +kernel
theorem dX8_takeRows_29 : decode cX8_takeRows 29 = .ok (.iload 5, 2) := by decide +kernel
theorem dX8_takeRows_31 : decode cX8_takeRows 31 = .ok (.ishl, 1) := by decide +kernel
theorem dX8_takeRows_32 : decode cX8_takeRows 32 = .ok (.ior, 1) := by decide +kernel
theorem dX8_takeRows_33 : decode cX8_takeRows 33 = .ok (.istore 4, 2) := by decide +kernel
theorem dX8_takeRows_35 : decode cX8_takeRows 35 = .ok (.iinc 5 1, 3) := by decide +kernel
theorem dX8_takeRows_38 : decode cX8_takeRows 38 = .ok (.goto (-32), 3) := by decide +kernel
theorem dX8_takeRows_41 : decode cX8_takeRows 41 = .ok (.aload_n 0, 1) := by decide +kernel
theorem dX8_takeRows_42 : decode cX8_takeRows 42 = .ok (.getfield 9, 3) := by decide +kernel
theorem dX8_takeRows_45 : decode cX8_takeRows 45 = .ok (.iload_n 2, 1) := by decide +kernel
theorem dX8_takeRows_46 : decode cX8_takeRows 46 = .ok (.iload 4, 2) := by decide +kernel
theorem dX8_takeRows_48 : decode cX8_takeRows 48 = .ok (.iastore, 1) := by decide +kernel
theorem dX8_takeRows_49 : decode cX8_takeRows 49 = .ok (.return_, 1) := by decide +kernel
theorem dX8_takeWord_0 : decode cX8_takeWord 0 = .ok (.aload_n 1, 1) := by decide +kernel
theorem dX8_takeWord_1 : decode cX8_takeWord 1 = .ok (.getfield 27, 3) := by decide +kernel
theorem dX8_takeWord_4 : decode cX8_takeWord 4 = .ok (.getfield 80, 3) := by decide +kernel
theorem dX8_takeWord_7 : decode cX8_takeWord 7 = .ok (.iload 4, 2) := by decide +kernel
theorem dX8_takeWord_9 : decode cX8_takeWord 9 = .ok (.aaload, 1) := by decide +kernel
theorem dX8_takeWord_10 : decode cX8_takeWord 10 = .ok (.astore 6, 2) := by decide +kernel
theorem dX8_takeWord_12 : decode cX8_takeWord 12 = .ok (.iload 4, 2) := by decide +kernel
theorem dX8_takeWord_14 : decode cX8_takeWord 14 = .ok (.bipush 7, 2) := by decide +kernel
theorem dX8_takeWord_16 : decode cX8_takeWord 16 = .ok (.imul, 1) := by decide +kernel
theorem dX8_takeWord_17 : decode cX8_takeWord 17 = .ok (.iload 5, 2) := by decide +kernel
theorem dX8_takeWord_19 : decode cX8_takeWord 19 = .ok (.iadd, 1) := by decide +kernel
theorem dX8_takeWord_20 : decode cX8_takeWord 20 = .ok (.istore 7, 2) := by decide +kernel
theorem dX8_takeWord_22 : decode cX8_takeWord 22 = .ok (.aload_n 3, 1) := by decide +kernel
theorem dX8_takeWord_23 : decode cX8_takeWord 23 = .ok (.getfield 84, 3) := by decide +kernel
theorem dX8_takeWord_26 : decode cX8_takeWord 26 = .ok (.iload 7, 2) := by decide +kernel
theorem dX8_takeWord_28 : decode cX8_takeWord 28 = .ok (.laload, 1) := by decide +kernel
theorem dX8_takeWord_29 : decode cX8_takeWord 29 = .ok (.lconst 1, 1) := by decide +kernel
theorem dX8_takeWord_30 : decode cX8_takeWord 30 = .ok (.land, 1) := by decide +kernel
theorem dX8_takeWord_31 : decode cX8_takeWord 31 = .ok (.lconst 0, 1) := by decide +kernel
theorem dX8_takeWord_32 : decode cX8_takeWord 32 = .ok (.lcmp, 1) := by decide +kernel
theorem dX8_takeWord_33 : decode cX8_takeWord 33 = .ok (.ifCond .ne 12, 3) := by decide +kernel
theorem dX8_takeWord_36 : decode cX8_takeWord 36 = .ok (.aload_n 0, 1) := by decide +kernel
theorem dX8_takeWord_37 : decode cX8_takeWord 37 = .ok (.getfield 21, 3) := by decide +kernel
theorem dX8_takeWord_40 : decode cX8_takeWord 40 = .ok (.iload 7, 2) := by decide +kernel
theorem dX8_takeWord_42 : decode cX8_takeWord 42 = .ok (.iconst 0, 1) := by decide +kernel
theorem dX8_takeWord_43 : decode cX8_takeWord 43 = .ok (.iastore, 1) := by decide +kernel
theorem dX8_takeWord_44 : decode cX8_takeWord 44 = .ok (.return_, 1) := by decide +kernel
theorem dX8_takeWord_45 : decode cX8_takeWord 45 = .ok (.aload 6, 2) := by decide +kernel
theorem dX8_takeWord_47 : decode cX8_takeWord 47 = .ok (.aload_n 0, 1) := by decide +kernel
theorem dX8_takeWord_48 : decode cX8_takeWord 48 = .ok (.getfield 9, 3) := by decide +kernel
theorem dX8_takeWord_51 : decode cX8_takeWord 51 = .ok (.iload 5, 2) := by decide +kernel
theorem dX8_takeWord_53 : decode cX8_takeWord 53 = .ok (.aload 6, 2) := by decide +kernel
theorem dX8_takeWord_55 : decode cX8_takeWord 55 = .ok (.getfield 87, 3) := by decide +kernel
theorem dX8_takeWord_58 : decode cX8_takeWord 58 = .ok (.invokestatic 51, 3) := by decide +kernel
theorem dX8_takeWord_61 : decode cX8_takeWord 61 = .ok (.iaload, 1) := by decide +kernel
theorem dX8_takeWord_62 : decode cX8_takeWord 62 = .ok (.aload_n 1, 1) := by decide +kernel
theorem dX8_takeWord_63 : decode cX8_takeWord 63 = .ok (.iload 4, 2) := by decide +kernel
theorem dX8_takeWord_65 : decode cX8_takeWord 65 = .ok (.invokevirtual 92, 3) := by decide +kernel
theorem dX8_takeWord_68 : decode cX8_takeWord 68 = .ok (.invokevirtual 96, 3) := by decide +kernel
theorem dX8_takeWord_71 : decode cX8_takeWord 71 = .ok (.ifCond .ne 17, 3) := by decide +kernel
theorem dX8_takeWord_74 : decode cX8_takeWord 74 = .ok (.aload_n 0, 1) := by decide +kernel
theorem dX8_takeWord_75 : decode cX8_takeWord 75 = .ok (.getfield 18, 3) := by decide +kernel
theorem dX8_takeWord_78 : decode cX8_takeWord 78 = .ok (.iload 4, 2) := by decide +kernel
theorem dX8_takeWord_80 : decode cX8_takeWord 80 = .ok (.dup2, 1) := by decide +kernel
theorem dX8_takeWord_81 : decode cX8_takeWord 81 = .ok (.iaload, 1) := by decide +kernel
theorem dX8_takeWord_82 : decode cX8_takeWord 82 = .ok (.iconst 1, 1) := by decide +kernel
theorem dX8_takeWord_83 : decode cX8_takeWord 83 = .ok (.iload 5, 2) := by decide +kernel
theorem dX8_takeWord_85 : decode cX8_takeWord 85 = .ok (.ishl, 1) := by decide +kernel
theorem dX8_takeWord_86 : decode cX8_takeWord 86 = .ok (.ior, 1) := by decide +kernel
theorem dX8_takeWord_87 : decode cX8_takeWord 87 = .ok (.iastore, 1) := by decide +kernel
theorem dX8_takeWord_88 : decode cX8_takeWord 88 = .ok (.aload_n 2, 1) := by decide +kernel
theorem dX8_takeWord_89 : decode cX8_takeWord 89 = .ok (.getfield 100, 3) := by decide +kernel
theorem dX8_takeWord_92 : decode cX8_takeWord 92 = .ok (.iload 7, 2) := by decide +kernel
theorem dX8_takeWord_94 : decode cX8_takeWord 94 = .ok (.laload, 1) := by decide +kernel
theorem dX8_takeWord_95 : decode cX8_takeWord 95 = .ok (.lconst 1, 1) := by decide +kernel
theorem dX8_takeWord_96 : decode cX8_takeWord 96 = .ok (.land, 1) := by decide +kernel
theorem dX8_takeWord_97 : decode cX8_takeWord 97 = .ok (.lconst 0, 1) := by decide +kernel
theorem dX8_takeWord_98 : decode cX8_takeWord 98 = .ok (.lcmp, 1) := by decide +kernel
theorem dX8_takeWord_99 : decode cX8_takeWord 99 = .ok (.ifCond .eq 7, 3) := by decide +kernel
theorem dX8_takeWord_102 : decode cX8_takeWord 102 = .ok (.iconst 1, 1) := by decide +kernel
theorem dX8_takeWord_103 : decode cX8_takeWord 103 = .ok (.goto 4, 3) := by decide +kernel
theorem dX8_takeWord_106 : decode cX8_takeWord 106 = .ok (.iconst 0, 1) := by decide +kernel
theorem dX8_takeWord_107 : decode cX8_takeWord 107 = .ok (.istore 8, 2) := by decide +kernel
theorem dX8_takeWord_109 : decode cX8_takeWord 109 = .ok (.iload 5, 2) := by decide +kernel
theorem dX8_takeWord_111 : decode cX8_takeWord 111 = .ok (.iconst 1, 1) := by decide +kernel
theorem dX8_takeWord_112 : decode cX8_takeWord 112 = .ok (.iadd, 1) := by decide +kernel
theorem dX8_takeWord_113 : decode cX8_takeWord 113 = .ok (.iload 8, 2) := by decide +kernel
theorem dX8_takeWord_115 : decode cX8_takeWord 115 = .ok (.ifCond .eq 7, 3) := by decide +kernel
theorem dX8_takeWord_118 : decode cX8_takeWord 118 = .ok (.iconst 2, 1) := by decide +kernel
theorem dX8_takeWord_119 : decode cX8_takeWord 119 = .ok (.goto 4, 3) := by decide +kernel
theorem dX8_takeWord_122 : decode cX8_takeWord 122 = .ok (.iconst 0, 1) := by decide +kernel
theorem dX8_takeWord_123 : decode cX8_takeWord 123 = .ok (.iadd, 1) := by decide +kernel
theorem dX8_takeWord_124 : decode cX8_takeWord 124 = .ok (.istore 9, 2) := by decide +kernel
theorem dX8_takeWord_126 : decode cX8_takeWord 126 = .ok (.aload_n 2, 1) := by decide +kernel
theorem dX8_takeWord_127 : decode cX8_takeWord 127 = .ok (.getfield 103, 3) := by decide +kernel
theorem dX8_takeWord_130 : decode cX8_takeWord 130 = .ok (.iload 7, 2) := by decide +kernel
theorem dX8_takeWord_132 : decode cX8_takeWord 132 = .ok (.laload, 1) := by decide +kernel
theorem dX8_takeWord_133 : decode cX8_takeWord 133 = .ok (.lconst 1, 1) := by decide +kernel
theorem dX8_takeWord_134 : decode cX8_takeWord 134 = .ok (.land, 1) := by decide +kernel
theorem dX8_takeWord_135 : decode cX8_takeWord 135 = .ok (.lconst 0, 1) := by decide +kernel
theorem dX8_takeWord_136 : decode cX8_takeWord 136 = .ok (.lcmp, 1) := by decide +kernel
theorem dX8_takeWord_137 : decode cX8_takeWord 137 = .ok (.ifCond .eq 14, 3) := by decide +kernel
theorem dX8_takeWord_140 : decode cX8_takeWord 140 = .ok (.aload_n 0, 1) := by decide +kernel
theorem dX8_takeWord_141 : decode cX8_takeWord 141 = .ok (.getfield 21, 3) := by decide +kernel
theorem dX8_takeWord_144 : decode cX8_takeWord 144 = .ok (.iload 7, 2) := by decide +kernel
theorem dX8_takeWord_146 : decode cX8_takeWord 146 = .ok (.iconst 2, 1) := by decide +kernel
theorem dX8_takeWord_147 : decode cX8_takeWord 147 = .ok (.iastore, 1) := by decide +kernel
theorem dX8_takeWord_148 : decode cX8_takeWord 148 = .ok (.goto 54, 3) := by decide +kernel
theorem dX8_takeWord_151 : decode cX8_takeWord 151 = .ok (.iload 9, 2) := by decide +kernel
theorem dX8_takeWord_153 : decode cX8_takeWord 153 = .ok (.aload_n 1, 1) := by decide +kernel
theorem dX8_takeWord_154 : decode cX8_takeWord 154 = .ok (.getfield 39, 3) := by decide +kernel
theorem dX8_takeWord_157 : decode cX8_takeWord 157 = .ok (.if_icmp .gt 17, 3) := by decide +kernel
theorem dX8_takeWord_160 : decode cX8_takeWord 160 = .ok (.aload_n 0, 1) := by decide +kernel
theorem dX8_takeWord_161 : decode cX8_takeWord 161 = .ok (.aload 6, 2) := by decide +kernel
theorem dX8_takeWord_163 : decode cX8_takeWord 163 = .ok (.getfield 106, 3) := by decide +kernel
theorem dX8_takeWord_166 : decode cX8_takeWord 166 = .ok (.iload 9, 2) := by decide +kernel
theorem dX8_takeWord_168 : decode cX8_takeWord 168 = .ok (.invokevirtual 109, 3) := by decide +kernel
theorem dX8_takeWord_171 : decode cX8_takeWord 171 = .ok (.ifCond .eq 14, 3) := by decide +kernel
theorem dX8_takeWord_174 : decode cX8_takeWord 174 = .ok (.aload_n 0, 1) := by decide +kernel
theorem dX8_takeWord_175 : decode cX8_takeWord 175 = .ok (.getfield 21, 3) := by decide +kernel
theorem dX8_takeWord_178 : decode cX8_takeWord 178 = .ok (.iload 7, 2) := by decide +kernel
theorem dX8_takeWord_180 : decode cX8_takeWord 180 = .ok (.iconst 4, 1) := by decide +kernel
theorem dX8_takeWord_181 : decode cX8_takeWord 181 = .ok (.iastore, 1) := by decide +kernel
theorem dX8_takeWord_182 : decode cX8_takeWord 182 = .ok (.goto 20, 3) := by decide +kernel
theorem dX8_takeWord_185 : decode cX8_takeWord 185 = .ok (.aload_n 0, 1) := by decide +kernel
theorem dX8_takeWord_186 : decode cX8_takeWord 186 = .ok (.getfield 21, 3) := by decide +kernel
theorem dX8_takeWord_189 : decode cX8_takeWord 189 = .ok (.iload 7, 2) := by decide +kernel
theorem dX8_takeWord_191 : decode cX8_takeWord 191 = .ok (.iload 8, 2) := by decide +kernel
theorem dX8_takeWord_193 : decode cX8_takeWord 193 = .ok (.ifCond .eq 7, 3) := by decide +kernel
theorem dX8_takeWord_196 : decode cX8_takeWord 196 = .ok (.iconst 3, 1) := by decide +kernel
theorem dX8_takeWord_197 : decode cX8_takeWord 197 = .ok (.goto 4, 3) := by decide +kernel
theorem dX8_takeWord_200 : decode cX8_takeWord 200 = .ok (.iconst 1, 1) := by decide +kernel
theorem dX8_takeWord_201 : decode cX8_takeWord 201 = .ok (.iastore, 1) := by decide +kernel
theorem dX8_takeWord_202 : decode cX8_takeWord 202 = .ok (.return_, 1) := by decide +kernel
theorem dX8_isDown_0 : decode cX8_isDown 0 = .ok (.aload_n 0, 1) := by decide +kernel
theorem dX8_isDown_1 : decode cX8_isDown 1 = .ok (.getfield 15, 3) := by decide +kernel
theorem dX8_isDown_4 : decode cX8_isDown 4 = .ok (.iload_n 1, 1) := by decide +kernel
theorem dX8_isDown_5 : decode cX8_isDown 5 = .ok (.iaload, 1) := by decide +kernel
theorem dX8_isDown_6 : decode cX8_isDown 6 = .ok (.iload_n 2, 1) := by decide +kernel
theorem dX8_isDown_7 : decode cX8_isDown 7 = .ok (.ishr, 1) := by decide +kernel
theorem dX8_isDown_8 : decode cX8_isDown 8 = .ok (.iconst 1, 1) := by decide +kernel
theorem dX8_isDown_9 : decode cX8_isDown 9 = .ok (.iand, 1) := by decide +kernel
theorem dX8_isDown_10 : decode cX8_isDown 10 = .ok (.ifCond .eq 7, 3) := by decide +kernel
theorem dX8_isDown_13 : decode cX8_isDown 13 = .ok (.iconst 1, 1) := by decide +kernel
theorem dX8_isDown_14 : decode cX8_isDown 14 = .ok (.goto 4, 3) := by decide +kernel
theorem dX8_isDown_17 : decode cX8_isDown 17 = .ok (.iconst 0, 1) := by decide +kernel
theorem dX8_isDown_18 : decode cX8_isDown 18 = .ok (.ireturn, 1) := by decide +kernel
theorem dX8_isThere_0 : decode cX8_isThere 0 = .ok (.aload_n 0, 1) := by decide +kernel
theorem dX8_isThere_1 : decode cX8_isThere 1 = .ok (.getfield 9, 3) := by decide +kernel
theorem dX8_isThere_4 : decode cX8_isThere 4 = .ok (.iload_n 3, 1) := by decide +kernel
theorem dX8_isThere_5 : decode cX8_isThere 5 = .ok (.iload_n 2, 1) := by decide +kernel
theorem dX8_isThere_6 : decode cX8_isThere 6 = .ok (.invokestatic 51, 3) := by decide +kernel
theorem dX8_isThere_9 : decode cX8_isThere 9 = .ok (.iaload, 1) := by decide +kernel
theorem dX8_isThere_10 : decode cX8_isThere 10 = .ok (.iload_n 1, 1) := by decide +kernel
theorem dX8_isThere_11 : decode cX8_isThere 11 = .ok (.ishr, 1) := by decide +kernel
theorem dX8_isThere_12 : decode cX8_isThere 12 = .ok (.iconst 1, 1) := by decide +kernel
theorem dX8_isThere_13 : decode cX8_isThere 13 = .ok (.iand, 1) := by decide +kernel
theorem dX8_isThere_14 : decode cX8_isThere 14 = .ok (.ifCond .eq 7, 3) := by decide +kernel
theorem dX8_isThere_17 : decode cX8_isThere 17 = .ok (.iconst 1, 1) := by decide +kernel
theorem dX8_isThere_18 : decode cX8_isThere 18 = .ok (.goto 4, 3) := by decide +kernel
theorem dX8_isThere_21 : decode cX8_isThere 21 = .ok (.iconst 0, 1) := by decide +kernel
theorem dX8_isThere_22 : decode cX8_isThere 22 = .ok (.ireturn, 1) := by decide +kernel
theorem dX8_comesIn_0 : decode cX8_comesIn 0 = .ok (.aload_n 0, 1) := by decide +kernel
theorem dX8_comesIn_1 : decode cX8_comesIn 1 = .ok (.getfield 21, 3) := by decide +kernel
theorem dX8_comesIn_4 : decode cX8_comesIn 4 = .ok (.iload_n 1, 1) := by decide +kernel
theorem dX8_comesIn_5 : decode cX8_comesIn 5 = .ok (.bipush 7, 2) := by decide +kernel
theorem dX8_comesIn_7 : decode cX8_comesIn 7 = .ok (.imul, 1) := by decide +kernel
theorem dX8_comesIn_8 : decode cX8_comesIn 8 = .ok (.iload_n 2, 1) := by decide +kernel
theorem dX8_comesIn_9 : decode cX8_comesIn 9 = .ok (.iadd, 1) := by decide +kernel
theorem dX8_comesIn_10 : decode cX8_comesIn 10 = .ok (.iaload, 1) := by decide +kernel
theorem dX8_comesIn_11 : decode cX8_comesIn 11 = .ok (.istore 4, 2) := by decide +kernel
theorem dX8_comesIn_13 : decode cX8_comesIn 13 = .ok (.iload 4, 2) := by decide +kernel
theorem dX8_comesIn_15 : decode cX8_comesIn 15 = .ok (.iconst 1, 1) := by decide +kernel
theorem dX8_comesIn_16 : decode cX8_comesIn 16 = .ok (.if_icmp .ne 10, 3) := by decide +kernel
theorem dX8_comesIn_19 : decode cX8_comesIn 19 = .ok (.iload_n 2, 1) := by decide +kernel
theorem dX8_comesIn_20 : decode cX8_comesIn 20 = .ok (.iconst 1, 1) := by decide +kernel
theorem dX8_comesIn_21 : decode cX8_comesIn 21 = .ok (.iadd, 1) := by decide +kernel
theorem dX8_comesIn_22 : decode cX8_comesIn 22 = .ok (.iload_n 3, 1) := by decide +kernel
theorem dX8_comesIn_23 : decode cX8_comesIn 23 = .ok (.if_icmp .eq 18, 3) := by decide +kernel
theorem dX8_comesIn_26 : decode cX8_comesIn 26 = .ok (.iload 4, 2) := by decide +kernel
theorem dX8_comesIn_28 : decode cX8_comesIn 28 = .ok (.iconst 3, 1) := by decide +kernel
theorem dX8_comesIn_29 : decode cX8_comesIn 29 = .ok (.if_icmp .ne 16, 3) := by decide +kernel
theorem dX8_comesIn_32 : decode cX8_comesIn 32 = .ok (.iload_n 2, 1) := by decide +kernel
theorem dX8_comesIn_33 : decode cX8_comesIn 33 = .ok (.iconst 1, 1) := by decide +kernel
theorem dX8_comesIn_34 : decode cX8_comesIn 34 = .ok (.iadd, 1) := by decide +kernel
theorem dX8_comesIn_35 : decode cX8_comesIn 35 = .ok (.iconst 2, 1) := by decide +kernel
theorem dX8_comesIn_36 : decode cX8_comesIn 36 = .ok (.iadd, 1) := by decide +kernel
theorem dX8_comesIn_37 : decode cX8_comesIn 37 = .ok (.iload_n 3, 1) := by decide +kernel
theorem dX8_comesIn_38 : decode cX8_comesIn 38 = .ok (.if_icmp .ne 7, 3) := by decide +kernel
theorem dX8_comesIn_41 : decode cX8_comesIn 41 = .ok (.iconst 1, 1) := by decide +kernel
theorem dX8_comesIn_42 : decode cX8_comesIn 42 = .ok (.goto 4, 3) := by decide +kernel
theorem dX8_comesIn_45 : decode cX8_comesIn 45 = .ok (.iconst 0, 1) := by decide +kernel
theorem dX8_comesIn_46 : decode cX8_comesIn 46 = .ok (.ireturn, 1) := by decide +kernel
theorem dX8_caseTick_0 : decode cX8_caseTick 0 = .ok (.iload_n 2, 1) := by decide +kernel
theorem dX8_caseTick_1 : decode cX8_caseTick 1 = .ok (.aload_n 0, 1) := by decide +kernel
theorem dX8_caseTick_2 : decode cX8_caseTick 2 = .ok (.getfield 18, 3) := by decide +kernel
theorem dX8_caseTick_5 : decode cX8_caseTick 5 = .ok (.iload_n 1, 1) := by decide +kernel
theorem dX8_caseTick_6 : decode cX8_caseTick 6 = .ok (.iaload, 1) := by decide +kernel
theorem dX8_caseTick_7 : decode cX8_caseTick 7 = .ok (.iload_n 2, 1) := by decide +kernel
theorem dX8_caseTick_8 : decode cX8_caseTick 8 = .ok (.ishr, 1) := by decide +kernel
theorem dX8_caseTick_9 : decode cX8_caseTick 9 = .ok (.iconst 1, 1) := by decide +kernel
theorem dX8_caseTick_10 : decode cX8_caseTick 10 = .ok (.iand, 1) := by decide +kernel
theorem dX8_caseTick_11 : decode cX8_caseTick 11 = .ok (.isub, 1) := by decide +kernel
theorem dX8_caseTick_12 : decode cX8_caseTick 12 = .ok (.ireturn, 1) := by decide +kernel
theorem dX8_tickAhead_0 : decode cX8_tickAhead 0 = .ok (.iload_n 2, 1) := by decide +kernel
theorem dX8_tickAhead_1 : decode cX8_tickAhead 1 = .ok (.iconst 1, 1) := by decide +kernel
theorem dX8_tickAhead_2 : decode cX8_tickAhead 2 = .ok (.isub, 1) := by decide +kernel
theorem dX8_tickAhead_3 : decode cX8_tickAhead 3 = .ok (.istore_n 3, 1) := by decide +kernel
theorem dX8_tickAhead_4 : decode cX8_tickAhead 4 = .ok (.iload_n 3, 1) := by decide +kernel
theorem dX8_tickAhead_5 : decode cX8_tickAhead 5 = .ok (.ifCond .lt 20, 3) := by decide +kernel
theorem dX8_tickAhead_8 : decode cX8_tickAhead 8 = .ok (.aload_n 0, 1) := by decide +kernel
theorem dX8_tickAhead_9 : decode cX8_tickAhead 9 = .ok (.iload_n 1, 1) := by decide +kernel
theorem dX8_tickAhead_10 : decode cX8_tickAhead 10 = .ok (.iload_n 3, 1) := by decide +kernel
theorem dX8_tickAhead_11 : decode cX8_tickAhead 11 = .ok (.invokevirtual 109, 3) := by decide +kernel
theorem dX8_tickAhead_14 : decode cX8_tickAhead 14 = .ok (.ifCond .ne 5, 3) := by decide +kernel
theorem dX8_tickAhead_17 : decode cX8_tickAhead 17 = .ok (.iload_n 3, 1) := by decide +kernel
theorem dX8_tickAhead_18 : decode cX8_tickAhead 18 = .ok (.ireturn, 1) := by decide +kernel
theorem dX8_tickAhead_19 : decode cX8_tickAhead 19 = .ok (.iinc 3 (-1), 3) := by decide +kernel
theorem dX8_tickAhead_22 : decode cX8_tickAhead 22 = .ok (.goto (-18), 3) := by decide +kernel
theorem dX8_tickAhead_25 : decode cX8_tickAhead 25 = .ok (.iconst (-1), 1) := by decide +kernel
theorem dX8_tickAhead_26 : decode cX8_tickAhead 26 = .ok (.ireturn, 1) := by decide +kernel
theorem dX8_bringsNext_0 : decode cX8_bringsNext 0 = .ok (.aload_n 1, 1) := by decide +kernel
theorem dX8_bringsNext_1 : decode cX8_bringsNext 1 = .ok (.getfield 113, 3) := by decide +kernel
theorem dX8_bringsNext_4 : decode cX8_bringsNext 4 = .ok (.ifCond .ne 50, 3) := by decide +kernel
theorem dX8_bringsNext_7 : decode cX8_bringsNext 7 = .ok (.aload_n 1, 1) := by decide +kernel
theorem dX8_bringsNext_8 : decode cX8_bringsNext 8 = .ok (.iload_n 2, 1) := by decide +kernel
theorem dX8_bringsNext_9 : decode cX8_bringsNext 9 = .ok (.invokevirtual 117, 3) := by decide +kernel
theorem dX8_bringsNext_12 : decode cX8_bringsNext 12 = .ok (.ifCond .eq 42, 3) := by decide +kernel
theorem dX8_bringsNext_15 : decode cX8_bringsNext 15 = .ok (.iload_n 3, 1) := by decide +kernel
theorem dX8_bringsNext_16 : decode cX8_bringsNext 16 = .ok (.ifCond .le 38, 3) := by decide +kernel
theorem dX8_bringsNext_19 : decode cX8_bringsNext 19 = .ok (.aload_n 0, 1) := by decide +kernel
theorem dX8_bringsNext_20 : decode cX8_bringsNext 20 = .ok (.iload_n 2, 1) := by decide +kernel
theorem dX8_bringsNext_21 : decode cX8_bringsNext 21 = .ok (.iload_n 3, 1) := by decide +kernel
theorem dX8_bringsNext_22 : decode cX8_bringsNext 22 = .ok (.iconst 1, 1) := by decide +kernel
theorem dX8_bringsNext_23 : decode cX8_bringsNext 23 = .ok (.isub, 1) := by decide +kernel
theorem dX8_bringsNext_24 : decode cX8_bringsNext 24 = .ok (.invokevirtual 109, 3) := by decide +kernel
theorem dX8_bringsNext_27 : decode cX8_bringsNext 27 = .ok (.ifCond .ne 27, 3) := by decide +kernel
theorem dX8_bringsNext_30 : decode cX8_bringsNext 30 = .ok (.aload_n 1, 1) := by decide +kernel
theorem dX8_bringsNext_31 : decode cX8_bringsNext 31 = .ok (.aload_n 0, 1) := by decide +kernel
theorem dX8_bringsNext_32 : decode cX8_bringsNext 32 = .ok (.getfield 9, 3) := by decide +kernel
theorem dX8_bringsNext_35 : decode cX8_bringsNext 35 = .ok (.iload_n 3, 1) := by decide +kernel
theorem dX8_bringsNext_36 : decode cX8_bringsNext 36 = .ok (.iconst 1, 1) := by decide +kernel
theorem dX8_bringsNext_37 : decode cX8_bringsNext 37 = .ok (.isub, 1) := by decide +kernel
theorem dX8_bringsNext_38 : decode cX8_bringsNext 38 = .ok (.iload_n 2, 1) := by decide +kernel
theorem dX8_bringsNext_39 : decode cX8_bringsNext 39 = .ok (.invokestatic 51, 3) := by decide +kernel
theorem dX8_bringsNext_42 : decode cX8_bringsNext 42 = .ok (.iaload, 1) := by decide +kernel
theorem dX8_bringsNext_43 : decode cX8_bringsNext 43 = .ok (.iconst 0, 1) := by decide +kernel
theorem dX8_bringsNext_44 : decode cX8_bringsNext 44 = .ok (.invokevirtual 96, 3) := by decide +kernel
theorem dX8_bringsNext_47 : decode cX8_bringsNext 47 = .ok (.ifCond .eq 7, 3) := by decide +kernel
theorem dX8_bringsNext_50 : decode cX8_bringsNext 50 = .ok (.iconst 1, 1) := by decide +kernel
theorem dX8_bringsNext_51 : decode cX8_bringsNext 51 = .ok (.goto 4, 3) := by decide +kernel
theorem dX8_bringsNext_54 : decode cX8_bringsNext 54 = .ok (.iconst 0, 1) := by decide +kernel
theorem dX8_bringsNext_55 : decode cX8_bringsNext 55 = .ok (.ireturn, 1) := by decide +kernel
theorem dX8_bringsNow_0 : decode cX8_bringsNow 0 = .ok (.aload_n 1, 1) := by decide +kernel
theorem dX8_bringsNow_1 : decode cX8_bringsNow 1 = .ok (.getfield 113, 3) := by decide +kernel
theorem dX8_bringsNow_4 : decode cX8_bringsNow 4 = .ok (.ifCond .eq 33, 3) := by decide +kernel
theorem dX8_bringsNow_7 : decode cX8_bringsNow 7 = .ok (.aload_n 1, 1) := by decide +kernel
theorem dX8_bringsNow_8 : decode cX8_bringsNow 8 = .ok (.iload_n 2, 1) := by decide +kernel
theorem dX8_bringsNow_9 : decode cX8_bringsNow 9 = .ok (.invokevirtual 117, 3) := by decide +kernel
theorem dX8_bringsNow_12 : decode cX8_bringsNow 12 = .ok (.ifCond .eq 25, 3) := by decide +kernel
theorem dX8_bringsNow_15 : decode cX8_bringsNow 15 = .ok (.aload_n 1, 1) := by decide +kernel
theorem dX8_bringsNow_16 : decode cX8_bringsNow 16 = .ok (.aload_n 0, 1) := by decide +kernel
theorem dX8_bringsNow_17 : decode cX8_bringsNow 17 = .ok (.getfield 9, 3) := by decide +kernel
theorem dX8_bringsNow_20 : decode cX8_bringsNow 20 = .ok (.iload_n 3, 1) := by decide +kernel
theorem dX8_bringsNow_21 : decode cX8_bringsNow 21 = .ok (.iload_n 2, 1) := by decide +kernel
theorem dX8_bringsNow_22 : decode cX8_bringsNow 22 = .ok (.invokestatic 51, 3) := by decide +kernel
theorem dX8_bringsNow_25 : decode cX8_bringsNow 25 = .ok (.iaload, 1) := by decide +kernel
theorem dX8_bringsNow_26 : decode cX8_bringsNow 26 = .ok (.iconst 0, 1) := by decide +kernel
theorem dX8_bringsNow_27 : decode cX8_bringsNow 27 = .ok (.invokevirtual 96, 3) := by decide +kernel
theorem dX8_bringsNow_30 : decode cX8_bringsNow 30 = .ok (.ifCond .eq 7, 3) := by decide +kernel
theorem dX8_bringsNow_33 : decode cX8_bringsNow 33 = .ok (.iconst 1, 1) := by decide +kernel
theorem dX8_bringsNow_34 : decode cX8_bringsNow 34 = .ok (.goto 4, 3) := by decide +kernel
theorem dX8_bringsNow_37 : decode cX8_bringsNow 37 = .ok (.iconst 0, 1) := by decide +kernel
theorem dX8_bringsNow_38 : decode cX8_bringsNow 38 = .ok (.ireturn, 1) := by decide +kernel
theorem dX8_addReason_0 : decode cX8_addReason 0 = .ok (.aload_n 0, 1) := by decide +kernel
theorem dX8_addReason_1 : decode cX8_addReason 1 = .ok (.getfield 120, 3) := by decide +kernel
theorem dX8_addReason_4 : decode cX8_addReason 4 = .ok (.aload_n 0, 1) := by decide +kernel
theorem dX8_addReason_5 : decode cX8_addReason 5 = .ok (.getfield 24, 3) := by decide +kernel
theorem dX8_addReason_8 : decode cX8_addReason 8 = .ok (.arraylength, 1) := by decide +kernel
theorem dX8_addReason_9 : decode cX8_addReason 9 = .ok (.if_icmp .ge 23, 3) := by decide +kernel
theorem dX8_addReason_12 : decode cX8_addReason 12 = .ok (.aload_n 0, 1) := by decide +kernel
theorem dX8_addReason_13 : decode cX8_addReason 13 = .ok (.getfield 24, 3) := by decide +kernel
theorem dX8_addReason_16 : decode cX8_addReason 16 = .ok (.aload_n 0, 1) := by decide +kernel
theorem dX8_addReason_17 : decode cX8_addReason 17 = .ok (.getfield 120, 3) := by decide +kernel
theorem dX8_addReason_20 : decode cX8_addReason 20 = .ok (.iload_n 1, 1) := by decide +kernel
theorem dX8_addReason_21 : decode cX8_addReason 21 = .ok (.iastore, 1) := by decide +kernel
theorem dX8_addReason_22 : decode cX8_addReason 22 = .ok (.aload_n 0, 1) := by decide +kernel
theorem dX8_addReason_23 : decode cX8_addReason 23 = .ok (.dup, 1) := by decide +kernel
theorem dX8_addReason_24 : decode cX8_addReason 24 = .ok (.getfield 120, 3) := by decide +kernel
theorem dX8_addReason_27 : decode cX8_addReason 27 = .ok (.iconst 1, 1) := by decide +kernel
theorem dX8_addReason_28 : decode cX8_addReason 28 = .ok (.iadd, 1) := by decide +kernel
theorem dX8_addReason_29 : decode cX8_addReason 29 = .ok (.putfield 120, 3) := by decide +kernel
theorem dX8_addReason_32 : decode cX8_addReason 32 = .ok (.return_, 1) := by decide +kernel
theorem dX8_listReasons_0 : decode cX8_listReasons 0 = .ok (.aload_n 0, 1) := by decide +kernel
theorem dX8_listReasons_1 : decode cX8_listReasons 1 = .ok (.iconst 0, 1) := by decide +kernel
theorem dX8_listReasons_2 : decode cX8_listReasons 2 = .ok (.putfield 120, 3) := by decide +kernel
theorem dX8_listReasons_5 : decode cX8_listReasons 5 = .ok (.aload_n 0, 1) := by decide +kernel
theorem dX8_listReasons_6 : decode cX8_listReasons 6 = .ok (.iload_n 3, 1) := by decide +kernel
theorem dX8_listReasons_7 : decode cX8_listReasons 7 = .ok (.iload 4, 2) := by decide +kernel
theorem dX8_listReasons_9 : decode cX8_listReasons 9 = .ok (.invokevirtual 109, 3) := by decide +kernel
theorem dX8_listReasons_12 : decode cX8_listReasons 12 = .ok (.ifCond .eq 4, 3) := by decide +kernel
theorem dX8_listReasons_15 : decode cX8_listReasons 15 = .ok (.return_, 1) := by decide +kernel
theorem dX8_listReasons_16 : decode cX8_listReasons 16 = .ok (.iload 4, 2) := by decide +kernel
theorem dX8_listReasons_18 : decode cX8_listReasons 18 = .ok (.ifCond .ne 27, 3) := by decide +kernel
theorem dX8_listReasons_21 : decode cX8_listReasons 21 = .ok (.aload_n 1, 1) := by decide +kernel
theorem dX8_listReasons_22 : decode cX8_listReasons 22 = .ok (.getfield 27, 3) := by decide +kernel
theorem dX8_listReasons_25 : decode cX8_listReasons 25 = .ok (.iload_n 3, 1) := by decide +kernel
theorem dX8_listReasons_26 : decode cX8_listReasons 26 = .ok (.aload_n 1, 1) := by decide +kernel
theorem dX8_listReasons_27 : decode cX8_listReasons 27 = .ok (.getfield 123, 3) := by decide +kernel
theorem dX8_listReasons_30 : decode cX8_listReasons 30 = .ok (.invokevirtual 126, 3) := by decide +kernel
theorem dX8_listReasons_33 : decode cX8_listReasons 33 = .ok (.iload_n 2, 1) := by decide +kernel
theorem dX8_listReasons_34 : decode cX8_listReasons 34 = .ok (.ishr, 1) := by decide +kernel
theorem dX8_listReasons_35 : decode cX8_listReasons 35 = .ok (.iconst 1, 1) := by decide +kernel
theorem dX8_listReasons_36 : decode cX8_listReasons 36 = .ok (.iand, 1) := by decide +kernel
theorem dX8_listReasons_37 : decode cX8_listReasons 37 = .ok (.ifCond .eq 8, 3) := by decide +kernel
theorem dX8_listReasons_40 : decode cX8_listReasons 40 = .ok (.aload_n 0, 1) := by decide +kernel
theorem dX8_listReasons_41 : decode cX8_listReasons 41 = .ok (.iconst 0, 1) := by decide +kernel
theorem dX8_listReasons_42 : decode cX8_listReasons 42 = .ok (.invokevirtual 129, 3) := by decide +kernel
theorem dX8_listReasons_45 : decode cX8_listReasons 45 = .ok (.aload_n 0, 1) := by decide +kernel
theorem dX8_listReasons_46 : decode cX8_listReasons 46 = .ok (.aload_n 1, 1) := by decide +kernel
theorem dX8_listReasons_47 : decode cX8_listReasons 47 = .ok (.getfield 27, 3) := by decide +kernel
theorem dX8_listReasons_50 : decode cX8_listReasons 50 = .ok (.iload_n 2, 1) := by decide +kernel
theorem dX8_listReasons_51 : decode cX8_listReasons 51 = .ok (.iload_n 3, 1) := by decide +kernel
theorem dX8_listReasons_52 : decode cX8_listReasons 52 = .ok (.iload 4, 2) := by decide +kernel
theorem dX8_listReasons_54 : decode cX8_listReasons 54 = .ok (.invokevirtual 133, 3) := by decide +kernel
theorem dX8_listReasons_57 : decode cX8_listReasons 57 = .ok (.aload_n 0, 1) := by decide +kernel
theorem dX8_listReasons_58 : decode cX8_listReasons 58 = .ok (.iload_n 3, 1) := by decide +kernel
theorem dX8_listReasons_59 : decode cX8_listReasons 59 = .ok (.iload 4, 2) := by decide +kernel
theorem dX8_listReasons_61 : decode cX8_listReasons 61 = .ok (.invokevirtual 137, 3) := by decide +kernel
theorem dX8_listReasons_64 : decode cX8_listReasons 64 = .ok (.istore 5, 2) := by decide +kernel
theorem dX8_listReasons_66 : decode cX8_listReasons 66 = .ok (.aload_n 1, 1) := by decide +kernel
theorem dX8_listReasons_67 : decode cX8_listReasons 67 = .ok (.getfield 140, 3) := by decide +kernel
theorem dX8_listReasons_70 : decode cX8_listReasons 70 = .ok (.iload_n 2, 1) := by decide +kernel
theorem dX8_listReasons_71 : decode cX8_listReasons 71 = .ok (.ishr, 1) := by decide +kernel
theorem dX8_listReasons_72 : decode cX8_listReasons 72 = .ok (.iconst 1, 1) := by decide +kernel
theorem dX8_listReasons_73 : decode cX8_listReasons 73 = .ok (.iand, 1) := by decide +kernel
theorem dX8_listReasons_74 : decode cX8_listReasons 74 = .ok (.ifCond .eq 30, 3) := by decide +kernel
theorem dX8_listReasons_77 : decode cX8_listReasons 77 = .ok (.iload 5, 2) := by decide +kernel
theorem dX8_listReasons_79 : decode cX8_listReasons 79 = .ok (.iconst (-1), 1) := by decide +kernel
theorem dX8_listReasons_80 : decode cX8_listReasons 80 = .ok (.if_icmp .eq 24, 3) := by decide +kernel
theorem dX8_listReasons_83 : decode cX8_listReasons 83 = .ok (.aload_n 0, 1) := by decide +kernel
theorem dX8_listReasons_84 : decode cX8_listReasons 84 = .ok (.iload_n 2, 1) := by decide +kernel
theorem dX8_listReasons_85 : decode cX8_listReasons 85 = .ok (.iload_n 3, 1) := by decide +kernel
theorem dX8_listReasons_86 : decode cX8_listReasons 86 = .ok (.iload 5, 2) := by decide +kernel
theorem dX8_listReasons_88 : decode cX8_listReasons 88 = .ok (.invokevirtual 143, 3) := by decide +kernel
theorem dX8_listReasons_91 : decode cX8_listReasons 91 = .ok (.ifCond .eq 13, 3) := by decide +kernel
theorem dX8_listReasons_94 : decode cX8_listReasons 94 = .ok (.aload_n 0, 1) := by decide +kernel
theorem dX8_listReasons_95 : decode cX8_listReasons 95 = .ok (.sipush 2000, 3) := by decide +kernel
theorem dX8_listReasons_98 : decode cX8_listReasons 98 = .ok (.iload 5, 2) := by decide +kernel
theorem dX8_listReasons_100 : decode cX8_listReasons 100 = .ok (.iadd, 1) := by decide +kernel
theorem dX8_listReasons_101 : decode cX8_listReasons 101 = .ok (.invokevirtual 129, 3) := by decide +kernel
theorem dX8_listReasons_104 : decode cX8_listReasons 104 = .ok (.iconst 0, 1) := by decide +kernel
theorem dX8_listReasons_105 : decode cX8_listReasons 105 = .ok (.istore 6, 2) := by decide +kernel
theorem dX8_listReasons_107 : decode cX8_listReasons 107 = .ok (.iload 6, 2) := by decide +kernel
theorem dX8_listReasons_109 : decode cX8_listReasons 109 = .ok (.aload_n 1, 1) := by decide +kernel
theorem dX8_listReasons_110 : decode cX8_listReasons 110 = .ok (.getfield 27, 3) := by decide +kernel
theorem dX8_listReasons_113 : decode cX8_listReasons 113 = .ok (.getfield 147, 3) := by decide +kernel
theorem dX8_listReasons_116 : decode cX8_listReasons 116 = .ok (.if_icmp .ge 52, 3) := by decide +kernel
theorem dX8_listReasons_119 : decode cX8_listReasons 119 = .ok (.aload_n 1, 1) := by decide +kernel
theorem dX8_listReasons_120 : decode cX8_listReasons 120 = .ok (.getfield 27, 3) := by decide +kernel
theorem dX8_listReasons_123 : decode cX8_listReasons 123 = .ok (.getfield 150, 3) := by decide +kernel
theorem dX8_listReasons_126 : decode cX8_listReasons 126 = .ok (.iload 6, 2) := by decide +kernel
theorem dX8_listReasons_128 : decode cX8_listReasons 128 = .ok (.aaload, 1) := by decide +kernel
theorem dX8_listReasons_129 : decode cX8_listReasons 129 = .ok (.astore 7, 2) := by decide +kernel
theorem dX8_listReasons_131 : decode cX8_listReasons 131 = .ok (.aload 7, 2) := by decide +kernel
theorem dX8_listReasons_133 : decode cX8_listReasons 133 = .ok (.getfield 153, 3) := by decide +kernel
theorem dX8_listReasons_136 : decode cX8_listReasons 136 = .ok (.iload_n 2, 1) := by decide +kernel
theorem dX8_listReasons_137 : decode cX8_listReasons 137 = .ok (.if_icmp .ne 25, 3) := by decide +kernel
theorem dX8_listReasons_140 : decode cX8_listReasons 140 = .ok (.aload_n 0, 1) := by decide +kernel
theorem dX8_listReasons_141 : decode cX8_listReasons 141 = .ok (.aload 7, 2) := by decide +kernel
theorem dX8_listReasons_143 : decode cX8_listReasons 143 = .ok (.iload_n 3, 1) := by decide +kernel
theorem dX8_listReasons_144 : decode cX8_listReasons 144 = .ok (.iload 4, 2) := by decide +kernel
theorem dX8_listReasons_146 : decode cX8_listReasons 146 = .ok (.invokevirtual 156, 3) := by decide +kernel
theorem dX8_listReasons_149 : decode cX8_listReasons 149 = .ok (.ifCond .eq 13, 3) := by decide +kernel
theorem dX8_listReasons_152 : decode cX8_listReasons 152 = .ok (.aload_n 0, 1) := by decide +kernel
theorem dX8_listReasons_153 : decode cX8_listReasons 153 = .ok (.sipush 3000, 3) := by decide +kernel
theorem dX8_listReasons_156 : decode cX8_listReasons 156 = .ok (.iload 6, 2) := by decide +kernel
theorem dX8_listReasons_158 : decode cX8_listReasons 158 = .ok (.iadd, 1) := by decide +kernel
theorem dX8_listReasons_159 : decode cX8_listReasons 159 = .ok (.invokevirtual 129, 3) := by decide +kernel
theorem dX8_listReasons_162 : decode cX8_listReasons 162 = .ok (.iinc 6 1, 3) := by decide +kernel
theorem dX8_listReasons_165 : decode cX8_listReasons 165 = .ok (.goto (-58), 3) := by decide +kernel
theorem dX8_listReasons_168 : decode cX8_listReasons 168 = .ok (.iconst 0, 1) := by decide +kernel
theorem dX8_listReasons_169 : decode cX8_listReasons 169 = .ok (.istore 6, 2) := by decide +kernel
theorem dX8_listReasons_171 : decode cX8_listReasons 171 = .ok (.iload 6, 2) := by decide +kernel
theorem dX8_listReasons_173 : decode cX8_listReasons 173 = .ok (.aload_n 1, 1) := by decide +kernel
theorem dX8_listReasons_174 : decode cX8_listReasons 174 = .ok (.getfield 27, 3) := by decide +kernel
theorem dX8_listReasons_177 : decode cX8_listReasons 177 = .ok (.getfield 147, 3) := by decide +kernel
theorem dX8_listReasons_180 : decode cX8_listReasons 180 = .ok (.if_icmp .ge 52, 3) := by decide +kernel
theorem dX8_listReasons_183 : decode cX8_listReasons 183 = .ok (.aload_n 1, 1) := by decide +kernel
theorem dX8_listReasons_184 : decode cX8_listReasons 184 = .ok (.getfield 27, 3) := by decide +kernel
theorem dX8_listReasons_187 : decode cX8_listReasons 187 = .ok (.getfield 150, 3) := by decide +kernel
theorem dX8_listReasons_190 : decode cX8_listReasons 190 = .ok (.iload 6, 2) := by decide +kernel
theorem dX8_listReasons_192 : decode cX8_listReasons 192 = .ok (.aaload, 1) := by decide +kernel
theorem dX8_listReasons_193 : decode cX8_listReasons 193 = .ok (.astore 7, 2) := by decide +kernel
theorem dX8_listReasons_195 : decode cX8_listReasons 195 = .ok (.aload 7, 2) := by decide +kernel
theorem dX8_listReasons_197 : decode cX8_listReasons 197 = .ok (.getfield 153, 3) := by decide +kernel
theorem dX8_listReasons_200 : decode cX8_listReasons 200 = .ok (.iload_n 2, 1) := by decide +kernel
theorem dX8_listReasons_201 : decode cX8_listReasons 201 = .ok (.if_icmp .ne 25, 3) := by decide +kernel
theorem dX8_listReasons_204 : decode cX8_listReasons 204 = .ok (.aload_n 0, 1) := by decide +kernel
theorem dX8_listReasons_205 : decode cX8_listReasons 205 = .ok (.aload 7, 2) := by decide +kernel
theorem dX8_listReasons_207 : decode cX8_listReasons 207 = .ok (.iload_n 3, 1) := by decide +kernel
theorem dX8_listReasons_208 : decode cX8_listReasons 208 = .ok (.iload 4, 2) := by decide +kernel
theorem dX8_listReasons_210 : decode cX8_listReasons 210 = .ok (.invokevirtual 160, 3) := by decide +kernel
theorem dX8_listReasons_213 : decode cX8_listReasons 213 = .ok (.ifCond .eq 13, 3) := by decide +kernel
theorem dX8_listReasons_216 : decode cX8_listReasons 216 = .ok (.aload_n 0, 1) := by decide +kernel
theorem dX8_listReasons_217 : decode cX8_listReasons 217 = .ok (.sipush 4000, 3) := by decide +kernel
theorem dX8_listReasons_220 : decode cX8_listReasons 220 = .ok (.iload 6, 2) := by decide +kernel
theorem dX8_listReasons_222 : decode cX8_listReasons 222 = .ok (.iadd, 1) := by decide +kernel
theorem dX8_listReasons_223 : decode cX8_listReasons 223 = .ok (.invokevirtual 129, 3) := by decide +kernel
theorem dX8_listReasons_226 : decode cX8_listReasons 226 = .ok (.iinc 6 1, 3) := by decide +kernel
theorem dX8_listReasons_229 : decode cX8_listReasons 229 = .ok (.goto (-58), 3) := by decide +kernel
theorem dX8_listReasons_232 : decode cX8_listReasons 232 = .ok (.return_, 1) := by decide +kernel
theorem dX8_listWords_0 : decode cX8_listWords 0 = .ok (.iconst 0, 1) := by decide +kernel
theorem dX8_listWords_1 : decode cX8_listWords 1 = .ok (.istore 5, 2) := by decide +kernel
theorem dX8_listWords_3 : decode cX8_listWords 3 = .ok (.iload 5, 2) := by decide +kernel
theorem dX8_listWords_5 : decode cX8_listWords 5 = .ok (.aload_n 1, 1) := by decide +kernel
theorem dX8_listWords_6 : decode cX8_listWords 6 = .ok (.getfield 59, 3) := by decide +kernel
theorem dX8_listWords_9 : decode cX8_listWords 9 = .ok (.if_icmp .ge 84, 3) := by decide +kernel
theorem dX8_listWords_12 : decode cX8_listWords 12 = .ok (.aload_n 1, 1) := by decide +kernel
theorem dX8_listWords_13 : decode cX8_listWords 13 = .ok (.getfield 80, 3) := by decide +kernel
theorem dX8_listWords_16 : decode cX8_listWords 16 = .ok (.iload 5, 2) := by decide +kernel
theorem dX8_listWords_18 : decode cX8_listWords 18 = .ok (.aaload, 1) := by decide +kernel
theorem dX8_listWords_19 : decode cX8_listWords 19 = .ok (.astore 6, 2) := by decide +kernel
theorem dX8_listWords_21 : decode cX8_listWords 21 = .ok (.aload 6, 2) := by decide +kernel
theorem dX8_listWords_23 : decode cX8_listWords 23 = .ok (.getfield 153, 3) := by decide +kernel
theorem dX8_listWords_26 : decode cX8_listWords 26 = .ok (.iload_n 2, 1) := by decide +kernel
theorem dX8_listWords_27 : decode cX8_listWords 27 = .ok (.if_icmp .ne 60, 3) := by decide +kernel
theorem dX8_listWords_30 : decode cX8_listWords 30 = .ok (.aload 6, 2) := by decide +kernel
theorem dX8_listWords_32 : decode cX8_listWords 32 = .ok (.getfield 106, 3) := by decide +kernel
theorem dX8_listWords_35 : decode cX8_listWords 35 = .ok (.iload_n 3, 1) := by decide +kernel
theorem dX8_listWords_36 : decode cX8_listWords 36 = .ok (.if_icmp .eq 6, 3) := by decide +kernel
theorem dX8_listWords_39 : decode cX8_listWords 39 = .ok (.goto 48, 3) := by decide +kernel
theorem dX8_listWords_42 : decode cX8_listWords 42 = .ok (.iconst 0, 1) := by decide +kernel
theorem dX8_listWords_43 : decode cX8_listWords 43 = .ok (.istore 7, 2) := by decide +kernel
theorem dX8_listWords_45 : decode cX8_listWords 45 = .ok (.iload 7, 2) := by decide +kernel
theorem dX8_listWords_47 : decode cX8_listWords 47 = .ok (.iload 4, 2) := by decide +kernel
theorem dX8_listWords_49 : decode cX8_listWords 49 = .ok (.if_icmp .ge 38, 3) := by decide +kernel
theorem dX8_listWords_52 : decode cX8_listWords 52 = .ok (.aload_n 0, 1) := by decide +kernel
theorem dX8_listWords_53 : decode cX8_listWords 53 = .ok (.iload 5, 2) := by decide +kernel
theorem dX8_listWords_55 : decode cX8_listWords 55 = .ok (.iload 7, 2) := by decide +kernel
theorem dX8_listWords_57 : decode cX8_listWords 57 = .ok (.iload 4, 2) := by decide +kernel
theorem dX8_listWords_59 : decode cX8_listWords 59 = .ok (.invokevirtual 163, 3) := by decide +kernel
theorem dX8_listWords_62 : decode cX8_listWords 62 = .ok (.ifCond .eq 19, 3) := by decide +kernel
theorem dX8_listWords_65 : decode cX8_listWords 65 = .ok (.aload_n 0, 1) := by decide +kernel
theorem dX8_listWords_66 : decode cX8_listWords 66 = .ok (.sipush 1000, 3) := by decide +kernel
theorem dX8_listWords_69 : decode cX8_listWords 69 = .ok (.bipush 10, 2) := by decide +kernel
theorem dX8_listWords_71 : decode cX8_listWords 71 = .ok (.iload 5, 2) := by decide +kernel
theorem dX8_listWords_73 : decode cX8_listWords 73 = .ok (.imul, 1) := by decide +kernel
theorem dX8_listWords_74 : decode cX8_listWords 74 = .ok (.iadd, 1) := by decide +kernel
theorem dX8_listWords_75 : decode cX8_listWords 75 = .ok (.iload 7, 2) := by decide +kernel
theorem dX8_listWords_77 : decode cX8_listWords 77 = .ok (.iadd, 1) := by decide +kernel
theorem dX8_listWords_78 : decode cX8_listWords 78 = .ok (.invokevirtual 129, 3) := by decide +kernel
theorem dX8_listWords_81 : decode cX8_listWords 81 = .ok (.iinc 7 1, 3) := by decide +kernel
theorem dX8_listWords_84 : decode cX8_listWords 84 = .ok (.goto (-39), 3) := by decide +kernel
theorem dX8_listWords_87 : decode cX8_listWords 87 = .ok (.iinc 5 1, 3) := by decide +kernel
theorem dX8_listWords_90 : decode cX8_listWords 90 = .ok (.goto (-87), 3) := by decide +kernel
theorem dX8_listWords_93 : decode cX8_listWords 93 = .ok (.return_, 1) := by decide +kernel
theorem dX8_followChain_0 : decode cX8_followChain 0 = .ok (.iconst 0, 1) := by decide +kernel
theorem dX8_followChain_1 : decode cX8_followChain 1 = .ok (.istore_n 3, 1) := by decide +kernel
theorem dX8_followChain_2 : decode cX8_followChain 2 = .ok (.aload_n 0, 1) := by decide +kernel
theorem dX8_followChain_3 : decode cX8_followChain 3 = .ok (.aload_n 1, 1) := by decide +kernel
theorem dX8_followChain_4 : decode cX8_followChain 4 = .ok (.invokevirtual 166, 3) := by decide +kernel
theorem dX8_followChain_7 : decode cX8_followChain 7 = .ok (.istore 4, 2) := by decide +kernel
theorem dX8_followChain_9 : decode cX8_followChain 9 = .ok (.iconst 0, 1) := by decide +kernel
theorem dX8_followChain_10 : decode cX8_followChain 10 = .ok (.istore 5, 2) := by decide +kernel
theorem dX8_followChain_12 : decode cX8_followChain 12 = .ok (.iload 5, 2) := by decide +kernel
theorem dX8_followChain_14 : decode cX8_followChain 14 = .ok (.aload_n 2, 1) := by decide +kernel
theorem dX8_followChain_15 : decode cX8_followChain 15 = .ok (.arraylength, 1) := by decide +kernel
theorem dX8_followChain_16 : decode cX8_followChain 16 = .ok (.if_icmp .ge 58, 3) := by decide +kernel
theorem dX8_followChain_19 : decode cX8_followChain 19 = .ok (.iload 4, 2) := by decide +kernel
theorem dX8_followChain_21 : decode cX8_followChain 21 = .ok (.iconst (-1), 1) := by decide +kernel
theorem dX8_followChain_22 : decode cX8_followChain 22 = .ok (.if_icmp .eq 52, 3) := by decide +kernel
theorem dX8_followChain_25 : decode cX8_followChain 25 = .ok (.iconst 0, 1) := by decide +kernel
theorem dX8_followChain_26 : decode cX8_followChain 26 = .ok (.istore 6, 2) := by decide +kernel
theorem dX8_followChain_28 : decode cX8_followChain 28 = .ok (.iload 6, 2) := by decide +kernel
theorem dX8_followChain_30 : decode cX8_followChain 30 = .ok (.iload_n 3, 1) := by decide +kernel
theorem dX8_followChain_31 : decode cX8_followChain 31 = .ok (.if_icmp .ge 20, 3) := by decide +kernel
theorem dX8_followChain_34 : decode cX8_followChain 34 = .ok (.aload_n 2, 1) := by decide +kernel
theorem dX8_followChain_35 : decode cX8_followChain 35 = .ok (.iload 6, 2) := by decide +kernel
theorem dX8_followChain_37 : decode cX8_followChain 37 = .ok (.iaload, 1) := by decide +kernel
theorem dX8_followChain_38 : decode cX8_followChain 38 = .ok (.iload 4, 2) := by decide +kernel
theorem dX8_followChain_40 : decode cX8_followChain 40 = .ok (.if_icmp .ne 5, 3) := by decide +kernel
theorem dX8_followChain_43 : decode cX8_followChain 43 = .ok (.iload_n 3, 1) := by decide +kernel
theorem dX8_followChain_44 : decode cX8_followChain 44 = .ok (.ireturn, 1) := by decide +kernel
theorem dX8_followChain_45 : decode cX8_followChain 45 = .ok (.iinc 6 1, 3) := by decide +kernel
theorem dX8_followChain_48 : decode cX8_followChain 48 = .ok (.goto (-20), 3) := by decide +kernel
theorem dX8_followChain_51 : decode cX8_followChain 51 = .ok (.aload_n 2, 1) := by decide +kernel
theorem dX8_followChain_52 : decode cX8_followChain 52 = .ok (.iload_n 3, 1) := by decide +kernel
theorem dX8_followChain_53 : decode cX8_followChain 53 = .ok (.iload 4, 2) := by decide +kernel
theorem dX8_followChain_55 : decode cX8_followChain 55 = .ok (.iastore, 1) := by decide +kernel
theorem dX8_followChain_56 : decode cX8_followChain 56 = .ok (.iinc 3 1, 3) := by decide +kernel
theorem dX8_followChain_59 : decode cX8_followChain 59 = .ok (.aload_n 0, 1) := by decide +kernel
theorem dX8_followChain_60 : decode cX8_followChain 60 = .ok (.aload_n 1, 1) := by decide +kernel
theorem dX8_followChain_61 : decode cX8_followChain 61 = .ok (.iload 4, 2) := by decide +kernel
theorem dX8_followChain_63 : decode cX8_followChain 63 = .ok (.invokevirtual 170, 3) := by decide +kernel
theorem dX8_followChain_66 : decode cX8_followChain 66 = .ok (.istore 4, 2) := by decide +kernel
theorem dX8_followChain_68 : decode cX8_followChain 68 = .ok (.iinc 5 1, 3) := by decide +kernel
theorem dX8_followChain_71 : decode cX8_followChain 71 = .ok (.goto (-59), 3) := by decide +kernel
theorem dX8_followChain_74 : decode cX8_followChain 74 = .ok (.iload_n 3, 1) := by decide +kernel
theorem dX8_followChain_75 : decode cX8_followChain 75 = .ok (.ireturn, 1) := by decide +kernel
theorem dX8_firstLink_0 : decode cX8_firstLink 0 = .ok (.iconst 0, 1) := by decide +kernel
theorem dX8_firstLink_1 : decode cX8_firstLink 1 = .ok (.istore_n 2, 1) := by decide +kernel
theorem dX8_firstLink_2 : decode cX8_firstLink 2 = .ok (.iload_n 2, 1) := by decide +kernel
theorem dX8_firstLink_3 : decode cX8_firstLink 3 = .ok (.aload_n 1, 1) := by decide +kernel
theorem dX8_firstLink_4 : decode cX8_firstLink 4 = .ok (.getfield 27, 3) := by decide +kernel
theorem dX8_firstLink_7 : decode cX8_firstLink 7 = .ok (.getfield 174, 3) := by decide +kernel
theorem dX8_firstLink_10 : decode cX8_firstLink 10 = .ok (.if_icmp .ge 61, 3) := by decide +kernel
theorem dX8_firstLink_13 : decode cX8_firstLink 13 = .ok (.aload_n 1, 1) := by decide +kernel
theorem dX8_firstLink_14 : decode cX8_firstLink 14 = .ok (.getfield 27, 3) := by decide +kernel
theorem dX8_firstLink_17 : decode cX8_firstLink 17 = .ok (.getfield 177, 3) := by decide +kernel
theorem dX8_firstLink_20 : decode cX8_firstLink 20 = .ok (.iload_n 2, 1) := by decide +kernel
theorem dX8_firstLink_21 : decode cX8_firstLink 21 = .ok (.iaload, 1) := by decide +kernel
theorem dX8_firstLink_22 : decode cX8_firstLink 22 = .ok (.bipush 10, 2) := by decide +kernel
theorem dX8_firstLink_24 : decode cX8_firstLink 24 = .ok (.idiv, 1) := by decide +kernel
theorem dX8_firstLink_25 : decode cX8_firstLink 25 = .ok (.istore_n 3, 1) := by decide +kernel
theorem dX8_firstLink_26 : decode cX8_firstLink 26 = .ok (.aload_n 1, 1) := by decide +kernel
theorem dX8_firstLink_27 : decode cX8_firstLink 27 = .ok (.getfield 27, 3) := by decide +kernel
theorem dX8_firstLink_30 : decode cX8_firstLink 30 = .ok (.getfield 177, 3) := by decide +kernel
theorem dX8_firstLink_33 : decode cX8_firstLink 33 = .ok (.iload_n 2, 1) := by decide +kernel
theorem dX8_firstLink_34 : decode cX8_firstLink 34 = .ok (.iaload, 1) := by decide +kernel
theorem dX8_firstLink_35 : decode cX8_firstLink 35 = .ok (.bipush 10, 2) := by decide +kernel
theorem dX8_firstLink_37 : decode cX8_firstLink 37 = .ok (.irem, 1) := by decide +kernel
theorem dX8_firstLink_38 : decode cX8_firstLink 38 = .ok (.istore 4, 2) := by decide +kernel
theorem dX8_firstLink_40 : decode cX8_firstLink 40 = .ok (.aload_n 0, 1) := by decide +kernel
theorem dX8_firstLink_41 : decode cX8_firstLink 41 = .ok (.iload 4, 2) := by decide +kernel
theorem dX8_firstLink_43 : decode cX8_firstLink 43 = .ok (.iload_n 3, 1) := by decide +kernel
theorem dX8_firstLink_44 : decode cX8_firstLink 44 = .ok (.aload_n 1, 1) := by decide +kernel
theorem dX8_firstLink_45 : decode cX8_firstLink 45 = .ok (.getfield 39, 3) := by decide +kernel
theorem dX8_firstLink_48 : decode cX8_firstLink 48 = .ok (.invokevirtual 143, 3) := by decide +kernel
theorem dX8_firstLink_51 : decode cX8_firstLink 51 = .ok (.ifCond .eq 14, 3) := by decide +kernel
theorem dX8_firstLink_54 : decode cX8_firstLink 54 = .ok (.aload_n 1, 1) := by decide +kernel
theorem dX8_firstLink_55 : decode cX8_firstLink 55 = .ok (.getfield 39, 3) := by decide +kernel
theorem dX8_firstLink_58 : decode cX8_firstLink 58 = .ok (.iload_n 3, 1) := by decide +kernel
theorem dX8_firstLink_59 : decode cX8_firstLink 59 = .ok (.iload 4, 2) := by decide +kernel
theorem dX8_firstLink_61 : decode cX8_firstLink 61 = .ok (.invokestatic 180, 3) := by decide +kernel
theorem dX8_firstLink_64 : decode cX8_firstLink 64 = .ok (.ireturn, 1) := by decide +kernel
theorem dX8_firstLink_65 : decode cX8_firstLink 65 = .ok (.iinc 2 1, 3) := by decide +kernel
theorem dX8_firstLink_68 : decode cX8_firstLink 68 = .ok (.goto (-66), 3) := by decide +kernel
theorem dX8_firstLink_71 : decode cX8_firstLink 71 = .ok (.iconst (-1), 1) := by decide +kernel
theorem dX8_firstLink_72 : decode cX8_firstLink 72 = .ok (.ireturn, 1) := by decide +kernel
theorem dX8_linkOf_0 : decode cX8_linkOf 0 = .ok (.sipush 1000, 3) := by decide +kernel
theorem dX8_linkOf_3 : decode cX8_linkOf 3 = .ok (.iload_n 0, 1) := by decide +kernel
theorem dX8_linkOf_4 : decode cX8_linkOf 4 = .ok (.imul, 1) := by decide +kernel
theorem dX8_linkOf_5 : decode cX8_linkOf 5 = .ok (.bipush 100, 2) := by decide +kernel
theorem dX8_linkOf_7 : decode cX8_linkOf 7 = .ok (.iload_n 1, 1) := by decide +kernel
theorem dX8_linkOf_8 : decode cX8_linkOf 8 = .ok (.imul, 1) := by decide +kernel
theorem dX8_linkOf_9 : decode cX8_linkOf 9 = .ok (.iadd, 1) := by decide +kernel
theorem dX8_linkOf_10 : decode cX8_linkOf 10 = .ok (.iload_n 2, 1) := by decide +kernel
theorem dX8_linkOf_11 : decode cX8_linkOf 11 = .ok (.iadd, 1) := by decide +kernel
theorem dX8_linkOf_12 : decode cX8_linkOf 12 = .ok (.ireturn, 1) := by decide +kernel
theorem dX8_linkBehind_0 : decode cX8_linkBehind 0 = .ok (.iload_n 2, 1) := by decide +kernel
theorem dX8_linkBehind_1 : decode cX8_linkBehind 1 = .ok (.sipush 1000, 3) := by decide +kernel
theorem dX8_linkBehind_4 : decode cX8_linkBehind 4 = .ok (.idiv, 1) := by decide +kernel
theorem dX8_linkBehind_5 : decode cX8_linkBehind 5 = .ok (.istore_n 3, 1) := by decide +kernel
theorem dX8_linkBehind_6 : decode cX8_linkBehind 6 = .ok (.iload_n 2, 1) := by decide +kernel
theorem dX8_linkBehind_7 : decode cX8_linkBehind 7 = .ok (.bipush 100, 2) := by decide +kernel
theorem dX8_linkBehind_9 : decode cX8_linkBehind 9 = .ok (.idiv, 1) := by decide +kernel
theorem dX8_linkBehind_10 : decode cX8_linkBehind 10 = .ok (.bipush 10, 2) := by decide +kernel
theorem dX8_linkBehind_12 : decode cX8_linkBehind 12 = .ok (.irem, 1) := by decide +kernel
theorem dX8_linkBehind_13 : decode cX8_linkBehind 13 = .ok (.istore 4, 2) := by decide +kernel
theorem dX8_linkBehind_15 : decode cX8_linkBehind 15 = .ok (.iload_n 2, 1) := by decide +kernel
theorem dX8_linkBehind_16 : decode cX8_linkBehind 16 = .ok (.bipush 100, 2) := by decide +kernel
theorem dX8_linkBehind_18 : decode cX8_linkBehind 18 = .ok (.irem, 1) := by decide +kernel
theorem dX8_linkBehind_19 : decode cX8_linkBehind 19 = .ok (.istore 5, 2) := by decide +kernel
theorem dX8_linkBehind_21 : decode cX8_linkBehind 21 = .ok (.aload_n 0, 1) := by decide +kernel
theorem dX8_linkBehind_22 : decode cX8_linkBehind 22 = .ok (.aload_n 1, 1) := by decide +kernel
theorem dX8_linkBehind_23 : decode cX8_linkBehind 23 = .ok (.iload 5, 2) := by decide +kernel
theorem dX8_linkBehind_25 : decode cX8_linkBehind 25 = .ok (.iload 4, 2) := by decide +kernel
theorem dX8_linkBehind_27 : decode cX8_linkBehind 27 = .ok (.iload_n 3, 1) := by decide +kernel
theorem dX8_linkBehind_28 : decode cX8_linkBehind 28 = .ok (.invokevirtual 184, 3) := by decide +kernel
theorem dX8_linkBehind_31 : decode cX8_linkBehind 31 = .ok (.aload_n 0, 1) := by decide +kernel
theorem dX8_linkBehind_32 : decode cX8_linkBehind 32 = .ok (.getfield 120, 3) := by decide +kernel
theorem dX8_linkBehind_35 : decode cX8_linkBehind 35 = .ok (.ifCond .ne 5, 3) := by decide +kernel
theorem dX8_linkBehind_38 : decode cX8_linkBehind 38 = .ok (.iconst (-1), 1) := by decide +kernel
theorem dX8_linkBehind_39 : decode cX8_linkBehind 39 = .ok (.ireturn, 1) := by decide +kernel
theorem dX8_linkBehind_40 : decode cX8_linkBehind 40 = .ok (.aload_n 0, 1) := by decide +kernel
theorem dX8_linkBehind_41 : decode cX8_linkBehind 41 = .ok (.getfield 24, 3) := by decide +kernel
theorem dX8_linkBehind_44 : decode cX8_linkBehind 44 = .ok (.iconst 0, 1) := by decide +kernel
theorem dX8_linkBehind_45 : decode cX8_linkBehind 45 = .ok (.iaload, 1) := by decide +kernel
theorem dX8_linkBehind_46 : decode cX8_linkBehind 46 = .ok (.sipush 1000, 3) := by decide +kernel
theorem dX8_linkBehind_49 : decode cX8_linkBehind 49 = .ok (.irem, 1) := by decide +kernel
theorem dX8_linkBehind_50 : decode cX8_linkBehind 50 = .ok (.istore 6, 2) := by decide +kernel
theorem dX8_linkBehind_52 : decode cX8_linkBehind 52 = .ok (.aload_n 0, 1) := by decide +kernel
theorem dX8_linkBehind_53 : decode cX8_linkBehind 53 = .ok (.getfield 24, 3) := by decide +kernel
theorem dX8_linkBehind_56 : decode cX8_linkBehind 56 = .ok (.iconst 0, 1) := by decide +kernel
theorem dX8_linkBehind_57 : decode cX8_linkBehind 57 = .ok (.iaload, 1) := by decide +kernel
theorem dX8_linkBehind_58 : decode cX8_linkBehind 58 = .ok (.sipush 1000, 3) := by decide +kernel
theorem dX8_linkBehind_61 : decode cX8_linkBehind 61 = .ok (.idiv, 1) := by decide +kernel
theorem dX8_linkBehind_62 : decode cX8_linkBehind 62 = .ok (.sipush 1000, 3) := by decide +kernel
theorem dX8_linkBehind_65 : decode cX8_linkBehind 65 = .ok (.imul, 1) := by decide +kernel
theorem dX8_linkBehind_66 : decode cX8_linkBehind 66 = .ok (.lookupswitch 137 #[(1000, 42), (2000, 85), (3000, 95), (4000, 117)], 42) := by decide +kernel
theorem dX8_linkBehind_108 : decode cX8_linkBehind 108 = .ok (.aload_n 1, 1) := by decide +kernel
theorem dX8_linkBehind_109 : decode cX8_linkBehind 109 = .ok (.getfield 27, 3) := by decide +kernel
theorem dX8_linkBehind_112 : decode cX8_linkBehind 112 = .ok (.getfield 80, 3) := by decide +kernel
theorem dX8_linkBehind_115 : decode cX8_linkBehind 115 = .ok (.iload 6, 2) := by decide +kernel
theorem dX8_linkBehind_117 : decode cX8_linkBehind 117 = .ok (.bipush 10, 2) := by decide +kernel
theorem dX8_linkBehind_119 : decode cX8_linkBehind 119 = .ok (.idiv, 1) := by decide +kernel
theorem dX8_linkBehind_120 : decode cX8_linkBehind 120 = .ok (.aaload, 1) := by decide +kernel
theorem dX8_linkBehind_121 : decode cX8_linkBehind 121 = .ok (.astore 7, 2) := by decide +kernel
theorem dX8_linkBehind_123 : decode cX8_linkBehind 123 = .ok (.aload_n 0, 1) := by decide +kernel
theorem dX8_linkBehind_124 : decode cX8_linkBehind 124 = .ok (.iload 6, 2) := by decide +kernel
theorem dX8_linkBehind_126 : decode cX8_linkBehind 126 = .ok (.bipush 10, 2) := by decide +kernel
theorem dX8_linkBehind_128 : decode cX8_linkBehind 128 = .ok (.idiv, 1) := by decide +kernel
theorem dX8_linkBehind_129 : decode cX8_linkBehind 129 = .ok (.iload 6, 2) := by decide +kernel
theorem dX8_linkBehind_131 : decode cX8_linkBehind 131 = .ok (.bipush 10, 2) := by decide +kernel
theorem dX8_linkBehind_133 : decode cX8_linkBehind 133 = .ok (.irem, 1) := by decide +kernel
theorem dX8_linkBehind_134 : decode cX8_linkBehind 134 = .ok (.invokevirtual 188, 3) := by decide +kernel
theorem dX8_linkBehind_137 : decode cX8_linkBehind 137 = .ok (.aload 7, 2) := by decide +kernel
theorem dX8_linkBehind_139 : decode cX8_linkBehind 139 = .ok (.getfield 87, 3) := by decide +kernel
theorem dX8_linkBehind_142 : decode cX8_linkBehind 142 = .ok (.aload 7, 2) := by decide +kernel
theorem dX8_linkBehind_144 : decode cX8_linkBehind 144 = .ok (.getfield 191, 3) := by decide +kernel
theorem dX8_linkBehind_147 : decode cX8_linkBehind 147 = .ok (.invokestatic 194, 3) := by decide +kernel
theorem dX8_linkBehind_150 : decode cX8_linkBehind 150 = .ok (.ireturn, 1) := by decide +kernel
theorem dX8_linkBehind_151 : decode cX8_linkBehind 151 = .ok (.iload 6, 2) := by decide +kernel
theorem dX8_linkBehind_153 : decode cX8_linkBehind 153 = .ok (.iload 4, 2) := by decide +kernel
theorem dX8_linkBehind_155 : decode cX8_linkBehind 155 = .ok (.iload 5, 2) := by decide +kernel
theorem dX8_linkBehind_157 : decode cX8_linkBehind 157 = .ok (.invokestatic 180, 3) := by decide +kernel
theorem dX8_linkBehind_160 : decode cX8_linkBehind 160 = .ok (.ireturn, 1) := by decide +kernel
theorem dX8_linkBehind_161 : decode cX8_linkBehind 161 = .ok (.iload_n 3, 1) := by decide +kernel
theorem dX8_linkBehind_162 : decode cX8_linkBehind 162 = .ok (.iconst 1, 1) := by decide +kernel
theorem dX8_linkBehind_163 : decode cX8_linkBehind 163 = .ok (.isub, 1) := by decide +kernel
theorem dX8_linkBehind_164 : decode cX8_linkBehind 164 = .ok (.iload 4, 2) := by decide +kernel
theorem dX8_linkBehind_166 : decode cX8_linkBehind 166 = .ok (.aload_n 1, 1) := by decide +kernel
theorem dX8_linkBehind_167 : decode cX8_linkBehind 167 = .ok (.getfield 27, 3) := by decide +kernel
theorem dX8_linkBehind_170 : decode cX8_linkBehind 170 = .ok (.getfield 150, 3) := by decide +kernel
theorem dX8_linkBehind_173 : decode cX8_linkBehind 173 = .ok (.iload 6, 2) := by decide +kernel
theorem dX8_linkBehind_175 : decode cX8_linkBehind 175 = .ok (.aaload, 1) := by decide +kernel
theorem dX8_linkBehind_176 : decode cX8_linkBehind 176 = .ok (.getfield 191, 3) := by decide +kernel
theorem dX8_linkBehind_179 : decode cX8_linkBehind 179 = .ok (.invokestatic 194, 3) := by decide +kernel
theorem dX8_linkBehind_182 : decode cX8_linkBehind 182 = .ok (.ireturn, 1) := by decide +kernel
theorem dX8_linkBehind_183 : decode cX8_linkBehind 183 = .ok (.iload_n 3, 1) := by decide +kernel
theorem dX8_linkBehind_184 : decode cX8_linkBehind 184 = .ok (.iload 4, 2) := by decide +kernel
theorem dX8_linkBehind_186 : decode cX8_linkBehind 186 = .ok (.aload_n 1, 1) := by decide +kernel
theorem dX8_linkBehind_187 : decode cX8_linkBehind 187 = .ok (.getfield 27, 3) := by decide +kernel
theorem dX8_linkBehind_190 : decode cX8_linkBehind 190 = .ok (.getfield 150, 3) := by decide +kernel
theorem dX8_linkBehind_193 : decode cX8_linkBehind 193 = .ok (.iload 6, 2) := by decide +kernel
theorem dX8_linkBehind_195 : decode cX8_linkBehind 195 = .ok (.aaload, 1) := by decide +kernel
theorem dX8_linkBehind_196 : decode cX8_linkBehind 196 = .ok (.getfield 191, 3) := by decide +kernel
theorem dX8_linkBehind_199 : decode cX8_linkBehind 199 = .ok (.invokestatic 194, 3) := by decide +kernel
theorem dX8_linkBehind_202 : decode cX8_linkBehind 202 = .ok (.ireturn, 1) := by decide +kernel
theorem dX8_linkBehind_203 : decode cX8_linkBehind 203 = .ok (.iconst (-1), 1) := by decide +kernel
theorem dX8_linkBehind_204 : decode cX8_linkBehind 204 = .ok (.ireturn, 1) := by decide +kernel
theorem dX8_leastLink_0 : decode cX8_leastLink 0 = .ok (.iload_n 2, 1) := by decide +kernel
theorem dX8_leastLink_1 : decode cX8_leastLink 1 = .ok (.ifCond .ne 7, 3) := by decide +kernel
theorem dX8_leastLink_4 : decode cX8_leastLink 4 = .ok (.iconst (-1), 1) := by decide +kernel
theorem dX8_leastLink_5 : decode cX8_leastLink 5 = .ok (.goto 12, 3) := by decide +kernel
theorem dX8_leastLink_8 : decode cX8_leastLink 8 = .ok (.iload_n 0, 1) := by decide +kernel
theorem dX8_leastLink_9 : decode cX8_leastLink 9 = .ok (.iload_n 1, 1) := by decide +kernel
theorem dX8_leastLink_10 : decode cX8_leastLink 10 = .ok (.iload_n 2, 1) := by decide +kernel
theorem dX8_leastLink_11 : decode cX8_leastLink 11 = .ok (.invokestatic 197, 3) := by decide +kernel
theorem dX8_leastLink_14 : decode cX8_leastLink 14 = .ok (.invokestatic 180, 3) := by decide +kernel
theorem dX8_leastLink_17 : decode cX8_leastLink 17 = .ok (.ireturn, 1) := by decide +kernel
theorem dX9_init_0 : decode cX9_init 0 = .ok (.aload_n 0, 1) := by decide +kernel
theorem dX9_init_1 : decode cX9_init 1 = .ok (.invokespecial 3, 3) := by decide +kernel
theorem dX9_init_4 : decode cX9_init 4 = .ok (.aload_n 0, 1) := by decide +kernel
theorem dX9_init_5 : decode cX9_init 5 = .ok (.new 9, 3) := by decide +kernel
theorem dX9_init_8 : decode cX9_init 8 = .ok (.dup, 1) := by decide +kernel
theorem dX9_init_9 : decode cX9_init 9 = .ok (.invokespecial 11, 3) := by decide +kernel
theorem dX9_init_12 : decode cX9_init 12 = .ok (.putfield 12, 3) := by decide +kernel
theorem dX9_init_15 : decode cX9_init 15 = .ok (.aload_n 0, 1) := by decide +kernel
theorem dX9_init_16 : decode cX9_init 16 = .ok (.new 18, 3) := by decide +kernel
theorem dX9_init_19 : decode cX9_init 19 = .ok (.dup, 1) := by decide +kernel
theorem dX9_init_20 : decode cX9_init 20 = .ok (.invokespecial 20, 3) := by decide +kernel
theorem dX9_init_23 : decode cX9_init 23 = .ok (.putfield 21, 3) := by decide +kernel
theorem dX9_init_26 : decode cX9_init 26 = .ok (.aload_n 0, 1) := by decide +kernel
theorem dX9_init_27 : decode cX9_init 27 = .ok (.new 18, 3) := by decide +kernel
theorem dX9_init_30 : decode cX9_init 30 = .ok (.dup, 1) := by decide +kernel
theorem dX9_init_31 : decode cX9_init 31 = .ok (.invokespecial 20, 3) := by decide +kernel
theorem dX9_init_34 : decode cX9_init 34 = .ok (.putfield 25, 3) := by decide +kernel
theorem dX9_init_37 : decode cX9_init 37 = .ok (.aload_n 0, 1) := by decide +kernel
theorem dX9_init_38 : decode cX9_init 38 = .ok (.bipush 101, 2) := by decide +kernel
theorem dX9_init_40 : decode cX9_init 40 = .ok (.anewarray 28, 3) := by decide +kernel
theorem dX9_init_43 : decode cX9_init 43 = .ok (.putfield 30, 3) := by decide +kernel
theorem dX9_init_46 : decode cX9_init 46 = .ok (.aload_n 0, 1) := by decide +kernel
theorem dX9_init_47 : decode cX9_init 47 = .ok (.new 34, 3) := by decide +kernel
theorem dX9_init_50 : decode cX9_init 50 = .ok (.dup, 1) := by decide +kernel
theorem dX9_init_51 : decode cX9_init 51 = .ok (.iconst 3, 1) := by decide +kernel
theorem dX9_init_52 : decode cX9_init 52 = .ok (.invokespecial 36, 3) := by decide +kernel
theorem dX9_init_55 : decode cX9_init 55 = .ok (.putfield 39, 3) := by decide +kernel
theorem dX9_init_58 : decode cX9_init 58 = .ok (.aload_n 0, 1) := by decide +kernel
theorem dX9_init_59 : decode cX9_init 59 = .ok (.new 34, 3) := by decide +kernel
theorem dX9_init_62 : decode cX9_init 62 = .ok (.dup, 1) := by decide +kernel
theorem dX9_init_63 : decode cX9_init 63 = .ok (.iconst 3, 1) := by decide +kernel
theorem dX9_init_64 : decode cX9_init 64 = .ok (.invokespecial 36, 3) := by decide +kernel
theorem dX9_init_67 : decode cX9_init 67 = .ok (.putfield 43, 3) := by decide +kernel
theorem dX9_init_70 : decode cX9_init 70 = .ok (.aload_n 0, 1) := by decide +kernel
theorem dX9_init_71 : decode cX9_init 71 = .ok (.new 34, 3) := by decide +kernel
theorem dX9_init_74 : decode cX9_init 74 = .ok (.dup, 1) := by decide +kernel
theorem dX9_init_75 : decode cX9_init 75 = .ok (.iconst 3, 1) := by decide +kernel
theorem dX9_init_76 : decode cX9_init 76 = .ok (.invokespecial 36, 3) := by decide +kernel
theorem dX9_init_79 : decode cX9_init 79 = .ok (.putfield 46, 3) := by decide +kernel
theorem dX9_init_82 : decode cX9_init 82 = .ok (.aload_n 0, 1) := by decide +kernel
theorem dX9_init_83 : decode cX9_init 83 = .ok (.new 34, 3) := by decide +kernel
theorem dX9_init_86 : decode cX9_init 86 = .ok (.dup, 1) := by decide +kernel
theorem dX9_init_87 : decode cX9_init 87 = .ok (.iconst 0, 1) := by decide +kernel
theorem dX9_init_88 : decode cX9_init 88 = .ok (.invokespecial 36, 3) := by decide +kernel
theorem dX9_init_91 : decode cX9_init 91 = .ok (.putfield 49, 3) := by decide +kernel
theorem dX9_init_94 : decode cX9_init 94 = .ok (.aload_n 0, 1) := by decide +kernel
theorem dX9_init_95 : decode cX9_init 95 = .ok (.iconst (-1), 1) := by decide +kernel
theorem dX9_init_96 : decode cX9_init 96 = .ok (.putfield 52, 3) := by decide +kernel
theorem dX9_init_99 : decode cX9_init 99 = .ok (.aload_n 0, 1) := by decide +kernel
theorem dX9_init_100 : decode cX9_init 100 = .ok (.iconst (-1), 1) := by decide +kernel
theorem dX9_init_101 : decode cX9_init 101 = .ok (.putfield 56, 3) := by decide +kernel
theorem dX9_init_104 : decode cX9_init 104 = .ok (.aload_n 0, 1) := by decide +kernel
theorem dX9_init_105 : decode cX9_init 105 = .ok (.iconst (-1), 1) := by decide +kernel
theorem dX9_init_106 : decode cX9_init 106 = .ok (.putfield 59, 3) := by decide +kernel
theorem dX9_init_109 : decode cX9_init 109 = .ok (.aload_n 0, 1) := by decide +kernel
theorem dX9_init_110 : decode cX9_init 110 = .ok (.getfield 30, 3) := by decide +kernel
theorem dX9_init_113 : decode cX9_init 113 = .ok (.iconst 0, 1) := by decide +kernel
theorem dX9_init_114 : decode cX9_init 114 = .ok (.new 28, 3) := by decide +kernel
theorem dX9_init_117 : decode cX9_init 117 = .ok (.dup, 1) := by decide +kernel
theorem dX9_init_118 : decode cX9_init 118 = .ok (.invokespecial 62, 3) := by decide +kernel
theorem dX9_init_121 : decode cX9_init 121 = .ok (.aastore, 1) := by decide +kernel
theorem dX9_init_122 : decode cX9_init 122 = .ok (.aload_n 0, 1) := by decide +kernel
theorem dX9_init_123 : decode cX9_init 123 = .ok (.new 63, 3) := by decide +kernel
theorem dX9_init_126 : decode cX9_init 126 = .ok (.dup, 1) := by decide +kernel
theorem dX9_init_127 : decode cX9_init 127 = .ok (.aload_n 1, 1) := by decide +kernel
theorem dX9_init_128 : decode cX9_init 128 = .ok (.aload_n 0, 1) := by decide +kernel
theorem dX9_init_129 : decode cX9_init 129 = .ok (.getfield 21, 3) := by decide +kernel
theorem dX9_init_132 : decode cX9_init 132 = .ok (.invokespecial 65, 3) := by decide +kernel
theorem dX9_init_135 : decode cX9_init 135 = .ok (.putfield 68, 3) := by decide +kernel
theorem dX9_init_138 : decode cX9_init 138 = .ok (.aload_n 0, 1) := by decide +kernel
theorem dX9_init_139 : decode cX9_init 139 = .ok (.new 72, 3) := by decide +kernel
theorem dX9_init_142 : decode cX9_init 142 = .ok (.dup, 1) := by decide +kernel
theorem dX9_init_143 : decode cX9_init 143 = .ok (.aload_n 1, 1) := by decide +kernel
theorem dX9_init_144 : decode cX9_init 144 = .ok (.aload_n 0, 1) := by decide +kernel
theorem dX9_init_145 : decode cX9_init 145 = .ok (.getfield 30, 3) := by decide +kernel
theorem dX9_init_148 : decode cX9_init 148 = .ok (.iconst 0, 1) := by decide +kernel
theorem dX9_init_149 : decode cX9_init 149 = .ok (.aaload, 1) := by decide +kernel
theorem dX9_init_150 : decode cX9_init 150 = .ok (.aload_n 0, 1) := by decide +kernel
theorem dX9_init_151 : decode cX9_init 151 = .ok (.getfield 21, 3) := by decide +kernel
theorem dX9_init_154 : decode cX9_init 154 = .ok (.invokespecial 74, 3) := by decide +kernel
theorem dX9_init_157 : decode cX9_init 157 = .ok (.putfield 77, 3) := by decide +kernel
theorem dX9_init_160 : decode cX9_init 160 = .ok (.return_, 1) := by decide +kernel
theorem dX9_forget_0 : decode cX9_forget 0 = .ok (.aload_n 0, 1) := by decide +kernel
theorem dX9_forget_1 : decode cX9_forget 1 = .ok (.getfield 12, 3) := by decide +kernel
theorem dX9_forget_4 : decode cX9_forget 4 = .ok (.invokevirtual 81, 3) := by decide +kernel
theorem dX9_forget_7 : decode cX9_forget 7 = .ok (.aload_n 0, 1) := by decide +kernel
theorem dX9_forget_8 : decode cX9_forget 8 = .ok (.iconst (-1), 1) := by decide +kernel
theorem dX9_forget_9 : decode cX9_forget 9 = .ok (.putfield 52, 3) := by decide +kernel
theorem dX9_forget_12 : decode cX9_forget 12 = .ok (.aload_n 0, 1) := by decide +kernel
theorem dX9_forget_13 : decode cX9_forget 13 = .ok (.iconst (-1), 1) := by decide +kernel
theorem dX9_forget_14 : decode cX9_forget 14 = .ok (.putfield 56, 3) := by decide +kernel
theorem dX9_forget_17 : decode cX9_forget 17 = .ok (.aload_n 0, 1) := by decide +kernel
theorem dX9_forget_18 : decode cX9_forget 18 = .ok (.iconst (-1), 1) := by decide +kernel
theorem dX9_forget_19 : decode cX9_forget 19 = .ok (.putfield 59, 3) := by decide +kernel
theorem dX9_forget_22 : decode cX9_forget 22 = .ok (.aload_n 0, 1) := by decide +kernel
theorem dX9_forget_23 : decode cX9_forget 23 = .ok (.getfield 43, 3) := by decide +kernel
theorem dX9_forget_26 : decode cX9_forget 26 = .ok (.invokevirtual 84, 3) := by decide +kernel
theorem dX9_forget_29 : decode cX9_forget 29 = .ok (.aload_n 0, 1) := by decide +kernel
theorem dX9_forget_30 : decode cX9_forget 30 = .ok (.getfield 46, 3) := by decide +kernel
theorem dX9_forget_33 : decode cX9_forget 33 = .ok (.invokevirtual 84, 3) := by decide +kernel
theorem dX9_forget_36 : decode cX9_forget 36 = .ok (.return_, 1) := by decide +kernel
theorem dX9_play_0 : decode cX9_play 0 = .ok (.aload_n 0, 1) := by decide +kernel
theorem dX9_play_1 : decode cX9_play 1 = .ok (.getfield 21, 3) := by decide +kernel
theorem dX9_play_4 : decode cX9_play 4 = .ok (.aload_n 2, 1) := by decide +kernel
theorem dX9_play_5 : decode cX9_play 5 = .ok (.invokevirtual 87, 3) := by decide +kernel
theorem dX9_play_8 : decode cX9_play 8 = .ok (.aload_n 0, 1) := by decide +kernel
theorem dX9_play_9 : decode cX9_play 9 = .ok (.getfield 68, 3) := by decide +kernel
theorem dX9_play_12 : decode cX9_play 12 = .ok (.aload_n 1, 1) := by decide +kernel
theorem dX9_play_13 : decode cX9_play 13 = .ok (.aload_n 0, 1) := by decide +kernel
theorem dX9_play_14 : decode cX9_play 14 = .ok (.getfield 21, 3) := by decide +kernel
theorem dX9_play_17 : decode cX9_play 17 = .ok (.invokevirtual 91, 3) := by decide +kernel
theorem dX9_play_20 : decode cX9_play 20 = .ok (.aload_n 3, 1) := by decide +kernel
theorem dX9_play_21 : decode cX9_play 21 = .ok (.aload_n 1, 1) := by decide +kernel
theorem dX9_play_22 : decode cX9_play 22 = .ok (.aload_n 0, 1) := by decide +kernel
theorem dX9_play_23 : decode cX9_play 23 = .ok (.getfield 21, 3) := by decide +kernel
theorem dX9_play_26 : decode cX9_play 26 = .ok (.aload_n 0, 1) := by decide +kernel
theorem dX9_play_27 : decode cX9_play 27 = .ok (.getfield 68, 3) := by decide +kernel
theorem dX9_play_30 : decode cX9_play 30 = .ok (.invokevirtual 94, 3) := by decide +kernel
theorem dX9_play_33 : decode cX9_play 33 = .ok (.return_, 1) := by decide +kernel
theorem dX9_spoiledBy_0 : decode cX9_spoiledBy 0 = .ok (.aload_n 0, 1) := by decide +kernel
theorem dX9_spoiledBy_1 : decode cX9_spoiledBy 1 = .ok (.getfield 21, 3) := by decide +kernel
theorem dX9_spoiledBy_4 : decode cX9_spoiledBy 4 = .ok (.aload_n 3, 1) := by decide +kernel
theorem dX9_spoiledBy_5 : decode cX9_spoiledBy 5 = .ok (.invokevirtual 87, 3) := by decide +kernel
theorem dX9_spoiledBy_8 : decode cX9_spoiledBy 8 = .ok (.aload_n 0, 1) := by decide +kernel
theorem dX9_spoiledBy_9 : decode cX9_spoiledBy 9 = .ok (.getfield 77, 3) := by decide +kernel
theorem dX9_spoiledBy_12 : decode cX9_spoiledBy 12 = .ok (.aload_n 1, 1) := by decide +kernel
theorem dX9_spoiledBy_13 : decode cX9_spoiledBy 13 = .ok (.aload_n 2, 1) := by decide +kernel
theorem dX9_spoiledBy_14 : decode cX9_spoiledBy 14 = .ok (.aload_n 0, 1) := by decide +kernel
theorem dX9_spoiledBy_15 : decode cX9_spoiledBy 15 = .ok (.getfield 21, 3) := by decide +kernel
theorem dX9_spoiledBy_18 : decode cX9_spoiledBy 18 = .ok (.invokevirtual 98, 3) := by decide +kernel
theorem dX9_spoiledBy_21 : decode cX9_spoiledBy 21 = .ok (.lreturn, 1) := by decide +kernel
theorem dX9_formula_0 : decode cX9_formula 0 = .ok (.iload_n 1, 1) := by decide +kernel
theorem dX9_formula_1 : decode cX9_formula 1 = .ok (.ifCond .lt 12, 3) := by decide +kernel
theorem dX9_formula_4 : decode cX9_formula 4 = .ok (.iload_n 1, 1) := by decide +kernel
theorem dX9_formula_5 : decode cX9_formula 5 = .ok (.aload_n 0, 1) := by decide +kernel
theorem dX9_formula_6 : decode cX9_formula 6 = .ok (.getfield 30, 3) := by decide +kernel
theorem dX9_formula_9 : decode cX9_formula 9 = .ok (.arraylength, 1) := by decide +kernel
theorem dX9_formula_10 : decode cX9_formula 10 = .ok (.if_icmp .lt 10, 3) := by decide +kernel
theorem dX9_formula_13 : decode cX9_formula 13 = .ok (.aload_n 0, 1) := by decide +kernel
theorem dX9_formula_14 : decode cX9_formula 14 = .ok (.getfield 30, 3) := by decide +kernel
theorem dX9_formula_17 : decode cX9_formula 17 = .ok (.iconst 0, 1) := by decide +kernel
theorem dX9_formula_18 : decode cX9_formula 18 = .ok (.aaload, 1) := by decide +kernel
theorem dX9_formula_19 : decode cX9_formula 19 = .ok (.areturn, 1) := by decide +kernel
theorem dX9_formula_20 : decode cX9_formula 20 = .ok (.aload_n 0, 1) := by decide +kernel
theorem dX9_formula_21 : decode cX9_formula 21 = .ok (.getfield 30, 3) := by decide +kernel
theorem dX9_formula_24 : decode cX9_formula 24 = .ok (.iload_n 1, 1) := by decide +kernel
theorem dX9_formula_25 : decode cX9_formula 25 = .ok (.aaload, 1) := by decide +kernel
theorem dX9_formula_26 : decode cX9_formula 26 = .ok (.ifnonnull 16, 3) := by decide +kernel
theorem dX9_formula_29 : decode cX9_formula 29 = .ok (.aload_n 0, 1) := by decide +kernel
theorem dX9_formula_30 : decode cX9_formula 30 = .ok (.getfield 30, 3) := by decide +kernel
theorem dX9_formula_33 : decode cX9_formula 33 = .ok (.iload_n 1, 1) := by decide +kernel
theorem dX9_formula_34 : decode cX9_formula 34 = .ok (.new 28, 3) := by decide +kernel
theorem dX9_formula_37 : decode cX9_formula 37 = .ok (.dup, 1) := by decide +kernel
theorem dX9_formula_38 : decode cX9_formula 38 = .ok (.invokespecial 62, 3) := by decide +kernel
theorem dX9_formula_41 : decode cX9_formula 41 = .ok (.aastore, 1) := by decide +kernel
theorem dX9_formula_42 : decode cX9_formula 42 = .ok (.aload_n 0, 1) := by decide +kernel
theorem dX9_formula_43 : decode cX9_formula 43 = .ok (.getfield 30, 3) := by decide +kernel
theorem dX9_formula_46 : decode cX9_formula 46 = .ok (.iload_n 1, 1) := by decide +kernel
theorem dX9_formula_47 : decode cX9_formula 47 = .ok (.aaload, 1) := by decide +kernel
theorem dX9_formula_48 : decode cX9_formula 48 = .ok (.areturn, 1) := by decide +kernel
theorem dX9_search_0 : decode cX9_search 0 = .ok (.aload_n 0, 1) := by decide +kernel
theorem dX9_search_1 : decode cX9_search 1 = .ok (.iconst 0, 1) := by decide +kernel
theorem dX9_search_2 : decode cX9_search 2 = .ok (.putfield 52, 3) := by decide +kernel
theorem dX9_search_5 : decode cX9_search 5 = .ok (.aload_n 0, 1) := by decide +kernel
theorem dX9_search_6 : decode cX9_search 6 = .ok (.iconst 1, 1) := by decide +kernel
theorem dX9_search_7 : decode cX9_search 7 = .ok (.putfield 56, 3) := by decide +kernel
theorem dX9_search_10 : decode cX9_search 10 = .ok (.aload_n 0, 1) := by decide +kernel
theorem dX9_search_11 : decode cX9_search 11 = .ok (.getfield 43, 3) := by decide +kernel
theorem dX9_search_14 : decode cX9_search 14 = .ok (.invokevirtual 84, 3) := by decide +kernel
theorem dX9_search_17 : decode cX9_search 17 = .ok (.aload_n 0, 1) := by decide +kernel
theorem dX9_search_18 : decode cX9_search 18 = .ok (.aload_n 1, 1) := by decide +kernel
theorem dX9_search_19 : decode cX9_search 19 = .ok (.aload_n 0, 1) := by decide +kernel
theorem dX9_search_20 : decode cX9_search 20 = .ok (.getfield 49, 3) := by decide +kernel
theorem dX9_search_23 : decode cX9_search 23 = .ok (.aload_n 0, 1) := by decide +kernel
theorem dX9_search_24 : decode cX9_search 24 = .ok (.iconst 0, 1) := by decide +kernel
theorem dX9_search_25 : decode cX9_search 25 = .ok (.invokevirtual 102, 3) := by decide +kernel
theorem dX9_search_28 : decode cX9_search 28 = .ok (.invokevirtual 106, 3) := by decide +kernel
theorem dX9_search_31 : decode cX9_search 31 = .ok (.aload_n 0, 1) := by decide +kernel
theorem dX9_search_32 : decode cX9_search 32 = .ok (.getfield 12, 3) := by decide +kernel
theorem dX9_search_35 : decode cX9_search 35 = .ok (.aload_n 1, 1) := by decide +kernel
theorem dX9_search_36 : decode cX9_search 36 = .ok (.invokevirtual 110, 3) := by decide +kernel
theorem dX9_search_39 : decode cX9_search 39 = .ok (.iconst 0, 1) := by decide +kernel
theorem dX9_search_40 : decode cX9_search 40 = .ok (.istore_n 3, 1) := by decide +kernel
theorem dX9_search_41 : decode cX9_search 41 = .ok (.iload_n 3, 1) := by decide +kernel
theorem dX9_search_42 : decode cX9_search 42 = .ok (.ldc 114, 2) := by decide +kernel
theorem dX9_search_44 : decode cX9_search 44 = .ok (.if_icmp .ge 36, 3) := by decide +kernel
theorem dX9_search_47 : decode cX9_search 47 = .ok (.aload_n 0, 1) := by decide +kernel
theorem dX9_search_48 : decode cX9_search 48 = .ok (.getfield 12, 3) := by decide +kernel
theorem dX9_search_51 : decode cX9_search 51 = .ok (.invokevirtual 115, 3) := by decide +kernel
theorem dX9_search_54 : decode cX9_search 54 = .ok (.ifCond .eq 26, 3) := by decide +kernel
theorem dX9_search_57 : decode cX9_search 57 = .ok (.aload_n 0, 1) := by decide +kernel
theorem dX9_search_58 : decode cX9_search 58 = .ok (.aload_n 1, 1) := by decide +kernel
theorem dX9_search_59 : decode cX9_search 59 = .ok (.iload_n 2, 1) := by decide +kernel
theorem dX9_search_60 : decode cX9_search 60 = .ok (.invokevirtual 119, 3) := by decide +kernel
theorem dX9_search_63 : decode cX9_search 63 = .ok (.istore 4, 2) := by decide +kernel
theorem dX9_search_65 : decode cX9_search 65 = .ok (.iload 4, 2) := by decide +kernel
theorem dX9_search_67 : decode cX9_search 67 = .ok (.iconst (-1), 1) := by decide +kernel
theorem dX9_search_68 : decode cX9_search 68 = .ok (.if_icmp .eq 6, 3) := by decide +kernel
theorem dX9_search_71 : decode cX9_search 71 = .ok (.iload 4, 2) := by decide +kernel
theorem dX9_search_73 : decode cX9_search 73 = .ok (.ireturn, 1) := by decide +kernel
theorem dX9_search_74 : decode cX9_search 74 = .ok (.iinc 3 1, 3) := by decide +kernel
theorem dX9_search_77 : decode cX9_search 77 = .ok (.goto (-36), 3) := by decide +kernel
theorem dX9_search_80 : decode cX9_search 80 = .ok (.iconst 0, 1) := by decide +kernel
theorem dX9_search_81 : decode cX9_search 81 = .ok (.ireturn, 1) := by decide +kernel
theorem dX9_searchBundle_0 : decode cX9_searchBundle 0 = .ok (.aload_n 0, 1) := by decide +kernel
theorem dX9_searchBundle_1 : decode cX9_searchBundle 1 = .ok (.getfield 12, 3) := by decide +kernel
theorem dX9_searchBundle_4 : decode cX9_searchBundle 4 = .ok (.aload_n 0, 1) := by decide +kernel
theorem dX9_searchBundle_5 : decode cX9_searchBundle 5 = .ok (.getfield 25, 3) := by decide +kernel
theorem dX9_searchBundle_8 : decode cX9_searchBundle 8 = .ok (.invokevirtual 123, 3) := by decide +kernel
theorem dX9_searchBundle_11 : decode cX9_searchBundle 11 = .ok (.aload_n 0, 1) := by decide +kernel
theorem dX9_searchBundle_12 : decode cX9_searchBundle 12 = .ok (.getfield 12, 3) := by decide +kernel
theorem dX9_searchBundle_15 : decode cX9_searchBundle 15 = .ok (.getfield 127, 3) := by decide +kernel
theorem dX9_searchBundle_18 : decode cX9_searchBundle 18 = .ok (.lstore_n 3, 1) := by decide +kernel
theorem dX9_searchBundle_19 : decode cX9_searchBundle 19 = .ok (.iconst 0, 1) := by decide +kernel
theorem dX9_searchBundle_20 : decode cX9_searchBundle 20 = .ok (.istore 5, 2) := by decide +kernel
theorem dX9_searchBundle_22 : decode cX9_searchBundle 22 = .ok (.iload 5, 2) := by decide +kernel
theorem dX9_searchBundle_24 : decode cX9_searchBundle 24 = .ok (.aload_n 0, 1) := by decide +kernel
theorem dX9_searchBundle_25 : decode cX9_searchBundle 25 = .ok (.getfield 56, 3) := by decide +kernel
theorem dX9_searchBundle_28 : decode cX9_searchBundle 28 = .ok (.if_icmp .ge 36, 3) := by decide +kernel
theorem dX9_searchBundle_31 : decode cX9_searchBundle 31 = .ok (.lload_n 3, 1) := by decide +kernel
theorem dX9_searchBundle_32 : decode cX9_searchBundle 32 = .ok (.lconst 0, 1) := by decide +kernel
theorem dX9_searchBundle_33 : decode cX9_searchBundle 33 = .ok (.lcmp, 1) := by decide +kernel
theorem dX9_searchBundle_34 : decode cX9_searchBundle 34 = .ok (.ifCond .eq 30, 3) := by decide +kernel
theorem dX9_searchBundle_37 : decode cX9_searchBundle 37 = .ok (.lload_n 3, 1) := by decide +kernel
theorem dX9_searchBundle_38 : decode cX9_searchBundle 38 = .ok (.aload_n 0, 1) := by decide +kernel
theorem dX9_searchBundle_39 : decode cX9_searchBundle 39 = .ok (.getfield 77, 3) := by decide +kernel
theorem dX9_searchBundle_42 : decode cX9_searchBundle 42 = .ok (.aload_n 1, 1) := by decide +kernel
theorem dX9_searchBundle_43 : decode cX9_searchBundle 43 = .ok (.aload_n 0, 1) := by decide +kernel
theorem dX9_searchBundle_44 : decode cX9_searchBundle 44 = .ok (.iload 5, 2) := by decide +kernel
theorem dX9_searchBundle_46 : decode cX9_searchBundle 46 = .ok (.invokevirtual 102, 3) := by decide +kernel
theorem dX9_searchBundle_49 : decode cX9_searchBundle 49 = .ok (.aload_n 0, 1) := by decide +kernel
theorem dX9_searchBundle_50 : decode cX9_searchBundle 50 = .ok (.getfield 25, 3) := by decide +kernel
theorem dX9_searchBundle_53 : decode cX9_searchBundle 53 = .ok (.invokevirtual 98, 3) := by decide +kernel
theorem dX9_searchBundle_56 : decode cX9_searchBundle 56 = .ok (.land, 1) := by decide +kernel
theorem dX9_searchBundle_57 : decode cX9_searchBundle 57 = .ok (.lstore_n 3, 1) := by decide +kernel
theorem dX9_searchBundle_58 : decode cX9_searchBundle 58 = .ok (.iinc 5 1, 3) := by decide +kernel
theorem dX9_searchBundle_61 : decode cX9_searchBundle 61 = .ok (.goto (-39), 3) := by decide +kernel
theorem dX9_searchBundle_64 : decode cX9_searchBundle 64 = .ok (.iconst 0, 1) := by decide +kernel
theorem dX9_searchBundle_65 : decode cX9_searchBundle 65 = .ok (.istore 5, 2) := by decide +kernel
theorem dX9_searchBundle_67 : decode cX9_searchBundle 67 = .ok (.iload 5, 2) := by decide +kernel
theorem dX9_searchBundle_69 : decode cX9_searchBundle 69 = .ok (.bipush 64, 2) := by decide +kernel
theorem dX9_searchBundle_71 : decode cX9_searchBundle 71 = .ok (.if_icmp .ge 140, 3) := by decide +kernel
theorem dX9_searchBundle_74 : decode cX9_searchBundle 74 = .ok (.lload_n 3, 1) := by decide +kernel
theorem dX9_searchBundle_75 : decode cX9_searchBundle 75 = .ok (.lconst 0, 1) := by decide +kernel
theorem dX9_searchBundle_76 : decode cX9_searchBundle 76 = .ok (.lcmp, 1) := by decide +kernel
theorem dX9_searchBundle_77 : decode cX9_searchBundle 77 = .ok (.ifCond .eq 134, 3) := by decide +kernel
theorem dX9_searchBundle_80 : decode cX9_searchBundle 80 = .ok (.lload_n 3, 1) := by decide +kernel
theorem dX9_searchBundle_81 : decode cX9_searchBundle 81 = .ok (.iload 5, 2) := by decide +kernel
theorem dX9_searchBundle_83 : decode cX9_searchBundle 83 = .ok (.lushr, 1) := by decide +kernel
theorem dX9_searchBundle_84 : decode cX9_searchBundle 84 = .ok (.lconst 1, 1) := by decide +kernel
theorem dX9_searchBundle_85 : decode cX9_searchBundle 85 = .ok (.land, 1) := by decide +kernel
theorem dX9_searchBundle_86 : decode cX9_searchBundle 86 = .ok (.lconst 0, 1) := by decide +kernel
theorem dX9_searchBundle_87 : decode cX9_searchBundle 87 = .ok (.lcmp, 1) := by decide +kernel
theorem dX9_searchBundle_88 : decode cX9_searchBundle 88 = .ok (.ifCond .ne 6, 3) := by decide +kernel
theorem dX9_searchBundle_91 : decode cX9_searchBundle 91 = .ok (.goto 114, 3) := by decide +kernel
theorem dX9_searchBundle_94 : decode cX9_searchBundle 94 = .ok (.aload_n 0, 1) := by decide +kernel
theorem dX9_searchBundle_95 : decode cX9_searchBundle 95 = .ok (.getfield 52, 3) := by decide +kernel
theorem dX9_searchBundle_98 : decode cX9_searchBundle 98 = .ok (.iload_n 2, 1) := by decide +kernel
theorem dX9_searchBundle_99 : decode cX9_searchBundle 99 = .ok (.if_icmp .ne 5, 3) := by decide +kernel
theorem dX9_searchBundle_102 : decode cX9_searchBundle 102 = .ok (.iconst 2, 1) := by decide +kernel
theorem dX9_searchBundle_103 : decode cX9_searchBundle 103 = .ok (.ireturn, 1) := by decide +kernel
theorem dX9_searchBundle_104 : decode cX9_searchBundle 104 = .ok (.aload_n 0, 1) := by decide +kernel
theorem dX9_searchBundle_105 : decode cX9_searchBundle 105 = .ok (.dup, 1) := by decide +kernel
theorem dX9_searchBundle_106 : decode cX9_searchBundle 106 = .ok (.getfield 52, 3) := by decide +kernel
theorem dX9_searchBundle_109 : decode cX9_searchBundle 109 = .ok (.iconst 1, 1) := by decide +kernel
theorem dX9_searchBundle_110 : decode cX9_searchBundle 110 = .ok (.iadd, 1) := by decide +kernel
theorem dX9_searchBundle_111 : decode cX9_searchBundle 111 = .ok (.putfield 52, 3) := by decide +kernel
theorem dX9_searchBundle_114 : decode cX9_searchBundle 114 = .ok (.aload_n 0, 1) := by decide +kernel
theorem dX9_searchBundle_115 : decode cX9_searchBundle 115 = .ok (.getfield 12, 3) := by decide +kernel
theorem dX9_searchBundle_118 : decode cX9_searchBundle 118 = .ok (.iload 5, 2) := by decide +kernel
theorem dX9_searchBundle_120 : decode cX9_searchBundle 120 = .ok (.aload_n 0, 1) := by decide +kernel
theorem dX9_searchBundle_121 : decode cX9_searchBundle 121 = .ok (.getfield 39, 3) := by decide +kernel
theorem dX9_searchBundle_124 : decode cX9_searchBundle 124 = .ok (.invokevirtual 131, 3) := by decide +kernel
theorem dX9_searchBundle_127 : decode cX9_searchBundle 127 = .ok (.aload_n 0, 1) := by decide +kernel
theorem dX9_searchBundle_128 : decode cX9_searchBundle 128 = .ok (.aload_n 0, 1) := by decide +kernel
theorem dX9_searchBundle_129 : decode cX9_searchBundle 129 = .ok (.getfield 56, 3) := by decide +kernel
theorem dX9_searchBundle_132 : decode cX9_searchBundle 132 = .ok (.invokevirtual 102, 3) := by decide +kernel
theorem dX9_searchBundle_135 : decode cX9_searchBundle 135 = .ok (.astore 6, 2) := by decide +kernel
theorem dX9_searchBundle_137 : decode cX9_searchBundle 137 = .ok (.aload_n 0, 1) := by decide +kernel
theorem dX9_searchBundle_138 : decode cX9_searchBundle 138 = .ok (.aload_n 1, 1) := by decide +kernel
theorem dX9_searchBundle_139 : decode cX9_searchBundle 139 = .ok (.aload_n 0, 1) := by decide +kernel
theorem dX9_searchBundle_140 : decode cX9_searchBundle 140 = .ok (.getfield 39, 3) := by decide +kernel
theorem dX9_searchBundle_143 : decode cX9_searchBundle 143 = .ok (.aload 6, 2) := by decide +kernel
theorem dX9_searchBundle_145 : decode cX9_searchBundle 145 = .ok (.invokevirtual 106, 3) := by decide +kernel
theorem dX9_searchBundle_148 : decode cX9_searchBundle 148 = .ok (.aload 6, 2) := by decide +kernel
theorem dX9_searchBundle_150 : decode cX9_searchBundle 150 = .ok (.getfield 135, 3) := by decide +kernel
theorem dX9_searchBundle_153 : decode cX9_searchBundle 153 = .ok (.iconst 2, 1) := by decide +kernel
theorem dX9_searchBundle_154 : decode cX9_searchBundle 154 = .ok (.if_icmp .ne 16, 3) := by decide +kernel
theorem dX9_searchBundle_157 : decode cX9_searchBundle 157 = .ok (.aload_n 0, 1) := by decide +kernel
theorem dX9_searchBundle_158 : decode cX9_searchBundle 158 = .ok (.getfield 43, 3) := by decide +kernel
theorem dX9_searchBundle_161 : decode cX9_searchBundle 161 = .ok (.aload_n 0, 1) := by decide +kernel
theorem dX9_searchBundle_162 : decode cX9_searchBundle 162 = .ok (.getfield 39, 3) := by decide +kernel
theorem dX9_searchBundle_165 : decode cX9_searchBundle 165 = .ok (.invokevirtual 138, 3) := by decide +kernel
theorem dX9_searchBundle_168 : decode cX9_searchBundle 168 = .ok (.iconst 1, 1) := by decide +kernel
theorem dX9_searchBundle_169 : decode cX9_searchBundle 169 = .ok (.ireturn, 1) := by decide +kernel
theorem dX9_searchBundle_170 : decode cX9_searchBundle 170 = .ok (.aload 6, 2) := by decide +kernel
theorem dX9_searchBundle_172 : decode cX9_searchBundle 172 = .ok (.getfield 135, 3) := by decide +kernel
theorem dX9_searchBundle_175 : decode cX9_searchBundle 175 = .ok (.ifCond .ne 30, 3) := by decide +kernel
theorem dX9_searchBundle_178 : decode cX9_searchBundle 178 = .ok (.aload_n 0, 1) := by decide +kernel
theorem dX9_searchBundle_179 : decode cX9_searchBundle 179 = .ok (.dup, 1) := by decide +kernel
theorem dX9_searchBundle_180 : decode cX9_searchBundle 180 = .ok (.getfield 56, 3) := by decide +kernel
theorem dX9_searchBundle_183 : decode cX9_searchBundle 183 = .ok (.iconst 1, 1) := by decide +kernel
theorem dX9_searchBundle_184 : decode cX9_searchBundle 184 = .ok (.iadd, 1) := by decide +kernel
theorem dX9_searchBundle_185 : decode cX9_searchBundle 185 = .ok (.putfield 56, 3) := by decide +kernel
theorem dX9_searchBundle_188 : decode cX9_searchBundle 188 = .ok (.lload_n 3, 1) := by decide +kernel
theorem dX9_searchBundle_189 : decode cX9_searchBundle 189 = .ok (.aload_n 0, 1) := by decide +kernel
theorem dX9_searchBundle_190 : decode cX9_searchBundle 190 = .ok (.getfield 77, 3) := by decide +kernel
theorem dX9_searchBundle_193 : decode cX9_searchBundle 193 = .ok (.aload_n 1, 1) := by decide +kernel
theorem dX9_searchBundle_194 : decode cX9_searchBundle 194 = .ok (.aload 6, 2) := by decide +kernel
theorem dX9_searchBundle_196 : decode cX9_searchBundle 196 = .ok (.aload_n 0, 1) := by decide +kernel
theorem dX9_searchBundle_197 : decode cX9_searchBundle 197 = .ok (.getfield 25, 3) := by decide +kernel
theorem dX9_searchBundle_200 : decode cX9_searchBundle 200 = .ok (.invokevirtual 98, 3) := by decide +kernel
theorem dX9_searchBundle_203 : decode cX9_searchBundle 203 = .ok (.land, 1) := by decide +kernel
theorem dX9_searchBundle_204 : decode cX9_searchBundle 204 = .ok (.lstore_n 3, 1) := by decide +kernel
theorem dX9_searchBundle_205 : decode cX9_searchBundle 205 = .ok (.iinc 5 1, 3) := by decide +kernel
theorem dX9_searchBundle_208 : decode cX9_searchBundle 208 = .ok (.goto (-141), 3) := by decide +kernel
theorem dX9_searchBundle_211 : decode cX9_searchBundle 211 = .ok (.iconst (-1), 1) := by decide +kernel
theorem dX9_searchBundle_212 : decode cX9_searchBundle 212 = .ok (.ireturn, 1) := by decide +kernel
theorem dX9_runAll_0 : decode cX9_runAll 0 = .ok (.iconst 0, 1) := by decide +kernel
theorem dX9_runAll_1 : decode cX9_runAll 1 = .ok (.istore_n 2, 1) := by decide +kernel
theorem dX9_runAll_2 : decode cX9_runAll 2 = .ok (.aload_n 0, 1) := by decide +kernel
theorem dX9_runAll_3 : decode cX9_runAll 3 = .ok (.getfield 46, 3) := by decide +kernel
theorem dX9_runAll_6 : decode cX9_runAll 6 = .ok (.invokevirtual 84, 3) := by decide +kernel
theorem dX9_runAll_9 : decode cX9_runAll 9 = .ok (.aload_n 0, 1) := by decide +kernel
theorem dX9_runAll_10 : decode cX9_runAll 10 = .ok (.getfield 12, 3) := by decide +kernel
theorem dX9_runAll_13 : decode cX9_runAll 13 = .ok (.aload_n 1, 1) := by decide +kernel
theorem dX9_runAll_14 : decode cX9_runAll 14 = .ok (.invokevirtual 110, 3) := by decide +kernel
theorem dX9_runAll_17 : decode cX9_runAll 17 = .ok (.iconst 0, 1) := by decide +kernel
theorem dX9_runAll_18 : decode cX9_runAll 18 = .ok (.istore_n 3, 1) := by decide +kernel
theorem dX9_runAll_19 : decode cX9_runAll 19 = .ok (.iload_n 3, 1) := by decide +kernel
theorem dX9_runAll_20 : decode cX9_runAll 20 = .ok (.ldc 114, 2) := by decide +kernel
theorem dX9_runAll_22 : decode cX9_runAll 22 = .ok (.if_icmp .ge 109, 3) := by decide +kernel
theorem dX9_runAll_25 : decode cX9_runAll 25 = .ok (.aload_n 0, 1) := by decide +kernel
theorem dX9_runAll_26 : decode cX9_runAll 26 = .ok (.getfield 12, 3) := by decide +kernel
theorem dX9_runAll_29 : decode cX9_runAll 29 = .ok (.invokevirtual 115, 3) := by decide +kernel
theorem dX9_runAll_32 : decode cX9_runAll 32 = .ok (.ifCond .eq 99, 3) := by decide +kernel
theorem dX9_runAll_35 : decode cX9_runAll 35 = .ok (.aload_n 0, 1) := by decide +kernel
theorem dX9_runAll_36 : decode cX9_runAll 36 = .ok (.getfield 12, 3) := by decide +kernel
theorem dX9_runAll_39 : decode cX9_runAll 39 = .ok (.aload_n 0, 1) := by decide +kernel
theorem dX9_runAll_40 : decode cX9_runAll 40 = .ok (.getfield 25, 3) := by decide +kernel
theorem dX9_runAll_43 : decode cX9_runAll 43 = .ok (.invokevirtual 123, 3) := by decide +kernel
theorem dX9_runAll_46 : decode cX9_runAll 46 = .ok (.aload_n 0, 1) := by decide +kernel
theorem dX9_runAll_47 : decode cX9_runAll 47 = .ok (.getfield 12, 3) := by decide +kernel
theorem dX9_runAll_50 : decode cX9_runAll 50 = .ok (.getfield 127, 3) := by decide +kernel
theorem dX9_runAll_53 : decode cX9_runAll 53 = .ok (.lconst 0, 1) := by decide +kernel
theorem dX9_runAll_54 : decode cX9_runAll 54 = .ok (.lcmp, 1) := by decide +kernel
theorem dX9_runAll_55 : decode cX9_runAll 55 = .ok (.ifCond .ne 6, 3) := by decide +kernel
theorem dX9_runAll_58 : decode cX9_runAll 58 = .ok (.goto 67, 3) := by decide +kernel
theorem dX9_runAll_61 : decode cX9_runAll 61 = .ok (.aload_n 0, 1) := by decide +kernel
theorem dX9_runAll_62 : decode cX9_runAll 62 = .ok (.getfield 68, 3) := by decide +kernel
theorem dX9_runAll_65 : decode cX9_runAll 65 = .ok (.aload_n 1, 1) := by decide +kernel
theorem dX9_runAll_66 : decode cX9_runAll 66 = .ok (.aload_n 0, 1) := by decide +kernel
theorem dX9_runAll_67 : decode cX9_runAll 67 = .ok (.getfield 25, 3) := by decide +kernel
theorem dX9_runAll_70 : decode cX9_runAll 70 = .ok (.invokevirtual 91, 3) := by decide +kernel
theorem dX9_runAll_73 : decode cX9_runAll 73 = .ok (.aload_n 0, 1) := by decide +kernel
theorem dX9_runAll_74 : decode cX9_runAll 74 = .ok (.getfield 68, 3) := by decide +kernel
theorem dX9_runAll_77 : decode cX9_runAll 77 = .ok (.getfield 140, 3) := by decide +kernel
theorem dX9_runAll_80 : decode cX9_runAll 80 = .ok (.aload_n 0, 1) := by decide +kernel
theorem dX9_runAll_81 : decode cX9_runAll 81 = .ok (.getfield 12, 3) := by decide +kernel
theorem dX9_runAll_84 : decode cX9_runAll 84 = .ok (.getfield 127, 3) := by decide +kernel
theorem dX9_runAll_87 : decode cX9_runAll 87 = .ok (.land, 1) := by decide +kernel
theorem dX9_runAll_88 : decode cX9_runAll 88 = .ok (.lstore 4, 2) := by decide +kernel
theorem dX9_runAll_90 : decode cX9_runAll 90 = .ok (.lload 4, 2) := by decide +kernel
theorem dX9_runAll_92 : decode cX9_runAll 92 = .ok (.lconst 0, 1) := by decide +kernel
theorem dX9_runAll_93 : decode cX9_runAll 93 = .ok (.lcmp, 1) := by decide +kernel
theorem dX9_runAll_94 : decode cX9_runAll 94 = .ok (.ifCond .eq 23, 3) := by decide +kernel
theorem dX9_runAll_97 : decode cX9_runAll 97 = .ok (.iload_n 2, 1) := by decide +kernel
theorem dX9_runAll_98 : decode cX9_runAll 98 = .ok (.ifCond .ne 19, 3) := by decide +kernel
theorem dX9_runAll_101 : decode cX9_runAll 101 = .ok (.aload_n 0, 1) := by decide +kernel
theorem dX9_runAll_102 : decode cX9_runAll 102 = .ok (.getfield 12, 3) := by decide +kernel
theorem dX9_runAll_105 : decode cX9_runAll 105 = .ok (.lload 4, 2) := by decide +kernel
theorem dX9_runAll_107 : decode cX9_runAll 107 = .ok (.invokestatic 143, 3) := by decide +kernel
theorem dX9_runAll_110 : decode cX9_runAll 110 = .ok (.aload_n 0, 1) := by decide +kernel
theorem dX9_runAll_111 : decode cX9_runAll 111 = .ok (.getfield 46, 3) := by decide +kernel
theorem dX9_runAll_114 : decode cX9_runAll 114 = .ok (.invokevirtual 131, 3) := by decide +kernel
theorem dX9_runAll_117 : decode cX9_runAll 117 = .ok (.iload_n 2, 1) := by decide +kernel
theorem dX9_runAll_118 : decode cX9_runAll 118 = .ok (.lload 4, 2) := by decide +kernel
theorem dX9_runAll_120 : decode cX9_runAll 120 = .ok (.invokestatic 149, 3) := by decide +kernel
theorem dX9_runAll_123 : decode cX9_runAll 123 = .ok (.iadd, 1) := by decide +kernel
theorem dX9_runAll_124 : decode cX9_runAll 124 = .ok (.istore_n 2, 1) := by decide +kernel
theorem dX9_runAll_125 : decode cX9_runAll 125 = .ok (.iinc 3 1, 3) := by decide +kernel
theorem dX9_runAll_128 : decode cX9_runAll 128 = .ok (.goto (-109), 3) := by decide +kernel
theorem dX9_runAll_131 : decode cX9_runAll 131 = .ok (.iload_n 2, 1) := by decide +kernel
theorem dX9_runAll_132 : decode cX9_runAll 132 = .ok (.ireturn, 1) := by decide +kernel
theorem dX9_thinnest_0 : decode cX9_thinnest 0 = .ok (.iconst (-1), 1) := by decide +kernel
theorem dX9_thinnest_1 : decode cX9_thinnest 1 = .ok (.istore_n 2, 1) := by decide +kernel
theorem dX9_thinnest_2 : decode cX9_thinnest 2 = .ok (.iconst 4, 1) := by decide +kernel
theorem dX9_thinnest_3 : decode cX9_thinnest 3 = .ok (.istore_n 3, 1) := by decide +kernel
theorem dX9_thinnest_4 : decode cX9_thinnest 4 = .ok (.iconst 1, 1) := by decide +kernel
theorem dX9_thinnest_5 : decode cX9_thinnest 5 = .ok (.aload_n 1, 1) := by decide +kernel
theorem dX9_thinnest_6 : decode cX9_thinnest 6 = .ok (.getfield 152, 3) := by decide +kernel
theorem dX9_thinnest_9 : decode cX9_thinnest 9 = .ok (.getfield 158, 3) := by decide +kernel
theorem dX9_thinnest_12 : decode cX9_thinnest 12 = .ok (.ishl, 1) := by decide +kernel
theorem dX9_thinnest_13 : decode cX9_thinnest 13 = .ok (.istore 4, 2) := by decide +kernel
theorem dX9_thinnest_15 : decode cX9_thinnest 15 = .ok (.iconst 0, 1) := by decide +kernel
theorem dX9_thinnest_16 : decode cX9_thinnest 16 = .ok (.istore 5, 2) := by decide +kernel
theorem dX9_thinnest_18 : decode cX9_thinnest 18 = .ok (.iload 5, 2) := by decide +kernel
theorem dX9_thinnest_20 : decode cX9_thinnest 20 = .ok (.iload 4, 2) := by decide +kernel
theorem dX9_thinnest_22 : decode cX9_thinnest 22 = .ok (.if_icmp .ge 72, 3) := by decide +kernel
theorem dX9_thinnest_25 : decode cX9_thinnest 25 = .ok (.iload_n 3, 1) := by decide +kernel
theorem dX9_thinnest_26 : decode cX9_thinnest 26 = .ok (.iconst 1, 1) := by decide +kernel
theorem dX9_thinnest_27 : decode cX9_thinnest 27 = .ok (.if_icmp .le 67, 3) := by decide +kernel
theorem dX9_thinnest_30 : decode cX9_thinnest 30 = .ok (.aload_n 1, 1) := by decide +kernel
theorem dX9_thinnest_31 : decode cX9_thinnest 31 = .ok (.iload 5, 2) := by decide +kernel
theorem dX9_thinnest_33 : decode cX9_thinnest 33 = .ok (.putfield 163, 3) := by decide +kernel
theorem dX9_thinnest_36 : decode cX9_thinnest 36 = .ok (.aload_n 0, 1) := by decide +kernel
theorem dX9_thinnest_37 : decode cX9_thinnest 37 = .ok (.aload_n 1, 1) := by decide +kernel
theorem dX9_thinnest_38 : decode cX9_thinnest 38 = .ok (.aload_n 0, 1) := by decide +kernel
theorem dX9_thinnest_39 : decode cX9_thinnest 39 = .ok (.getfield 49, 3) := by decide +kernel
theorem dX9_thinnest_42 : decode cX9_thinnest 42 = .ok (.aload_n 0, 1) := by decide +kernel
theorem dX9_thinnest_43 : decode cX9_thinnest 43 = .ok (.iconst 0, 1) := by decide +kernel
theorem dX9_thinnest_44 : decode cX9_thinnest 44 = .ok (.invokevirtual 102, 3) := by decide +kernel
theorem dX9_thinnest_47 : decode cX9_thinnest 47 = .ok (.invokevirtual 106, 3) := by decide +kernel
theorem dX9_thinnest_50 : decode cX9_thinnest 50 = .ok (.aload_n 0, 1) := by decide +kernel
theorem dX9_thinnest_51 : decode cX9_thinnest 51 = .ok (.iconst 0, 1) := by decide +kernel
theorem dX9_thinnest_52 : decode cX9_thinnest 52 = .ok (.invokevirtual 102, 3) := by decide +kernel
theorem dX9_thinnest_55 : decode cX9_thinnest 55 = .ok (.getfield 135, 3) := by decide +kernel
theorem dX9_thinnest_58 : decode cX9_thinnest 58 = .ok (.ifCond .ne 30, 3) := by decide +kernel
theorem dX9_thinnest_61 : decode cX9_thinnest 61 = .ok (.aload_n 0, 1) := by decide +kernel
theorem dX9_thinnest_62 : decode cX9_thinnest 62 = .ok (.aload_n 1, 1) := by decide +kernel
theorem dX9_thinnest_63 : decode cX9_thinnest 63 = .ok (.aload_n 0, 1) := by decide +kernel
theorem dX9_thinnest_64 : decode cX9_thinnest 64 = .ok (.iconst 0, 1) := by decide +kernel
theorem dX9_thinnest_65 : decode cX9_thinnest 65 = .ok (.invokevirtual 102, 3) := by decide +kernel
theorem dX9_thinnest_68 : decode cX9_thinnest 68 = .ok (.iload_n 3, 1) := by decide +kernel
theorem dX9_thinnest_69 : decode cX9_thinnest 69 = .ok (.iconst 1, 1) := by decide +kernel
theorem dX9_thinnest_70 : decode cX9_thinnest 70 = .ok (.isub, 1) := by decide +kernel
theorem dX9_thinnest_71 : decode cX9_thinnest 71 = .ok (.invokevirtual 166, 3) := by decide +kernel
theorem dX9_thinnest_74 : decode cX9_thinnest 74 = .ok (.istore 6, 2) := by decide +kernel
theorem dX9_thinnest_76 : decode cX9_thinnest 76 = .ok (.iload 6, 2) := by decide +kernel
theorem dX9_thinnest_78 : decode cX9_thinnest 78 = .ok (.iconst (-1), 1) := by decide +kernel
theorem dX9_thinnest_79 : decode cX9_thinnest 79 = .ok (.if_icmp .eq 9, 3) := by decide +kernel
theorem dX9_thinnest_82 : decode cX9_thinnest 82 = .ok (.iload 5, 2) := by decide +kernel
theorem dX9_thinnest_84 : decode cX9_thinnest 84 = .ok (.istore_n 2, 1) := by decide +kernel
theorem dX9_thinnest_85 : decode cX9_thinnest 85 = .ok (.iload 6, 2) := by decide +kernel
theorem dX9_thinnest_87 : decode cX9_thinnest 87 = .ok (.istore_n 3, 1) := by decide +kernel
theorem dX9_thinnest_88 : decode cX9_thinnest 88 = .ok (.iinc 5 1, 3) := by decide +kernel
theorem dX9_thinnest_91 : decode cX9_thinnest 91 = .ok (.goto (-73), 3) := by decide +kernel
theorem dX9_thinnest_94 : decode cX9_thinnest 94 = .ok (.iload_n 2, 1) := by decide +kernel
theorem dX9_thinnest_95 : decode cX9_thinnest 95 = .ok (.iconst (-1), 1) := by decide +kernel
theorem dX9_thinnest_96 : decode cX9_thinnest 96 = .ok (.if_icmp .eq 8, 3) := by decide +kernel
theorem dX9_thinnest_99 : decode cX9_thinnest 99 = .ok (.aload_n 0, 1) := by decide +kernel
theorem dX9_thinnest_100 : decode cX9_thinnest 100 = .ok (.iload_n 3, 1) := by decide +kernel
theorem dX9_thinnest_101 : decode cX9_thinnest 101 = .ok (.putfield 59, 3) := by decide +kernel
theorem dX9_thinnest_104 : decode cX9_thinnest 104 = .ok (.iload_n 2, 1) := by decide +kernel
theorem dX9_thinnest_105 : decode cX9_thinnest 105 = .ok (.ireturn, 1) := by decide +kernel
theorem dX9_spoilSize_0 : decode cX9_spoilSize 0 = .ok (.aload_n 0, 1) := by decide +kernel
theorem dX9_spoilSize_1 : decode cX9_spoilSize 1 = .ok (.getfield 12, 3) := by decide +kernel
theorem dX9_spoilSize_4 : decode cX9_spoilSize 4 = .ok (.aload_n 1, 1) := by decide +kernel
theorem dX9_spoilSize_5 : decode cX9_spoilSize 5 = .ok (.invokevirtual 110, 3) := by decide +kernel
theorem dX9_spoilSize_8 : decode cX9_spoilSize 8 = .ok (.iconst 0, 1) := by decide +kernel
theorem dX9_spoilSize_9 : decode cX9_spoilSize 9 = .ok (.istore 4, 2) := by decide +kernel
theorem dX9_spoilSize_11 : decode cX9_spoilSize 11 = .ok (.iload 4, 2) := by decide +kernel
theorem dX9_spoilSize_13 : decode cX9_spoilSize 13 = .ok (.ldc 114, 2) := by decide +kernel
theorem dX9_spoilSize_15 : decode cX9_spoilSize 15 = .ok (.if_icmp .ge 87, 3) := by decide +kernel
theorem dX9_spoilSize_18 : decode cX9_spoilSize 18 = .ok (.aload_n 0, 1) := by decide +kernel
theorem dX9_spoilSize_19 : decode cX9_spoilSize 19 = .ok (.getfield 12, 3) := by decide +kernel
theorem dX9_spoilSize_22 : decode cX9_spoilSize 22 = .ok (.invokevirtual 115, 3) := by decide +kernel
theorem dX9_spoilSize_25 : decode cX9_spoilSize 25 = .ok (.ifCond .eq 77, 3) := by decide +kernel
theorem dX9_spoilSize_28 : decode cX9_spoilSize 28 = .ok (.aload_n 0, 1) := by decide +kernel
theorem dX9_spoilSize_29 : decode cX9_spoilSize 29 = .ok (.getfield 12, 3) := by decide +kernel
theorem dX9_spoilSize_32 : decode cX9_spoilSize 32 = .ok (.getfield 170, 3) := by decide +kernel
theorem dX9_spoilSize_35 : decode cX9_spoilSize 35 = .ok (.iload_n 3, 1) := by decide +kernel
theorem dX9_spoilSize_36 : decode cX9_spoilSize 36 = .ok (.if_icmp .gt 66, 3) := by decide +kernel
theorem dX9_spoilSize_39 : decode cX9_spoilSize 39 = .ok (.aload_n 0, 1) := by decide +kernel
theorem dX9_spoilSize_40 : decode cX9_spoilSize 40 = .ok (.getfield 12, 3) := by decide +kernel
theorem dX9_spoilSize_43 : decode cX9_spoilSize 43 = .ok (.aload_n 0, 1) := by decide +kernel
theorem dX9_spoilSize_44 : decode cX9_spoilSize 44 = .ok (.getfield 25, 3) := by decide +kernel
theorem dX9_spoilSize_47 : decode cX9_spoilSize 47 = .ok (.invokevirtual 123, 3) := by decide +kernel
theorem dX9_spoilSize_50 : decode cX9_spoilSize 50 = .ok (.aload_n 0, 1) := by decide +kernel
theorem dX9_spoilSize_51 : decode cX9_spoilSize 51 = .ok (.getfield 12, 3) := by decide +kernel
theorem dX9_spoilSize_54 : decode cX9_spoilSize 54 = .ok (.getfield 127, 3) := by decide +kernel
theorem dX9_spoilSize_57 : decode cX9_spoilSize 57 = .ok (.lconst 0, 1) := by decide +kernel
theorem dX9_spoilSize_58 : decode cX9_spoilSize 58 = .ok (.lcmp, 1) := by decide +kernel
theorem dX9_spoilSize_59 : decode cX9_spoilSize 59 = .ok (.ifCond .eq 37, 3) := by decide +kernel
theorem dX9_spoilSize_62 : decode cX9_spoilSize 62 = .ok (.aload_n 0, 1) := by decide +kernel
theorem dX9_spoilSize_63 : decode cX9_spoilSize 63 = .ok (.getfield 77, 3) := by decide +kernel
theorem dX9_spoilSize_66 : decode cX9_spoilSize 66 = .ok (.aload_n 1, 1) := by decide +kernel
theorem dX9_spoilSize_67 : decode cX9_spoilSize 67 = .ok (.aload_n 2, 1) := by decide +kernel
theorem dX9_spoilSize_68 : decode cX9_spoilSize 68 = .ok (.aload_n 0, 1) := by decide +kernel
theorem dX9_spoilSize_69 : decode cX9_spoilSize 69 = .ok (.getfield 25, 3) := by decide +kernel
theorem dX9_spoilSize_72 : decode cX9_spoilSize 72 = .ok (.invokevirtual 98, 3) := by decide +kernel
theorem dX9_spoilSize_75 : decode cX9_spoilSize 75 = .ok (.aload_n 0, 1) := by decide +kernel
theorem dX9_spoilSize_76 : decode cX9_spoilSize 76 = .ok (.getfield 12, 3) := by decide +kernel
theorem dX9_spoilSize_79 : decode cX9_spoilSize 79 = .ok (.getfield 127, 3) := by decide +kernel
theorem dX9_spoilSize_82 : decode cX9_spoilSize 82 = .ok (.land, 1) := by decide +kernel
theorem dX9_spoilSize_83 : decode cX9_spoilSize 83 = .ok (.lconst 0, 1) := by decide +kernel
theorem dX9_spoilSize_84 : decode cX9_spoilSize 84 = .ok (.lcmp, 1) := by decide +kernel
theorem dX9_spoilSize_85 : decode cX9_spoilSize 85 = .ok (.ifCond .eq 11, 3) := by decide +kernel
theorem dX9_spoilSize_88 : decode cX9_spoilSize 88 = .ok (.aload_n 0, 1) := by decide +kernel
theorem dX9_spoilSize_89 : decode cX9_spoilSize 89 = .ok (.getfield 12, 3) := by decide +kernel
theorem dX9_spoilSize_92 : decode cX9_spoilSize 92 = .ok (.getfield 170, 3) := by decide +kernel
theorem dX9_spoilSize_95 : decode cX9_spoilSize 95 = .ok (.ireturn, 1) := by decide +kernel
theorem dX9_spoilSize_96 : decode cX9_spoilSize 96 = .ok (.iinc 4 1, 3) := by decide +kernel
theorem dX9_spoilSize_99 : decode cX9_spoilSize 99 = .ok (.goto (-88), 3) := by decide +kernel
theorem dX9_spoilSize_102 : decode cX9_spoilSize 102 = .ok (.iconst (-1), 1) := by decide +kernel
theorem dX9_spoilSize_103 : decode cX9_spoilSize 103 = .ok (.ireturn, 1) := by decide +kernel
theorem dX10_init_0 : decode cX10_init 0 = .ok (.aload_n 0, 1) := by decide +kernel
theorem dX10_init_1 : decode cX10_init 1 = .ok (.invokespecial 3, 3) := by decide +kernel
theorem dX10_init_4 : decode cX10_init 4 = .ok (.aload_n 0, 1) := by decide +kernel
theorem dX10_init_5 : decode cX10_init 5 = .ok (.aload_n 1, 1) := by decide +kernel
theorem dX10_init_6 : decode cX10_init 6 = .ok (.putfield 9, 3) := by decide +kernel
theorem dX10_init_9 : decode cX10_init 9 = .ok (.return_, 1) := by decide +kernel
theorem dX10_begin_0 : decode cX10_begin 0 = .ok (.aload_n 0, 1) := by decide +kernel
theorem dX10_begin_1 : decode cX10_begin 1 = .ok (.aload_n 1, 1) := by decide +kernel
theorem dX10_begin_2 : decode cX10_begin 2 = .ok (.putfield 9, 3) := by decide +kernel
theorem dX10_begin_5 : decode cX10_begin 5 = .ok (.aload_n 0, 1) := by decide +kernel
theorem dX10_begin_6 : decode cX10_begin 6 = .ok (.iconst 4, 1) := by decide +kernel
theorem dX10_begin_7 : decode cX10_begin 7 = .ok (.putfield 15, 3) := by decide +kernel
theorem dX10_begin_10 : decode cX10_begin 10 = .ok (.aload_n 0, 1) := by decide +kernel
theorem dX10_begin_11 : decode cX10_begin 11 = .ok (.iconst 1, 1) := by decide +kernel
theorem dX10_begin_12 : decode cX10_begin 12 = .ok (.aload_n 1, 1) := by decide +kernel
theorem dX10_begin_13 : decode cX10_begin 13 = .ok (.getfield 19, 3) := by decide +kernel
theorem dX10_begin_16 : decode cX10_begin 16 = .ok (.ishl, 1) := by decide +kernel
theorem dX10_begin_17 : decode cX10_begin 17 = .ok (.iconst 1, 1) := by decide +kernel
theorem dX10_begin_18 : decode cX10_begin 18 = .ok (.isub, 1) := by decide +kernel
theorem dX10_begin_19 : decode cX10_begin 19 = .ok (.putfield 24, 3) := by decide +kernel
theorem dX10_begin_22 : decode cX10_begin 22 = .ok (.aload_n 0, 1) := by decide +kernel
theorem dX10_begin_23 : decode cX10_begin 23 = .ok (.aload_n 1, 1) := by decide +kernel
theorem dX10_begin_24 : decode cX10_begin 24 = .ok (.getfield 27, 3) := by decide +kernel
theorem dX10_begin_27 : decode cX10_begin 27 = .ok (.putfield 30, 3) := by decide +kernel
theorem dX10_begin_30 : decode cX10_begin 30 = .ok (.aload_n 0, 1) := by decide +kernel
theorem dX10_begin_31 : decode cX10_begin 31 = .ok (.iconst 0, 1) := by decide +kernel
theorem dX10_begin_32 : decode cX10_begin 32 = .ok (.putfield 31, 3) := by decide +kernel
theorem dX10_begin_35 : decode cX10_begin 35 = .ok (.aload_n 0, 1) := by decide +kernel
theorem dX10_begin_36 : decode cX10_begin 36 = .ok (.iconst 0, 1) := by decide +kernel
theorem dX10_begin_37 : decode cX10_begin 37 = .ok (.putfield 34, 3) := by decide +kernel
theorem dX10_begin_40 : decode cX10_begin 40 = .ok (.return_, 1) := by decide +kernel
theorem dX10_copy_0 : decode cX10_copy 0 = .ok (.aload_n 0, 1) := by decide +kernel
theorem dX10_copy_1 : decode cX10_copy 1 = .ok (.aload_n 1, 1) := by decide +kernel
theorem dX10_copy_2 : decode cX10_copy 2 = .ok (.getfield 9, 3) := by decide +kernel
theorem dX10_copy_5 : decode cX10_copy 5 = .ok (.putfield 9, 3) := by decide +kernel
theorem dX10_copy_8 : decode cX10_copy 8 = .ok (.aload_n 0, 1) := by decide +kernel
theorem dX10_copy_9 : decode cX10_copy 9 = .ok (.aload_n 1, 1) := by decide +kernel
theorem dX10_copy_10 : decode cX10_copy 10 = .ok (.getfield 15, 3) := by decide +kernel
theorem dX10_copy_13 : decode cX10_copy 13 = .ok (.putfield 15, 3) := by decide +kernel
theorem dX10_copy_16 : decode cX10_copy 16 = .ok (.aload_n 0, 1) := by decide +kernel
theorem dX10_copy_17 : decode cX10_copy 17 = .ok (.aload_n 1, 1) := by decide +kernel
theorem dX10_copy_18 : decode cX10_copy 18 = .ok (.getfield 24, 3) := by decide +kernel
theorem dX10_copy_21 : decode cX10_copy 21 = .ok (.putfield 24, 3) := by decide +kernel
theorem dX10_copy_24 : decode cX10_copy 24 = .ok (.aload_n 0, 1) := by decide +kernel
theorem dX10_copy_25 : decode cX10_copy 25 = .ok (.aload_n 1, 1) := by decide +kernel
theorem dX10_copy_26 : decode cX10_copy 26 = .ok (.getfield 30, 3) := by decide +kernel
theorem dX10_copy_29 : decode cX10_copy 29 = .ok (.putfield 30, 3) := by decide +kernel
theorem dX10_copy_32 : decode cX10_copy 32 = .ok (.aload_n 0, 1) := by decide +kernel
theorem dX10_copy_33 : decode cX10_copy 33 = .ok (.aload_n 1, 1) := by decide +kernel
theorem dX10_copy_34 : decode cX10_copy 34 = .ok (.getfield 31, 3) := by decide +kernel
theorem dX10_copy_37 : decode cX10_copy 37 = .ok (.putfield 31, 3) := by decide +kernel
theorem dX10_copy_40 : decode cX10_copy 40 = .ok (.aload_n 0, 1) := by decide +kernel
theorem dX10_copy_41 : decode cX10_copy 41 = .ok (.aload_n 1, 1) := by decide +kernel
theorem dX10_copy_42 : decode cX10_copy 42 = .ok (.getfield 34, 3) := by decide +kernel
theorem dX10_copy_45 : decode cX10_copy 45 = .ok (.putfield 34, 3) := by decide +kernel
theorem dX10_copy_48 : decode cX10_copy 48 = .ok (.return_, 1) := by decide +kernel
theorem dX10_change_0 : decode cX10_change 0 = .ok (.iconst 1, 1) := by decide +kernel
theorem dX10_change_1 : decode cX10_change 1 = .ok (.iload_n 1, 1) := by decide +kernel
theorem dX10_change_2 : decode cX10_change 2 = .ok (.bipush 10, 2) := by decide +kernel
theorem dX10_change_4 : decode cX10_change 4 = .ok (.irem, 1) := by decide +kernel
theorem dX10_change_5 : decode cX10_change 5 = .ok (.ishl, 1) := by decide +kernel
theorem dX10_change_6 : decode cX10_change 6 = .ok (.istore_n 2, 1) := by decide +kernel
theorem dX10_change_7 : decode cX10_change 7 = .ok (.iload_n 1, 1) := by decide +kernel
theorem dX10_change_8 : decode cX10_change 8 = .ok (.bipush 10, 2) := by decide +kernel
theorem dX10_change_10 : decode cX10_change 10 = .ok (.idiv, 1) := by decide +kernel
theorem dX10_change_11 : decode cX10_change 11 = .ok (.tableswitch 64 0 2 #[25, 38, 51], 25) := by decide +kernel
theorem dX10_change_36 : decode cX10_change 36 = .ok (.aload_n 0, 1) := by decide +kernel
theorem dX10_change_37 : decode cX10_change 37 = .ok (.dup, 1) := by decide +kernel
theorem dX10_change_38 : decode cX10_change 38 = .ok (.getfield 30, 3) := by decide +kernel
theorem dX10_change_41 : decode cX10_change 41 = .ok (.iload_n 2, 1) := by decide +kernel
theorem dX10_change_42 : decode cX10_change 42 = .ok (.ior, 1) := by decide +kernel
theorem dX10_change_43 : decode cX10_change 43 = .ok (.putfield 30, 3) := by decide +kernel
theorem dX10_change_46 : decode cX10_change 46 = .ok (.goto 29, 3) := by decide +kernel
theorem dX10_change_49 : decode cX10_change 49 = .ok (.aload_n 0, 1) := by decide +kernel
theorem dX10_change_50 : decode cX10_change 50 = .ok (.dup, 1) := by decide +kernel
theorem dX10_change_51 : decode cX10_change 51 = .ok (.getfield 31, 3) := by decide +kernel
theorem dX10_change_54 : decode cX10_change 54 = .ok (.iload_n 2, 1) := by decide +kernel
theorem dX10_change_55 : decode cX10_change 55 = .ok (.ior, 1) := by decide +kernel
theorem dX10_change_56 : decode cX10_change 56 = .ok (.putfield 31, 3) := by decide +kernel
theorem dX10_change_59 : decode cX10_change 59 = .ok (.goto 16, 3) := by decide +kernel
theorem dX10_change_62 : decode cX10_change 62 = .ok (.aload_n 0, 1) := by decide +kernel
theorem dX10_change_63 : decode cX10_change 63 = .ok (.dup, 1) := by decide +kernel
theorem dX10_change_64 : decode cX10_change 64 = .ok (.getfield 34, 3) := by decide +kernel
theorem dX10_change_67 : decode cX10_change 67 = .ok (.iload_n 2, 1) := by decide +kernel
theorem dX10_change_68 : decode cX10_change 68 = .ok (.ior, 1) := by decide +kernel
theorem dX10_change_69 : decode cX10_change 69 = .ok (.putfield 34, 3) := by decide +kernel
theorem dX10_change_72 : decode cX10_change 72 = .ok (.goto 3, 3) := by decide +kernel
theorem dX10_change_75 : decode cX10_change 75 = .ok (.return_, 1) := by decide +kernel
theorem dX10_isAgain_0 : decode cX10_isAgain 0 = .ok (.aload_n 0, 1) := by decide +kernel
theorem dX10_isAgain_1 : decode cX10_isAgain 1 = .ok (.getfield 31, 3) := by decide +kernel
theorem dX10_isAgain_4 : decode cX10_isAgain 4 = .ok (.iload_n 1, 1) := by decide +kernel
theorem dX10_isAgain_5 : decode cX10_isAgain 5 = .ok (.ishr, 1) := by decide +kernel
theorem dX10_isAgain_6 : decode cX10_isAgain 6 = .ok (.iconst 1, 1) := by decide +kernel
theorem dX10_isAgain_7 : decode cX10_isAgain 7 = .ok (.iand, 1) := by decide +kernel
theorem dX10_isAgain_8 : decode cX10_isAgain 8 = .ok (.ifCond .eq 7, 3) := by decide +kernel
theorem dX10_isAgain_11 : decode cX10_isAgain 11 = .ok (.iconst 1, 1) := by decide +kernel
theorem dX10_isAgain_12 : decode cX10_isAgain 12 = .ok (.goto 4, 3) := by decide +kernel
theorem dX10_isAgain_15 : decode cX10_isAgain 15 = .ok (.iconst 0, 1) := by decide +kernel
theorem dX10_isAgain_16 : decode cX10_isAgain 16 = .ok (.ireturn, 1) := by decide +kernel
theorem dX10_isBare_0 : decode cX10_isBare 0 = .ok (.aload_n 0, 1) := by decide +kernel
theorem dX10_isBare_1 : decode cX10_isBare 1 = .ok (.getfield 34, 3) := by decide +kernel
theorem dX10_isBare_4 : decode cX10_isBare 4 = .ok (.iload_n 1, 1) := by decide +kernel
theorem dX10_isBare_5 : decode cX10_isBare 5 = .ok (.ishr, 1) := by decide +kernel
theorem dX10_isBare_6 : decode cX10_isBare 6 = .ok (.iconst 1, 1) := by decide +kernel
theorem dX10_isBare_7 : decode cX10_isBare 7 = .ok (.iand, 1) := by decide +kernel
theorem dX10_isBare_8 : decode cX10_isBare 8 = .ok (.ifCond .eq 7, 3) := by decide +kernel
theorem dX10_isBare_11 : decode cX10_isBare 11 = .ok (.iconst 1, 1) := by decide +kernel
theorem dX10_isBare_12 : decode cX10_isBare 12 = .ok (.goto 4, 3) := by decide +kernel
theorem dX10_isBare_15 : decode cX10_isBare 15 = .ok (.iconst 0, 1) := by decide +kernel
theorem dX10_isBare_16 : decode cX10_isBare 16 = .ok (.ireturn, 1) := by decide +kernel
theorem dX11_init_0 : decode cX11_init 0 = .ok (.aload_n 0, 1) := by decide +kernel
theorem dX11_init_1 : decode cX11_init 1 = .ok (.invokespecial 3, 3) := by decide +kernel
theorem dX11_init_4 : decode cX11_init 4 = .ok (.aload_n 0, 1) := by decide +kernel
theorem dX11_init_5 : decode cX11_init 5 = .ok (.new 9, 3) := by decide +kernel
theorem dX11_init_8 : decode cX11_init 8 = .ok (.dup, 1) := by decide +kernel
theorem dX11_init_9 : decode cX11_init 9 = .ok (.invokespecial 11, 3) := by decide +kernel
theorem dX11_init_12 : decode cX11_init 12 = .ok (.putfield 12, 3) := by decide +kernel
theorem dX11_init_15 : decode cX11_init 15 = .ok (.aload_n 0, 1) := by decide +kernel
theorem dX11_init_16 : decode cX11_init 16 = .ok (.new 16, 3) := by decide +kernel
theorem dX11_init_19 : decode cX11_init 19 = .ok (.dup, 1) := by decide +kernel
theorem dX11_init_20 : decode cX11_init 20 = .ok (.aload_n 0, 1) := by decide +kernel
theorem dX11_init_21 : decode cX11_init 21 = .ok (.getfield 12, 3) := by decide +kernel
theorem dX11_init_24 : decode cX11_init 24 = .ok (.invokespecial 18, 3) := by decide +kernel
theorem dX11_init_27 : decode cX11_init 27 = .ok (.putfield 21, 3) := by decide +kernel
theorem dX11_init_30 : decode cX11_init 30 = .ok (.aload_n 0, 1) := by decide +kernel
theorem dX11_init_31 : decode cX11_init 31 = .ok (.new 25, 3) := by decide +kernel
theorem dX11_init_34 : decode cX11_init 34 = .ok (.dup, 1) := by decide +kernel
theorem dX11_init_35 : decode cX11_init 35 = .ok (.new 9, 3) := by decide +kernel
theorem dX11_init_38 : decode cX11_init 38 = .ok (.dup, 1) := by decide +kernel
theorem dX11_init_39 : decode cX11_init 39 = .ok (.invokespecial 11, 3) := by decide +kernel
theorem dX11_init_42 : decode cX11_init 42 = .ok (.invokespecial 27, 3) := by decide +kernel
theorem dX11_init_45 : decode cX11_init 45 = .ok (.putfield 28, 3) := by decide +kernel
theorem dX11_init_48 : decode cX11_init 48 = .ok (.aload_n 0, 1) := by decide +kernel
theorem dX11_init_49 : decode cX11_init 49 = .ok (.new 25, 3) := by decide +kernel
theorem dX11_init_52 : decode cX11_init 52 = .ok (.dup, 1) := by decide +kernel
theorem dX11_init_53 : decode cX11_init 53 = .ok (.aload_n 0, 1) := by decide +kernel
theorem dX11_init_54 : decode cX11_init 54 = .ok (.getfield 28, 3) := by decide +kernel
theorem dX11_init_57 : decode cX11_init 57 = .ok (.getfield 32, 3) := by decide +kernel
theorem dX11_init_60 : decode cX11_init 60 = .ok (.invokespecial 27, 3) := by decide +kernel
theorem dX11_init_63 : decode cX11_init 63 = .ok (.putfield 35, 3) := by decide +kernel
theorem dX11_init_66 : decode cX11_init 66 = .ok (.aload_n 0, 1) := by decide +kernel
theorem dX11_init_67 : decode cX11_init 67 = .ok (.new 38, 3) := by decide +kernel
theorem dX11_init_70 : decode cX11_init 70 = .ok (.dup, 1) := by decide +kernel
theorem dX11_init_71 : decode cX11_init 71 = .ok (.bipush 6, 2) := by decide +kernel
theorem dX11_init_73 : decode cX11_init 73 = .ok (.invokespecial 40, 3) := by decide +kernel
theorem dX11_init_76 : decode cX11_init 76 = .ok (.putfield 43, 3) := by decide +kernel
theorem dX11_init_79 : decode cX11_init 79 = .ok (.aload_n 0, 1) := by decide +kernel
theorem dX11_init_80 : decode cX11_init 80 = .ok (.new 38, 3) := by decide +kernel
theorem dX11_init_83 : decode cX11_init 83 = .ok (.dup, 1) := by decide +kernel
theorem dX11_init_84 : decode cX11_init 84 = .ok (.iconst 0, 1) := by decide +kernel
theorem dX11_init_85 : decode cX11_init 85 = .ok (.invokespecial 40, 3) := by decide +kernel
theorem dX11_init_88 : decode cX11_init 88 = .ok (.putfield 47, 3) := by decide +kernel
theorem dX11_init_91 : decode cX11_init 91 = .ok (.aload_n 0, 1) := by decide +kernel
theorem dX11_init_92 : decode cX11_init 92 = .ok (.new 38, 3) := by decide +kernel
theorem dX11_init_95 : decode cX11_init 95 = .ok (.dup, 1) := by decide +kernel
theorem dX11_init_96 : decode cX11_init 96 = .ok (.bipush 6, 2) := by decide +kernel
theorem dX11_init_98 : decode cX11_init 98 = .ok (.invokespecial 40, 3) := by decide +kernel
theorem dX11_init_101 : decode cX11_init 101 = .ok (.putfield 50, 3) := by decide +kernel
theorem dX11_init_104 : decode cX11_init 104 = .ok (.aload_n 0, 1) := by decide +kernel
theorem dX11_init_105 : decode cX11_init 105 = .ok (.new 38, 3) := by decide +kernel
theorem dX11_init_108 : decode cX11_init 108 = .ok (.dup, 1) := by decide +kernel
theorem dX11_init_109 : decode cX11_init 109 = .ok (.bipush 6, 2) := by decide +kernel
theorem dX11_init_111 : decode cX11_init 111 = .ok (.invokespecial 40, 3) := by decide +kernel
theorem dX11_init_114 : decode cX11_init 114 = .ok (.putfield 53, 3) := by decide +kernel
theorem dX11_init_117 : decode cX11_init 117 = .ok (.aload_n 0, 1) := by decide +kernel
theorem dX11_init_118 : decode cX11_init 118 = .ok (.bipush 8, 2) := by decide +kernel
theorem dX11_init_120 : decode cX11_init 120 = .ok (.anewarray 38, 3) := by decide +kernel
theorem dX11_init_123 : decode cX11_init 123 = .ok (.putfield 56, 3) := by decide +kernel
theorem dX11_init_126 : decode cX11_init 126 = .ok (.iconst 0, 1) := by decide +kernel
theorem dX11_init_127 : decode cX11_init 127 = .ok (.istore_n 1, 1) := by decide +kernel
theorem dX11_init_128 : decode cX11_init 128 = .ok (.iload_n 1, 1) := by decide +kernel
theorem dX11_init_129 : decode cX11_init 129 = .ok (.bipush 8, 2) := by decide +kernel
theorem dX11_init_131 : decode cX11_init 131 = .ok (.if_icmp .ge 24, 3) := by decide +kernel
theorem dX11_init_134 : decode cX11_init 134 = .ok (.aload_n 0, 1) := by decide +kernel
theorem dX11_init_135 : decode cX11_init 135 = .ok (.getfield 56, 3) := by decide +kernel
theorem dX11_init_138 : decode cX11_init 138 = .ok (.iload_n 1, 1) := by decide +kernel
theorem dX11_init_139 : decode cX11_init 139 = .ok (.new 38, 3) := by decide +kernel
theorem dX11_init_142 : decode cX11_init 142 = .ok (.dup, 1) := by decide +kernel
theorem dX11_init_143 : decode cX11_init 143 = .ok (.bipush 6, 2) := by decide +kernel
theorem dX11_init_145 : decode cX11_init 145 = .ok (.invokespecial 40, 3) := by decide +kernel
theorem dX11_init_148 : decode cX11_init 148 = .ok (.aastore, 1) := by decide +kernel
theorem dX11_init_149 : decode cX11_init 149 = .ok (.iinc 1 1, 3) := by decide +kernel
theorem dX11_init_152 : decode cX11_init 152 = .ok (.goto (-24), 3) := by decide +kernel
theorem dX11_init_155 : decode cX11_init 155 = .ok (.aload_n 0, 1) := by decide +kernel
theorem dX11_init_156 : decode cX11_init 156 = .ok (.new 60, 3) := by decide +kernel
theorem dX11_init_159 : decode cX11_init 159 = .ok (.dup, 1) := by decide +kernel
theorem dX11_init_160 : decode cX11_init 160 = .ok (.aload_n 0, 1) := by decide +kernel
theorem dX11_init_161 : decode cX11_init 161 = .ok (.getfield 28, 3) := by decide +kernel
theorem dX11_init_164 : decode cX11_init 164 = .ok (.invokespecial 62, 3) := by decide +kernel
theorem dX11_init_167 : decode cX11_init 167 = .ok (.putfield 65, 3) := by decide +kernel
theorem dX11_init_170 : decode cX11_init 170 = .ok (.aload_n 0, 1) := by decide +kernel
theorem dX11_init_171 : decode cX11_init 171 = .ok (.new 69, 3) := by decide +kernel
theorem dX11_init_174 : decode cX11_init 174 = .ok (.dup, 1) := by decide +kernel
theorem dX11_init_175 : decode cX11_init 175 = .ok (.invokespecial 71, 3) := by decide +kernel
theorem dX11_init_178 : decode cX11_init 178 = .ok (.putfield 72, 3) := by decide +kernel
theorem dX11_init_181 : decode cX11_init 181 = .ok (.aload_n 0, 1) := by decide +kernel
theorem dX11_init_182 : decode cX11_init 182 = .ok (.new 69, 3) := by decide +kernel
theorem dX11_init_185 : decode cX11_init 185 = .ok (.dup, 1) := by decide +kernel
theorem dX11_init_186 : decode cX11_init 186 = .ok (.invokespecial 71, 3) := by decide +kernel
theorem dX11_init_189 : decode cX11_init 189 = .ok (.putfield 76, 3) := by decide +kernel
theorem dX11_init_192 : decode cX11_init 192 = .ok (.aload_n 0, 1) := by decide +kernel
theorem dX11_init_193 : decode cX11_init 193 = .ok (.sipush 280, 3) := by decide +kernel
theorem dX11_init_196 : decode cX11_init 196 = .ok (.newarray .int, 2) := by decide +kernel
theorem dX11_init_198 : decode cX11_init 198 = .ok (.putfield 79, 3) := by decide +kernel
theorem dX11_init_201 : decode cX11_init 201 = .ok (.return_, 1) := by decide +kernel
theorem dX11_feed_0 : decode cX11_feed 0 = .ok (.aload_n 0, 1) := by decide +kernel
theorem dX11_feed_1 : decode cX11_feed 1 = .ok (.getfield 21, 3) := by decide +kernel
theorem dX11_feed_4 : decode cX11_feed 4 = .ok (.getfield 83, 3) := by decide +kernel
theorem dX11_feed_7 : decode cX11_feed 7 = .ok (.bipush 20, 2) := by decide +kernel
theorem dX11_feed_9 : decode cX11_feed 9 = .ok (.iadd, 1) := by decide +kernel
theorem dX11_feed_10 : decode cX11_feed 10 = .ok (.sipush 700, 3) := by decide +kernel
theorem dX11_feed_13 : decode cX11_feed 13 = .ok (.if_icmp .le 5, 3) := by decide +kernel
theorem dX11_feed_16 : decode cX11_feed 16 = .ok (.iconst (-1), 1) := by decide +kernel
theorem dX11_feed_17 : decode cX11_feed 17 = .ok (.ireturn, 1) := by decide +kernel
theorem dX11_feed_18 : decode cX11_feed 18 = .ok (.aload_n 0, 1) := by decide +kernel
theorem dX11_feed_19 : decode cX11_feed 19 = .ok (.getfield 21, 3) := by decide +kernel
theorem dX11_feed_22 : decode cX11_feed 22 = .ok (.iload_n 1, 1) := by decide +kernel
theorem dX11_feed_23 : decode cX11_feed 23 = .ok (.invokevirtual 87, 3) := by decide +kernel
theorem dX11_feed_26 : decode cX11_feed 26 = .ok (.aload_n 0, 1) := by decide +kernel
theorem dX11_feed_27 : decode cX11_feed 27 = .ok (.getfield 21, 3) := by decide +kernel
theorem dX11_feed_30 : decode cX11_feed 30 = .ok (.iload_n 2, 1) := by decide +kernel
theorem dX11_feed_31 : decode cX11_feed 31 = .ok (.invokevirtual 87, 3) := by decide +kernel
theorem dX11_feed_34 : decode cX11_feed 34 = .ok (.aload_n 0, 1) := by decide +kernel
theorem dX11_feed_35 : decode cX11_feed 35 = .ok (.getfield 21, 3) := by decide +kernel
theorem dX11_feed_38 : decode cX11_feed 38 = .ok (.iload_n 3, 1) := by decide +kernel
theorem dX11_feed_39 : decode cX11_feed 39 = .ok (.invokevirtual 87, 3) := by decide +kernel
theorem dX11_feed_42 : decode cX11_feed 42 = .ok (.aload_n 0, 1) := by decide +kernel
theorem dX11_feed_43 : decode cX11_feed 43 = .ok (.getfield 21, 3) := by decide +kernel
theorem dX11_feed_46 : decode cX11_feed 46 = .ok (.iload 4, 2) := by decide +kernel
theorem dX11_feed_48 : decode cX11_feed 48 = .ok (.invokevirtual 87, 3) := by decide +kernel
theorem dX11_feed_51 : decode cX11_feed 51 = .ok (.aload_n 0, 1) := by decide +kernel
theorem dX11_feed_52 : decode cX11_feed 52 = .ok (.getfield 21, 3) := by decide +kernel
theorem dX11_feed_55 : decode cX11_feed 55 = .ok (.iload 5, 2) := by decide +kernel
theorem dX11_feed_57 : decode cX11_feed 57 = .ok (.invokevirtual 87, 3) := by decide +kernel
theorem dX11_feed_60 : decode cX11_feed 60 = .ok (.aload_n 0, 1) := by decide +kernel
theorem dX11_feed_61 : decode cX11_feed 61 = .ok (.getfield 21, 3) := by decide +kernel
theorem dX11_feed_64 : decode cX11_feed 64 = .ok (.getfield 83, 3) := by decide +kernel
theorem dX11_feed_67 : decode cX11_feed 67 = .ok (.ireturn, 1) := by decide +kernel
theorem dX11_book_0 : decode cX11_book 0 = .ok (.iload_n 1, 1) := by decide +kernel
theorem dX11_book_1 : decode cX11_book 1 = .ok (.ifCond .lt 14, 3) := by decide +kernel
theorem dX11_book_4 : decode cX11_book 4 = .ok (.iload_n 1, 1) := by decide +kernel
theorem dX11_book_5 : decode cX11_book 5 = .ok (.aload_n 0, 1) := by decide +kernel
theorem dX11_book_6 : decode cX11_book 6 = .ok (.getfield 21, 3) := by decide +kernel
theorem dX11_book_9 : decode cX11_book 9 = .ok (.getfield 83, 3) := by decide +kernel
theorem dX11_book_12 : decode cX11_book 12 = .ok (.if_icmp .le 9, 3) := by decide +kernel
theorem dX11_book_15 : decode cX11_book 15 = .ok (.aload_n 0, 1) := by decide +kernel
theorem dX11_book_16 : decode cX11_book 16 = .ok (.iconst 2, 1) := by decide +kernel
theorem dX11_book_17 : decode cX11_book 17 = .ok (.invokevirtual 90, 3) := by decide +kernel
theorem dX11_book_20 : decode cX11_book 20 = .ok (.ireturn, 1) := by decide +kernel
theorem dX11_book_21 : decode cX11_book 21 = .ok (.aload_n 0, 1) := by decide +kernel
theorem dX11_book_22 : decode cX11_book 22 = .ok (.getfield 21, 3) := by decide +kernel
theorem dX11_book_25 : decode cX11_book 25 = .ok (.iload_n 1, 1) := by decide +kernel
theorem dX11_book_26 : decode cX11_book 26 = .ok (.aload_n 0, 1) := by decide +kernel
theorem dX11_book_27 : decode cX11_book 27 = .ok (.getfield 12, 3) := by decide +kernel
theorem dX11_book_30 : decode cX11_book 30 = .ok (.invokevirtual 94, 3) := by decide +kernel
theorem dX11_book_33 : decode cX11_book 33 = .ok (.istore_n 2, 1) := by decide +kernel
theorem dX11_book_34 : decode cX11_book 34 = .ok (.aload_n 0, 1) := by decide +kernel
theorem dX11_book_35 : decode cX11_book 35 = .ok (.aload_n 0, 1) := by decide +kernel
theorem dX11_book_36 : decode cX11_book 36 = .ok (.getfield 21, 3) := by decide +kernel
theorem dX11_book_39 : decode cX11_book 39 = .ok (.getfield 98, 3) := by decide +kernel
theorem dX11_book_42 : decode cX11_book 42 = .ok (.putfield 101, 3) := by decide +kernel
theorem dX11_book_45 : decode cX11_book 45 = .ok (.aload_n 0, 1) := by decide +kernel
theorem dX11_book_46 : decode cX11_book 46 = .ok (.aload_n 0, 1) := by decide +kernel
theorem dX11_book_47 : decode cX11_book 47 = .ok (.getfield 21, 3) := by decide +kernel
theorem dX11_book_50 : decode cX11_book 50 = .ok (.getfield 102, 3) := by decide +kernel
theorem dX11_book_53 : decode cX11_book 53 = .ok (.putfield 105, 3) := by decide +kernel
theorem dX11_book_56 : decode cX11_book 56 = .ok (.iload_n 2, 1) := by decide +kernel
theorem dX11_book_57 : decode cX11_book 57 = .ok (.ifCond .ne 9, 3) := by decide +kernel
theorem dX11_book_60 : decode cX11_book 60 = .ok (.aload_n 0, 1) := by decide +kernel
theorem dX11_book_61 : decode cX11_book 61 = .ok (.iconst 4, 1) := by decide +kernel
theorem dX11_book_62 : decode cX11_book 62 = .ok (.invokevirtual 90, 3) := by decide +kernel
theorem dX11_book_65 : decode cX11_book 65 = .ok (.ireturn, 1) := by decide +kernel
theorem dX11_book_66 : decode cX11_book 66 = .ok (.aload_n 0, 1) := by decide +kernel
theorem dX11_book_67 : decode cX11_book 67 = .ok (.getfield 28, 3) := by decide +kernel
theorem dX11_book_70 : decode cX11_book 70 = .ok (.getfield 32, 3) := by decide +kernel
theorem dX11_book_73 : decode cX11_book 73 = .ok (.astore_n 3, 1) := by decide +kernel
theorem dX11_book_74 : decode cX11_book 74 = .ok (.aload_n 0, 1) := by decide +kernel
theorem dX11_book_75 : decode cX11_book 75 = .ok (.getfield 28, 3) := by decide +kernel
theorem dX11_book_78 : decode cX11_book 78 = .ok (.aload_n 0, 1) := by decide +kernel
theorem dX11_book_79 : decode cX11_book 79 = .ok (.getfield 12, 3) := by decide +kernel
theorem dX11_book_82 : decode cX11_book 82 = .ok (.invokevirtual 108, 3) := by decide +kernel
theorem dX11_book_85 : decode cX11_book 85 = .ok (.aload_n 0, 1) := by decide +kernel
theorem dX11_book_86 : decode cX11_book 86 = .ok (.aload_n 3, 1) := by decide +kernel
theorem dX11_book_87 : decode cX11_book 87 = .ok (.putfield 12, 3) := by decide +kernel
theorem dX11_book_90 : decode cX11_book 90 = .ok (.aload_n 0, 1) := by decide +kernel
theorem dX11_book_91 : decode cX11_book 91 = .ok (.iconst 1, 1) := by decide +kernel
theorem dX11_book_92 : decode cX11_book 92 = .ok (.putfield 111, 3) := by decide +kernel
theorem dX11_book_95 : decode cX11_book 95 = .ok (.aload_n 0, 1) := by decide +kernel
theorem dX11_book_96 : decode cX11_book 96 = .ok (.getfield 43, 3) := by decide +kernel
theorem dX11_book_99 : decode cX11_book 99 = .ok (.invokevirtual 115, 3) := by decide +kernel
theorem dX11_book_102 : decode cX11_book 102 = .ok (.aload_n 0, 1) := by decide +kernel
theorem dX11_book_103 : decode cX11_book 103 = .ok (.getfield 53, 3) := by decide +kernel
theorem dX11_book_106 : decode cX11_book 106 = .ok (.invokevirtual 115, 3) := by decide +kernel
theorem dX11_book_109 : decode cX11_book 109 = .ok (.aload_n 0, 1) := by decide +kernel
theorem dX11_book_110 : decode cX11_book 110 = .ok (.iconst 0, 1) := by decide +kernel
theorem dX11_book_111 : decode cX11_book 111 = .ok (.putfield 118, 3) := by decide +kernel
theorem dX11_book_114 : decode cX11_book 114 = .ok (.aload_n 0, 1) := by decide +kernel
theorem dX11_book_115 : decode cX11_book 115 = .ok (.getfield 65, 3) := by decide +kernel
theorem dX11_book_118 : decode cX11_book 118 = .ok (.invokevirtual 121, 3) := by decide +kernel
theorem dX11_book_121 : decode cX11_book 121 = .ok (.aload_n 0, 1) := by decide +kernel
theorem dX11_book_122 : decode cX11_book 122 = .ok (.aload_n 0, 1) := by decide +kernel
theorem dX11_book_123 : decode cX11_book 123 = .ok (.getfield 28, 3) := by decide +kernel
theorem dX11_book_126 : decode cX11_book 126 = .ok (.getfield 32, 3) := by decide +kernel
theorem dX11_book_129 : decode cX11_book 129 = .ok (.getfield 124, 3) := by decide +kernel
theorem dX11_book_132 : decode cX11_book 132 = .ok (.aload_n 0, 1) := by decide +kernel
theorem dX11_book_133 : decode cX11_book 133 = .ok (.getfield 28, 3) := by decide +kernel
theorem dX11_book_136 : decode cX11_book 136 = .ok (.getfield 32, 3) := by decide +kernel
theorem dX11_book_139 : decode cX11_book 139 = .ok (.getfield 127, 3) := by decide +kernel
theorem dX11_book_142 : decode cX11_book 142 = .ok (.iadd, 1) := by decide +kernel
theorem dX11_book_143 : decode cX11_book 143 = .ok (.invokevirtual 130, 3) := by decide +kernel
theorem dX11_book_146 : decode cX11_book 146 = .ok (.ireturn, 1) := by decide +kernel
theorem dX11_fault_0 : decode cX11_fault 0 = .ok (.aload_n 0, 1) := by decide +kernel
theorem dX11_fault_1 : decode cX11_fault 1 = .ok (.getfield 101, 3) := by decide +kernel
theorem dX11_fault_4 : decode cX11_fault 4 = .ok (.ireturn, 1) := by decide +kernel
theorem dX11_where_0 : decode cX11_where 0 = .ok (.aload_n 0, 1) := by decide +kernel
theorem dX11_where_1 : decode cX11_where 1 = .ok (.getfield 133, 3) := by decide +kernel
theorem dX11_where_4 : decode cX11_where 4 = .ok (.iconst 4, 1) := by decide +kernel
theorem dX11_where_5 : decode cX11_where 5 = .ok (.if_icmp .ne 10, 3) := by decide +kernel
theorem dX11_where_8 : decode cX11_where 8 = .ok (.aload_n 0, 1) := by decide +kernel
theorem dX11_where_9 : decode cX11_where 9 = .ok (.getfield 105, 3) := by decide +kernel
theorem dX11_where_12 : decode cX11_where 12 = .ok (.goto 4, 3) := by decide +kernel
theorem dX11_where_15 : decode cX11_where 15 = .ok (.iconst (-1), 1) := by decide +kernel
theorem dX11_where_16 : decode cX11_where 16 = .ok (.ireturn, 1) := by decide +kernel
theorem dX11_last_0 : decode cX11_last 0 = .ok (.aload_n 0, 1) := by decide +kernel
theorem dX11_last_1 : decode cX11_last 1 = .ok (.getfield 111, 3) := by decide +kernel
theorem dX11_last_4 : decode cX11_last 4 = .ok (.ifCond .ne 18, 3) := by decide +kernel
theorem dX11_last_7 : decode cX11_last 7 = .ok (.aload_n 0, 1) := by decide +kernel
theorem dX11_last_8 : decode cX11_last 8 = .ok (.iconst 1, 1) := by decide +kernel
theorem dX11_last_9 : decode cX11_last 9 = .ok (.invokevirtual 90, 3) := by decide +kernel
theorem dX11_last_12 : decode cX11_last 12 = .ok (.iconst (-1), 1) := by decide +kernel
theorem dX11_last_13 : decode cX11_last 13 = .ok (.if_icmp .eq 7, 3) := by decide +kernel
theorem dX11_last_16 : decode cX11_last 16 = .ok (.iconst 1, 1) := by decide +kernel
theorem dX11_last_17 : decode cX11_last 17 = .ok (.goto 4, 3) := by decide +kernel
theorem dX11_last_20 : decode cX11_last 20 = .ok (.iconst 0, 1) := by decide +kernel
theorem dX11_last_21 : decode cX11_last 21 = .ok (.ireturn, 1) := by decide +kernel
theorem dX11_last_22 : decode cX11_last 22 = .ok (.iload_n 1, 1) := by decide +kernel
theorem dX11_last_23 : decode cX11_last 23 = .ok (.iconst 1, 1) := by decide +kernel
theorem dX11_last_24 : decode cX11_last 24 = .ok (.if_icmp .lt 9, 3) := by decide +kernel
theorem dX11_last_27 : decode cX11_last 27 = .ok (.iload_n 1, 1) := by decide +kernel
theorem dX11_last_28 : decode cX11_last 28 = .ok (.bipush 6, 2) := by decide +kernel
theorem dX11_last_30 : decode cX11_last 30 = .ok (.if_icmp .le 18, 3) := by decide +kernel
theorem dX11_last_33 : decode cX11_last 33 = .ok (.aload_n 0, 1) := by decide +kernel
theorem dX11_last_34 : decode cX11_last 34 = .ok (.iconst 2, 1) := by decide +kernel
theorem dX11_last_35 : decode cX11_last 35 = .ok (.invokevirtual 90, 3) := by decide +kernel
theorem dX11_last_38 : decode cX11_last 38 = .ok (.iconst (-1), 1) := by decide +kernel
theorem dX11_last_39 : decode cX11_last 39 = .ok (.if_icmp .eq 7, 3) := by decide +kernel
theorem dX11_last_42 : decode cX11_last 42 = .ok (.iconst 1, 1) := by decide +kernel
theorem dX11_last_43 : decode cX11_last 43 = .ok (.goto 4, 3) := by decide +kernel
theorem dX11_last_46 : decode cX11_last 46 = .ok (.iconst 0, 1) := by decide +kernel
theorem dX11_last_47 : decode cX11_last 47 = .ok (.ireturn, 1) := by decide +kernel
theorem dX11_last_48 : decode cX11_last 48 = .ok (.aload_n 0, 1) := by decide +kernel
theorem dX11_last_49 : decode cX11_last 49 = .ok (.getfield 28, 3) := by decide +kernel
theorem dX11_last_52 : decode cX11_last 52 = .ok (.iload_n 1, 1) := by decide +kernel
theorem dX11_last_53 : decode cX11_last 53 = .ok (.putfield 136, 3) := by decide +kernel
theorem dX11_last_56 : decode cX11_last 56 = .ok (.aload_n 0, 1) := by decide +kernel
theorem dX11_last_57 : decode cX11_last 57 = .ok (.getfield 43, 3) := by decide +kernel
theorem dX11_last_60 : decode cX11_last 60 = .ok (.invokevirtual 115, 3) := by decide +kernel
theorem dX11_last_63 : decode cX11_last 63 = .ok (.aload_n 0, 1) := by decide +kernel
theorem dX11_last_64 : decode cX11_last 64 = .ok (.iconst 0, 1) := by decide +kernel
theorem dX11_last_65 : decode cX11_last 65 = .ok (.putfield 118, 3) := by decide +kernel
theorem dX11_last_68 : decode cX11_last 68 = .ok (.aload_n 0, 1) := by decide +kernel
theorem dX11_last_69 : decode cX11_last 69 = .ok (.iconst 1, 1) := by decide +kernel
theorem dX11_last_70 : decode cX11_last 70 = .ok (.invokevirtual 130, 3) := by decide +kernel
theorem dX11_last_73 : decode cX11_last 73 = .ok (.iconst 1, 1) := by decide +kernel
theorem dX11_last_74 : decode cX11_last 74 = .ok (.if_icmp .ne 7, 3) := by decide +kernel
theorem dX11_last_77 : decode cX11_last 77 = .ok (.iconst 1, 1) := by decide +kernel
theorem dX11_last_78 : decode cX11_last 78 = .ok (.goto 4, 3) := by decide +kernel
theorem dX11_last_81 : decode cX11_last 81 = .ok (.iconst 0, 1) := by decide +kernel
theorem dX11_last_82 : decode cX11_last 82 = .ok (.ireturn, 1) := by decide +kernel
theorem dX11_purse_0 : decode cX11_purse 0 = .ok (.aload_n 0, 1) := by decide +kernel
theorem dX11_purse_1 : decode cX11_purse 1 = .ok (.getfield 111, 3) := by decide +kernel
theorem dX11_purse_4 : decode cX11_purse 4 = .ok (.ifCond .eq 12, 3) := by decide +kernel
theorem dX11_purse_7 : decode cX11_purse 7 = .ok (.iload_n 1, 1) := by decide +kernel
theorem dX11_purse_8 : decode cX11_purse 8 = .ok (.ifCond .lt 8, 3) := by decide +kernel
theorem dX11_purse_11 : decode cX11_purse 11 = .ok (.iload_n 1, 1) := by decide +kernel
theorem dX11_purse_12 : decode cX11_purse 12 = .ok (.iconst 4, 1) := by decide +kernel
theorem dX11_purse_13 : decode cX11_purse 13 = .ok (.if_icmp .lt 18, 3) := by decide +kernel
theorem dX11_purse_16 : decode cX11_purse 16 = .ok (.aload_n 0, 1) := by decide +kernel
theorem dX11_purse_17 : decode cX11_purse 17 = .ok (.iconst 1, 1) := by decide +kernel
theorem dX11_purse_18 : decode cX11_purse 18 = .ok (.invokevirtual 90, 3) := by decide +kernel
theorem dX11_purse_21 : decode cX11_purse 21 = .ok (.iconst (-1), 1) := by decide +kernel
theorem dX11_purse_22 : decode cX11_purse 22 = .ok (.if_icmp .eq 7, 3) := by decide +kernel
theorem dX11_purse_25 : decode cX11_purse 25 = .ok (.iconst 1, 1) := by decide +kernel
theorem dX11_purse_26 : decode cX11_purse 26 = .ok (.goto 4, 3) := by decide +kernel
theorem dX11_purse_29 : decode cX11_purse 29 = .ok (.iconst 0, 1) := by decide +kernel
theorem dX11_purse_30 : decode cX11_purse 30 = .ok (.ireturn, 1) := by decide +kernel
theorem dX11_purse_31 : decode cX11_purse 31 = .ok (.iload_n 2, 1) := by decide +kernel
theorem dX11_purse_32 : decode cX11_purse 32 = .ok (.ifCond .lt 37, 3) := by decide +kernel
theorem dX11_purse_35 : decode cX11_purse 35 = .ok (.iload_n 2, 1) := by decide +kernel
theorem dX11_purse_36 : decode cX11_purse 36 = .ok (.iconst 3, 1) := by decide +kernel
theorem dX11_purse_37 : decode cX11_purse 37 = .ok (.if_icmp .gt 32, 3) := by decide +kernel
theorem dX11_purse_40 : decode cX11_purse 40 = .ok (.aload_n 0, 1) := by decide +kernel
theorem dX11_purse_41 : decode cX11_purse 41 = .ok (.getfield 65, 3) := by decide +kernel
theorem dX11_purse_44 : decode cX11_purse 44 = .ok (.getfield 139, 3) := by decide +kernel
theorem dX11_purse_47 : decode cX11_purse 47 = .ok (.invokevirtual 143, 3) := by decide +kernel
theorem dX11_purse_50 : decode cX11_purse 50 = .ok (.aload_n 0, 1) := by decide +kernel
theorem dX11_purse_51 : decode cX11_purse 51 = .ok (.getfield 65, 3) := by decide +kernel
theorem dX11_purse_54 : decode cX11_purse 54 = .ok (.getfield 139, 3) := by decide +kernel
theorem dX11_purse_57 : decode cX11_purse 57 = .ok (.getfield 149, 3) := by decide +kernel
theorem dX11_purse_60 : decode cX11_purse 60 = .ok (.iload_n 1, 1) := by decide +kernel
theorem dX11_purse_61 : decode cX11_purse 61 = .ok (.iaload, 1) := by decide +kernel
theorem dX11_purse_62 : decode cX11_purse 62 = .ok (.isub, 1) := by decide +kernel
theorem dX11_purse_63 : decode cX11_purse 63 = .ok (.iload_n 2, 1) := by decide +kernel
theorem dX11_purse_64 : decode cX11_purse 64 = .ok (.iadd, 1) := by decide +kernel
theorem dX11_purse_65 : decode cX11_purse 65 = .ok (.iconst 3, 1) := by decide +kernel
theorem dX11_purse_66 : decode cX11_purse 66 = .ok (.if_icmp .le 18, 3) := by decide +kernel
theorem dX11_purse_69 : decode cX11_purse 69 = .ok (.aload_n 0, 1) := by decide +kernel
theorem dX11_purse_70 : decode cX11_purse 70 = .ok (.iconst 2, 1) := by decide +kernel
theorem dX11_purse_71 : decode cX11_purse 71 = .ok (.invokevirtual 90, 3) := by decide +kernel
theorem dX11_purse_74 : decode cX11_purse 74 = .ok (.iconst (-1), 1) := by decide +kernel
theorem dX11_purse_75 : decode cX11_purse 75 = .ok (.if_icmp .eq 7, 3) := by decide +kernel
theorem dX11_purse_78 : decode cX11_purse 78 = .ok (.iconst 1, 1) := by decide +kernel
theorem dX11_purse_79 : decode cX11_purse 79 = .ok (.goto 4, 3) := by decide +kernel
theorem dX11_purse_82 : decode cX11_purse 82 = .ok (.iconst 0, 1) := by decide +kernel
theorem dX11_purse_83 : decode cX11_purse 83 = .ok (.ireturn, 1) := by decide +kernel
theorem dX11_purse_84 : decode cX11_purse 84 = .ok (.aload_n 0, 1) := by decide +kernel
theorem dX11_purse_85 : decode cX11_purse 85 = .ok (.getfield 65, 3) := by decide +kernel
theorem dX11_purse_88 : decode cX11_purse 88 = .ok (.getfield 139, 3) := by decide +kernel
theorem dX11_purse_91 : decode cX11_purse 91 = .ok (.getfield 149, 3) := by decide +kernel
theorem dX11_purse_94 : decode cX11_purse 94 = .ok (.iload_n 1, 1) := by decide +kernel
theorem dX11_purse_95 : decode cX11_purse 95 = .ok (.iload_n 2, 1) := by decide +kernel
theorem dX11_purse_96 : decode cX11_purse 96 = .ok (.iastore, 1) := by decide +kernel
theorem dX11_purse_97 : decode cX11_purse 97 = .ok (.aload_n 0, 1) := by decide +kernel
theorem dX11_purse_98 : decode cX11_purse 98 = .ok (.iconst 1, 1) := by decide +kernel
theorem dX11_purse_99 : decode cX11_purse 99 = .ok (.invokevirtual 130, 3) := by decide +kernel
theorem dX11_purse_102 : decode cX11_purse 102 = .ok (.iconst 1, 1) := by decide +kernel
theorem dX11_purse_103 : decode cX11_purse 103 = .ok (.if_icmp .ne 7, 3) := by decide +kernel
theorem dX11_purse_106 : decode cX11_purse 106 = .ok (.iconst 1, 1) := by decide +kernel
theorem dX11_purse_107 : decode cX11_purse 107 = .ok (.goto 4, 3) := by decide +kernel
theorem dX11_purse_110 : decode cX11_purse 110 = .ok (.iconst 0, 1) := by decide +kernel
theorem dX11_purse_111 : decode cX11_purse 111 = .ok (.ireturn, 1) := by decide +kernel
theorem dX11_fall_0 : decode cX11_fall 0 = .ok (.iload_n 1, 1) := by decide +kernel
theorem dX11_fall_1 : decode cX11_fall 1 = .ok (.ifCond .lt 27, 3) := by decide +kernel
theorem dX11_fall_4 : decode cX11_fall 4 = .ok (.iload_n 1, 1) := by decide +kernel
theorem dX11_fall_5 : decode cX11_fall 5 = .ok (.iconst 4, 1) := by decide +kernel
theorem dX11_fall_6 : decode cX11_fall 6 = .ok (.if_icmp .ge 22, 3) := by decide +kernel
theorem dX11_fall_9 : decode cX11_fall 9 = .ok (.iload_n 2, 1) := by decide +kernel
theorem dX11_fall_10 : decode cX11_fall 10 = .ok (.ifCond .lt 18, 3) := by decide +kernel
theorem dX11_fall_13 : decode cX11_fall 13 = .ok (.iload_n 2, 1) := by decide +kernel
theorem dX11_fall_14 : decode cX11_fall 14 = .ok (.aload_n 0, 1) := by decide +kernel
theorem dX11_fall_15 : decode cX11_fall 15 = .ok (.getfield 28, 3) := by decide +kernel
theorem dX11_fall_18 : decode cX11_fall 18 = .ok (.getfield 32, 3) := by decide +kernel
theorem dX11_fall_21 : decode cX11_fall 21 = .ok (.iload_n 1, 1) := by decide +kernel
theorem dX11_fall_22 : decode cX11_fall 22 = .ok (.invokevirtual 152, 3) := by decide +kernel
theorem dX11_fall_25 : decode cX11_fall 25 = .ok (.if_icmp .lt 9, 3) := by decide +kernel
theorem dX11_fall_28 : decode cX11_fall 28 = .ok (.aload_n 0, 1) := by decide +kernel
theorem dX11_fall_29 : decode cX11_fall 29 = .ok (.iconst 1, 1) := by decide +kernel
theorem dX11_fall_30 : decode cX11_fall 30 = .ok (.invokevirtual 90, 3) := by decide +kernel
theorem dX11_fall_33 : decode cX11_fall 33 = .ok (.ireturn, 1) := by decide +kernel
theorem dX11_fall_34 : decode cX11_fall 34 = .ok (.iload_n 3, 1) := by decide +kernel
theorem dX11_fall_35 : decode cX11_fall 35 = .ok (.ifCond .lt 14, 3) := by decide +kernel
theorem dX11_fall_38 : decode cX11_fall 38 = .ok (.iload_n 3, 1) := by decide +kernel
theorem dX11_fall_39 : decode cX11_fall 39 = .ok (.aload_n 0, 1) := by decide +kernel
theorem dX11_fall_40 : decode cX11_fall 40 = .ok (.getfield 28, 3) := by decide +kernel
theorem dX11_fall_43 : decode cX11_fall 43 = .ok (.getfield 136, 3) := by decide +kernel
theorem dX11_fall_46 : decode cX11_fall 46 = .ok (.if_icmp .lt 9, 3) := by decide +kernel
theorem dX11_fall_49 : decode cX11_fall 49 = .ok (.aload_n 0, 1) := by decide +kernel
theorem dX11_fall_50 : decode cX11_fall 50 = .ok (.iconst 2, 1) := by decide +kernel
theorem dX11_fall_51 : decode cX11_fall 51 = .ok (.invokevirtual 90, 3) := by decide +kernel
theorem dX11_fall_54 : decode cX11_fall 54 = .ok (.ireturn, 1) := by decide +kernel
theorem dX11_fall_55 : decode cX11_fall 55 = .ok (.iload_n 1, 1) := by decide +kernel
theorem dX11_fall_56 : decode cX11_fall 56 = .ok (.iload_n 2, 1) := by decide +kernel
theorem dX11_fall_57 : decode cX11_fall 57 = .ok (.iload_n 3, 1) := by decide +kernel
theorem dX11_fall_58 : decode cX11_fall 58 = .ok (.invokestatic 155, 3) := by decide +kernel
theorem dX11_fall_61 : decode cX11_fall 61 = .ok (.istore 4, 2) := by decide +kernel
theorem dX11_fall_63 : decode cX11_fall 63 = .ok (.aload_n 0, 1) := by decide +kernel
theorem dX11_fall_64 : decode cX11_fall 64 = .ok (.getfield 43, 3) := by decide +kernel
theorem dX11_fall_67 : decode cX11_fall 67 = .ok (.iload 4, 2) := by decide +kernel
theorem dX11_fall_69 : decode cX11_fall 69 = .ok (.invokevirtual 159, 3) := by decide +kernel
theorem dX11_fall_72 : decode cX11_fall 72 = .ok (.ifCond .eq 9, 3) := by decide +kernel
theorem dX11_fall_75 : decode cX11_fall 75 = .ok (.aload_n 0, 1) := by decide +kernel
theorem dX11_fall_76 : decode cX11_fall 76 = .ok (.iconst 5, 1) := by decide +kernel
theorem dX11_fall_77 : decode cX11_fall 77 = .ok (.invokevirtual 90, 3) := by decide +kernel
theorem dX11_fall_80 : decode cX11_fall 80 = .ok (.ireturn, 1) := by decide +kernel
theorem dX11_fall_81 : decode cX11_fall 81 = .ok (.aload_n 0, 1) := by decide +kernel
theorem dX11_fall_82 : decode cX11_fall 82 = .ok (.getfield 43, 3) := by decide +kernel
theorem dX11_fall_85 : decode cX11_fall 85 = .ok (.getfield 163, 3) := by decide +kernel
theorem dX11_fall_88 : decode cX11_fall 88 = .ok (.bipush 6, 2) := by decide +kernel
theorem dX11_fall_90 : decode cX11_fall 90 = .ok (.if_icmp .ne 9, 3) := by decide +kernel
theorem dX11_fall_93 : decode cX11_fall 93 = .ok (.aload_n 0, 1) := by decide +kernel
theorem dX11_fall_94 : decode cX11_fall 94 = .ok (.iconst 3, 1) := by decide +kernel
theorem dX11_fall_95 : decode cX11_fall 95 = .ok (.invokevirtual 90, 3) := by decide +kernel
theorem dX11_fall_98 : decode cX11_fall 98 = .ok (.ireturn, 1) := by decide +kernel
theorem dX11_fall_99 : decode cX11_fall 99 = .ok (.aload_n 0, 1) := by decide +kernel
theorem dX11_fall_100 : decode cX11_fall 100 = .ok (.getfield 43, 3) := by decide +kernel
theorem dX11_fall_103 : decode cX11_fall 103 = .ok (.iload 4, 2) := by decide +kernel
theorem dX11_fall_105 : decode cX11_fall 105 = .ok (.invokevirtual 166, 3) := by decide +kernel
theorem dX11_fall_108 : decode cX11_fall 108 = .ok (.aload_n 0, 1) := by decide +kernel
theorem dX11_fall_109 : decode cX11_fall 109 = .ok (.aload_n 0, 1) := by decide +kernel
theorem dX11_fall_110 : decode cX11_fall 110 = .ok (.getfield 43, 3) := by decide +kernel
theorem dX11_fall_113 : decode cX11_fall 113 = .ok (.getfield 163, 3) := by decide +kernel
theorem dX11_fall_116 : decode cX11_fall 116 = .ok (.invokevirtual 130, 3) := by decide +kernel
theorem dX11_fall_119 : decode cX11_fall 119 = .ok (.ireturn, 1) := by decide +kernel
theorem dX11_clear_0 : decode cX11_clear 0 = .ok (.aload_n 0, 1) := by decide +kernel
theorem dX11_clear_1 : decode cX11_clear 1 = .ok (.getfield 43, 3) := by decide +kernel
theorem dX11_clear_4 : decode cX11_clear 4 = .ok (.getfield 163, 3) := by decide +kernel
theorem dX11_clear_7 : decode cX11_clear 7 = .ok (.istore_n 1, 1) := by decide +kernel
theorem dX11_clear_8 : decode cX11_clear 8 = .ok (.aload_n 0, 1) := by decide +kernel
theorem dX11_clear_9 : decode cX11_clear 9 = .ok (.getfield 43, 3) := by decide +kernel
theorem dX11_clear_12 : decode cX11_clear 12 = .ok (.invokevirtual 115, 3) := by decide +kernel
theorem dX11_clear_15 : decode cX11_clear 15 = .ok (.iload_n 1, 1) := by decide +kernel
theorem dX11_clear_16 : decode cX11_clear 16 = .ok (.ireturn, 1) := by decide +kernel
theorem dX11_run_0 : decode cX11_run 0 = .ok (.aload_n 0, 1) := by decide +kernel
theorem dX11_run_1 : decode cX11_run 1 = .ok (.getfield 111, 3) := by decide +kernel
theorem dX11_run_4 : decode cX11_run 4 = .ok (.ifCond .ne 9, 3) := by decide +kernel
theorem dX11_run_7 : decode cX11_run 7 = .ok (.aload_n 0, 1) := by decide +kernel
theorem dX11_run_8 : decode cX11_run 8 = .ok (.iconst 1, 1) := by decide +kernel
theorem dX11_run_9 : decode cX11_run 9 = .ok (.invokevirtual 90, 3) := by decide +kernel
theorem dX11_run_12 : decode cX11_run 12 = .ok (.ireturn, 1) := by decide +kernel
theorem dX11_run_13 : decode cX11_run 13 = .ok (.aload_n 0, 1) := by decide +kernel
theorem dX11_run_14 : decode cX11_run 14 = .ok (.getfield 65, 3) := by decide +kernel
theorem dX11_run_17 : decode cX11_run 17 = .ok (.aload_n 0, 1) := by decide +kernel
theorem dX11_run_18 : decode cX11_run 18 = .ok (.getfield 28, 3) := by decide +kernel
theorem dX11_run_21 : decode cX11_run 21 = .ok (.aload_n 0, 1) := by decide +kernel
theorem dX11_run_22 : decode cX11_run 22 = .ok (.getfield 43, 3) := by decide +kernel
theorem dX11_run_25 : decode cX11_run 25 = .ok (.aload_n 0, 1) := by decide +kernel
theorem dX11_run_26 : decode cX11_run 26 = .ok (.getfield 72, 3) := by decide +kernel
theorem dX11_run_29 : decode cX11_run 29 = .ok (.invokevirtual 169, 3) := by decide +kernel
theorem dX11_run_32 : decode cX11_run 32 = .ok (.aload_n 0, 1) := by decide +kernel
theorem dX11_run_33 : decode cX11_run 33 = .ok (.aload_n 0, 1) := by decide +kernel
theorem dX11_run_34 : decode cX11_run 34 = .ok (.getfield 72, 3) := by decide +kernel
theorem dX11_run_37 : decode cX11_run 37 = .ok (.getfield 173, 3) := by decide +kernel
theorem dX11_run_40 : decode cX11_run 40 = .ok (.invokevirtual 130, 3) := by decide +kernel
theorem dX11_run_43 : decode cX11_run 43 = .ok (.ireturn, 1) := by decide +kernel
theorem dX11_there_0 : decode cX11_there 0 = .ok (.aload_n 0, 1) := by decide +kernel
theorem dX11_there_1 : decode cX11_there 1 = .ok (.iload_n 1, 1) := by decide +kernel
theorem dX11_there_2 : decode cX11_there 2 = .ok (.iload_n 2, 1) := by decide +kernel
theorem dX11_there_3 : decode cX11_there 3 = .ok (.iload_n 3, 1) := by decide +kernel
theorem dX11_there_4 : decode cX11_there 4 = .ok (.invokevirtual 176, 3) := by decide +kernel
theorem dX11_there_7 : decode cX11_there 7 = .ok (.istore 4, 2) := by decide +kernel
theorem dX11_there_9 : decode cX11_there 9 = .ok (.iload 4, 2) := by decide +kernel
theorem dX11_there_11 : decode cX11_there 11 = .ok (.ifCond .eq 10, 3) := by decide +kernel
theorem dX11_there_14 : decode cX11_there 14 = .ok (.aload_n 0, 1) := by decide +kernel
theorem dX11_there_15 : decode cX11_there 15 = .ok (.iload 4, 2) := by decide +kernel
theorem dX11_there_17 : decode cX11_there 17 = .ok (.invokevirtual 90, 3) := by decide +kernel
theorem dX11_there_20 : decode cX11_there 20 = .ok (.ireturn, 1) := by decide +kernel
theorem dX11_there_21 : decode cX11_there 21 = .ok (.aload_n 0, 1) := by decide +kernel
theorem dX11_there_22 : decode cX11_there 22 = .ok (.getfield 65, 3) := by decide +kernel
theorem dX11_there_25 : decode cX11_there 25 = .ok (.aload_n 0, 1) := by decide +kernel
theorem dX11_there_26 : decode cX11_there 26 = .ok (.getfield 28, 3) := by decide +kernel
theorem dX11_there_29 : decode cX11_there 29 = .ok (.aload_n 0, 1) := by decide +kernel
theorem dX11_there_30 : decode cX11_there 30 = .ok (.getfield 43, 3) := by decide +kernel
theorem dX11_there_33 : decode cX11_there 33 = .ok (.aload_n 0, 1) := by decide +kernel
theorem dX11_there_34 : decode cX11_there 34 = .ok (.getfield 72, 3) := by decide +kernel
theorem dX11_there_37 : decode cX11_there 37 = .ok (.invokevirtual 169, 3) := by decide +kernel
theorem dX11_there_40 : decode cX11_there 40 = .ok (.aload_n 0, 1) := by decide +kernel
theorem dX11_there_41 : decode cX11_there 41 = .ok (.aload_n 0, 1) := by decide +kernel
theorem dX11_there_42 : decode cX11_there 42 = .ok (.getfield 72, 3) := by decide +kernel
theorem dX11_there_45 : decode cX11_there 45 = .ok (.iload_n 1, 1) := by decide +kernel
theorem dX11_there_46 : decode cX11_there 46 = .ok (.iload_n 2, 1) := by decide +kernel
theorem dX11_there_47 : decode cX11_there 47 = .ok (.iload_n 3, 1) := by decide +kernel
theorem dX11_there_48 : decode cX11_there 48 = .ok (.invokevirtual 179, 3) := by decide +kernel
theorem dX11_there_51 : decode cX11_there 51 = .ok (.ifCond .eq 7, 3) := by decide +kernel
theorem dX11_there_54 : decode cX11_there 54 = .ok (.iconst 1, 1) := by decide +kernel
theorem dX11_there_55 : decode cX11_there 55 = .ok (.goto 4, 3) := by decide +kernel
theorem dX11_there_58 : decode cX11_there 58 = .ok (.iconst 0, 1) := by decide +kernel
theorem dX11_there_59 : decode cX11_there 59 = .ok (.invokevirtual 130, 3) := by decide +kernel
theorem dX11_there_62 : decode cX11_there 62 = .ok (.ireturn, 1) := by decide +kernel
theorem dX11_reasons_0 : decode cX11_reasons 0 = .ok (.aload_n 0, 1) := by decide +kernel
theorem dX11_reasons_1 : decode cX11_reasons 1 = .ok (.iload_n 1, 1) := by decide +kernel
theorem dX11_reasons_2 : decode cX11_reasons 2 = .ok (.iload_n 2, 1) := by decide +kernel
theorem dX11_reasons_3 : decode cX11_reasons 3 = .ok (.iload_n 3, 1) := by decide +kernel
theorem dX11_reasons_4 : decode cX11_reasons 4 = .ok (.invokevirtual 176, 3) := by decide +kernel
theorem dX11_reasons_7 : decode cX11_reasons 7 = .ok (.istore 4, 2) := by decide +kernel
theorem dX11_reasons_9 : decode cX11_reasons 9 = .ok (.iload 4, 2) := by decide +kernel
theorem dX11_reasons_11 : decode cX11_reasons 11 = .ok (.ifCond .eq 10, 3) := by decide +kernel
theorem dX11_reasons_14 : decode cX11_reasons 14 = .ok (.aload_n 0, 1) := by decide +kernel
theorem dX11_reasons_15 : decode cX11_reasons 15 = .ok (.iload 4, 2) := by decide +kernel
theorem dX11_reasons_17 : decode cX11_reasons 17 = .ok (.invokevirtual 90, 3) := by decide +kernel
theorem dX11_reasons_20 : decode cX11_reasons 20 = .ok (.ireturn, 1) := by decide +kernel
theorem dX11_reasons_21 : decode cX11_reasons 21 = .ok (.aload_n 0, 1) := by decide +kernel
theorem dX11_reasons_22 : decode cX11_reasons 22 = .ok (.getfield 65, 3) := by decide +kernel
theorem dX11_reasons_25 : decode cX11_reasons 25 = .ok (.aload_n 0, 1) := by decide +kernel
theorem dX11_reasons_26 : decode cX11_reasons 26 = .ok (.getfield 28, 3) := by decide +kernel
theorem dX11_reasons_29 : decode cX11_reasons 29 = .ok (.aload_n 0, 1) := by decide +kernel
theorem dX11_reasons_30 : decode cX11_reasons 30 = .ok (.getfield 43, 3) := by decide +kernel
theorem dX11_reasons_33 : decode cX11_reasons 33 = .ok (.aload_n 0, 1) := by decide +kernel
theorem dX11_reasons_34 : decode cX11_reasons 34 = .ok (.getfield 72, 3) := by decide +kernel
theorem dX11_reasons_37 : decode cX11_reasons 37 = .ok (.invokevirtual 169, 3) := by decide +kernel
theorem dX11_reasons_40 : decode cX11_reasons 40 = .ok (.aload_n 0, 1) := by decide +kernel
theorem dX11_reasons_41 : decode cX11_reasons 41 = .ok (.getfield 72, 3) := by decide +kernel
theorem dX11_reasons_44 : decode cX11_reasons 44 = .ok (.aload_n 0, 1) := by decide +kernel
theorem dX11_reasons_45 : decode cX11_reasons 45 = .ok (.getfield 28, 3) := by decide +kernel
theorem dX11_reasons_48 : decode cX11_reasons 48 = .ok (.iload_n 1, 1) := by decide +kernel
theorem dX11_reasons_49 : decode cX11_reasons 49 = .ok (.iload_n 2, 1) := by decide +kernel
theorem dX11_reasons_50 : decode cX11_reasons 50 = .ok (.iload_n 3, 1) := by decide +kernel
theorem dX11_reasons_51 : decode cX11_reasons 51 = .ok (.invokevirtual 183, 3) := by decide +kernel
theorem dX11_reasons_54 : decode cX11_reasons 54 = .ok (.aload_n 0, 1) := by decide +kernel
theorem dX11_reasons_55 : decode cX11_reasons 55 = .ok (.aload_n 0, 1) := by decide +kernel
theorem dX11_reasons_56 : decode cX11_reasons 56 = .ok (.getfield 72, 3) := by decide +kernel
theorem dX11_reasons_59 : decode cX11_reasons 59 = .ok (.getfield 187, 3) := by decide +kernel
theorem dX11_reasons_62 : decode cX11_reasons 62 = .ok (.invokevirtual 130, 3) := by decide +kernel
theorem dX11_reasons_65 : decode cX11_reasons 65 = .ok (.ireturn, 1) := by decide +kernel
theorem dX11_reason_0 : decode cX11_reason 0 = .ok (.aload_n 0, 1) := by decide +kernel
theorem dX11_reason_1 : decode cX11_reason 1 = .ok (.iload_n 1, 1) := by decide +kernel
theorem dX11_reason_2 : decode cX11_reason 2 = .ok (.iload_n 2, 1) := by decide +kernel
theorem dX11_reason_3 : decode cX11_reason 3 = .ok (.iload_n 3, 1) := by decide +kernel
theorem dX11_reason_4 : decode cX11_reason 4 = .ok (.invokevirtual 176, 3) := by decide +kernel
theorem dX11_reason_7 : decode cX11_reason 7 = .ok (.ifCond .eq 11, 3) := by decide +kernel
theorem dX11_reason_10 : decode cX11_reason 10 = .ok (.new 190, 3) := by decide +kernel
theorem dX11_reason_13 : decode cX11_reason 13 = .ok (.dup, 1) := by decide +kernel
theorem dX11_reason_14 : decode cX11_reason 14 = .ok (.invokespecial 192, 3) := by decide +kernel
theorem dX11_reason_17 : decode cX11_reason 17 = .ok (.athrow, 1) := by decide +kernel
theorem dX11_reason_18 : decode cX11_reason 18 = .ok (.aload_n 0, 1) := by decide +kernel
theorem dX11_reason_19 : decode cX11_reason 19 = .ok (.getfield 65, 3) := by decide +kernel
theorem dX11_reason_22 : decode cX11_reason 22 = .ok (.aload_n 0, 1) := by decide +kernel
theorem dX11_reason_23 : decode cX11_reason 23 = .ok (.getfield 28, 3) := by decide +kernel
theorem dX11_reason_26 : decode cX11_reason 26 = .ok (.aload_n 0, 1) := by decide +kernel
theorem dX11_reason_27 : decode cX11_reason 27 = .ok (.getfield 43, 3) := by decide +kernel
theorem dX11_reason_30 : decode cX11_reason 30 = .ok (.aload_n 0, 1) := by decide +kernel
theorem dX11_reason_31 : decode cX11_reason 31 = .ok (.getfield 72, 3) := by decide +kernel
theorem dX11_reason_34 : decode cX11_reason 34 = .ok (.invokevirtual 169, 3) := by decide +kernel
theorem dX11_reason_37 : decode cX11_reason 37 = .ok (.aload_n 0, 1) := by decide +kernel
theorem dX11_reason_38 : decode cX11_reason 38 = .ok (.getfield 72, 3) := by decide +kernel
theorem dX11_reason_41 : decode cX11_reason 41 = .ok (.aload_n 0, 1) := by decide +kernel
theorem dX11_reason_42 : decode cX11_reason 42 = .ok (.getfield 28, 3) := by decide +kernel
theorem dX11_reason_45 : decode cX11_reason 45 = .ok (.iload_n 1, 1) := by decide +kernel
theorem dX11_reason_46 : decode cX11_reason 46 = .ok (.iload_n 2, 1) := by decide +kernel
theorem dX11_reason_47 : decode cX11_reason 47 = .ok (.iload_n 3, 1) := by decide +kernel
theorem dX11_reason_48 : decode cX11_reason 48 = .ok (.invokevirtual 183, 3) := by decide +kernel
theorem dX11_reason_51 : decode cX11_reason 51 = .ok (.iload 4, 2) := by decide +kernel
theorem dX11_reason_53 : decode cX11_reason 53 = .ok (.ifCond .lt 15, 3) := by decide +kernel
theorem dX11_reason_56 : decode cX11_reason 56 = .ok (.iload 4, 2) := by decide +kernel
theorem dX11_reason_58 : decode cX11_reason 58 = .ok (.aload_n 0, 1) := by decide +kernel
theorem dX11_reason_59 : decode cX11_reason 59 = .ok (.getfield 72, 3) := by decide +kernel
theorem dX11_reason_62 : decode cX11_reason 62 = .ok (.getfield 187, 3) := by decide +kernel
theorem dX11_reason_65 : decode cX11_reason 65 = .ok (.if_icmp .lt 11, 3) := by decide +kernel
theorem dX11_reason_68 : decode cX11_reason 68 = .ok (.new 190, 3) := by decide +kernel
theorem dX11_reason_71 : decode cX11_reason 71 = .ok (.dup, 1) := by decide +kernel
theorem dX11_reason_72 : decode cX11_reason 72 = .ok (.invokespecial 192, 3) := by decide +kernel
theorem dX11_reason_75 : decode cX11_reason 75 = .ok (.athrow, 1) := by decide +kernel
theorem dX11_reason_76 : decode cX11_reason 76 = .ok (.aload_n 0, 1) := by decide +kernel
theorem dX11_reason_77 : decode cX11_reason 77 = .ok (.getfield 72, 3) := by decide +kernel
theorem dX11_reason_80 : decode cX11_reason 80 = .ok (.getfield 193, 3) := by decide +kernel
theorem dX11_reason_83 : decode cX11_reason 83 = .ok (.iload 4, 2) := by decide +kernel
theorem dX11_reason_85 : decode cX11_reason 85 = .ok (.iaload, 1) := by decide +kernel
theorem dX11_reason_86 : decode cX11_reason 86 = .ok (.ireturn, 1) := by decide +kernel
theorem dX11_word_0 : decode cX11_word 0 = .ok (.iload_n 1, 1) := by decide +kernel
theorem dX11_word_1 : decode cX11_word 1 = .ok (.ifCond .lt 17, 3) := by decide +kernel
theorem dX11_word_4 : decode cX11_word 4 = .ok (.iload_n 1, 1) := by decide +kernel
theorem dX11_word_5 : decode cX11_word 5 = .ok (.aload_n 0, 1) := by decide +kernel
theorem dX11_word_6 : decode cX11_word 6 = .ok (.getfield 28, 3) := by decide +kernel
theorem dX11_word_9 : decode cX11_word 9 = .ok (.getfield 32, 3) := by decide +kernel
theorem dX11_word_12 : decode cX11_word 12 = .ok (.getfield 127, 3) := by decide +kernel
theorem dX11_word_15 : decode cX11_word 15 = .ok (.if_icmp .lt 9, 3) := by decide +kernel
theorem dX11_word_18 : decode cX11_word 18 = .ok (.aload_n 0, 1) := by decide +kernel
theorem dX11_word_19 : decode cX11_word 19 = .ok (.iconst 1, 1) := by decide +kernel
theorem dX11_word_20 : decode cX11_word 20 = .ok (.invokevirtual 90, 3) := by decide +kernel
theorem dX11_word_23 : decode cX11_word 23 = .ok (.ireturn, 1) := by decide +kernel
theorem dX11_word_24 : decode cX11_word 24 = .ok (.iload_n 2, 1) := by decide +kernel
theorem dX11_word_25 : decode cX11_word 25 = .ok (.ifCond .lt 14, 3) := by decide +kernel
theorem dX11_word_28 : decode cX11_word 28 = .ok (.iload_n 2, 1) := by decide +kernel
theorem dX11_word_29 : decode cX11_word 29 = .ok (.aload_n 0, 1) := by decide +kernel
theorem dX11_word_30 : decode cX11_word 30 = .ok (.getfield 28, 3) := by decide +kernel
theorem dX11_word_33 : decode cX11_word 33 = .ok (.getfield 136, 3) := by decide +kernel
theorem dX11_word_36 : decode cX11_word 36 = .ok (.if_icmp .lt 9, 3) := by decide +kernel
theorem dX11_word_39 : decode cX11_word 39 = .ok (.aload_n 0, 1) := by decide +kernel
theorem dX11_word_40 : decode cX11_word 40 = .ok (.iconst 2, 1) := by decide +kernel
theorem dX11_word_41 : decode cX11_word 41 = .ok (.invokevirtual 90, 3) := by decide +kernel
theorem dX11_word_44 : decode cX11_word 44 = .ok (.ireturn, 1) := by decide +kernel
theorem dX11_word_45 : decode cX11_word 45 = .ok (.aload_n 0, 1) := by decide +kernel
theorem dX11_word_46 : decode cX11_word 46 = .ok (.getfield 65, 3) := by decide +kernel
theorem dX11_word_49 : decode cX11_word 49 = .ok (.aload_n 0, 1) := by decide +kernel
theorem dX11_word_50 : decode cX11_word 50 = .ok (.getfield 28, 3) := by decide +kernel
theorem dX11_word_53 : decode cX11_word 53 = .ok (.aload_n 0, 1) := by decide +kernel
theorem dX11_word_54 : decode cX11_word 54 = .ok (.getfield 43, 3) := by decide +kernel
theorem dX11_word_57 : decode cX11_word 57 = .ok (.aload_n 0, 1) := by decide +kernel
theorem dX11_word_58 : decode cX11_word 58 = .ok (.getfield 72, 3) := by decide +kernel
theorem dX11_word_61 : decode cX11_word 61 = .ok (.invokevirtual 169, 3) := by decide +kernel
theorem dX11_word_64 : decode cX11_word 64 = .ok (.aload_n 0, 1) := by decide +kernel
theorem dX11_word_65 : decode cX11_word 65 = .ok (.aload_n 0, 1) := by decide +kernel
theorem dX11_word_66 : decode cX11_word 66 = .ok (.getfield 72, 3) := by decide +kernel
theorem dX11_word_69 : decode cX11_word 69 = .ok (.getfield 196, 3) := by decide +kernel
theorem dX11_word_72 : decode cX11_word 72 = .ok (.iload_n 1, 1) := by decide +kernel
theorem dX11_word_73 : decode cX11_word 73 = .ok (.bipush 7, 2) := by decide +kernel
theorem dX11_word_75 : decode cX11_word 75 = .ok (.imul, 1) := by decide +kernel
theorem dX11_word_76 : decode cX11_word 76 = .ok (.iload_n 2, 1) := by decide +kernel
theorem dX11_word_77 : decode cX11_word 77 = .ok (.iadd, 1) := by decide +kernel
theorem dX11_word_78 : decode cX11_word 78 = .ok (.iaload, 1) := by decide +kernel
theorem dX11_word_79 : decode cX11_word 79 = .ok (.invokevirtual 130, 3) := by decide +kernel
theorem dX11_word_82 : decode cX11_word 82 = .ok (.ireturn, 1) := by decide +kernel
theorem dX11_differs_0 : decode cX11_differs 0 = .ok (.aload_n 0, 1) := by decide +kernel
theorem dX11_differs_1 : decode cX11_differs 1 = .ok (.getfield 111, 3) := by decide +kernel
theorem dX11_differs_4 : decode cX11_differs 4 = .ok (.ifCond .eq 12, 3) := by decide +kernel
theorem dX11_differs_7 : decode cX11_differs 7 = .ok (.iload_n 1, 1) := by decide +kernel
theorem dX11_differs_8 : decode cX11_differs 8 = .ok (.ifCond .lt 8, 3) := by decide +kernel
theorem dX11_differs_11 : decode cX11_differs 11 = .ok (.iload_n 1, 1) := by decide +kernel
theorem dX11_differs_12 : decode cX11_differs 12 = .ok (.iconst 3, 1) := by decide +kernel
theorem dX11_differs_13 : decode cX11_differs 13 = .ok (.if_icmp .le 9, 3) := by decide +kernel
theorem dX11_differs_16 : decode cX11_differs 16 = .ok (.aload_n 0, 1) := by decide +kernel
theorem dX11_differs_17 : decode cX11_differs 17 = .ok (.iconst 1, 1) := by decide +kernel
theorem dX11_differs_18 : decode cX11_differs 18 = .ok (.invokevirtual 90, 3) := by decide +kernel
theorem dX11_differs_21 : decode cX11_differs 21 = .ok (.ireturn, 1) := by decide +kernel
theorem dX11_differs_22 : decode cX11_differs 22 = .ok (.aload_n 0, 1) := by decide +kernel
theorem dX11_differs_23 : decode cX11_differs 23 = .ok (.getfield 65, 3) := by decide +kernel
theorem dX11_differs_26 : decode cX11_differs 26 = .ok (.aload_n 0, 1) := by decide +kernel
theorem dX11_differs_27 : decode cX11_differs 27 = .ok (.getfield 28, 3) := by decide +kernel
theorem dX11_differs_30 : decode cX11_differs 30 = .ok (.aload_n 0, 1) := by decide +kernel
theorem dX11_differs_31 : decode cX11_differs 31 = .ok (.getfield 43, 3) := by decide +kernel
theorem dX11_differs_34 : decode cX11_differs 34 = .ok (.aload_n 0, 1) := by decide +kernel
theorem dX11_differs_35 : decode cX11_differs 35 = .ok (.getfield 72, 3) := by decide +kernel
theorem dX11_differs_38 : decode cX11_differs 38 = .ok (.invokevirtual 169, 3) := by decide +kernel
theorem dX11_differs_41 : decode cX11_differs 41 = .ok (.aload_n 0, 1) := by decide +kernel
theorem dX11_differs_42 : decode cX11_differs 42 = .ok (.getfield 65, 3) := by decide +kernel
theorem dX11_differs_45 : decode cX11_differs 45 = .ok (.aload_n 0, 1) := by decide +kernel
theorem dX11_differs_46 : decode cX11_differs 46 = .ok (.getfield 28, 3) := by decide +kernel
theorem dX11_differs_49 : decode cX11_differs 49 = .ok (.aload_n 0, 1) := by decide +kernel
theorem dX11_differs_50 : decode cX11_differs 50 = .ok (.getfield 47, 3) := by decide +kernel
theorem dX11_differs_53 : decode cX11_differs 53 = .ok (.aload_n 0, 1) := by decide +kernel
theorem dX11_differs_54 : decode cX11_differs 54 = .ok (.getfield 76, 3) := by decide +kernel
theorem dX11_differs_57 : decode cX11_differs 57 = .ok (.invokevirtual 169, 3) := by decide +kernel
theorem dX11_differs_60 : decode cX11_differs 60 = .ok (.iconst 0, 1) := by decide +kernel
theorem dX11_differs_61 : decode cX11_differs 61 = .ok (.istore_n 2, 1) := by decide +kernel
theorem dX11_differs_62 : decode cX11_differs 62 = .ok (.iload_n 2, 1) := by decide +kernel
theorem dX11_differs_63 : decode cX11_differs 63 = .ok (.aload_n 0, 1) := by decide +kernel
theorem dX11_differs_64 : decode cX11_differs 64 = .ok (.getfield 28, 3) := by decide +kernel
theorem dX11_differs_67 : decode cX11_differs 67 = .ok (.getfield 136, 3) := by decide +kernel
theorem dX11_differs_70 : decode cX11_differs 70 = .ok (.if_icmp .gt 96, 3) := by decide +kernel
theorem dX11_differs_73 : decode cX11_differs 73 = .ok (.iconst 0, 1) := by decide +kernel
theorem dX11_differs_74 : decode cX11_differs 74 = .ok (.istore_n 3, 1) := by decide +kernel
theorem dX11_differs_75 : decode cX11_differs 75 = .ok (.iload_n 3, 1) := by decide +kernel
theorem dX11_differs_76 : decode cX11_differs 76 = .ok (.aload_n 0, 1) := by decide +kernel
theorem dX11_differs_77 : decode cX11_differs 77 = .ok (.getfield 28, 3) := by decide +kernel
theorem dX11_differs_80 : decode cX11_differs 80 = .ok (.getfield 32, 3) := by decide +kernel
theorem dX11_differs_83 : decode cX11_differs 83 = .ok (.getfield 199, 3) := by decide +kernel
theorem dX11_differs_86 : decode cX11_differs 86 = .ok (.if_icmp .ge 74, 3) := by decide +kernel
theorem dX11_differs_89 : decode cX11_differs 89 = .ok (.aload_n 0, 1) := by decide +kernel
theorem dX11_differs_90 : decode cX11_differs 90 = .ok (.getfield 72, 3) := by decide +kernel
theorem dX11_differs_93 : decode cX11_differs 93 = .ok (.getfield 202, 3) := by decide +kernel
theorem dX11_differs_96 : decode cX11_differs 96 = .ok (.iload_n 2, 1) := by decide +kernel
theorem dX11_differs_97 : decode cX11_differs 97 = .ok (.iload_n 3, 1) := by decide +kernel
theorem dX11_differs_98 : decode cX11_differs 98 = .ok (.invokestatic 205, 3) := by decide +kernel
theorem dX11_differs_101 : decode cX11_differs 101 = .ok (.iaload, 1) := by decide +kernel
theorem dX11_differs_102 : decode cX11_differs 102 = .ok (.istore 4, 2) := by decide +kernel
theorem dX11_differs_104 : decode cX11_differs 104 = .ok (.iload 4, 2) := by decide +kernel
theorem dX11_differs_106 : decode cX11_differs 106 = .ok (.aload_n 0, 1) := by decide +kernel
theorem dX11_differs_107 : decode cX11_differs 107 = .ok (.getfield 76, 3) := by decide +kernel
theorem dX11_differs_110 : decode cX11_differs 110 = .ok (.getfield 202, 3) := by decide +kernel
theorem dX11_differs_113 : decode cX11_differs 113 = .ok (.iload_n 2, 1) := by decide +kernel
theorem dX11_differs_114 : decode cX11_differs 114 = .ok (.iload_n 3, 1) := by decide +kernel
theorem dX11_differs_115 : decode cX11_differs 115 = .ok (.invokestatic 205, 3) := by decide +kernel
theorem dX11_differs_118 : decode cX11_differs 118 = .ok (.iaload, 1) := by decide +kernel
theorem dX11_differs_119 : decode cX11_differs 119 = .ok (.ixor, 1) := by decide +kernel
theorem dX11_differs_120 : decode cX11_differs 120 = .ok (.istore 5, 2) := by decide +kernel
theorem dX11_differs_122 : decode cX11_differs 122 = .ok (.iload 5, 2) := by decide +kernel
theorem dX11_differs_124 : decode cX11_differs 124 = .ok (.ifCond .eq 30, 3) := by decide +kernel
theorem dX11_differs_127 : decode cX11_differs 127 = .ok (.iload 5, 2) := by decide +kernel
theorem dX11_differs_129 : decode cX11_differs 129 = .ok (.invokestatic 209, 3) := by decide +kernel
theorem dX11_differs_132 : decode cX11_differs 132 = .ok (.istore 6, 2) := by decide +kernel
theorem dX11_differs_134 : decode cX11_differs 134 = .ok (.aload_n 0, 1) := by decide +kernel
theorem dX11_differs_135 : decode cX11_differs 135 = .ok (.iload_n 1, 1) := by decide +kernel
theorem dX11_differs_136 : decode cX11_differs 136 = .ok (.iload_n 2, 1) := by decide +kernel
theorem dX11_differs_137 : decode cX11_differs 137 = .ok (.iload_n 3, 1) := by decide +kernel
theorem dX11_differs_138 : decode cX11_differs 138 = .ok (.iload 6, 2) := by decide +kernel
theorem dX11_differs_140 : decode cX11_differs 140 = .ok (.iload 4, 2) := by decide +kernel
theorem dX11_differs_142 : decode cX11_differs 142 = .ok (.iload 6, 2) := by decide +kernel
theorem dX11_differs_144 : decode cX11_differs 144 = .ok (.ishr, 1) := by decide +kernel
theorem dX11_differs_145 : decode cX11_differs 145 = .ok (.iconst 1, 1) := by decide +kernel
theorem dX11_differs_146 : decode cX11_differs 146 = .ok (.iand, 1) := by decide +kernel
theorem dX11_differs_147 : decode cX11_differs 147 = .ok (.invokestatic 214, 3) := by decide +kernel
theorem dX11_differs_150 : decode cX11_differs 150 = .ok (.invokevirtual 130, 3) := by decide +kernel
theorem dX11_differs_153 : decode cX11_differs 153 = .ok (.ireturn, 1) := by decide +kernel
theorem dX11_differs_154 : decode cX11_differs 154 = .ok (.iinc 3 1, 3) := by decide +kernel
theorem dX11_differs_157 : decode cX11_differs 157 = .ok (.goto (-82), 3) := by decide +kernel
theorem dX11_differs_160 : decode cX11_differs 160 = .ok (.iinc 2 1, 3) := by decide +kernel
theorem dX11_differs_163 : decode cX11_differs 163 = .ok (.goto (-101), 3) := by decide +kernel
theorem dX11_differs_166 : decode cX11_differs 166 = .ok (.aload_n 0, 1) := by decide +kernel
theorem dX11_differs_167 : decode cX11_differs 167 = .ok (.bipush (-2), 2) := by decide +kernel
theorem dX11_differs_169 : decode cX11_differs 169 = .ok (.invokevirtual 130, 3) := by decide +kernel
theorem dX11_differs_172 : decode cX11_differs 172 = .ok (.ireturn, 1) := by decide +kernel
theorem dX11_spoils_0 : decode cX11_spoils 0 = .ok (.aload_n 0, 1) := by decide +kernel
theorem dX11_spoils_1 : decode cX11_spoils 1 = .ok (.getfield 111, 3) := by decide +kernel
theorem dX11_spoils_4 : decode cX11_spoils 4 = .ok (.ifCond .ne 9, 3) := by decide +kernel
theorem dX11_spoils_7 : decode cX11_spoils 7 = .ok (.aload_n 0, 1) := by decide +kernel
theorem dX11_spoils_8 : decode cX11_spoils 8 = .ok (.iconst 1, 1) := by decide +kernel
theorem dX11_spoils_9 : decode cX11_spoils 9 = .ok (.invokevirtual 90, 3) := by decide +kernel
theorem dX11_spoils_12 : decode cX11_spoils 12 = .ok (.ireturn, 1) := by decide +kernel
theorem dX11_spoils_13 : decode cX11_spoils 13 = .ok (.aload_n 0, 1) := by decide +kernel
theorem dX11_spoils_14 : decode cX11_spoils 14 = .ok (.getfield 65, 3) := by decide +kernel
theorem dX11_spoils_17 : decode cX11_spoils 17 = .ok (.aload_n 0, 1) := by decide +kernel
theorem dX11_spoils_18 : decode cX11_spoils 18 = .ok (.getfield 28, 3) := by decide +kernel
theorem dX11_spoils_21 : decode cX11_spoils 21 = .ok (.aload_n 0, 1) := by decide +kernel
theorem dX11_spoils_22 : decode cX11_spoils 22 = .ok (.getfield 47, 3) := by decide +kernel
theorem dX11_spoils_25 : decode cX11_spoils 25 = .ok (.aload_n 0, 1) := by decide +kernel
theorem dX11_spoils_26 : decode cX11_spoils 26 = .ok (.getfield 76, 3) := by decide +kernel
theorem dX11_spoils_29 : decode cX11_spoils 29 = .ok (.invokevirtual 169, 3) := by decide +kernel
theorem dX11_spoils_32 : decode cX11_spoils 32 = .ok (.aload_n 0, 1) := by decide +kernel
theorem dX11_spoils_33 : decode cX11_spoils 33 = .ok (.getfield 76, 3) := by decide +kernel
theorem dX11_spoils_36 : decode cX11_spoils 36 = .ok (.getfield 173, 3) := by decide +kernel
theorem dX11_spoils_39 : decode cX11_spoils 39 = .ok (.iconst 2, 1) := by decide +kernel
theorem dX11_spoils_40 : decode cX11_spoils 40 = .ok (.if_icmp .ne 9, 3) := by decide +kernel
theorem dX11_spoils_43 : decode cX11_spoils 43 = .ok (.aload_n 0, 1) := by decide +kernel
theorem dX11_spoils_44 : decode cX11_spoils 44 = .ok (.iconst 5, 1) := by decide +kernel
theorem dX11_spoils_45 : decode cX11_spoils 45 = .ok (.invokevirtual 90, 3) := by decide +kernel
theorem dX11_spoils_48 : decode cX11_spoils 48 = .ok (.ireturn, 1) := by decide +kernel
theorem dX11_spoils_49 : decode cX11_spoils 49 = .ok (.aload_n 0, 1) := by decide +kernel
theorem dX11_spoils_50 : decode cX11_spoils 50 = .ok (.getfield 65, 3) := by decide +kernel
theorem dX11_spoils_53 : decode cX11_spoils 53 = .ok (.aload_n 0, 1) := by decide +kernel
theorem dX11_spoils_54 : decode cX11_spoils 54 = .ok (.getfield 28, 3) := by decide +kernel
theorem dX11_spoils_57 : decode cX11_spoils 57 = .ok (.aload_n 0, 1) := by decide +kernel
theorem dX11_spoils_58 : decode cX11_spoils 58 = .ok (.getfield 76, 3) := by decide +kernel
theorem dX11_spoils_61 : decode cX11_spoils 61 = .ok (.aload_n 0, 1) := by decide +kernel
theorem dX11_spoils_62 : decode cX11_spoils 62 = .ok (.getfield 43, 3) := by decide +kernel
theorem dX11_spoils_65 : decode cX11_spoils 65 = .ok (.invokevirtual 218, 3) := by decide +kernel
theorem dX11_spoils_68 : decode cX11_spoils 68 = .ok (.lstore_n 1, 1) := by decide +kernel
theorem dX11_spoils_69 : decode cX11_spoils 69 = .ok (.aload_n 0, 1) := by decide +kernel
theorem dX11_spoils_70 : decode cX11_spoils 70 = .ok (.lload_n 1, 1) := by decide +kernel
theorem dX11_spoils_71 : decode cX11_spoils 71 = .ok (.lconst 1, 1) := by decide +kernel
theorem dX11_spoils_72 : decode cX11_spoils 72 = .ok (.land, 1) := by decide +kernel
theorem dX11_spoils_73 : decode cX11_spoils 73 = .ok (.l2i, 1) := by decide +kernel
theorem dX11_spoils_74 : decode cX11_spoils 74 = .ok (.invokevirtual 130, 3) := by decide +kernel
theorem dX11_spoils_77 : decode cX11_spoils 77 = .ok (.ireturn, 1) := by decide +kernel
theorem dX11_stands_0 : decode cX11_stands 0 = .ok (.aload_n 0, 1) := by decide +kernel
theorem dX11_stands_1 : decode cX11_stands 1 = .ok (.iload_n 1, 1) := by decide +kernel
theorem dX11_stands_2 : decode cX11_stands 2 = .ok (.iload_n 2, 1) := by decide +kernel
theorem dX11_stands_3 : decode cX11_stands 3 = .ok (.iload_n 3, 1) := by decide +kernel
theorem dX11_stands_4 : decode cX11_stands 4 = .ok (.invokevirtual 176, 3) := by decide +kernel
theorem dX11_stands_7 : decode cX11_stands 7 = .ok (.istore 4, 2) := by decide +kernel
theorem dX11_stands_9 : decode cX11_stands 9 = .ok (.iload 4, 2) := by decide +kernel
theorem dX11_stands_11 : decode cX11_stands 11 = .ok (.ifCond .eq 10, 3) := by decide +kernel
theorem dX11_stands_14 : decode cX11_stands 14 = .ok (.aload_n 0, 1) := by decide +kernel
theorem dX11_stands_15 : decode cX11_stands 15 = .ok (.iload 4, 2) := by decide +kernel
theorem dX11_stands_17 : decode cX11_stands 17 = .ok (.invokevirtual 90, 3) := by decide +kernel
theorem dX11_stands_20 : decode cX11_stands 20 = .ok (.ireturn, 1) := by decide +kernel
theorem dX11_stands_21 : decode cX11_stands 21 = .ok (.aload_n 0, 1) := by decide +kernel
theorem dX11_stands_22 : decode cX11_stands 22 = .ok (.getfield 65, 3) := by decide +kernel
theorem dX11_stands_25 : decode cX11_stands 25 = .ok (.aload_n 0, 1) := by decide +kernel
theorem dX11_stands_26 : decode cX11_stands 26 = .ok (.getfield 28, 3) := by decide +kernel
theorem dX11_stands_29 : decode cX11_stands 29 = .ok (.aload_n 0, 1) := by decide +kernel
theorem dX11_stands_30 : decode cX11_stands 30 = .ok (.getfield 47, 3) := by decide +kernel
theorem dX11_stands_33 : decode cX11_stands 33 = .ok (.aload_n 0, 1) := by decide +kernel
theorem dX11_stands_34 : decode cX11_stands 34 = .ok (.getfield 76, 3) := by decide +kernel
theorem dX11_stands_37 : decode cX11_stands 37 = .ok (.invokevirtual 169, 3) := by decide +kernel
theorem dX11_stands_40 : decode cX11_stands 40 = .ok (.aload_n 0, 1) := by decide +kernel
theorem dX11_stands_41 : decode cX11_stands 41 = .ok (.getfield 76, 3) := by decide +kernel
theorem dX11_stands_44 : decode cX11_stands 44 = .ok (.iload_n 1, 1) := by decide +kernel
theorem dX11_stands_45 : decode cX11_stands 45 = .ok (.iload_n 2, 1) := by decide +kernel
theorem dX11_stands_46 : decode cX11_stands 46 = .ok (.iload_n 3, 1) := by decide +kernel
theorem dX11_stands_47 : decode cX11_stands 47 = .ok (.invokevirtual 179, 3) := by decide +kernel
theorem dX11_stands_50 : decode cX11_stands 50 = .ok (.ifCond .ne 9, 3) := by decide +kernel
theorem dX11_stands_53 : decode cX11_stands 53 = .ok (.aload_n 0, 1) := by decide +kernel
theorem dX11_stands_54 : decode cX11_stands 54 = .ok (.iconst 5, 1) := by decide +kernel
theorem dX11_stands_55 : decode cX11_stands 55 = .ok (.invokevirtual 90, 3) := by decide +kernel
theorem dX11_stands_58 : decode cX11_stands 58 = .ok (.ireturn, 1) := by decide +kernel
theorem dX11_stands_59 : decode cX11_stands 59 = .ok (.aload_n 0, 1) := by decide +kernel
theorem dX11_stands_60 : decode cX11_stands 60 = .ok (.getfield 65, 3) := by decide +kernel
theorem dX11_stands_63 : decode cX11_stands 63 = .ok (.aload_n 0, 1) := by decide +kernel
theorem dX11_stands_64 : decode cX11_stands 64 = .ok (.getfield 28, 3) := by decide +kernel
theorem dX11_stands_67 : decode cX11_stands 67 = .ok (.aload_n 0, 1) := by decide +kernel
theorem dX11_stands_68 : decode cX11_stands 68 = .ok (.getfield 76, 3) := by decide +kernel
theorem dX11_stands_71 : decode cX11_stands 71 = .ok (.aload_n 0, 1) := by decide +kernel
theorem dX11_stands_72 : decode cX11_stands 72 = .ok (.getfield 43, 3) := by decide +kernel
theorem dX11_stands_75 : decode cX11_stands 75 = .ok (.invokevirtual 218, 3) := by decide +kernel
theorem dX11_stands_78 : decode cX11_stands 78 = .ok (.pop2, 1) := by decide +kernel
theorem dX11_stands_79 : decode cX11_stands 79 = .ok (.aload_n 0, 1) := by decide +kernel
theorem dX11_stands_80 : decode cX11_stands 80 = .ok (.aload_n 0, 1) := by decide +kernel
theorem dX11_stands_81 : decode cX11_stands 81 = .ok (.getfield 65, 3) := by decide +kernel
theorem dX11_stands_84 : decode cX11_stands 84 = .ok (.getfield 222, 3) := by decide +kernel
theorem dX11_stands_87 : decode cX11_stands 87 = .ok (.getfield 226, 3) := by decide +kernel
theorem dX11_stands_90 : decode cX11_stands 90 = .ok (.iload_n 3, 1) := by decide +kernel
theorem dX11_stands_91 : decode cX11_stands 91 = .ok (.iload_n 2, 1) := by decide +kernel
theorem dX11_stands_92 : decode cX11_stands 92 = .ok (.invokestatic 205, 3) := by decide +kernel
theorem dX11_stands_95 : decode cX11_stands 95 = .ok (.bipush 10, 2) := by decide +kernel
theorem dX11_stands_97 : decode cX11_stands 97 = .ok (.imul, 1) := by decide +kernel
theorem dX11_stands_98 : decode cX11_stands 98 = .ok (.iload_n 1, 1) := by decide +kernel
theorem dX11_stands_99 : decode cX11_stands 99 = .ok (.iadd, 1) := by decide +kernel
theorem dX11_stands_100 : decode cX11_stands 100 = .ok (.laload, 1) := by decide +kernel
theorem dX11_stands_101 : decode cX11_stands 101 = .ok (.lconst 1, 1) := by decide +kernel
theorem dX11_stands_102 : decode cX11_stands 102 = .ok (.land, 1) := by decide +kernel
theorem dX11_stands_103 : decode cX11_stands 103 = .ok (.l2i, 1) := by decide +kernel
theorem dX11_stands_104 : decode cX11_stands 104 = .ok (.invokevirtual 130, 3) := by decide +kernel
theorem dX11_stands_107 : decode cX11_stands 107 = .ok (.ireturn, 1) := by decide +kernel
theorem dX11_trial_0 : decode cX11_trial 0 = .ok (.aload_n 0, 1) := by decide +kernel
theorem dX11_trial_1 : decode cX11_trial 1 = .ok (.getfield 111, 3) := by decide +kernel
theorem dX11_trial_4 : decode cX11_trial 4 = .ok (.ifCond .ne 9, 3) := by decide +kernel
theorem dX11_trial_7 : decode cX11_trial 7 = .ok (.aload_n 0, 1) := by decide +kernel
theorem dX11_trial_8 : decode cX11_trial 8 = .ok (.iconst 1, 1) := by decide +kernel
theorem dX11_trial_9 : decode cX11_trial 9 = .ok (.invokevirtual 90, 3) := by decide +kernel
theorem dX11_trial_12 : decode cX11_trial 12 = .ok (.ireturn, 1) := by decide +kernel
theorem dX11_trial_13 : decode cX11_trial 13 = .ok (.iload_n 1, 1) := by decide +kernel
theorem dX11_trial_14 : decode cX11_trial 14 = .ok (.iconst 1, 1) := by decide +kernel
theorem dX11_trial_15 : decode cX11_trial 15 = .ok (.if_icmp .lt 9, 3) := by decide +kernel
theorem dX11_trial_18 : decode cX11_trial 18 = .ok (.iload_n 1, 1) := by decide +kernel
theorem dX11_trial_19 : decode cX11_trial 19 = .ok (.bipush 100, 2) := by decide +kernel
theorem dX11_trial_21 : decode cX11_trial 21 = .ok (.if_icmp .le 9, 3) := by decide +kernel
theorem dX11_trial_24 : decode cX11_trial 24 = .ok (.aload_n 0, 1) := by decide +kernel
theorem dX11_trial_25 : decode cX11_trial 25 = .ok (.iconst 2, 1) := by decide +kernel
theorem dX11_trial_26 : decode cX11_trial 26 = .ok (.invokevirtual 90, 3) := by decide +kernel
theorem dX11_trial_29 : decode cX11_trial 29 = .ok (.ireturn, 1) := by decide +kernel
theorem dX11_trial_30 : decode cX11_trial 30 = .ok (.aload_n 0, 1) := by decide +kernel
theorem dX11_trial_31 : decode cX11_trial 31 = .ok (.getfield 65, 3) := by decide +kernel
theorem dX11_trial_34 : decode cX11_trial 34 = .ok (.aload_n 0, 1) := by decide +kernel
theorem dX11_trial_35 : decode cX11_trial 35 = .ok (.getfield 28, 3) := by decide +kernel
theorem dX11_trial_38 : decode cX11_trial 38 = .ok (.aload_n 0, 1) := by decide +kernel
theorem dX11_trial_39 : decode cX11_trial 39 = .ok (.getfield 47, 3) := by decide +kernel
theorem dX11_trial_42 : decode cX11_trial 42 = .ok (.aload_n 0, 1) := by decide +kernel
theorem dX11_trial_43 : decode cX11_trial 43 = .ok (.getfield 76, 3) := by decide +kernel
theorem dX11_trial_46 : decode cX11_trial 46 = .ok (.invokevirtual 169, 3) := by decide +kernel
theorem dX11_trial_49 : decode cX11_trial 49 = .ok (.aload_n 0, 1) := by decide +kernel
theorem dX11_trial_50 : decode cX11_trial 50 = .ok (.getfield 76, 3) := by decide +kernel
theorem dX11_trial_53 : decode cX11_trial 53 = .ok (.getfield 173, 3) := by decide +kernel
theorem dX11_trial_56 : decode cX11_trial 56 = .ok (.ifCond .ne 20, 3) := by decide +kernel
theorem dX11_trial_59 : decode cX11_trial 59 = .ok (.aload_n 0, 1) := by decide +kernel
theorem dX11_trial_60 : decode cX11_trial 60 = .ok (.getfield 65, 3) := by decide +kernel
theorem dX11_trial_63 : decode cX11_trial 63 = .ok (.getfield 139, 3) := by decide +kernel
theorem dX11_trial_66 : decode cX11_trial 66 = .ok (.aload_n 0, 1) := by decide +kernel
theorem dX11_trial_67 : decode cX11_trial 67 = .ok (.getfield 28, 3) := by decide +kernel
theorem dX11_trial_70 : decode cX11_trial 70 = .ok (.invokevirtual 232, 3) := by decide +kernel
theorem dX11_trial_73 : decode cX11_trial 73 = .ok (.ifCond .eq 9, 3) := by decide +kernel
theorem dX11_trial_76 : decode cX11_trial 76 = .ok (.aload_n 0, 1) := by decide +kernel
theorem dX11_trial_77 : decode cX11_trial 77 = .ok (.iconst 5, 1) := by decide +kernel
theorem dX11_trial_78 : decode cX11_trial 78 = .ok (.invokevirtual 90, 3) := by decide +kernel
theorem dX11_trial_81 : decode cX11_trial 81 = .ok (.ireturn, 1) := by decide +kernel
theorem dX11_trial_82 : decode cX11_trial 82 = .ok (.aload_n 0, 1) := by decide +kernel
theorem dX11_trial_83 : decode cX11_trial 83 = .ok (.aload_n 0, 1) := by decide +kernel
theorem dX11_trial_84 : decode cX11_trial 84 = .ok (.getfield 65, 3) := by decide +kernel
theorem dX11_trial_87 : decode cX11_trial 87 = .ok (.aload_n 0, 1) := by decide +kernel
theorem dX11_trial_88 : decode cX11_trial 88 = .ok (.getfield 28, 3) := by decide +kernel
theorem dX11_trial_91 : decode cX11_trial 91 = .ok (.iload_n 1, 1) := by decide +kernel
theorem dX11_trial_92 : decode cX11_trial 92 = .ok (.invokevirtual 236, 3) := by decide +kernel
theorem dX11_trial_95 : decode cX11_trial 95 = .ok (.invokevirtual 130, 3) := by decide +kernel
theorem dX11_trial_98 : decode cX11_trial 98 = .ok (.ireturn, 1) := by decide +kernel
theorem dX11_tried_0 : decode cX11_tried 0 = .ok (.aload_n 0, 1) := by decide +kernel
theorem dX11_tried_1 : decode cX11_tried 1 = .ok (.getfield 65, 3) := by decide +kernel
theorem dX11_tried_4 : decode cX11_tried 4 = .ok (.getfield 240, 3) := by decide +kernel
theorem dX11_tried_7 : decode cX11_tried 7 = .ok (.ireturn, 1) := by decide +kernel
theorem dX11_known_0 : decode cX11_known 0 = .ok (.aload_n 0, 1) := by decide +kernel
theorem dX11_known_1 : decode cX11_known 1 = .ok (.getfield 65, 3) := by decide +kernel
theorem dX11_known_4 : decode cX11_known 4 = .ok (.getfield 243, 3) := by decide +kernel
theorem dX11_known_7 : decode cX11_known 7 = .ok (.ireturn, 1) := by decide +kernel
theorem dX11_found_0 : decode cX11_found 0 = .ok (.aload_n 0, 1) := by decide +kernel
theorem dX11_found_1 : decode cX11_found 1 = .ok (.getfield 65, 3) := by decide +kernel
theorem dX11_found_4 : decode cX11_found 4 = .ok (.getfield 246, 3) := by decide +kernel
theorem dX11_found_7 : decode cX11_found 7 = .ok (.iload_n 1, 1) := by decide +kernel
theorem dX11_found_8 : decode cX11_found 8 = .ok (.invokevirtual 249, 3) := by decide +kernel
theorem dX11_found_11 : decode cX11_found 11 = .ok (.ireturn, 1) := by decide +kernel
theorem dX11_exact_0 : decode cX11_exact 0 = .ok (.aload_n 0, 1) := by decide +kernel
theorem dX11_exact_1 : decode cX11_exact 1 = .ok (.getfield 111, 3) := by decide +kernel
theorem dX11_exact_4 : decode cX11_exact 4 = .ok (.ifCond .ne 9, 3) := by decide +kernel
theorem dX11_exact_7 : decode cX11_exact 7 = .ok (.aload_n 0, 1) := by decide +kernel
theorem dX11_exact_8 : decode cX11_exact 8 = .ok (.iconst 1, 1) := by decide +kernel
theorem dX11_exact_9 : decode cX11_exact 9 = .ok (.invokevirtual 90, 3) := by decide +kernel
theorem dX11_exact_12 : decode cX11_exact 12 = .ok (.ireturn, 1) := by decide +kernel
theorem dX11_exact_13 : decode cX11_exact 13 = .ok (.aload_n 0, 1) := by decide +kernel
theorem dX11_exact_14 : decode cX11_exact 14 = .ok (.getfield 65, 3) := by decide +kernel
theorem dX11_exact_17 : decode cX11_exact 17 = .ok (.getfield 139, 3) := by decide +kernel
theorem dX11_exact_20 : decode cX11_exact 20 = .ok (.aload_n 0, 1) := by decide +kernel
theorem dX11_exact_21 : decode cX11_exact 21 = .ok (.getfield 28, 3) := by decide +kernel
theorem dX11_exact_24 : decode cX11_exact 24 = .ok (.invokevirtual 232, 3) := by decide +kernel
theorem dX11_exact_27 : decode cX11_exact 27 = .ok (.ifCond .eq 9, 3) := by decide +kernel
theorem dX11_exact_30 : decode cX11_exact 30 = .ok (.aload_n 0, 1) := by decide +kernel
theorem dX11_exact_31 : decode cX11_exact 31 = .ok (.iconst 5, 1) := by decide +kernel
theorem dX11_exact_32 : decode cX11_exact 32 = .ok (.invokevirtual 90, 3) := by decide +kernel
theorem dX11_exact_35 : decode cX11_exact 35 = .ok (.ireturn, 1) := by decide +kernel
theorem dX11_exact_36 : decode cX11_exact 36 = .ok (.aload_n 0, 1) := by decide +kernel
theorem dX11_exact_37 : decode cX11_exact 37 = .ok (.aload_n 0, 1) := by decide +kernel
theorem dX11_exact_38 : decode cX11_exact 38 = .ok (.getfield 65, 3) := by decide +kernel
theorem dX11_exact_41 : decode cX11_exact 41 = .ok (.aload_n 0, 1) := by decide +kernel
theorem dX11_exact_42 : decode cX11_exact 42 = .ok (.getfield 28, 3) := by decide +kernel
theorem dX11_exact_45 : decode cX11_exact 45 = .ok (.invokevirtual 251, 3) := by decide +kernel
theorem dX11_exact_48 : decode cX11_exact 48 = .ok (.invokevirtual 130, 3) := by decide +kernel
theorem dX11_exact_51 : decode cX11_exact 51 = .ok (.ireturn, 1) := by decide +kernel
theorem dX11_exactly_0 : decode cX11_exactly 0 = .ok (.aload_n 0, 1) := by decide +kernel
theorem dX11_exactly_1 : decode cX11_exactly 1 = .ok (.getfield 65, 3) := by decide +kernel
theorem dX11_exactly_4 : decode cX11_exactly 4 = .ok (.getfield 255, 3) := by decide +kernel
theorem dX11_exactly_7 : decode cX11_exactly 7 = .ok (.iload_n 1, 1) := by decide +kernel
theorem dX11_exactly_8 : decode cX11_exactly 8 = .ok (.invokevirtual 249, 3) := by decide +kernel
theorem dX11_exactly_11 : decode cX11_exactly 11 = .ok (.ireturn, 1) := by decide +kernel
theorem dX11_cut_0 : decode cX11_cut 0 = .ok (.aload_n 0, 1) := by decide +kernel
theorem dX11_cut_1 : decode cX11_cut 1 = .ok (.getfield 111, 3) := by decide +kernel
theorem dX11_cut_4 : decode cX11_cut 4 = .ok (.ifCond .ne 9, 3) := by decide +kernel
theorem dX11_cut_7 : decode cX11_cut 7 = .ok (.aload_n 0, 1) := by decide +kernel
theorem dX11_cut_8 : decode cX11_cut 8 = .ok (.iconst 1, 1) := by decide +kernel
theorem dX11_cut_9 : decode cX11_cut 9 = .ok (.invokevirtual 90, 3) := by decide +kernel
theorem dX11_cut_12 : decode cX11_cut 12 = .ok (.ireturn, 1) := by decide +kernel
theorem dX11_cut_13 : decode cX11_cut 13 = .ok (.aload_n 0, 1) := by decide +kernel
theorem dX11_cut_14 : decode cX11_cut 14 = .ok (.aload_n 0, 1) := by decide +kernel
theorem dX11_cut_15 : decode cX11_cut 15 = .ok (.getfield 28, 3) := by decide +kernel
theorem dX11_cut_18 : decode cX11_cut 18 = .ok (.aload_n 0, 1) := by decide +kernel
theorem dX11_cut_19 : decode cX11_cut 19 = .ok (.getfield 43, 3) := by decide +kernel
theorem dX11_cut_22 : decode cX11_cut 22 = .ok (.invokevirtual 258, 3) := by decide +kernel
theorem dX11_cut_25 : decode cX11_cut 25 = .ok (.ifCond .ne 9, 3) := by decide +kernel
theorem dX11_cut_28 : decode cX11_cut 28 = .ok (.aload_n 0, 1) := by decide +kernel
theorem dX11_cut_29 : decode cX11_cut 29 = .ok (.iconst 5, 1) := by decide +kernel
theorem dX11_cut_30 : decode cX11_cut 30 = .ok (.invokevirtual 90, 3) := by decide +kernel
theorem dX11_cut_33 : decode cX11_cut 33 = .ok (.ireturn, 1) := by decide +kernel
theorem dX11_cut_34 : decode cX11_cut 34 = .ok (.aload_n 0, 1) := by decide +kernel
theorem dX11_cut_35 : decode cX11_cut 35 = .ok (.getfield 43, 3) := by decide +kernel
theorem dX11_cut_38 : decode cX11_cut 38 = .ok (.getfield 163, 3) := by decide +kernel
theorem dX11_cut_41 : decode cX11_cut 41 = .ok (.iconst 1, 1) := by decide +kernel
theorem dX11_cut_42 : decode cX11_cut 42 = .ok (.isub, 1) := by decide +kernel
theorem dX11_cut_43 : decode cX11_cut 43 = .ok (.istore_n 1, 1) := by decide +kernel
theorem dX11_cut_44 : decode cX11_cut 44 = .ok (.iload_n 1, 1) := by decide +kernel
theorem dX11_cut_45 : decode cX11_cut 45 = .ok (.ifCond .lt 54, 3) := by decide +kernel
theorem dX11_cut_48 : decode cX11_cut 48 = .ok (.aload_n 0, 1) := by decide +kernel
theorem dX11_cut_49 : decode cX11_cut 49 = .ok (.getfield 50, 3) := by decide +kernel
theorem dX11_cut_52 : decode cX11_cut 52 = .ok (.aload_n 0, 1) := by decide +kernel
theorem dX11_cut_53 : decode cX11_cut 53 = .ok (.getfield 43, 3) := by decide +kernel
theorem dX11_cut_56 : decode cX11_cut 56 = .ok (.invokevirtual 262, 3) := by decide +kernel
theorem dX11_cut_59 : decode cX11_cut 59 = .ok (.aload_n 0, 1) := by decide +kernel
theorem dX11_cut_60 : decode cX11_cut 60 = .ok (.getfield 50, 3) := by decide +kernel
theorem dX11_cut_63 : decode cX11_cut 63 = .ok (.iload_n 1, 1) := by decide +kernel
theorem dX11_cut_64 : decode cX11_cut 64 = .ok (.invokevirtual 266, 3) := by decide +kernel
theorem dX11_cut_67 : decode cX11_cut 67 = .ok (.aload_n 0, 1) := by decide +kernel
theorem dX11_cut_68 : decode cX11_cut 68 = .ok (.aload_n 0, 1) := by decide +kernel
theorem dX11_cut_69 : decode cX11_cut 69 = .ok (.getfield 28, 3) := by decide +kernel
theorem dX11_cut_72 : decode cX11_cut 72 = .ok (.aload_n 0, 1) := by decide +kernel
theorem dX11_cut_73 : decode cX11_cut 73 = .ok (.getfield 50, 3) := by decide +kernel
theorem dX11_cut_76 : decode cX11_cut 76 = .ok (.invokevirtual 258, 3) := by decide +kernel
theorem dX11_cut_79 : decode cX11_cut 79 = .ok (.ifCond .eq 14, 3) := by decide +kernel
theorem dX11_cut_82 : decode cX11_cut 82 = .ok (.aload_n 0, 1) := by decide +kernel
theorem dX11_cut_83 : decode cX11_cut 83 = .ok (.getfield 43, 3) := by decide +kernel
theorem dX11_cut_86 : decode cX11_cut 86 = .ok (.aload_n 0, 1) := by decide +kernel
theorem dX11_cut_87 : decode cX11_cut 87 = .ok (.getfield 50, 3) := by decide +kernel
theorem dX11_cut_90 : decode cX11_cut 90 = .ok (.invokevirtual 262, 3) := by decide +kernel
theorem dX11_cut_93 : decode cX11_cut 93 = .ok (.iinc 1 (-1), 3) := by decide +kernel
theorem dX11_cut_96 : decode cX11_cut 96 = .ok (.goto (-52), 3) := by decide +kernel
theorem dX11_cut_99 : decode cX11_cut 99 = .ok (.aload_n 0, 1) := by decide +kernel
theorem dX11_cut_100 : decode cX11_cut 100 = .ok (.aload_n 0, 1) := by decide +kernel
theorem dX11_cut_101 : decode cX11_cut 101 = .ok (.getfield 43, 3) := by decide +kernel
theorem dX11_cut_104 : decode cX11_cut 104 = .ok (.getfield 163, 3) := by decide +kernel
theorem dX11_cut_107 : decode cX11_cut 107 = .ok (.invokevirtual 130, 3) := by decide +kernel
theorem dX11_cut_110 : decode cX11_cut 110 = .ok (.ireturn, 1) := by decide +kernel
theorem dX11_told_0 : decode cX11_told 0 = .ok (.aload_n 0, 1) := by decide +kernel
theorem dX11_told_1 : decode cX11_told 1 = .ok (.getfield 43, 3) := by decide +kernel
theorem dX11_told_4 : decode cX11_told 4 = .ok (.iload_n 1, 1) := by decide +kernel
theorem dX11_told_5 : decode cX11_told 5 = .ok (.invokevirtual 249, 3) := by decide +kernel
theorem dX11_told_8 : decode cX11_told 8 = .ok (.ireturn, 1) := by decide +kernel
theorem dX11_start_0 : decode cX11_start 0 = .ok (.aload_n 0, 1) := by decide +kernel
theorem dX11_start_1 : decode cX11_start 1 = .ok (.getfield 111, 3) := by decide +kernel
theorem dX11_start_4 : decode cX11_start 4 = .ok (.ifCond .ne 18, 3) := by decide +kernel
theorem dX11_start_7 : decode cX11_start 7 = .ok (.aload_n 0, 1) := by decide +kernel
theorem dX11_start_8 : decode cX11_start 8 = .ok (.iconst 1, 1) := by decide +kernel
theorem dX11_start_9 : decode cX11_start 9 = .ok (.invokevirtual 90, 3) := by decide +kernel
theorem dX11_start_12 : decode cX11_start 12 = .ok (.iconst (-1), 1) := by decide +kernel
theorem dX11_start_13 : decode cX11_start 13 = .ok (.if_icmp .eq 7, 3) := by decide +kernel
theorem dX11_start_16 : decode cX11_start 16 = .ok (.iconst 1, 1) := by decide +kernel
theorem dX11_start_17 : decode cX11_start 17 = .ok (.goto 4, 3) := by decide +kernel
theorem dX11_start_20 : decode cX11_start 20 = .ok (.iconst 0, 1) := by decide +kernel
theorem dX11_start_21 : decode cX11_start 21 = .ok (.ireturn, 1) := by decide +kernel
theorem dX11_start_22 : decode cX11_start 22 = .ok (.iload_n 1, 1) := by decide +kernel
theorem dX11_start_23 : decode cX11_start 23 = .ok (.ifCond .lt 19, 3) := by decide +kernel
theorem dX11_start_26 : decode cX11_start 26 = .ok (.iload_n 1, 1) := by decide +kernel
theorem dX11_start_27 : decode cX11_start 27 = .ok (.iconst 1, 1) := by decide +kernel
theorem dX11_start_28 : decode cX11_start 28 = .ok (.aload_n 0, 1) := by decide +kernel
theorem dX11_start_29 : decode cX11_start 29 = .ok (.getfield 28, 3) := by decide +kernel
theorem dX11_start_32 : decode cX11_start 32 = .ok (.getfield 32, 3) := by decide +kernel
theorem dX11_start_35 : decode cX11_start 35 = .ok (.getfield 269, 3) := by decide +kernel
theorem dX11_start_38 : decode cX11_start 38 = .ok (.ishl, 1) := by decide +kernel
theorem dX11_start_39 : decode cX11_start 39 = .ok (.if_icmp .lt 18, 3) := by decide +kernel
theorem dX11_start_42 : decode cX11_start 42 = .ok (.aload_n 0, 1) := by decide +kernel
theorem dX11_start_43 : decode cX11_start 43 = .ok (.iconst 2, 1) := by decide +kernel
theorem dX11_start_44 : decode cX11_start 44 = .ok (.invokevirtual 90, 3) := by decide +kernel
theorem dX11_start_47 : decode cX11_start 47 = .ok (.iconst (-1), 1) := by decide +kernel
theorem dX11_start_48 : decode cX11_start 48 = .ok (.if_icmp .eq 7, 3) := by decide +kernel
theorem dX11_start_51 : decode cX11_start 51 = .ok (.iconst 1, 1) := by decide +kernel
theorem dX11_start_52 : decode cX11_start 52 = .ok (.goto 4, 3) := by decide +kernel
theorem dX11_start_55 : decode cX11_start 55 = .ok (.iconst 0, 1) := by decide +kernel
theorem dX11_start_56 : decode cX11_start 56 = .ok (.ireturn, 1) := by decide +kernel
theorem dX11_start_57 : decode cX11_start 57 = .ok (.aload_n 0, 1) := by decide +kernel
theorem dX11_start_58 : decode cX11_start 58 = .ok (.getfield 28, 3) := by decide +kernel
theorem dX11_start_61 : decode cX11_start 61 = .ok (.iload_n 1, 1) := by decide +kernel
theorem dX11_start_62 : decode cX11_start 62 = .ok (.putfield 272, 3) := by decide +kernel
theorem dX11_start_65 : decode cX11_start 65 = .ok (.aload_n 0, 1) := by decide +kernel
theorem dX11_start_66 : decode cX11_start 66 = .ok (.iconst 1, 1) := by decide +kernel
theorem dX11_start_67 : decode cX11_start 67 = .ok (.invokevirtual 130, 3) := by decide +kernel
theorem dX11_start_70 : decode cX11_start 70 = .ok (.iconst 1, 1) := by decide +kernel
theorem dX11_start_71 : decode cX11_start 71 = .ok (.if_icmp .ne 7, 3) := by decide +kernel
theorem dX11_start_74 : decode cX11_start 74 = .ok (.iconst 1, 1) := by decide +kernel
theorem dX11_start_75 : decode cX11_start 75 = .ok (.goto 4, 3) := by decide +kernel
theorem dX11_start_78 : decode cX11_start 78 = .ok (.iconst 0, 1) := by decide +kernel
theorem dX11_start_79 : decode cX11_start 79 = .ok (.ireturn, 1) := by decide +kernel
theorem dX11_thin_0 : decode cX11_thin 0 = .ok (.aload_n 0, 1) := by decide +kernel
theorem dX11_thin_1 : decode cX11_thin 1 = .ok (.getfield 111, 3) := by decide +kernel
theorem dX11_thin_4 : decode cX11_thin 4 = .ok (.ifCond .ne 9, 3) := by decide +kernel
theorem dX11_thin_7 : decode cX11_thin 7 = .ok (.aload_n 0, 1) := by decide +kernel
theorem dX11_thin_8 : decode cX11_thin 8 = .ok (.iconst 1, 1) := by decide +kernel
theorem dX11_thin_9 : decode cX11_thin 9 = .ok (.invokevirtual 90, 3) := by decide +kernel
theorem dX11_thin_12 : decode cX11_thin 12 = .ok (.ireturn, 1) := by decide +kernel
theorem dX11_thin_13 : decode cX11_thin 13 = .ok (.aload_n 0, 1) := by decide +kernel
theorem dX11_thin_14 : decode cX11_thin 14 = .ok (.getfield 65, 3) := by decide +kernel
theorem dX11_thin_17 : decode cX11_thin 17 = .ok (.getfield 139, 3) := by decide +kernel
theorem dX11_thin_20 : decode cX11_thin 20 = .ok (.aload_n 0, 1) := by decide +kernel
theorem dX11_thin_21 : decode cX11_thin 21 = .ok (.getfield 28, 3) := by decide +kernel
theorem dX11_thin_24 : decode cX11_thin 24 = .ok (.invokevirtual 232, 3) := by decide +kernel
theorem dX11_thin_27 : decode cX11_thin 27 = .ok (.ifCond .eq 9, 3) := by decide +kernel
theorem dX11_thin_30 : decode cX11_thin 30 = .ok (.aload_n 0, 1) := by decide +kernel
theorem dX11_thin_31 : decode cX11_thin 31 = .ok (.iconst 5, 1) := by decide +kernel
theorem dX11_thin_32 : decode cX11_thin 32 = .ok (.invokevirtual 90, 3) := by decide +kernel
theorem dX11_thin_35 : decode cX11_thin 35 = .ok (.ireturn, 1) := by decide +kernel
theorem dX11_thin_36 : decode cX11_thin 36 = .ok (.aload_n 0, 1) := by decide +kernel
theorem dX11_thin_37 : decode cX11_thin 37 = .ok (.getfield 35, 3) := by decide +kernel
theorem dX11_thin_40 : decode cX11_thin 40 = .ok (.aload_n 0, 1) := by decide +kernel
theorem dX11_thin_41 : decode cX11_thin 41 = .ok (.getfield 28, 3) := by decide +kernel
theorem dX11_thin_44 : decode cX11_thin 44 = .ok (.invokevirtual 275, 3) := by decide +kernel
theorem dX11_thin_47 : decode cX11_thin 47 = .ok (.aload_n 0, 1) := by decide +kernel
theorem dX11_thin_48 : decode cX11_thin 48 = .ok (.getfield 65, 3) := by decide +kernel
theorem dX11_thin_51 : decode cX11_thin 51 = .ok (.aload_n 0, 1) := by decide +kernel
theorem dX11_thin_52 : decode cX11_thin 52 = .ok (.getfield 35, 3) := by decide +kernel
theorem dX11_thin_55 : decode cX11_thin 55 = .ok (.invokevirtual 278, 3) := by decide +kernel
theorem dX11_thin_58 : decode cX11_thin 58 = .ok (.istore_n 1, 1) := by decide +kernel
theorem dX11_thin_59 : decode cX11_thin 59 = .ok (.iload_n 1, 1) := by decide +kernel
theorem dX11_thin_60 : decode cX11_thin 60 = .ok (.iconst (-1), 1) := by decide +kernel
theorem dX11_thin_61 : decode cX11_thin 61 = .ok (.if_icmp .ne 12, 3) := by decide +kernel
theorem dX11_thin_64 : decode cX11_thin 64 = .ok (.aload_n 0, 1) := by decide +kernel
theorem dX11_thin_65 : decode cX11_thin 65 = .ok (.bipush 6, 2) := by decide +kernel
theorem dX11_thin_67 : decode cX11_thin 67 = .ok (.invokevirtual 90, 3) := by decide +kernel
theorem dX11_thin_70 : decode cX11_thin 70 = .ok (.goto 8, 3) := by decide +kernel
theorem dX11_thin_73 : decode cX11_thin 73 = .ok (.aload_n 0, 1) := by decide +kernel
theorem dX11_thin_74 : decode cX11_thin 74 = .ok (.iload_n 1, 1) := by decide +kernel
theorem dX11_thin_75 : decode cX11_thin 75 = .ok (.invokevirtual 130, 3) := by decide +kernel
theorem dX11_thin_78 : decode cX11_thin 78 = .ok (.ireturn, 1) := by decide +kernel
theorem dX11_thinness_0 : decode cX11_thinness 0 = .ok (.aload_n 0, 1) := by decide +kernel
theorem dX11_thinness_1 : decode cX11_thinness 1 = .ok (.getfield 65, 3) := by decide +kernel
theorem dX11_thinness_4 : decode cX11_thinness 4 = .ok (.getfield 281, 3) := by decide +kernel
theorem dX11_thinness_7 : decode cX11_thinness 7 = .ok (.ireturn, 1) := by decide +kernel
theorem dX11_led_0 : decode cX11_led 0 = .ok (.aload_n 0, 1) := by decide +kernel
theorem dX11_led_1 : decode cX11_led 1 = .ok (.getfield 111, 3) := by decide +kernel
theorem dX11_led_4 : decode cX11_led 4 = .ok (.ifCond .eq 16, 3) := by decide +kernel
theorem dX11_led_7 : decode cX11_led 7 = .ok (.iload_n 1, 1) := by decide +kernel
theorem dX11_led_8 : decode cX11_led 8 = .ok (.ifCond .lt 12, 3) := by decide +kernel
theorem dX11_led_11 : decode cX11_led 11 = .ok (.iload_n 1, 1) := by decide +kernel
theorem dX11_led_12 : decode cX11_led 12 = .ok (.aload_n 0, 1) := by decide +kernel
theorem dX11_led_13 : decode cX11_led 13 = .ok (.getfield 79, 3) := by decide +kernel
theorem dX11_led_16 : decode cX11_led 16 = .ok (.arraylength, 1) := by decide +kernel
theorem dX11_led_17 : decode cX11_led 17 = .ok (.if_icmp .lt 11, 3) := by decide +kernel
theorem dX11_led_20 : decode cX11_led 20 = .ok (.new 190, 3) := by decide +kernel
theorem dX11_led_23 : decode cX11_led 23 = .ok (.dup, 1) := by decide +kernel
theorem dX11_led_24 : decode cX11_led 24 = .ok (.invokespecial 192, 3) := by decide +kernel
theorem dX11_led_27 : decode cX11_led 27 = .ok (.athrow, 1) := by decide +kernel
theorem dX11_led_28 : decode cX11_led 28 = .ok (.aload_n 0, 1) := by decide +kernel
theorem dX11_led_29 : decode cX11_led 29 = .ok (.getfield 65, 3) := by decide +kernel
theorem dX11_led_32 : decode cX11_led 32 = .ok (.aload_n 0, 1) := by decide +kernel
theorem dX11_led_33 : decode cX11_led 33 = .ok (.getfield 28, 3) := by decide +kernel
theorem dX11_led_36 : decode cX11_led 36 = .ok (.aload_n 0, 1) := by decide +kernel
theorem dX11_led_37 : decode cX11_led 37 = .ok (.getfield 43, 3) := by decide +kernel
theorem dX11_led_40 : decode cX11_led 40 = .ok (.aload_n 0, 1) := by decide +kernel
theorem dX11_led_41 : decode cX11_led 41 = .ok (.getfield 72, 3) := by decide +kernel
theorem dX11_led_44 : decode cX11_led 44 = .ok (.invokevirtual 169, 3) := by decide +kernel
theorem dX11_led_47 : decode cX11_led 47 = .ok (.iload_n 1, 1) := by decide +kernel
theorem dX11_led_48 : decode cX11_led 48 = .ok (.aload_n 0, 1) := by decide +kernel
theorem dX11_led_49 : decode cX11_led 49 = .ok (.getfield 72, 3) := by decide +kernel
theorem dX11_led_52 : decode cX11_led 52 = .ok (.aload_n 0, 1) := by decide +kernel
theorem dX11_led_53 : decode cX11_led 53 = .ok (.getfield 28, 3) := by decide +kernel
theorem dX11_led_56 : decode cX11_led 56 = .ok (.aload_n 0, 1) := by decide +kernel
theorem dX11_led_57 : decode cX11_led 57 = .ok (.getfield 79, 3) := by decide +kernel
theorem dX11_led_60 : decode cX11_led 60 = .ok (.invokevirtual 284, 3) := by decide +kernel
theorem dX11_led_63 : decode cX11_led 63 = .ok (.if_icmp .lt 11, 3) := by decide +kernel
theorem dX11_led_66 : decode cX11_led 66 = .ok (.new 190, 3) := by decide +kernel
theorem dX11_led_69 : decode cX11_led 69 = .ok (.dup, 1) := by decide +kernel
theorem dX11_led_70 : decode cX11_led 70 = .ok (.invokespecial 192, 3) := by decide +kernel
theorem dX11_led_73 : decode cX11_led 73 = .ok (.athrow, 1) := by decide +kernel
theorem dX11_led_74 : decode cX11_led 74 = .ok (.aload_n 0, 1) := by decide +kernel
theorem dX11_led_75 : decode cX11_led 75 = .ok (.getfield 79, 3) := by decide +kernel
theorem dX11_led_78 : decode cX11_led 78 = .ok (.iload_n 1, 1) := by decide +kernel
theorem dX11_led_79 : decode cX11_led 79 = .ok (.iaload, 1) := by decide +kernel
theorem dX11_led_80 : decode cX11_led 80 = .ok (.ireturn, 1) := by decide +kernel
theorem dX11_mend_0 : decode cX11_mend 0 = .ok (.iload_n 1, 1) := by decide +kernel
theorem dX11_mend_1 : decode cX11_mend 1 = .ok (.ifCond .lt 8, 3) := by decide +kernel
theorem dX11_mend_4 : decode cX11_mend 4 = .ok (.iload_n 1, 1) := by decide +kernel
theorem dX11_mend_5 : decode cX11_mend 5 = .ok (.iconst 2, 1) := by decide +kernel
theorem dX11_mend_6 : decode cX11_mend 6 = .ok (.if_icmp .le 9, 3) := by decide +kernel
theorem dX11_mend_9 : decode cX11_mend 9 = .ok (.aload_n 0, 1) := by decide +kernel
theorem dX11_mend_10 : decode cX11_mend 10 = .ok (.iconst 1, 1) := by decide +kernel
theorem dX11_mend_11 : decode cX11_mend 11 = .ok (.invokevirtual 90, 3) := by decide +kernel
theorem dX11_mend_14 : decode cX11_mend 14 = .ok (.ireturn, 1) := by decide +kernel
theorem dX11_mend_15 : decode cX11_mend 15 = .ok (.iload_n 1, 1) := by decide +kernel
theorem dX11_mend_16 : decode cX11_mend 16 = .ok (.ifCond .ne 16, 3) := by decide +kernel
theorem dX11_mend_19 : decode cX11_mend 19 = .ok (.aload_n 0, 1) := by decide +kernel
theorem dX11_mend_20 : decode cX11_mend 20 = .ok (.getfield 28, 3) := by decide +kernel
theorem dX11_mend_23 : decode cX11_mend 23 = .ok (.getfield 32, 3) := by decide +kernel
theorem dX11_mend_26 : decode cX11_mend 26 = .ok (.getfield 288, 3) := by decide +kernel
theorem dX11_mend_29 : decode cX11_mend 29 = .ok (.goto 13, 3) := by decide +kernel
theorem dX11_mend_32 : decode cX11_mend 32 = .ok (.aload_n 0, 1) := by decide +kernel
theorem dX11_mend_33 : decode cX11_mend 33 = .ok (.getfield 28, 3) := by decide +kernel
theorem dX11_mend_36 : decode cX11_mend 36 = .ok (.getfield 32, 3) := by decide +kernel
theorem dX11_mend_39 : decode cX11_mend 39 = .ok (.getfield 127, 3) := by decide +kernel
theorem dX11_mend_42 : decode cX11_mend 42 = .ok (.istore_n 3, 1) := by decide +kernel
theorem dX11_mend_43 : decode cX11_mend 43 = .ok (.iload_n 2, 1) := by decide +kernel
theorem dX11_mend_44 : decode cX11_mend 44 = .ok (.ifCond .lt 8, 3) := by decide +kernel
theorem dX11_mend_47 : decode cX11_mend 47 = .ok (.iload_n 2, 1) := by decide +kernel
theorem dX11_mend_48 : decode cX11_mend 48 = .ok (.iload_n 3, 1) := by decide +kernel
theorem dX11_mend_49 : decode cX11_mend 49 = .ok (.if_icmp .lt 9, 3) := by decide +kernel
theorem dX11_mend_52 : decode cX11_mend 52 = .ok (.aload_n 0, 1) := by decide +kernel
theorem dX11_mend_53 : decode cX11_mend 53 = .ok (.iconst 1, 1) := by decide +kernel
theorem dX11_mend_54 : decode cX11_mend 54 = .ok (.invokevirtual 90, 3) := by decide +kernel
theorem dX11_mend_57 : decode cX11_mend 57 = .ok (.ireturn, 1) := by decide +kernel
theorem dX11_mend_58 : decode cX11_mend 58 = .ok (.iload_n 1, 1) := by decide +kernel
theorem dX11_mend_59 : decode cX11_mend 59 = .ok (.bipush 10, 2) := by decide +kernel
theorem dX11_mend_61 : decode cX11_mend 61 = .ok (.imul, 1) := by decide +kernel
theorem dX11_mend_62 : decode cX11_mend 62 = .ok (.iload_n 2, 1) := by decide +kernel
theorem dX11_mend_63 : decode cX11_mend 63 = .ok (.iadd, 1) := by decide +kernel
theorem dX11_mend_64 : decode cX11_mend 64 = .ok (.istore 4, 2) := by decide +kernel
theorem dX11_mend_66 : decode cX11_mend 66 = .ok (.aload_n 0, 1) := by decide +kernel
theorem dX11_mend_67 : decode cX11_mend 67 = .ok (.getfield 53, 3) := by decide +kernel
theorem dX11_mend_70 : decode cX11_mend 70 = .ok (.iload 4, 2) := by decide +kernel
theorem dX11_mend_72 : decode cX11_mend 72 = .ok (.invokevirtual 159, 3) := by decide +kernel
theorem dX11_mend_75 : decode cX11_mend 75 = .ok (.ifCond .eq 9, 3) := by decide +kernel
theorem dX11_mend_78 : decode cX11_mend 78 = .ok (.aload_n 0, 1) := by decide +kernel
theorem dX11_mend_79 : decode cX11_mend 79 = .ok (.iconst 5, 1) := by decide +kernel
theorem dX11_mend_80 : decode cX11_mend 80 = .ok (.invokevirtual 90, 3) := by decide +kernel
theorem dX11_mend_83 : decode cX11_mend 83 = .ok (.ireturn, 1) := by decide +kernel
theorem dX11_mend_84 : decode cX11_mend 84 = .ok (.aload_n 0, 1) := by decide +kernel
theorem dX11_mend_85 : decode cX11_mend 85 = .ok (.getfield 53, 3) := by decide +kernel
theorem dX11_mend_88 : decode cX11_mend 88 = .ok (.getfield 163, 3) := by decide +kernel
theorem dX11_mend_91 : decode cX11_mend 91 = .ok (.bipush 6, 2) := by decide +kernel
theorem dX11_mend_93 : decode cX11_mend 93 = .ok (.if_icmp .ne 9, 3) := by decide +kernel
theorem dX11_mend_96 : decode cX11_mend 96 = .ok (.aload_n 0, 1) := by decide +kernel
theorem dX11_mend_97 : decode cX11_mend 97 = .ok (.iconst 3, 1) := by decide +kernel
theorem dX11_mend_98 : decode cX11_mend 98 = .ok (.invokevirtual 90, 3) := by decide +kernel
theorem dX11_mend_101 : decode cX11_mend 101 = .ok (.ireturn, 1) := by decide +kernel
theorem dX11_mend_102 : decode cX11_mend 102 = .ok (.aload_n 0, 1) := by decide +kernel
theorem dX11_mend_103 : decode cX11_mend 103 = .ok (.getfield 53, 3) := by decide +kernel
theorem dX11_mend_106 : decode cX11_mend 106 = .ok (.iload 4, 2) := by decide +kernel
theorem dX11_mend_108 : decode cX11_mend 108 = .ok (.invokevirtual 291, 3) := by decide +kernel
theorem dX11_mend_111 : decode cX11_mend 111 = .ok (.aload_n 0, 1) := by decide +kernel
theorem dX11_mend_112 : decode cX11_mend 112 = .ok (.aload_n 0, 1) := by decide +kernel
theorem dX11_mend_113 : decode cX11_mend 113 = .ok (.getfield 53, 3) := by decide +kernel
theorem dX11_mend_116 : decode cX11_mend 116 = .ok (.getfield 163, 3) := by decide +kernel
theorem dX11_mend_119 : decode cX11_mend 119 = .ok (.iconst 1, 1) := by decide +kernel
theorem dX11_mend_120 : decode cX11_mend 120 = .ok (.isub, 1) := by decide +kernel
theorem dX11_mend_121 : decode cX11_mend 121 = .ok (.invokevirtual 130, 3) := by decide +kernel
theorem dX11_mend_124 : decode cX11_mend 124 = .ok (.ireturn, 1) := by decide +kernel
theorem dX11_keep_0 : decode cX11_keep 0 = .ok (.aload_n 0, 1) := by decide +kernel
theorem dX11_keep_1 : decode cX11_keep 1 = .ok (.getfield 111, 3) := by decide +kernel
theorem dX11_keep_4 : decode cX11_keep 4 = .ok (.ifCond .ne 9, 3) := by decide +kernel
theorem dX11_keep_7 : decode cX11_keep 7 = .ok (.aload_n 0, 1) := by decide +kernel
theorem dX11_keep_8 : decode cX11_keep 8 = .ok (.iconst 1, 1) := by decide +kernel
theorem dX11_keep_9 : decode cX11_keep 9 = .ok (.invokevirtual 90, 3) := by decide +kernel
theorem dX11_keep_12 : decode cX11_keep 12 = .ok (.ireturn, 1) := by decide +kernel
theorem dX11_keep_13 : decode cX11_keep 13 = .ok (.aload_n 0, 1) := by decide +kernel
theorem dX11_keep_14 : decode cX11_keep 14 = .ok (.getfield 43, 3) := by decide +kernel
theorem dX11_keep_17 : decode cX11_keep 17 = .ok (.getfield 163, 3) := by decide +kernel
theorem dX11_keep_20 : decode cX11_keep 20 = .ok (.ifCond .ne 9, 3) := by decide +kernel
theorem dX11_keep_23 : decode cX11_keep 23 = .ok (.aload_n 0, 1) := by decide +kernel
theorem dX11_keep_24 : decode cX11_keep 24 = .ok (.iconst 5, 1) := by decide +kernel
theorem dX11_keep_25 : decode cX11_keep 25 = .ok (.invokevirtual 90, 3) := by decide +kernel
theorem dX11_keep_28 : decode cX11_keep 28 = .ok (.ireturn, 1) := by decide +kernel
theorem dX11_keep_29 : decode cX11_keep 29 = .ok (.aload_n 0, 1) := by decide +kernel
theorem dX11_keep_30 : decode cX11_keep 30 = .ok (.getfield 118, 3) := by decide +kernel
theorem dX11_keep_33 : decode cX11_keep 33 = .ok (.bipush 8, 2) := by decide +kernel
theorem dX11_keep_35 : decode cX11_keep 35 = .ok (.if_icmp .ne 9, 3) := by decide +kernel
theorem dX11_keep_38 : decode cX11_keep 38 = .ok (.aload_n 0, 1) := by decide +kernel
theorem dX11_keep_39 : decode cX11_keep 39 = .ok (.iconst 3, 1) := by decide +kernel
theorem dX11_keep_40 : decode cX11_keep 40 = .ok (.invokevirtual 90, 3) := by decide +kernel
theorem dX11_keep_43 : decode cX11_keep 43 = .ok (.ireturn, 1) := by decide +kernel
theorem dX11_keep_44 : decode cX11_keep 44 = .ok (.aload_n 0, 1) := by decide +kernel
theorem dX11_keep_45 : decode cX11_keep 45 = .ok (.getfield 56, 3) := by decide +kernel
theorem dX11_keep_48 : decode cX11_keep 48 = .ok (.aload_n 0, 1) := by decide +kernel
theorem dX11_keep_49 : decode cX11_keep 49 = .ok (.getfield 118, 3) := by decide +kernel
theorem dX11_keep_52 : decode cX11_keep 52 = .ok (.aaload, 1) := by decide +kernel
theorem dX11_keep_53 : decode cX11_keep 53 = .ok (.aload_n 0, 1) := by decide +kernel
theorem dX11_keep_54 : decode cX11_keep 54 = .ok (.getfield 43, 3) := by decide +kernel
theorem dX11_keep_57 : decode cX11_keep 57 = .ok (.invokevirtual 262, 3) := by decide +kernel
theorem dX11_keep_60 : decode cX11_keep 60 = .ok (.aload_n 0, 1) := by decide +kernel
theorem dX11_keep_61 : decode cX11_keep 61 = .ok (.dup, 1) := by decide +kernel
theorem dX11_keep_62 : decode cX11_keep 62 = .ok (.getfield 118, 3) := by decide +kernel
theorem dX11_keep_65 : decode cX11_keep 65 = .ok (.iconst 1, 1) := by decide +kernel
theorem dX11_keep_66 : decode cX11_keep 66 = .ok (.iadd, 1) := by decide +kernel
theorem dX11_keep_67 : decode cX11_keep 67 = .ok (.putfield 118, 3) := by decide +kernel
theorem dX11_keep_70 : decode cX11_keep 70 = .ok (.aload_n 0, 1) := by decide +kernel
theorem dX11_keep_71 : decode cX11_keep 71 = .ok (.aload_n 0, 1) := by decide +kernel
theorem dX11_keep_72 : decode cX11_keep 72 = .ok (.getfield 118, 3) := by decide +kernel
theorem dX11_keep_75 : decode cX11_keep 75 = .ok (.invokevirtual 130, 3) := by decide +kernel
theorem dX11_keep_78 : decode cX11_keep 78 = .ok (.ireturn, 1) := by decide +kernel
theorem dX11_fit_0 : decode cX11_fit 0 = .ok (.aload_n 0, 1) := by decide +kernel
theorem dX11_fit_1 : decode cX11_fit 1 = .ok (.getfield 111, 3) := by decide +kernel
theorem dX11_fit_4 : decode cX11_fit 4 = .ok (.ifCond .ne 9, 3) := by decide +kernel
theorem dX11_fit_7 : decode cX11_fit 7 = .ok (.aload_n 0, 1) := by decide +kernel
theorem dX11_fit_8 : decode cX11_fit 8 = .ok (.iconst 1, 1) := by decide +kernel
theorem dX11_fit_9 : decode cX11_fit 9 = .ok (.invokevirtual 90, 3) := by decide +kernel
theorem dX11_fit_12 : decode cX11_fit 12 = .ok (.ireturn, 1) := by decide +kernel
theorem dX11_fit_13 : decode cX11_fit 13 = .ok (.aload_n 0, 1) := by decide +kernel
theorem dX11_fit_14 : decode cX11_fit 14 = .ok (.iload_n 1, 1) := by decide +kernel
theorem dX11_fit_15 : decode cX11_fit 15 = .ok (.invokevirtual 294, 3) := by decide +kernel
theorem dX11_fit_18 : decode cX11_fit 18 = .ok (.ifCond .ne 9, 3) := by decide +kernel
theorem dX11_fit_21 : decode cX11_fit 21 = .ok (.aload_n 0, 1) := by decide +kernel
theorem dX11_fit_22 : decode cX11_fit 22 = .ok (.iconst 2, 1) := by decide +kernel
theorem dX11_fit_23 : decode cX11_fit 23 = .ok (.invokevirtual 90, 3) := by decide +kernel
theorem dX11_fit_26 : decode cX11_fit 26 = .ok (.ireturn, 1) := by decide +kernel
theorem dX11_fit_27 : decode cX11_fit 27 = .ok (.aload_n 0, 1) := by decide +kernel
theorem dX11_fit_28 : decode cX11_fit 28 = .ok (.aload_n 0, 1) := by decide +kernel
theorem dX11_fit_29 : decode cX11_fit 29 = .ok (.iload_n 1, 1) := by decide +kernel
theorem dX11_fit_30 : decode cX11_fit 30 = .ok (.invokevirtual 297, 3) := by decide +kernel
theorem dX11_fit_33 : decode cX11_fit 33 = .ok (.ifCond .eq 7, 3) := by decide +kernel
theorem dX11_fit_36 : decode cX11_fit 36 = .ok (.iconst 1, 1) := by decide +kernel
theorem dX11_fit_37 : decode cX11_fit 37 = .ok (.goto 4, 3) := by decide +kernel
theorem dX11_fit_40 : decode cX11_fit 40 = .ok (.iconst 0, 1) := by decide +kernel
theorem dX11_fit_41 : decode cX11_fit 41 = .ok (.invokevirtual 130, 3) := by decide +kernel
theorem dX11_fit_44 : decode cX11_fit 44 = .ok (.ireturn, 1) := by decide +kernel
theorem dX11_least_0 : decode cX11_least 0 = .ok (.aload_n 0, 1) := by decide +kernel
theorem dX11_least_1 : decode cX11_least 1 = .ok (.getfield 111, 3) := by decide +kernel
theorem dX11_least_4 : decode cX11_least 4 = .ok (.ifCond .ne 9, 3) := by decide +kernel
theorem dX11_least_7 : decode cX11_least 7 = .ok (.aload_n 0, 1) := by decide +kernel
theorem dX11_least_8 : decode cX11_least 8 = .ok (.iconst 1, 1) := by decide +kernel
theorem dX11_least_9 : decode cX11_least 9 = .ok (.invokevirtual 90, 3) := by decide +kernel
theorem dX11_least_12 : decode cX11_least 12 = .ok (.ireturn, 1) := by decide +kernel
theorem dX11_least_13 : decode cX11_least 13 = .ok (.iconst 0, 1) := by decide +kernel
theorem dX11_least_14 : decode cX11_least 14 = .ok (.istore_n 1, 1) := by decide +kernel
theorem dX11_least_15 : decode cX11_least 15 = .ok (.iload_n 1, 1) := by decide +kernel
theorem dX11_least_16 : decode cX11_least 16 = .ok (.aload_n 0, 1) := by decide +kernel
theorem dX11_least_17 : decode cX11_least 17 = .ok (.getfield 53, 3) := by decide +kernel
theorem dX11_least_20 : decode cX11_least 20 = .ok (.getfield 163, 3) := by decide +kernel
theorem dX11_least_23 : decode cX11_least 23 = .ok (.if_icmp .gt 52, 3) := by decide +kernel
theorem dX11_least_26 : decode cX11_least 26 = .ok (.iconst 0, 1) := by decide +kernel
theorem dX11_least_27 : decode cX11_least 27 = .ok (.istore_n 2, 1) := by decide +kernel
theorem dX11_least_28 : decode cX11_least 28 = .ok (.iload_n 2, 1) := by decide +kernel
theorem dX11_least_29 : decode cX11_least 29 = .ok (.iconst 1, 1) := by decide +kernel
theorem dX11_least_30 : decode cX11_least 30 = .ok (.aload_n 0, 1) := by decide +kernel
theorem dX11_least_31 : decode cX11_least 31 = .ok (.getfield 53, 3) := by decide +kernel
theorem dX11_least_34 : decode cX11_least 34 = .ok (.getfield 163, 3) := by decide +kernel
theorem dX11_least_37 : decode cX11_least 37 = .ok (.ishl, 1) := by decide +kernel
theorem dX11_least_38 : decode cX11_least 38 = .ok (.if_icmp .ge 31, 3) := by decide +kernel
theorem dX11_least_41 : decode cX11_least 41 = .ok (.iload_n 2, 1) := by decide +kernel
theorem dX11_least_42 : decode cX11_least 42 = .ok (.invokestatic 300, 3) := by decide +kernel
theorem dX11_least_45 : decode cX11_least 45 = .ok (.iload_n 1, 1) := by decide +kernel
theorem dX11_least_46 : decode cX11_least 46 = .ok (.if_icmp .ne 17, 3) := by decide +kernel
theorem dX11_least_49 : decode cX11_least 49 = .ok (.aload_n 0, 1) := by decide +kernel
theorem dX11_least_50 : decode cX11_least 50 = .ok (.iload_n 2, 1) := by decide +kernel
theorem dX11_least_51 : decode cX11_least 51 = .ok (.invokevirtual 297, 3) := by decide +kernel
theorem dX11_least_54 : decode cX11_least 54 = .ok (.ifCond .eq 9, 3) := by decide +kernel
theorem dX11_least_57 : decode cX11_least 57 = .ok (.aload_n 0, 1) := by decide +kernel
theorem dX11_least_58 : decode cX11_least 58 = .ok (.iload_n 2, 1) := by decide +kernel
theorem dX11_least_59 : decode cX11_least 59 = .ok (.invokevirtual 130, 3) := by decide +kernel
theorem dX11_least_62 : decode cX11_least 62 = .ok (.ireturn, 1) := by decide +kernel
theorem dX11_least_63 : decode cX11_least 63 = .ok (.iinc 2 1, 3) := by decide +kernel
theorem dX11_least_66 : decode cX11_least 66 = .ok (.goto (-38), 3) := by decide +kernel
theorem dX11_least_69 : decode cX11_least 69 = .ok (.iinc 1 1, 3) := by decide +kernel
theorem dX11_least_72 : decode cX11_least 72 = .ok (.goto (-57), 3) := by decide +kernel
theorem dX11_least_75 : decode cX11_least 75 = .ok (.aload_n 0, 1) := by decide +kernel
theorem dX11_least_76 : decode cX11_least 76 = .ok (.bipush 6, 2) := by decide +kernel
theorem dX11_least_78 : decode cX11_least 78 = .ok (.invokevirtual 90, 3) := by decide +kernel
theorem dX11_least_81 : decode cX11_least 81 = .ok (.ireturn, 1) := by decide +kernel
theorem dX11_make_0 : decode cX11_make 0 = .ok (.aload_n 0, 1) := by decide +kernel
theorem dX11_make_1 : decode cX11_make 1 = .ok (.getfield 111, 3) := by decide +kernel
theorem dX11_make_4 : decode cX11_make 4 = .ok (.ifCond .ne 9, 3) := by decide +kernel
theorem dX11_make_7 : decode cX11_make 7 = .ok (.aload_n 0, 1) := by decide +kernel
theorem dX11_make_8 : decode cX11_make 8 = .ok (.iconst 1, 1) := by decide +kernel
theorem dX11_make_9 : decode cX11_make 9 = .ok (.invokevirtual 90, 3) := by decide +kernel
theorem dX11_make_12 : decode cX11_make 12 = .ok (.ireturn, 1) := by decide +kernel
theorem dX11_make_13 : decode cX11_make 13 = .ok (.aload_n 0, 1) := by decide +kernel
theorem dX11_make_14 : decode cX11_make 14 = .ok (.iload_n 1, 1) := by decide +kernel
theorem dX11_make_15 : decode cX11_make 15 = .ok (.invokevirtual 294, 3) := by decide +kernel
theorem dX11_make_18 : decode cX11_make 18 = .ok (.ifCond .ne 9, 3) := by decide +kernel
theorem dX11_make_21 : decode cX11_make 21 = .ok (.aload_n 0, 1) := by decide +kernel
theorem dX11_make_22 : decode cX11_make 22 = .ok (.iconst 2, 1) := by decide +kernel
theorem dX11_make_23 : decode cX11_make 23 = .ok (.invokevirtual 90, 3) := by decide +kernel
theorem dX11_make_26 : decode cX11_make 26 = .ok (.ireturn, 1) := by decide +kernel
theorem dX11_make_27 : decode cX11_make 27 = .ok (.aload_n 0, 1) := by decide +kernel
theorem dX11_make_28 : decode cX11_make 28 = .ok (.aload_n 0, 1) := by decide +kernel
theorem dX11_make_29 : decode cX11_make 29 = .ok (.getfield 28, 3) := by decide +kernel
theorem dX11_make_32 : decode cX11_make 32 = .ok (.iload_n 1, 1) := by decide +kernel
theorem dX11_make_33 : decode cX11_make 33 = .ok (.invokevirtual 303, 3) := by decide +kernel
theorem dX11_make_36 : decode cX11_make 36 = .ok (.aload_n 0, 1) := by decide +kernel
theorem dX11_make_37 : decode cX11_make 37 = .ok (.getfield 53, 3) := by decide +kernel
theorem dX11_make_40 : decode cX11_make 40 = .ok (.invokevirtual 115, 3) := by decide +kernel
theorem dX11_make_43 : decode cX11_make 43 = .ok (.aload_n 0, 1) := by decide +kernel
theorem dX11_make_44 : decode cX11_make 44 = .ok (.iload_n 1, 1) := by decide +kernel
theorem dX11_make_45 : decode cX11_make 45 = .ok (.invokestatic 300, 3) := by decide +kernel
theorem dX11_make_48 : decode cX11_make 48 = .ok (.invokevirtual 130, 3) := by decide +kernel
theorem dX11_make_51 : decode cX11_make 51 = .ok (.ireturn, 1) := by decide +kernel
theorem dX11_count_0 : decode cX11_count 0 = .ok (.aload_n 0, 1) := by decide +kernel
theorem dX11_count_1 : decode cX11_count 1 = .ok (.getfield 28, 3) := by decide +kernel
theorem dX11_count_4 : decode cX11_count 4 = .ok (.getfield 32, 3) := by decide +kernel
theorem dX11_count_7 : decode cX11_count 7 = .ok (.astore_n 2, 1) := by decide +kernel
theorem dX11_count_8 : decode cX11_count 8 = .ok (.iload_n 1, 1) := by decide +kernel
theorem dX11_count_9 : decode cX11_count 9 = .ok (.tableswitch 176 0 13 #[71, 76, 81, 86, 91, 96, 104, 112, 120, 125, 140, 155, 160, 168], 71) := by decide +kernel
theorem dX11_count_80 : decode cX11_count 80 = .ok (.aload_n 2, 1) := by decide +kernel
theorem dX11_count_81 : decode cX11_count 81 = .ok (.getfield 199, 3) := by decide +kernel
theorem dX11_count_84 : decode cX11_count 84 = .ok (.ireturn, 1) := by decide +kernel
theorem dX11_count_85 : decode cX11_count 85 = .ok (.aload_n 2, 1) := by decide +kernel
theorem dX11_count_86 : decode cX11_count 86 = .ok (.getfield 288, 3) := by decide +kernel
theorem dX11_count_89 : decode cX11_count 89 = .ok (.ireturn, 1) := by decide +kernel
theorem dX11_count_90 : decode cX11_count 90 = .ok (.aload_n 2, 1) := by decide +kernel
theorem dX11_count_91 : decode cX11_count 91 = .ok (.getfield 307, 3) := by decide +kernel
theorem dX11_count_94 : decode cX11_count 94 = .ok (.ireturn, 1) := by decide +kernel
theorem dX11_count_95 : decode cX11_count 95 = .ok (.aload_n 2, 1) := by decide +kernel
theorem dX11_count_96 : decode cX11_count 96 = .ok (.getfield 124, 3) := by decide +kernel
theorem dX11_count_99 : decode cX11_count 99 = .ok (.ireturn, 1) := by decide +kernel
theorem dX11_count_100 : decode cX11_count 100 = .ok (.aload_n 2, 1) := by decide +kernel
theorem dX11_count_101 : decode cX11_count 101 = .ok (.getfield 127, 3) := by decide +kernel
theorem dX11_count_104 : decode cX11_count 104 = .ok (.ireturn, 1) := by decide +kernel
theorem dX11_count_105 : decode cX11_count 105 = .ok (.aload_n 0, 1) := by decide +kernel
theorem dX11_count_106 : decode cX11_count 106 = .ok (.getfield 28, 3) := by decide +kernel
theorem dX11_count_109 : decode cX11_count 109 = .ok (.getfield 136, 3) := by decide +kernel
theorem dX11_count_112 : decode cX11_count 112 = .ok (.ireturn, 1) := by decide +kernel
theorem dX11_count_113 : decode cX11_count 113 = .ok (.aload_n 0, 1) := by decide +kernel
theorem dX11_count_114 : decode cX11_count 114 = .ok (.getfield 43, 3) := by decide +kernel
theorem dX11_count_117 : decode cX11_count 117 = .ok (.getfield 163, 3) := by decide +kernel
theorem dX11_count_120 : decode cX11_count 120 = .ok (.ireturn, 1) := by decide +kernel
theorem dX11_count_121 : decode cX11_count 121 = .ok (.aload_n 0, 1) := by decide +kernel
theorem dX11_count_122 : decode cX11_count 122 = .ok (.getfield 53, 3) := by decide +kernel
theorem dX11_count_125 : decode cX11_count 125 = .ok (.getfield 163, 3) := by decide +kernel
theorem dX11_count_128 : decode cX11_count 128 = .ok (.ireturn, 1) := by decide +kernel
theorem dX11_count_129 : decode cX11_count 129 = .ok (.aload_n 0, 1) := by decide +kernel
theorem dX11_count_130 : decode cX11_count 130 = .ok (.getfield 118, 3) := by decide +kernel
theorem dX11_count_133 : decode cX11_count 133 = .ok (.ireturn, 1) := by decide +kernel
theorem dX11_count_134 : decode cX11_count 134 = .ok (.aload_n 0, 1) := by decide +kernel
theorem dX11_count_135 : decode cX11_count 135 = .ok (.getfield 65, 3) := by decide +kernel
theorem dX11_count_138 : decode cX11_count 138 = .ok (.getfield 139, 3) := by decide +kernel
theorem dX11_count_141 : decode cX11_count 141 = .ok (.aload_n 0, 1) := by decide +kernel
theorem dX11_count_142 : decode cX11_count 142 = .ok (.getfield 28, 3) := by decide +kernel
theorem dX11_count_145 : decode cX11_count 145 = .ok (.invokevirtual 310, 3) := by decide +kernel
theorem dX11_count_148 : decode cX11_count 148 = .ok (.ireturn, 1) := by decide +kernel
theorem dX11_count_149 : decode cX11_count 149 = .ok (.aload_n 0, 1) := by decide +kernel
theorem dX11_count_150 : decode cX11_count 150 = .ok (.getfield 65, 3) := by decide +kernel
theorem dX11_count_153 : decode cX11_count 153 = .ok (.getfield 139, 3) := by decide +kernel
theorem dX11_count_156 : decode cX11_count 156 = .ok (.aload_n 0, 1) := by decide +kernel
theorem dX11_count_157 : decode cX11_count 157 = .ok (.getfield 28, 3) := by decide +kernel
theorem dX11_count_160 : decode cX11_count 160 = .ok (.invokevirtual 313, 3) := by decide +kernel
theorem dX11_count_163 : decode cX11_count 163 = .ok (.ireturn, 1) := by decide +kernel
theorem dX11_count_164 : decode cX11_count 164 = .ok (.aload_n 2, 1) := by decide +kernel
theorem dX11_count_165 : decode cX11_count 165 = .ok (.getfield 269, 3) := by decide +kernel
theorem dX11_count_168 : decode cX11_count 168 = .ok (.ireturn, 1) := by decide +kernel
theorem dX11_count_169 : decode cX11_count 169 = .ok (.aload_n 0, 1) := by decide +kernel
theorem dX11_count_170 : decode cX11_count 170 = .ok (.getfield 28, 3) := by decide +kernel
theorem dX11_count_173 : decode cX11_count 173 = .ok (.getfield 272, 3) := by decide +kernel
theorem dX11_count_176 : decode cX11_count 176 = .ok (.ireturn, 1) := by decide +kernel
theorem dX11_count_177 : decode cX11_count 177 = .ok (.aload_n 0, 1) := by decide +kernel
theorem dX11_count_178 : decode cX11_count 178 = .ok (.getfield 21, 3) := by decide +kernel
theorem dX11_count_181 : decode cX11_count 181 = .ok (.getfield 83, 3) := by decide +kernel
theorem dX11_count_184 : decode cX11_count 184 = .ok (.ireturn, 1) := by decide +kernel
theorem dX11_count_185 : decode cX11_count 185 = .ok (.iconst (-1), 1) := by decide +kernel
theorem dX11_count_186 : decode cX11_count 186 = .ok (.ireturn, 1) := by decide +kernel
theorem dX11_trouble_0 : decode cX11_trouble 0 = .ok (.aload_n 0, 1) := by decide +kernel
theorem dX11_trouble_1 : decode cX11_trouble 1 = .ok (.getfield 133, 3) := by decide +kernel
theorem dX11_trouble_4 : decode cX11_trouble 4 = .ok (.ireturn, 1) := by decide +kernel
theorem dX11_refuse_0 : decode cX11_refuse 0 = .ok (.aload_n 0, 1) := by decide +kernel
theorem dX11_refuse_1 : decode cX11_refuse 1 = .ok (.iload_n 1, 1) := by decide +kernel
theorem dX11_refuse_2 : decode cX11_refuse 2 = .ok (.putfield 133, 3) := by decide +kernel
theorem dX11_refuse_5 : decode cX11_refuse 5 = .ok (.iconst (-1), 1) := by decide +kernel
theorem dX11_refuse_6 : decode cX11_refuse 6 = .ok (.ireturn, 1) := by decide +kernel
theorem dX11_grant_0 : decode cX11_grant 0 = .ok (.aload_n 0, 1) := by decide +kernel
theorem dX11_grant_1 : decode cX11_grant 1 = .ok (.iconst 0, 1) := by decide +kernel
theorem dX11_grant_2 : decode cX11_grant 2 = .ok (.putfield 133, 3) := by decide +kernel
theorem dX11_grant_5 : decode cX11_grant 5 = .ok (.iload_n 1, 1) := by decide +kernel
theorem dX11_grant_6 : decode cX11_grant 6 = .ok (.ireturn, 1) := by decide +kernel
theorem dX11_wrongPlace_0 : decode cX11_wrongPlace 0 = .ok (.iload_n 1, 1) := by decide +kernel
theorem dX11_wrongPlace_1 : decode cX11_wrongPlace 1 = .ok (.ifCond .lt 35, 3) := by decide +kernel
theorem dX11_wrongPlace_4 : decode cX11_wrongPlace 4 = .ok (.iload_n 1, 1) := by decide +kernel
theorem dX11_wrongPlace_5 : decode cX11_wrongPlace 5 = .ok (.aload_n 0, 1) := by decide +kernel
theorem dX11_wrongPlace_6 : decode cX11_wrongPlace 6 = .ok (.getfield 28, 3) := by decide +kernel
theorem dX11_wrongPlace_9 : decode cX11_wrongPlace 9 = .ok (.getfield 32, 3) := by decide +kernel
theorem dX11_wrongPlace_12 : decode cX11_wrongPlace 12 = .ok (.getfield 288, 3) := by decide +kernel
theorem dX11_wrongPlace_15 : decode cX11_wrongPlace 15 = .ok (.if_icmp .ge 21, 3) := by decide +kernel
theorem dX11_wrongPlace_18 : decode cX11_wrongPlace 18 = .ok (.iload_n 2, 1) := by decide +kernel
theorem dX11_wrongPlace_19 : decode cX11_wrongPlace 19 = .ok (.ifCond .lt 17, 3) := by decide +kernel
theorem dX11_wrongPlace_22 : decode cX11_wrongPlace 22 = .ok (.iload_n 2, 1) := by decide +kernel
theorem dX11_wrongPlace_23 : decode cX11_wrongPlace 23 = .ok (.aload_n 0, 1) := by decide +kernel
theorem dX11_wrongPlace_24 : decode cX11_wrongPlace 24 = .ok (.getfield 28, 3) := by decide +kernel
theorem dX11_wrongPlace_27 : decode cX11_wrongPlace 27 = .ok (.getfield 32, 3) := by decide +kernel
theorem dX11_wrongPlace_30 : decode cX11_wrongPlace 30 = .ok (.getfield 199, 3) := by decide +kernel
theorem dX11_wrongPlace_33 : decode cX11_wrongPlace 33 = .ok (.if_icmp .lt 5, 3) := by decide +kernel
theorem dX11_wrongPlace_36 : decode cX11_wrongPlace 36 = .ok (.iconst 1, 1) := by decide +kernel
theorem dX11_wrongPlace_37 : decode cX11_wrongPlace 37 = .ok (.ireturn, 1) := by decide +kernel
theorem dX11_wrongPlace_38 : decode cX11_wrongPlace 38 = .ok (.iload_n 3, 1) := by decide +kernel
theorem dX11_wrongPlace_39 : decode cX11_wrongPlace 39 = .ok (.ifCond .lt 14, 3) := by decide +kernel
theorem dX11_wrongPlace_42 : decode cX11_wrongPlace 42 = .ok (.iload_n 3, 1) := by decide +kernel
theorem dX11_wrongPlace_43 : decode cX11_wrongPlace 43 = .ok (.aload_n 0, 1) := by decide +kernel
theorem dX11_wrongPlace_44 : decode cX11_wrongPlace 44 = .ok (.getfield 28, 3) := by decide +kernel
theorem dX11_wrongPlace_47 : decode cX11_wrongPlace 47 = .ok (.getfield 136, 3) := by decide +kernel
theorem dX11_wrongPlace_50 : decode cX11_wrongPlace 50 = .ok (.if_icmp .le 7, 3) := by decide +kernel
theorem dX11_wrongPlace_53 : decode cX11_wrongPlace 53 = .ok (.iconst 2, 1) := by decide +kernel
theorem dX11_wrongPlace_54 : decode cX11_wrongPlace 54 = .ok (.goto 4, 3) := by decide +kernel
theorem dX11_wrongPlace_57 : decode cX11_wrongPlace 57 = .ok (.iconst 0, 1) := by decide +kernel
theorem dX11_wrongPlace_58 : decode cX11_wrongPlace 58 = .ok (.ireturn, 1) := by decide +kernel
theorem dX11_isBroken_0 : decode cX11_isBroken 0 = .ok (.aload_n 0, 1) := by decide +kernel
theorem dX11_isBroken_1 : decode cX11_isBroken 1 = .ok (.getfield 65, 3) := by decide +kernel
theorem dX11_isBroken_4 : decode cX11_isBroken 4 = .ok (.aload_n 1, 1) := by decide +kernel
theorem dX11_isBroken_5 : decode cX11_isBroken 5 = .ok (.aload_n 2, 1) := by decide +kernel
theorem dX11_isBroken_6 : decode cX11_isBroken 6 = .ok (.aload_n 0, 1) := by decide +kernel
theorem dX11_isBroken_7 : decode cX11_isBroken 7 = .ok (.getfield 72, 3) := by decide +kernel
theorem dX11_isBroken_10 : decode cX11_isBroken 10 = .ok (.invokevirtual 169, 3) := by decide +kernel
theorem dX11_isBroken_13 : decode cX11_isBroken 13 = .ok (.aload_n 0, 1) := by decide +kernel
theorem dX11_isBroken_14 : decode cX11_isBroken 14 = .ok (.getfield 72, 3) := by decide +kernel
theorem dX11_isBroken_17 : decode cX11_isBroken 17 = .ok (.getfield 173, 3) := by decide +kernel
theorem dX11_isBroken_20 : decode cX11_isBroken 20 = .ok (.iconst 2, 1) := by decide +kernel
theorem dX11_isBroken_21 : decode cX11_isBroken 21 = .ok (.if_icmp .ne 7, 3) := by decide +kernel
theorem dX11_isBroken_24 : decode cX11_isBroken 24 = .ok (.iconst 1, 1) := by decide +kernel
theorem dX11_isBroken_25 : decode cX11_isBroken 25 = .ok (.goto 4, 3) := by decide +kernel
theorem dX11_isBroken_28 : decode cX11_isBroken 28 = .ok (.iconst 0, 1) := by decide +kernel
theorem dX11_isBroken_29 : decode cX11_isBroken 29 = .ok (.ireturn, 1) := by decide +kernel
theorem dX11_areMends_0 : decode cX11_areMends 0 = .ok (.iload_n 1, 1) := by decide +kernel
theorem dX11_areMends_1 : decode cX11_areMends 1 = .ok (.ifCond .lt 20, 3) := by decide +kernel
theorem dX11_areMends_4 : decode cX11_areMends 4 = .ok (.iload_n 1, 1) := by decide +kernel
theorem dX11_areMends_5 : decode cX11_areMends 5 = .ok (.iconst 1, 1) := by decide +kernel
theorem dX11_areMends_6 : decode cX11_areMends 6 = .ok (.aload_n 0, 1) := by decide +kernel
theorem dX11_areMends_7 : decode cX11_areMends 7 = .ok (.getfield 53, 3) := by decide +kernel
theorem dX11_areMends_10 : decode cX11_areMends 10 = .ok (.getfield 163, 3) := by decide +kernel
theorem dX11_areMends_13 : decode cX11_areMends 13 = .ok (.ishl, 1) := by decide +kernel
theorem dX11_areMends_14 : decode cX11_areMends 14 = .ok (.if_icmp .ge 7, 3) := by decide +kernel
theorem dX11_areMends_17 : decode cX11_areMends 17 = .ok (.iconst 1, 1) := by decide +kernel
theorem dX11_areMends_18 : decode cX11_areMends 18 = .ok (.goto 4, 3) := by decide +kernel
theorem dX11_areMends_21 : decode cX11_areMends 21 = .ok (.iconst 0, 1) := by decide +kernel
theorem dX11_areMends_22 : decode cX11_areMends 22 = .ok (.ireturn, 1) := by decide +kernel
theorem dX11_mendAll_0 : decode cX11_mendAll 0 = .ok (.iconst 0, 1) := by decide +kernel
theorem dX11_mendAll_1 : decode cX11_mendAll 1 = .ok (.istore_n 3, 1) := by decide +kernel
theorem dX11_mendAll_2 : decode cX11_mendAll 2 = .ok (.iload_n 3, 1) := by decide +kernel
theorem dX11_mendAll_3 : decode cX11_mendAll 3 = .ok (.aload_n 0, 1) := by decide +kernel
theorem dX11_mendAll_4 : decode cX11_mendAll 4 = .ok (.getfield 53, 3) := by decide +kernel
theorem dX11_mendAll_7 : decode cX11_mendAll 7 = .ok (.getfield 163, 3) := by decide +kernel
theorem dX11_mendAll_10 : decode cX11_mendAll 10 = .ok (.if_icmp .ge 29, 3) := by decide +kernel
theorem dX11_mendAll_13 : decode cX11_mendAll 13 = .ok (.iload_n 2, 1) := by decide +kernel
theorem dX11_mendAll_14 : decode cX11_mendAll 14 = .ok (.iload_n 3, 1) := by decide +kernel
theorem dX11_mendAll_15 : decode cX11_mendAll 15 = .ok (.ishr, 1) := by decide +kernel
theorem dX11_mendAll_16 : decode cX11_mendAll 16 = .ok (.iconst 1, 1) := by decide +kernel
theorem dX11_mendAll_17 : decode cX11_mendAll 17 = .ok (.iand, 1) := by decide +kernel
theorem dX11_mendAll_18 : decode cX11_mendAll 18 = .ok (.ifCond .eq 15, 3) := by decide +kernel
theorem dX11_mendAll_21 : decode cX11_mendAll 21 = .ok (.aload_n 1, 1) := by decide +kernel
theorem dX11_mendAll_22 : decode cX11_mendAll 22 = .ok (.aload_n 0, 1) := by decide +kernel
theorem dX11_mendAll_23 : decode cX11_mendAll 23 = .ok (.getfield 53, 3) := by decide +kernel
theorem dX11_mendAll_26 : decode cX11_mendAll 26 = .ok (.iload_n 3, 1) := by decide +kernel
theorem dX11_mendAll_27 : decode cX11_mendAll 27 = .ok (.invokevirtual 249, 3) := by decide +kernel
theorem dX11_mendAll_30 : decode cX11_mendAll 30 = .ok (.invokevirtual 316, 3) := by decide +kernel
theorem dX11_mendAll_33 : decode cX11_mendAll 33 = .ok (.iinc 3 1, 3) := by decide +kernel
theorem dX11_mendAll_36 : decode cX11_mendAll 36 = .ok (.goto (-34), 3) := by decide +kernel
theorem dX11_mendAll_39 : decode cX11_mendAll 39 = .ok (.return_, 1) := by decide +kernel
theorem dX11_isFit_0 : decode cX11_isFit 0 = .ok (.aload_n 0, 1) := by decide +kernel
theorem dX11_isFit_1 : decode cX11_isFit 1 = .ok (.getfield 35, 3) := by decide +kernel
theorem dX11_isFit_4 : decode cX11_isFit 4 = .ok (.aload_n 0, 1) := by decide +kernel
theorem dX11_isFit_5 : decode cX11_isFit 5 = .ok (.getfield 28, 3) := by decide +kernel
theorem dX11_isFit_8 : decode cX11_isFit 8 = .ok (.invokevirtual 275, 3) := by decide +kernel
theorem dX11_isFit_11 : decode cX11_isFit 11 = .ok (.aload_n 0, 1) := by decide +kernel
theorem dX11_isFit_12 : decode cX11_isFit 12 = .ok (.aload_n 0, 1) := by decide +kernel
theorem dX11_isFit_13 : decode cX11_isFit 13 = .ok (.getfield 35, 3) := by decide +kernel
theorem dX11_isFit_16 : decode cX11_isFit 16 = .ok (.iload_n 1, 1) := by decide +kernel
theorem dX11_isFit_17 : decode cX11_isFit 17 = .ok (.invokevirtual 303, 3) := by decide +kernel
theorem dX11_isFit_20 : decode cX11_isFit 20 = .ok (.aload_n 0, 1) := by decide +kernel
theorem dX11_isFit_21 : decode cX11_isFit 21 = .ok (.getfield 65, 3) := by decide +kernel
theorem dX11_isFit_24 : decode cX11_isFit 24 = .ok (.aload_n 0, 1) := by decide +kernel
theorem dX11_isFit_25 : decode cX11_isFit 25 = .ok (.getfield 35, 3) := by decide +kernel
theorem dX11_isFit_28 : decode cX11_isFit 28 = .ok (.aload_n 0, 1) := by decide +kernel
theorem dX11_isFit_29 : decode cX11_isFit 29 = .ok (.getfield 47, 3) := by decide +kernel
theorem dX11_isFit_32 : decode cX11_isFit 32 = .ok (.aload_n 0, 1) := by decide +kernel
theorem dX11_isFit_33 : decode cX11_isFit 33 = .ok (.getfield 76, 3) := by decide +kernel
theorem dX11_isFit_36 : decode cX11_isFit 36 = .ok (.invokevirtual 169, 3) := by decide +kernel
theorem dX11_isFit_39 : decode cX11_isFit 39 = .ok (.aload_n 0, 1) := by decide +kernel
theorem dX11_isFit_40 : decode cX11_isFit 40 = .ok (.getfield 76, 3) := by decide +kernel
theorem dX11_isFit_43 : decode cX11_isFit 43 = .ok (.getfield 173, 3) := by decide +kernel
theorem dX11_isFit_46 : decode cX11_isFit 46 = .ok (.ifCond .eq 5, 3) := by decide +kernel
theorem dX11_isFit_49 : decode cX11_isFit 49 = .ok (.iconst 0, 1) := by decide +kernel
theorem dX11_isFit_50 : decode cX11_isFit 50 = .ok (.ireturn, 1) := by decide +kernel
theorem dX11_isFit_51 : decode cX11_isFit 51 = .ok (.iconst 0, 1) := by decide +kernel
theorem dX11_isFit_52 : decode cX11_isFit 52 = .ok (.istore_n 2, 1) := by decide +kernel
theorem dX11_isFit_53 : decode cX11_isFit 53 = .ok (.iload_n 2, 1) := by decide +kernel
theorem dX11_isFit_54 : decode cX11_isFit 54 = .ok (.aload_n 0, 1) := by decide +kernel
