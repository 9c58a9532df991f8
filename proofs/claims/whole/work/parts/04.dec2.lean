theorem dX11_isFit_55 : decode cX11_isFit 55 = .ok (.getfield 118, 3) := by decide +kernel
theorem dX11_isFit_58 : decode cX11_isFit 58 = .ok (.if_icmp .ge 28, 3) := by decide +kernel
theorem dX11_isFit_61 : decode cX11_isFit 61 = .ok (.aload_n 0, 1) := by decide +kernel
theorem dX11_isFit_62 : decode cX11_isFit 62 = .ok (.aload_n 0, 1) := by decide +kernel
theorem dX11_isFit_63 : decode cX11_isFit 63 = .ok (.getfield 35, 3) := by decide +kernel
theorem dX11_isFit_66 : decode cX11_isFit 66 = .ok (.aload_n 0, 1) := by decide +kernel
theorem dX11_isFit_67 : decode cX11_isFit 67 = .ok (.getfield 56, 3) := by decide +kernel
theorem dX11_isFit_70 : decode cX11_isFit 70 = .ok (.iload_n 2, 1) := by decide +kernel
theorem dX11_isFit_71 : decode cX11_isFit 71 = .ok (.aaload, 1) := by decide +kernel
theorem dX11_isFit_72 : decode cX11_isFit 72 = .ok (.invokevirtual 258, 3) := by decide +kernel
theorem dX11_isFit_75 : decode cX11_isFit 75 = .ok (.ifCond .eq 5, 3) := by decide +kernel
theorem dX11_isFit_78 : decode cX11_isFit 78 = .ok (.iconst 0, 1) := by decide +kernel
theorem dX11_isFit_79 : decode cX11_isFit 79 = .ok (.ireturn, 1) := by decide +kernel
theorem dX11_isFit_80 : decode cX11_isFit 80 = .ok (.iinc 2 1, 3) := by decide +kernel
theorem dX11_isFit_83 : decode cX11_isFit 83 = .ok (.goto (-30), 3) := by decide +kernel
theorem dX11_isFit_86 : decode cX11_isFit 86 = .ok (.iconst 1, 1) := by decide +kernel
theorem dX11_isFit_87 : decode cX11_isFit 87 = .ok (.ireturn, 1) := by decide +kernel
theorem dX11_partOf_0 : decode cX11_partOf 0 = .ok (.iload_n 0, 1) := by decide +kernel
theorem dX11_partOf_1 : decode cX11_partOf 1 = .ok (.tableswitch 33 0 2 #[27, 29, 31], 27) := by decide +kernel
theorem dX11_partOf_28 : decode cX11_partOf 28 = .ok (.iload_n 1, 1) := by decide +kernel
theorem dX11_partOf_29 : decode cX11_partOf 29 = .ok (.ireturn, 1) := by decide +kernel
theorem dX11_partOf_30 : decode cX11_partOf 30 = .ok (.iload_n 2, 1) := by decide +kernel
theorem dX11_partOf_31 : decode cX11_partOf 31 = .ok (.ireturn, 1) := by decide +kernel
theorem dX11_partOf_32 : decode cX11_partOf 32 = .ok (.iload_n 3, 1) := by decide +kernel
theorem dX11_partOf_33 : decode cX11_partOf 33 = .ok (.ireturn, 1) := by decide +kernel
theorem dX11_partOf_34 : decode cX11_partOf 34 = .ok (.iload 4, 2) := by decide +kernel
theorem dX11_partOf_36 : decode cX11_partOf 36 = .ok (.ireturn, 1) := by decide +kernel
theorem dX11_cell_0 : decode cX11_cell 0 = .ok (.iload_n 0, 1) := by decide +kernel
theorem dX11_cell_1 : decode cX11_cell 1 = .ok (.iconst 4, 1) := by decide +kernel
theorem dX11_cell_2 : decode cX11_cell 2 = .ok (.imul, 1) := by decide +kernel
theorem dX11_cell_3 : decode cX11_cell 3 = .ok (.iload_n 1, 1) := by decide +kernel
theorem dX11_cell_4 : decode cX11_cell 4 = .ok (.iadd, 1) := by decide +kernel
theorem dX11_cell_5 : decode cX11_cell 5 = .ok (.ireturn, 1) := by decide +kernel
theorem dX11_numberOf_0 : decode cX11_numberOf 0 = .ok (.bipush 100, 2) := by decide +kernel
theorem dX11_numberOf_2 : decode cX11_numberOf 2 = .ok (.iload_n 0, 1) := by decide +kernel
theorem dX11_numberOf_3 : decode cX11_numberOf 3 = .ok (.imul, 1) := by decide +kernel
theorem dX11_numberOf_4 : decode cX11_numberOf 4 = .ok (.bipush 10, 2) := by decide +kernel
theorem dX11_numberOf_6 : decode cX11_numberOf 6 = .ok (.iload_n 1, 1) := by decide +kernel
theorem dX11_numberOf_7 : decode cX11_numberOf 7 = .ok (.imul, 1) := by decide +kernel
theorem dX11_numberOf_8 : decode cX11_numberOf 8 = .ok (.iadd, 1) := by decide +kernel
theorem dX11_numberOf_9 : decode cX11_numberOf 9 = .ok (.iload_n 2, 1) := by decide +kernel
theorem dX11_numberOf_10 : decode cX11_numberOf 10 = .ok (.iadd, 1) := by decide +kernel
theorem dX11_numberOf_11 : decode cX11_numberOf 11 = .ok (.ireturn, 1) := by decide +kernel
theorem dX12_init_0 : decode cX12_init 0 = .ok (.aload_n 0, 1) := by decide +kernel
theorem dX12_init_1 : decode cX12_init 1 = .ok (.invokespecial 3, 3) := by decide +kernel
theorem dX12_init_4 : decode cX12_init 4 = .ok (.aload_n 0, 1) := by decide +kernel
theorem dX12_init_5 : decode cX12_init 5 = .ok (.bipush 14, 2) := by decide +kernel
theorem dX12_init_7 : decode cX12_init 7 = .ok (.newarray .long, 2) := by decide +kernel
theorem dX12_init_9 : decode cX12_init 9 = .ok (.putfield 9, 3) := by decide +kernel
theorem dX12_init_12 : decode cX12_init 12 = .ok (.aload_n 0, 1) := by decide +kernel
theorem dX12_init_13 : decode cX12_init 13 = .ok (.bipush 14, 2) := by decide +kernel
theorem dX12_init_15 : decode cX12_init 15 = .ok (.newarray .boolean, 2) := by decide +kernel
theorem dX12_init_17 : decode cX12_init 17 = .ok (.putfield 15, 3) := by decide +kernel
theorem dX12_init_20 : decode cX12_init 20 = .ok (.aload_n 0, 1) := by decide +kernel
theorem dX12_init_21 : decode cX12_init 21 = .ok (.bipush 14, 2) := by decide +kernel
theorem dX12_init_23 : decode cX12_init 23 = .ok (.newarray .int, 2) := by decide +kernel
theorem dX12_init_25 : decode cX12_init 25 = .ok (.putfield 19, 3) := by decide +kernel
theorem dX12_init_28 : decode cX12_init 28 = .ok (.aload_n 0, 1) := by decide +kernel
theorem dX12_init_29 : decode cX12_init 29 = .ok (.bipush 10, 2) := by decide +kernel
theorem dX12_init_31 : decode cX12_init 31 = .ok (.newarray .int, 2) := by decide +kernel
theorem dX12_init_33 : decode cX12_init 33 = .ok (.putfield 23, 3) := by decide +kernel
theorem dX12_init_36 : decode cX12_init 36 = .ok (.aload_n 0, 1) := by decide +kernel
theorem dX12_init_37 : decode cX12_init 37 = .ok (.bipush 10, 2) := by decide +kernel
theorem dX12_init_39 : decode cX12_init 39 = .ok (.newarray .int, 2) := by decide +kernel
theorem dX12_init_41 : decode cX12_init 41 = .ok (.putfield 26, 3) := by decide +kernel
theorem dX12_init_44 : decode cX12_init 44 = .ok (.aload_n 0, 1) := by decide +kernel
theorem dX12_init_45 : decode cX12_init 45 = .ok (.bipush 10, 2) := by decide +kernel
theorem dX12_init_47 : decode cX12_init 47 = .ok (.newarray .int, 2) := by decide +kernel
theorem dX12_init_49 : decode cX12_init 49 = .ok (.putfield 29, 3) := by decide +kernel
theorem dX12_init_52 : decode cX12_init 52 = .ok (.aload_n 0, 1) := by decide +kernel
theorem dX12_init_53 : decode cX12_init 53 = .ok (.bipush 10, 2) := by decide +kernel
theorem dX12_init_55 : decode cX12_init 55 = .ok (.newarray .int, 2) := by decide +kernel
theorem dX12_init_57 : decode cX12_init 57 = .ok (.putfield 32, 3) := by decide +kernel
theorem dX12_init_60 : decode cX12_init 60 = .ok (.aload_n 0, 1) := by decide +kernel
theorem dX12_init_61 : decode cX12_init 61 = .ok (.bipush 10, 2) := by decide +kernel
theorem dX12_init_63 : decode cX12_init 63 = .ok (.newarray .int, 2) := by decide +kernel
theorem dX12_init_65 : decode cX12_init 65 = .ok (.putfield 35, 3) := by decide +kernel
theorem dX12_init_68 : decode cX12_init 68 = .ok (.aload_n 0, 1) := by decide +kernel
theorem dX12_init_69 : decode cX12_init 69 = .ok (.bipush 10, 2) := by decide +kernel
theorem dX12_init_71 : decode cX12_init 71 = .ok (.newarray .boolean, 2) := by decide +kernel
theorem dX12_init_73 : decode cX12_init 73 = .ok (.putfield 38, 3) := by decide +kernel
theorem dX12_init_76 : decode cX12_init 76 = .ok (.aload_n 0, 1) := by decide +kernel
theorem dX12_init_77 : decode cX12_init 77 = .ok (.bipush 6, 2) := by decide +kernel
theorem dX12_init_79 : decode cX12_init 79 = .ok (.newarray .int, 2) := by decide +kernel
theorem dX12_init_81 : decode cX12_init 81 = .ok (.putfield 41, 3) := by decide +kernel
theorem dX12_init_84 : decode cX12_init 84 = .ok (.aload_n 0, 1) := by decide +kernel
theorem dX12_init_85 : decode cX12_init 85 = .ok (.bipush 6, 2) := by decide +kernel
theorem dX12_init_87 : decode cX12_init 87 = .ok (.newarray .int, 2) := by decide +kernel
theorem dX12_init_89 : decode cX12_init 89 = .ok (.putfield 44, 3) := by decide +kernel
theorem dX12_init_92 : decode cX12_init 92 = .ok (.aload_n 0, 1) := by decide +kernel
theorem dX12_init_93 : decode cX12_init 93 = .ok (.bipush 6, 2) := by decide +kernel
theorem dX12_init_95 : decode cX12_init 95 = .ok (.newarray .int, 2) := by decide +kernel
theorem dX12_init_97 : decode cX12_init 97 = .ok (.putfield 47, 3) := by decide +kernel
theorem dX12_init_100 : decode cX12_init 100 = .ok (.aload_n 0, 1) := by decide +kernel
theorem dX12_init_101 : decode cX12_init 101 = .ok (.bipush 16, 2) := by decide +kernel
theorem dX12_init_103 : decode cX12_init 103 = .ok (.newarray .int, 2) := by decide +kernel
theorem dX12_init_105 : decode cX12_init 105 = .ok (.putfield 50, 3) := by decide +kernel
theorem dX12_init_108 : decode cX12_init 108 = .ok (.aload_n 0, 1) := by decide +kernel
theorem dX12_init_109 : decode cX12_init 109 = .ok (.bipush 16, 2) := by decide +kernel
theorem dX12_init_111 : decode cX12_init 111 = .ok (.newarray .int, 2) := by decide +kernel
theorem dX12_init_113 : decode cX12_init 113 = .ok (.putfield 53, 3) := by decide +kernel
theorem dX12_init_116 : decode cX12_init 116 = .ok (.aload_n 0, 1) := by decide +kernel
theorem dX12_init_117 : decode cX12_init 117 = .ok (.iconst 3, 1) := by decide +kernel
theorem dX12_init_118 : decode cX12_init 118 = .ok (.newarray .int, 2) := by decide +kernel
theorem dX12_init_120 : decode cX12_init 120 = .ok (.putfield 56, 3) := by decide +kernel
theorem dX12_init_123 : decode cX12_init 123 = .ok (.aload_n 0, 1) := by decide +kernel
theorem dX12_init_124 : decode cX12_init 124 = .ok (.iconst 3, 1) := by decide +kernel
theorem dX12_init_125 : decode cX12_init 125 = .ok (.newarray .int, 2) := by decide +kernel
theorem dX12_init_127 : decode cX12_init 127 = .ok (.putfield 59, 3) := by decide +kernel
theorem dX12_init_130 : decode cX12_init 130 = .ok (.aload_n 0, 1) := by decide +kernel
theorem dX12_init_131 : decode cX12_init 131 = .ok (.iconst 3, 1) := by decide +kernel
theorem dX12_init_132 : decode cX12_init 132 = .ok (.newarray .int, 2) := by decide +kernel
theorem dX12_init_134 : decode cX12_init 134 = .ok (.putfield 62, 3) := by decide +kernel
theorem dX12_init_137 : decode cX12_init 137 = .ok (.aload_n 0, 1) := by decide +kernel
theorem dX12_init_138 : decode cX12_init 138 = .ok (.iconst 3, 1) := by decide +kernel
theorem dX12_init_139 : decode cX12_init 139 = .ok (.newarray .int, 2) := by decide +kernel
theorem dX12_init_141 : decode cX12_init 141 = .ok (.putfield 65, 3) := by decide +kernel
theorem dX12_init_144 : decode cX12_init 144 = .ok (.return_, 1) := by decide +kernel
theorem dX12_find_0 : decode cX12_find 0 = .ok (.iconst 0, 1) := by decide +kernel
theorem dX12_find_1 : decode cX12_find 1 = .ok (.istore_n 3, 1) := by decide +kernel
theorem dX12_find_2 : decode cX12_find 2 = .ok (.iload_n 3, 1) := by decide +kernel
theorem dX12_find_3 : decode cX12_find 3 = .ok (.aload_n 0, 1) := by decide +kernel
theorem dX12_find_4 : decode cX12_find 4 = .ok (.getfield 68, 3) := by decide +kernel
theorem dX12_find_7 : decode cX12_find 7 = .ok (.if_icmp .ge 22, 3) := by decide +kernel
theorem dX12_find_10 : decode cX12_find 10 = .ok (.aload_n 0, 1) := by decide +kernel
theorem dX12_find_11 : decode cX12_find 11 = .ok (.getfield 9, 3) := by decide +kernel
theorem dX12_find_14 : decode cX12_find 14 = .ok (.iload_n 3, 1) := by decide +kernel
theorem dX12_find_15 : decode cX12_find 15 = .ok (.laload, 1) := by decide +kernel
theorem dX12_find_16 : decode cX12_find 16 = .ok (.lload_n 1, 1) := by decide +kernel
theorem dX12_find_17 : decode cX12_find 17 = .ok (.lcmp, 1) := by decide +kernel
theorem dX12_find_18 : decode cX12_find 18 = .ok (.ifCond .ne 5, 3) := by decide +kernel
theorem dX12_find_21 : decode cX12_find 21 = .ok (.iload_n 3, 1) := by decide +kernel
theorem dX12_find_22 : decode cX12_find 22 = .ok (.ireturn, 1) := by decide +kernel
theorem dX12_find_23 : decode cX12_find 23 = .ok (.iinc 3 1, 3) := by decide +kernel
theorem dX12_find_26 : decode cX12_find 26 = .ok (.goto (-24), 3) := by decide +kernel
theorem dX12_find_29 : decode cX12_find 29 = .ok (.iconst (-1), 1) := by decide +kernel
theorem dX12_find_30 : decode cX12_find 30 = .ok (.ireturn, 1) := by decide +kernel
theorem dX13_init_0 : decode cX13_init 0 = .ok (.aload_n 0, 1) := by decide +kernel
theorem dX13_init_1 : decode cX13_init 1 = .ok (.invokespecial 3, 3) := by decide +kernel
theorem dX13_init_4 : decode cX13_init 4 = .ok (.aload_n 0, 1) := by decide +kernel
theorem dX13_init_5 : decode cX13_init 5 = .ok (.bipush 42, 2) := by decide +kernel
theorem dX13_init_7 : decode cX13_init 7 = .ok (.newarray .boolean, 2) := by decide +kernel
theorem dX13_init_9 : decode cX13_init 9 = .ok (.putfield 9, 3) := by decide +kernel
theorem dX13_init_12 : decode cX13_init 12 = .ok (.aload_n 0, 1) := by decide +kernel
theorem dX13_init_13 : decode cX13_init 13 = .ok (.bipush 42, 2) := by decide +kernel
theorem dX13_init_15 : decode cX13_init 15 = .ok (.newarray .boolean, 2) := by decide +kernel
theorem dX13_init_17 : decode cX13_init 17 = .ok (.putfield 15, 3) := by decide +kernel
theorem dX13_init_20 : decode cX13_init 20 = .ok (.aload_n 0, 1) := by decide +kernel
theorem dX13_init_21 : decode cX13_init 21 = .ok (.bipush 7, 2) := by decide +kernel
theorem dX13_init_23 : decode cX13_init 23 = .ok (.newarray .int, 2) := by decide +kernel
theorem dX13_init_25 : decode cX13_init 25 = .ok (.putfield 18, 3) := by decide +kernel
theorem dX13_init_28 : decode cX13_init 28 = .ok (.return_, 1) := by decide +kernel
theorem dX13_lay_0 : decode cX13_lay 0 = .ok (.iconst 0, 1) := by decide +kernel
theorem dX13_lay_1 : decode cX13_lay 1 = .ok (.istore 4, 2) := by decide +kernel
theorem dX13_lay_3 : decode cX13_lay 3 = .ok (.iload 4, 2) := by decide +kernel
theorem dX13_lay_5 : decode cX13_lay 5 = .ok (.bipush 42, 2) := by decide +kernel
theorem dX13_lay_7 : decode cX13_lay 7 = .ok (.if_icmp .ge 25, 3) := by decide +kernel
theorem dX13_lay_10 : decode cX13_lay 10 = .ok (.aload_n 0, 1) := by decide +kernel
theorem dX13_lay_11 : decode cX13_lay 11 = .ok (.getfield 9, 3) := by decide +kernel
theorem dX13_lay_14 : decode cX13_lay 14 = .ok (.iload 4, 2) := by decide +kernel
theorem dX13_lay_16 : decode cX13_lay 16 = .ok (.iconst 0, 1) := by decide +kernel
theorem dX13_lay_17 : decode cX13_lay 17 = .ok (.bastore, 1) := by decide +kernel
theorem dX13_lay_18 : decode cX13_lay 18 = .ok (.aload_n 0, 1) := by decide +kernel
theorem dX13_lay_19 : decode cX13_lay 19 = .ok (.getfield 15, 3) := by decide +kernel
theorem dX13_lay_22 : decode cX13_lay 22 = .ok (.iload 4, 2) := by decide +kernel
theorem dX13_lay_24 : decode cX13_lay 24 = .ok (.iconst 0, 1) := by decide +kernel
theorem dX13_lay_25 : decode cX13_lay 25 = .ok (.bastore, 1) := by decide +kernel
theorem dX13_lay_26 : decode cX13_lay 26 = .ok (.iinc 4 1, 3) := by decide +kernel
theorem dX13_lay_29 : decode cX13_lay 29 = .ok (.goto (-26), 3) := by decide +kernel
theorem dX13_lay_32 : decode cX13_lay 32 = .ok (.iconst 0, 1) := by decide +kernel
theorem dX13_lay_33 : decode cX13_lay 33 = .ok (.istore 4, 2) := by decide +kernel
theorem dX13_lay_35 : decode cX13_lay 35 = .ok (.iload 4, 2) := by decide +kernel
theorem dX13_lay_37 : decode cX13_lay 37 = .ok (.bipush 7, 2) := by decide +kernel
theorem dX13_lay_39 : decode cX13_lay 39 = .ok (.if_icmp .ge 17, 3) := by decide +kernel
theorem dX13_lay_42 : decode cX13_lay 42 = .ok (.aload_n 0, 1) := by decide +kernel
theorem dX13_lay_43 : decode cX13_lay 43 = .ok (.getfield 18, 3) := by decide +kernel
theorem dX13_lay_46 : decode cX13_lay 46 = .ok (.iload 4, 2) := by decide +kernel
theorem dX13_lay_48 : decode cX13_lay 48 = .ok (.iconst 0, 1) := by decide +kernel
theorem dX13_lay_49 : decode cX13_lay 49 = .ok (.iastore, 1) := by decide +kernel
theorem dX13_lay_50 : decode cX13_lay 50 = .ok (.iinc 4 1, 3) := by decide +kernel
theorem dX13_lay_53 : decode cX13_lay 53 = .ok (.goto (-18), 3) := by decide +kernel
theorem dX13_lay_56 : decode cX13_lay 56 = .ok (.iload_n 2, 1) := by decide +kernel
theorem dX13_lay_57 : decode cX13_lay 57 = .ok (.istore 4, 2) := by decide +kernel
theorem dX13_lay_59 : decode cX13_lay 59 = .ok (.iload 4, 2) := by decide +kernel
theorem dX13_lay_61 : decode cX13_lay 61 = .ok (.iload_n 2, 1) := by decide +kernel
theorem dX13_lay_62 : decode cX13_lay 62 = .ok (.iload_n 3, 1) := by decide +kernel
theorem dX13_lay_63 : decode cX13_lay 63 = .ok (.iadd, 1) := by decide +kernel
theorem dX13_lay_64 : decode cX13_lay 64 = .ok (.if_icmp .ge 161, 3) := by decide +kernel
theorem dX13_lay_67 : decode cX13_lay 67 = .ok (.aload_n 1, 1) := by decide +kernel
theorem dX13_lay_68 : decode cX13_lay 68 = .ok (.iload 4, 2) := by decide +kernel
theorem dX13_lay_70 : decode cX13_lay 70 = .ok (.iaload, 1) := by decide +kernel
theorem dX13_lay_71 : decode cX13_lay 71 = .ok (.bipush 100, 2) := by decide +kernel
theorem dX13_lay_73 : decode cX13_lay 73 = .ok (.idiv, 1) := by decide +kernel
theorem dX13_lay_74 : decode cX13_lay 74 = .ok (.istore 5, 2) := by decide +kernel
theorem dX13_lay_76 : decode cX13_lay 76 = .ok (.aload_n 1, 1) := by decide +kernel
theorem dX13_lay_77 : decode cX13_lay 77 = .ok (.iload 4, 2) := by decide +kernel
theorem dX13_lay_79 : decode cX13_lay 79 = .ok (.iaload, 1) := by decide +kernel
theorem dX13_lay_80 : decode cX13_lay 80 = .ok (.bipush 10, 2) := by decide +kernel
theorem dX13_lay_82 : decode cX13_lay 82 = .ok (.idiv, 1) := by decide +kernel
theorem dX13_lay_83 : decode cX13_lay 83 = .ok (.bipush 10, 2) := by decide +kernel
theorem dX13_lay_85 : decode cX13_lay 85 = .ok (.irem, 1) := by decide +kernel
theorem dX13_lay_86 : decode cX13_lay 86 = .ok (.istore 6, 2) := by decide +kernel
theorem dX13_lay_88 : decode cX13_lay 88 = .ok (.aload_n 1, 1) := by decide +kernel
theorem dX13_lay_89 : decode cX13_lay 89 = .ok (.iload 4, 2) := by decide +kernel
theorem dX13_lay_91 : decode cX13_lay 91 = .ok (.iaload, 1) := by decide +kernel
theorem dX13_lay_92 : decode cX13_lay 92 = .ok (.bipush 10, 2) := by decide +kernel
theorem dX13_lay_94 : decode cX13_lay 94 = .ok (.irem, 1) := by decide +kernel
theorem dX13_lay_95 : decode cX13_lay 95 = .ok (.istore 7, 2) := by decide +kernel
theorem dX13_lay_97 : decode cX13_lay 97 = .ok (.iload 5, 2) := by decide +kernel
theorem dX13_lay_99 : decode cX13_lay 99 = .ok (.ifCond .ne 17, 3) := by decide +kernel
theorem dX13_lay_102 : decode cX13_lay 102 = .ok (.aload_n 0, 1) := by decide +kernel
theorem dX13_lay_103 : decode cX13_lay 103 = .ok (.getfield 9, 3) := by decide +kernel
theorem dX13_lay_106 : decode cX13_lay 106 = .ok (.bipush 7, 2) := by decide +kernel
theorem dX13_lay_108 : decode cX13_lay 108 = .ok (.iload 6, 2) := by decide +kernel
theorem dX13_lay_110 : decode cX13_lay 110 = .ok (.imul, 1) := by decide +kernel
theorem dX13_lay_111 : decode cX13_lay 111 = .ok (.iload 7, 2) := by decide +kernel
theorem dX13_lay_113 : decode cX13_lay 113 = .ok (.iadd, 1) := by decide +kernel
theorem dX13_lay_114 : decode cX13_lay 114 = .ok (.iconst 1, 1) := by decide +kernel
theorem dX13_lay_115 : decode cX13_lay 115 = .ok (.bastore, 1) := by decide +kernel
theorem dX13_lay_116 : decode cX13_lay 116 = .ok (.iload 5, 2) := by decide +kernel
theorem dX13_lay_118 : decode cX13_lay 118 = .ok (.iconst 3, 1) := by decide +kernel
theorem dX13_lay_119 : decode cX13_lay 119 = .ok (.if_icmp .ne 17, 3) := by decide +kernel
theorem dX13_lay_122 : decode cX13_lay 122 = .ok (.aload_n 0, 1) := by decide +kernel
theorem dX13_lay_123 : decode cX13_lay 123 = .ok (.getfield 15, 3) := by decide +kernel
theorem dX13_lay_126 : decode cX13_lay 126 = .ok (.bipush 7, 2) := by decide +kernel
theorem dX13_lay_128 : decode cX13_lay 128 = .ok (.iload 6, 2) := by decide +kernel
theorem dX13_lay_130 : decode cX13_lay 130 = .ok (.imul, 1) := by decide +kernel
theorem dX13_lay_131 : decode cX13_lay 131 = .ok (.iload 7, 2) := by decide +kernel
theorem dX13_lay_133 : decode cX13_lay 133 = .ok (.iadd, 1) := by decide +kernel
theorem dX13_lay_134 : decode cX13_lay 134 = .ok (.iconst 1, 1) := by decide +kernel
theorem dX13_lay_135 : decode cX13_lay 135 = .ok (.bastore, 1) := by decide +kernel
theorem dX13_lay_136 : decode cX13_lay 136 = .ok (.iload 7, 2) := by decide +kernel
theorem dX13_lay_138 : decode cX13_lay 138 = .ok (.istore 8, 2) := by decide +kernel
theorem dX13_lay_140 : decode cX13_lay 140 = .ok (.iload 8, 2) := by decide +kernel
theorem dX13_lay_142 : decode cX13_lay 142 = .ok (.bipush 7, 2) := by decide +kernel
theorem dX13_lay_144 : decode cX13_lay 144 = .ok (.if_icmp .ge 29, 3) := by decide +kernel
theorem dX13_lay_147 : decode cX13_lay 147 = .ok (.iload 5, 2) := by decide +kernel
theorem dX13_lay_149 : decode cX13_lay 149 = .ok (.iconst 1, 1) := by decide +kernel
theorem dX13_lay_150 : decode cX13_lay 150 = .ok (.if_icmp .ne 23, 3) := by decide +kernel
theorem dX13_lay_153 : decode cX13_lay 153 = .ok (.aload_n 0, 1) := by decide +kernel
theorem dX13_lay_154 : decode cX13_lay 154 = .ok (.getfield 18, 3) := by decide +kernel
theorem dX13_lay_157 : decode cX13_lay 157 = .ok (.iload 8, 2) := by decide +kernel
theorem dX13_lay_159 : decode cX13_lay 159 = .ok (.dup2, 1) := by decide +kernel
theorem dX13_lay_160 : decode cX13_lay 160 = .ok (.iaload, 1) := by decide +kernel
theorem dX13_lay_161 : decode cX13_lay 161 = .ok (.iconst 1, 1) := by decide +kernel
theorem dX13_lay_162 : decode cX13_lay 162 = .ok (.iload 6, 2) := by decide +kernel
theorem dX13_lay_164 : decode cX13_lay 164 = .ok (.ishl, 1) := by decide +kernel
theorem dX13_lay_165 : decode cX13_lay 165 = .ok (.ior, 1) := by decide +kernel
theorem dX13_lay_166 : decode cX13_lay 166 = .ok (.iastore, 1) := by decide +kernel
theorem dX13_lay_167 : decode cX13_lay 167 = .ok (.iinc 8 1, 3) := by decide +kernel
theorem dX13_lay_170 : decode cX13_lay 170 = .ok (.goto (-30), 3) := by decide +kernel
theorem dX13_lay_173 : decode cX13_lay 173 = .ok (.iload 7, 2) := by decide +kernel
theorem dX13_lay_175 : decode cX13_lay 175 = .ok (.istore 8, 2) := by decide +kernel
theorem dX13_lay_177 : decode cX13_lay 177 = .ok (.iload 8, 2) := by decide +kernel
theorem dX13_lay_179 : decode cX13_lay 179 = .ok (.bipush 7, 2) := by decide +kernel
theorem dX13_lay_181 : decode cX13_lay 181 = .ok (.if_icmp .ge 38, 3) := by decide +kernel
theorem dX13_lay_184 : decode cX13_lay 184 = .ok (.iload 8, 2) := by decide +kernel
theorem dX13_lay_186 : decode cX13_lay 186 = .ok (.iload 7, 2) := by decide +kernel
theorem dX13_lay_188 : decode cX13_lay 188 = .ok (.iconst 2, 1) := by decide +kernel
theorem dX13_lay_189 : decode cX13_lay 189 = .ok (.iadd, 1) := by decide +kernel
theorem dX13_lay_190 : decode cX13_lay 190 = .ok (.if_icmp .ge 29, 3) := by decide +kernel
theorem dX13_lay_193 : decode cX13_lay 193 = .ok (.iload 5, 2) := by decide +kernel
theorem dX13_lay_195 : decode cX13_lay 195 = .ok (.iconst 2, 1) := by decide +kernel
theorem dX13_lay_196 : decode cX13_lay 196 = .ok (.if_icmp .ne 23, 3) := by decide +kernel
theorem dX13_lay_199 : decode cX13_lay 199 = .ok (.aload_n 0, 1) := by decide +kernel
theorem dX13_lay_200 : decode cX13_lay 200 = .ok (.getfield 18, 3) := by decide +kernel
theorem dX13_lay_203 : decode cX13_lay 203 = .ok (.iload 8, 2) := by decide +kernel
theorem dX13_lay_205 : decode cX13_lay 205 = .ok (.dup2, 1) := by decide +kernel
theorem dX13_lay_206 : decode cX13_lay 206 = .ok (.iaload, 1) := by decide +kernel
theorem dX13_lay_207 : decode cX13_lay 207 = .ok (.iconst 1, 1) := by decide +kernel
theorem dX13_lay_208 : decode cX13_lay 208 = .ok (.iload 6, 2) := by decide +kernel
theorem dX13_lay_210 : decode cX13_lay 210 = .ok (.ishl, 1) := by decide +kernel
theorem dX13_lay_211 : decode cX13_lay 211 = .ok (.ior, 1) := by decide +kernel
theorem dX13_lay_212 : decode cX13_lay 212 = .ok (.iastore, 1) := by decide +kernel
theorem dX13_lay_213 : decode cX13_lay 213 = .ok (.iinc 8 1, 3) := by decide +kernel
theorem dX13_lay_216 : decode cX13_lay 216 = .ok (.goto (-39), 3) := by decide +kernel
theorem dX13_lay_219 : decode cX13_lay 219 = .ok (.iinc 4 1, 3) := by decide +kernel
theorem dX13_lay_222 : decode cX13_lay 222 = .ok (.goto (-163), 3) := by decide +kernel
theorem dX13_lay_225 : decode cX13_lay 225 = .ok (.return_, 1) := by decide +kernel
theorem dX13_isDown_0 : decode cX13_isDown 0 = .ok (.aload_n 0, 1) := by decide +kernel
theorem dX13_isDown_1 : decode cX13_isDown 1 = .ok (.getfield 18, 3) := by decide +kernel
theorem dX13_isDown_4 : decode cX13_isDown 4 = .ok (.iload_n 1, 1) := by decide +kernel
theorem dX13_isDown_5 : decode cX13_isDown 5 = .ok (.iaload, 1) := by decide +kernel
theorem dX13_isDown_6 : decode cX13_isDown 6 = .ok (.iload_n 2, 1) := by decide +kernel
theorem dX13_isDown_7 : decode cX13_isDown 7 = .ok (.ishr, 1) := by decide +kernel
theorem dX13_isDown_8 : decode cX13_isDown 8 = .ok (.iconst 1, 1) := by decide +kernel
theorem dX13_isDown_9 : decode cX13_isDown 9 = .ok (.iand, 1) := by decide +kernel
theorem dX13_isDown_10 : decode cX13_isDown 10 = .ok (.iconst 1, 1) := by decide +kernel
theorem dX13_isDown_11 : decode cX13_isDown 11 = .ok (.if_icmp .ne 7, 3) := by decide +kernel
theorem dX13_isDown_14 : decode cX13_isDown 14 = .ok (.iconst 1, 1) := by decide +kernel
theorem dX13_isDown_15 : decode cX13_isDown 15 = .ok (.goto 4, 3) := by decide +kernel
theorem dX13_isDown_18 : decode cX13_isDown 18 = .ok (.iconst 0, 1) := by decide +kernel
theorem dX13_isDown_19 : decode cX13_isDown 19 = .ok (.ireturn, 1) := by decide +kernel
theorem dX14_init_0 : decode cX14_init 0 = .ok (.aload_n 0, 1) := by decide +kernel
theorem dX14_init_1 : decode cX14_init 1 = .ok (.aconst_null, 1) := by decide +kernel
theorem dX14_init_2 : decode cX14_init 2 = .ok (.aconst_null, 1) := by decide +kernel
theorem dX14_init_3 : decode cX14_init 3 = .ok (.iconst 0, 1) := by decide +kernel
theorem dX14_init_4 : decode cX14_init 4 = .ok (.iconst 0, 1) := by decide +kernel
theorem dX14_init_5 : decode cX14_init 5 = .ok (.invokespecial 1, 3) := by decide +kernel
theorem dX14_init_8 : decode cX14_init 8 = .ok (.return_, 1) := by decide +kernel
theorem dX15_init_0 : decode cX15_init 0 = .ok (.aload_n 0, 1) := by decide +kernel
theorem dX15_init_1 : decode cX15_init 1 = .ok (.invokespecial 3, 3) := by decide +kernel
theorem dX15_init_4 : decode cX15_init 4 = .ok (.aload_n 0, 1) := by decide +kernel
theorem dX15_init_5 : decode cX15_init 5 = .ok (.iconst (-1), 1) := by decide +kernel
theorem dX15_init_6 : decode cX15_init 6 = .ok (.putfield 9, 3) := by decide +kernel
theorem dX15_init_9 : decode cX15_init 9 = .ok (.aload_n 0, 1) := by decide +kernel
theorem dX15_init_10 : decode cX15_init 10 = .ok (.new 13, 3) := by decide +kernel
theorem dX15_init_13 : decode cX15_init 13 = .ok (.dup, 1) := by decide +kernel
theorem dX15_init_14 : decode cX15_init 14 = .ok (.invokespecial 15, 3) := by decide +kernel
theorem dX15_init_17 : decode cX15_init 17 = .ok (.putfield 16, 3) := by decide +kernel
theorem dX15_init_20 : decode cX15_init 20 = .ok (.aload_n 0, 1) := by decide +kernel
theorem dX15_init_21 : decode cX15_init 21 = .ok (.sipush 700, 3) := by decide +kernel
theorem dX15_init_24 : decode cX15_init 24 = .ok (.newarray .byte, 2) := by decide +kernel
theorem dX15_init_26 : decode cX15_init 26 = .ok (.putfield 20, 3) := by decide +kernel
theorem dX15_init_29 : decode cX15_init 29 = .ok (.aload_n 0, 1) := by decide +kernel
theorem dX15_init_30 : decode cX15_init 30 = .ok (.iconst 4, 1) := by decide +kernel
theorem dX15_init_31 : decode cX15_init 31 = .ok (.putfield 24, 3) := by decide +kernel
theorem dX15_init_34 : decode cX15_init 34 = .ok (.aload_n 0, 1) := by decide +kernel
theorem dX15_init_35 : decode cX15_init 35 = .ok (.iconst 4, 1) := by decide +kernel
theorem dX15_init_36 : decode cX15_init 36 = .ok (.newarray .int, 2) := by decide +kernel
theorem dX15_init_38 : decode cX15_init 38 = .ok (.putfield 27, 3) := by decide +kernel
theorem dX15_init_41 : decode cX15_init 41 = .ok (.aload_n 0, 1) := by decide +kernel
theorem dX15_init_42 : decode cX15_init 42 = .ok (.bipush 6, 2) := by decide +kernel
theorem dX15_init_44 : decode cX15_init 44 = .ok (.newarray .int, 2) := by decide +kernel
theorem dX15_init_46 : decode cX15_init 46 = .ok (.putfield 31, 3) := by decide +kernel
theorem dX15_init_49 : decode cX15_init 49 = .ok (.aload_n 0, 1) := by decide +kernel
theorem dX15_init_50 : decode cX15_init 50 = .ok (.bipush 8, 2) := by decide +kernel
theorem dX15_init_52 : decode cX15_init 52 = .ok (.newarray .int, 2) := by decide +kernel
theorem dX15_init_54 : decode cX15_init 54 = .ok (.putfield 34, 3) := by decide +kernel
theorem dX15_init_57 : decode cX15_init 57 = .ok (.aload_n 0, 1) := by decide +kernel
theorem dX15_init_58 : decode cX15_init 58 = .ok (.bipush 48, 2) := by decide +kernel
theorem dX15_init_60 : decode cX15_init 60 = .ok (.newarray .int, 2) := by decide +kernel
theorem dX15_init_62 : decode cX15_init 62 = .ok (.putfield 37, 3) := by decide +kernel
theorem dX15_init_65 : decode cX15_init 65 = .ok (.aload_n 0, 1) := by decide +kernel
theorem dX15_init_66 : decode cX15_init 66 = .ok (.new 40, 3) := by decide +kernel
theorem dX15_init_69 : decode cX15_init 69 = .ok (.dup, 1) := by decide +kernel
theorem dX15_init_70 : decode cX15_init 70 = .ok (.invokespecial 42, 3) := by decide +kernel
theorem dX15_init_73 : decode cX15_init 73 = .ok (.putfield 43, 3) := by decide +kernel
theorem dX15_init_76 : decode cX15_init 76 = .ok (.aload_n 0, 1) := by decide +kernel
theorem dX15_init_77 : decode cX15_init 77 = .ok (.new 40, 3) := by decide +kernel
theorem dX15_init_80 : decode cX15_init 80 = .ok (.dup, 1) := by decide +kernel
theorem dX15_init_81 : decode cX15_init 81 = .ok (.invokespecial 42, 3) := by decide +kernel
theorem dX15_init_84 : decode cX15_init 84 = .ok (.putfield 47, 3) := by decide +kernel
theorem dX15_init_87 : decode cX15_init 87 = .ok (.aload_n 0, 1) := by decide +kernel
theorem dX15_init_88 : decode cX15_init 88 = .ok (.sipush 2912, 3) := by decide +kernel
theorem dX15_init_91 : decode cX15_init 91 = .ok (.newarray .int, 2) := by decide +kernel
theorem dX15_init_93 : decode cX15_init 93 = .ok (.putfield 50, 3) := by decide +kernel
theorem dX15_init_96 : decode cX15_init 96 = .ok (.aload_n 0, 1) := by decide +kernel
theorem dX15_init_97 : decode cX15_init 97 = .ok (.sipush 728, 3) := by decide +kernel
theorem dX15_init_100 : decode cX15_init 100 = .ok (.newarray .int, 2) := by decide +kernel
theorem dX15_init_102 : decode cX15_init 102 = .ok (.putfield 53, 3) := by decide +kernel
theorem dX15_init_105 : decode cX15_init 105 = .ok (.aload_n 0, 1) := by decide +kernel
theorem dX15_init_106 : decode cX15_init 106 = .ok (.sipush 4368, 3) := by decide +kernel
theorem dX15_init_109 : decode cX15_init 109 = .ok (.newarray .int, 2) := by decide +kernel
theorem dX15_init_111 : decode cX15_init 111 = .ok (.putfield 56, 3) := by decide +kernel
theorem dX15_init_114 : decode cX15_init 114 = .ok (.aload_n 0, 1) := by decide +kernel
theorem dX15_init_115 : decode cX15_init 115 = .ok (.sipush 4368, 3) := by decide +kernel
theorem dX15_init_118 : decode cX15_init 118 = .ok (.newarray .int, 2) := by decide +kernel
theorem dX15_init_120 : decode cX15_init 120 = .ok (.putfield 59, 3) := by decide +kernel
theorem dX15_init_123 : decode cX15_init 123 = .ok (.aload_n 0, 1) := by decide +kernel
theorem dX15_init_124 : decode cX15_init 124 = .ok (.sipush 4368, 3) := by decide +kernel
theorem dX15_init_127 : decode cX15_init 127 = .ok (.newarray .boolean, 2) := by decide +kernel
theorem dX15_init_129 : decode cX15_init 129 = .ok (.putfield 62, 3) := by decide +kernel
theorem dX15_init_132 : decode cX15_init 132 = .ok (.aload_n 0, 1) := by decide +kernel
theorem dX15_init_133 : decode cX15_init 133 = .ok (.bipush 54, 2) := by decide +kernel
theorem dX15_init_135 : decode cX15_init 135 = .ok (.newarray .int, 2) := by decide +kernel
theorem dX15_init_137 : decode cX15_init 137 = .ok (.putfield 66, 3) := by decide +kernel
theorem dX15_init_140 : decode cX15_init 140 = .ok (.aload_n 0, 1) := by decide +kernel
theorem dX15_init_141 : decode cX15_init 141 = .ok (.bipush 28, 2) := by decide +kernel
theorem dX15_init_143 : decode cX15_init 143 = .ok (.newarray .int, 2) := by decide +kernel
theorem dX15_init_145 : decode cX15_init 145 = .ok (.putfield 69, 3) := by decide +kernel
theorem dX15_init_148 : decode cX15_init 148 = .ok (.aload_n 0, 1) := by decide +kernel
theorem dX15_init_149 : decode cX15_init 149 = .ok (.bipush 120, 2) := by decide +kernel
theorem dX15_init_151 : decode cX15_init 151 = .ok (.newarray .int, 2) := by decide +kernel
theorem dX15_init_153 : decode cX15_init 153 = .ok (.putfield 72, 3) := by decide +kernel
theorem dX15_init_156 : decode cX15_init 156 = .ok (.aload_n 0, 1) := by decide +kernel
theorem dX15_init_157 : decode cX15_init 157 = .ok (.iconst 3, 1) := by decide +kernel
theorem dX15_init_158 : decode cX15_init 158 = .ok (.newarray .int, 2) := by decide +kernel
theorem dX15_init_160 : decode cX15_init 160 = .ok (.putfield 75, 3) := by decide +kernel
theorem dX15_init_163 : decode cX15_init 163 = .ok (.aload_n 0, 1) := by decide +kernel
theorem dX15_init_164 : decode cX15_init 164 = .ok (.iconst 3, 1) := by decide +kernel
theorem dX15_init_165 : decode cX15_init 165 = .ok (.newarray .int, 2) := by decide +kernel
theorem dX15_init_167 : decode cX15_init 167 = .ok (.putfield 78, 3) := by decide +kernel
theorem dX15_init_170 : decode cX15_init 170 = .ok (.aload_n 0, 1) := by decide +kernel
theorem dX15_init_171 : decode cX15_init 171 = .ok (.iconst (-1), 1) := by decide +kernel
theorem dX15_init_172 : decode cX15_init 172 = .ok (.putfield 81, 3) := by decide +kernel
theorem dX15_init_175 : decode cX15_init 175 = .ok (.aload_n 0, 1) := by decide +kernel
theorem dX15_init_176 : decode cX15_init 176 = .ok (.iconst (-1), 1) := by decide +kernel
theorem dX15_init_177 : decode cX15_init 177 = .ok (.putfield 84, 3) := by decide +kernel
theorem dX15_init_180 : decode cX15_init 180 = .ok (.aload_n 0, 1) := by decide +kernel
theorem dX15_init_181 : decode cX15_init 181 = .ok (.iconst 3, 1) := by decide +kernel
theorem dX15_init_182 : decode cX15_init 182 = .ok (.newarray .int, 2) := by decide +kernel
theorem dX15_init_184 : decode cX15_init 184 = .ok (.putfield 87, 3) := by decide +kernel
theorem dX15_init_187 : decode cX15_init 187 = .ok (.aload_n 0, 1) := by decide +kernel
theorem dX15_init_188 : decode cX15_init 188 = .ok (.iconst 3, 1) := by decide +kernel
theorem dX15_init_189 : decode cX15_init 189 = .ok (.newarray .int, 2) := by decide +kernel
theorem dX15_init_191 : decode cX15_init 191 = .ok (.putfield 90, 3) := by decide +kernel
theorem dX15_init_194 : decode cX15_init 194 = .ok (.aload_n 0, 1) := by decide +kernel
theorem dX15_init_195 : decode cX15_init 195 = .ok (.bipush 6, 2) := by decide +kernel
theorem dX15_init_197 : decode cX15_init 197 = .ok (.newarray .int, 2) := by decide +kernel
theorem dX15_init_199 : decode cX15_init 199 = .ok (.putfield 93, 3) := by decide +kernel
theorem dX15_init_202 : decode cX15_init 202 = .ok (.aload_n 0, 1) := by decide +kernel
theorem dX15_init_203 : decode cX15_init 203 = .ok (.iconst (-1), 1) := by decide +kernel
theorem dX15_init_204 : decode cX15_init 204 = .ok (.putfield 96, 3) := by decide +kernel
theorem dX15_init_207 : decode cX15_init 207 = .ok (.aload_n 0, 1) := by decide +kernel
theorem dX15_init_208 : decode cX15_init 208 = .ok (.sipush 280, 3) := by decide +kernel
theorem dX15_init_211 : decode cX15_init 211 = .ok (.newarray .int, 2) := by decide +kernel
theorem dX15_init_213 : decode cX15_init 213 = .ok (.putfield 99, 3) := by decide +kernel
theorem dX15_init_216 : decode cX15_init 216 = .ok (.aload_n 0, 1) := by decide +kernel
theorem dX15_init_217 : decode cX15_init 217 = .ok (.bipush 6, 2) := by decide +kernel
theorem dX15_init_219 : decode cX15_init 219 = .ok (.newarray .int, 2) := by decide +kernel
theorem dX15_init_221 : decode cX15_init 221 = .ok (.putfield 102, 3) := by decide +kernel
theorem dX15_init_224 : decode cX15_init 224 = .ok (.aload_n 0, 1) := by decide +kernel
theorem dX15_init_225 : decode cX15_init 225 = .ok (.bipush 6, 2) := by decide +kernel
theorem dX15_init_227 : decode cX15_init 227 = .ok (.newarray .int, 2) := by decide +kernel
theorem dX15_init_229 : decode cX15_init 229 = .ok (.putfield 105, 3) := by decide +kernel
theorem dX15_init_232 : decode cX15_init 232 = .ok (.return_, 1) := by decide +kernel
theorem dX15_thrown_0 : decode cX15_thrown 0 = .ok (.aload_n 0, 1) := by decide +kernel
theorem dX15_thrown_1 : decode cX15_thrown 1 = .ok (.getfield 108, 3) := by decide +kernel
theorem dX15_thrown_4 : decode cX15_thrown 4 = .ok (.ireturn, 1) := by decide +kernel
theorem dX15_refused_0 : decode cX15_refused 0 = .ok (.aload_n 0, 1) := by decide +kernel
theorem dX15_refused_1 : decode cX15_refused 1 = .ok (.iload_n 1, 1) := by decide +kernel
theorem dX15_refused_2 : decode cX15_refused 2 = .ok (.putfield 111, 3) := by decide +kernel
theorem dX15_refused_5 : decode cX15_refused 5 = .ok (.aload_n 0, 1) := by decide +kernel
theorem dX15_refused_6 : decode cX15_refused 6 = .ok (.iconst (-1), 1) := by decide +kernel
theorem dX15_refused_7 : decode cX15_refused 7 = .ok (.putfield 9, 3) := by decide +kernel
theorem dX15_refused_10 : decode cX15_refused 10 = .ok (.iconst (-1), 1) := by decide +kernel
theorem dX15_refused_11 : decode cX15_refused 11 = .ok (.ireturn, 1) := by decide +kernel
theorem dX15_denied_0 : decode cX15_denied 0 = .ok (.aload_n 0, 1) := by decide +kernel
theorem dX15_denied_1 : decode cX15_denied 1 = .ok (.iload_n 1, 1) := by decide +kernel
theorem dX15_denied_2 : decode cX15_denied 2 = .ok (.putfield 111, 3) := by decide +kernel
theorem dX15_denied_5 : decode cX15_denied 5 = .ok (.aload_n 0, 1) := by decide +kernel
theorem dX15_denied_6 : decode cX15_denied 6 = .ok (.iconst (-1), 1) := by decide +kernel
theorem dX15_denied_7 : decode cX15_denied 7 = .ok (.putfield 9, 3) := by decide +kernel
theorem dX15_denied_10 : decode cX15_denied 10 = .ok (.iconst 0, 1) := by decide +kernel
theorem dX15_denied_11 : decode cX15_denied 11 = .ok (.ireturn, 1) := by decide +kernel
theorem dX15_done_0 : decode cX15_done 0 = .ok (.aload_n 0, 1) := by decide +kernel
theorem dX15_done_1 : decode cX15_done 1 = .ok (.iconst 0, 1) := by decide +kernel
theorem dX15_done_2 : decode cX15_done 2 = .ok (.putfield 111, 3) := by decide +kernel
theorem dX15_done_5 : decode cX15_done 5 = .ok (.aload_n 0, 1) := by decide +kernel
theorem dX15_done_6 : decode cX15_done 6 = .ok (.iconst (-1), 1) := by decide +kernel
theorem dX15_done_7 : decode cX15_done 7 = .ok (.putfield 9, 3) := by decide +kernel
theorem dX15_done_10 : decode cX15_done 10 = .ok (.iload_n 1, 1) := by decide +kernel
theorem dX15_done_11 : decode cX15_done 11 = .ok (.ireturn, 1) := by decide +kernel
theorem dX15_granted_0 : decode cX15_granted 0 = .ok (.aload_n 0, 1) := by decide +kernel
theorem dX15_granted_1 : decode cX15_granted 1 = .ok (.iconst 0, 1) := by decide +kernel
theorem dX15_granted_2 : decode cX15_granted 2 = .ok (.putfield 111, 3) := by decide +kernel
theorem dX15_granted_5 : decode cX15_granted 5 = .ok (.aload_n 0, 1) := by decide +kernel
theorem dX15_granted_6 : decode cX15_granted 6 = .ok (.iconst (-1), 1) := by decide +kernel
theorem dX15_granted_7 : decode cX15_granted 7 = .ok (.putfield 9, 3) := by decide +kernel
theorem dX15_granted_10 : decode cX15_granted 10 = .ok (.iconst 1, 1) := by decide +kernel
theorem dX15_granted_11 : decode cX15_granted 11 = .ok (.ireturn, 1) := by decide +kernel
theorem dX15_in_0 : decode cX15_in 0 = .ok (.iload_n 0, 1) := by decide +kernel
theorem dX15_in_1 : decode cX15_in 1 = .ok (.iload_n 1, 1) := by decide +kernel
theorem dX15_in_2 : decode cX15_in 2 = .ok (.if_icmp .lt 12, 3) := by decide +kernel
theorem dX15_in_5 : decode cX15_in 5 = .ok (.iload_n 0, 1) := by decide +kernel
theorem dX15_in_6 : decode cX15_in 6 = .ok (.iload_n 2, 1) := by decide +kernel
theorem dX15_in_7 : decode cX15_in 7 = .ok (.if_icmp .gt 7, 3) := by decide +kernel
theorem dX15_in_10 : decode cX15_in 10 = .ok (.iconst 1, 1) := by decide +kernel
theorem dX15_in_11 : decode cX15_in 11 = .ok (.goto 4, 3) := by decide +kernel
theorem dX15_in_14 : decode cX15_in 14 = .ok (.iconst 0, 1) := by decide +kernel
theorem dX15_in_15 : decode cX15_in 15 = .ok (.ireturn, 1) := by decide +kernel
theorem dX15_stop_0 : decode cX15_stop 0 = .ok (.aload_n 0, 1) := by decide +kernel
theorem dX15_stop_1 : decode cX15_stop 1 = .ok (.getfield 16, 3) := by decide +kernel
theorem dX15_stop_4 : decode cX15_stop 4 = .ok (.iload_n 1, 1) := by decide +kernel
theorem dX15_stop_5 : decode cX15_stop 5 = .ok (.putfield 114, 3) := by decide +kernel
theorem dX15_stop_8 : decode cX15_stop 8 = .ok (.aload_n 0, 1) := by decide +kernel
theorem dX15_stop_9 : decode cX15_stop 9 = .ok (.getfield 16, 3) := by decide +kernel
theorem dX15_stop_12 : decode cX15_stop 12 = .ok (.aload_n 0, 1) := by decide +kernel
theorem dX15_stop_13 : decode cX15_stop 13 = .ok (.getfield 117, 3) := by decide +kernel
theorem dX15_stop_16 : decode cX15_stop 16 = .ok (.putfield 120, 3) := by decide +kernel
theorem dX15_stop_19 : decode cX15_stop 19 = .ok (.aload_n 0, 1) := by decide +kernel
theorem dX15_stop_20 : decode cX15_stop 20 = .ok (.getfield 16, 3) := by decide +kernel
theorem dX15_stop_23 : decode cX15_stop 23 = .ok (.areturn, 1) := by decide +kernel
theorem dX15_byteAt_0 : decode cX15_byteAt 0 = .ok (.iload_n 1, 1) := by decide +kernel
theorem dX15_byteAt_1 : decode cX15_byteAt 1 = .ok (.aload_n 0, 1) := by decide +kernel
theorem dX15_byteAt_2 : decode cX15_byteAt 2 = .ok (.getfield 121, 3) := by decide +kernel
theorem dX15_byteAt_5 : decode cX15_byteAt 5 = .ok (.if_icmp .ge 16, 3) := by decide +kernel
theorem dX15_byteAt_8 : decode cX15_byteAt 8 = .ok (.aload_n 0, 1) := by decide +kernel
theorem dX15_byteAt_9 : decode cX15_byteAt 9 = .ok (.getfield 20, 3) := by decide +kernel
theorem dX15_byteAt_12 : decode cX15_byteAt 12 = .ok (.iload_n 1, 1) := by decide +kernel
theorem dX15_byteAt_13 : decode cX15_byteAt 13 = .ok (.baload, 1) := by decide +kernel
theorem dX15_byteAt_14 : decode cX15_byteAt 14 = .ok (.sipush 255, 3) := by decide +kernel
theorem dX15_byteAt_17 : decode cX15_byteAt 17 = .ok (.iand, 1) := by decide +kernel
theorem dX15_byteAt_18 : decode cX15_byteAt 18 = .ok (.goto 4, 3) := by decide +kernel
theorem dX15_byteAt_21 : decode cX15_byteAt 21 = .ok (.iconst (-1), 1) := by decide +kernel
theorem dX15_byteAt_22 : decode cX15_byteAt 22 = .ok (.ireturn, 1) := by decide +kernel
theorem dX15_isLetter_0 : decode cX15_isLetter 0 = .ok (.iload_n 0, 1) := by decide +kernel
theorem dX15_isLetter_1 : decode cX15_isLetter 1 = .ok (.bipush 97, 2) := by decide +kernel
theorem dX15_isLetter_3 : decode cX15_isLetter 3 = .ok (.if_icmp .lt 13, 3) := by decide +kernel
theorem dX15_isLetter_6 : decode cX15_isLetter 6 = .ok (.iload_n 0, 1) := by decide +kernel
theorem dX15_isLetter_7 : decode cX15_isLetter 7 = .ok (.bipush 122, 2) := by decide +kernel
theorem dX15_isLetter_9 : decode cX15_isLetter 9 = .ok (.if_icmp .gt 7, 3) := by decide +kernel
theorem dX15_isLetter_12 : decode cX15_isLetter 12 = .ok (.iconst 1, 1) := by decide +kernel
theorem dX15_isLetter_13 : decode cX15_isLetter 13 = .ok (.goto 4, 3) := by decide +kernel
theorem dX15_isLetter_16 : decode cX15_isLetter 16 = .ok (.iconst 0, 1) := by decide +kernel
theorem dX15_isLetter_17 : decode cX15_isLetter 17 = .ok (.ireturn, 1) := by decide +kernel
theorem dX15_wordOf_0 : decode cX15_wordOf 0 = .ok (.lconst 0, 1) := by decide +kernel
theorem dX15_wordOf_1 : decode cX15_wordOf 1 = .ok (.lstore_n 1, 1) := by decide +kernel
theorem dX15_wordOf_2 : decode cX15_wordOf 2 = .ok (.iconst 0, 1) := by decide +kernel
theorem dX15_wordOf_3 : decode cX15_wordOf 3 = .ok (.istore_n 3, 1) := by decide +kernel
theorem dX15_wordOf_4 : decode cX15_wordOf 4 = .ok (.iload_n 3, 1) := by decide +kernel
theorem dX15_wordOf_5 : decode cX15_wordOf 5 = .ok (.aload_n 0, 1) := by decide +kernel
theorem dX15_wordOf_6 : decode cX15_wordOf 6 = .ok (.invokevirtual 124, 3) := by decide +kernel
theorem dX15_wordOf_9 : decode cX15_wordOf 9 = .ok (.if_icmp .ge 27, 3) := by decide +kernel
theorem dX15_wordOf_12 : decode cX15_wordOf 12 = .ok (.ldc2_w 130, 3) := by decide +kernel
theorem dX15_wordOf_15 : decode cX15_wordOf 15 = .ok (.lload_n 1, 1) := by decide +kernel
theorem dX15_wordOf_16 : decode cX15_wordOf 16 = .ok (.lmul, 1) := by decide +kernel
theorem dX15_wordOf_17 : decode cX15_wordOf 17 = .ok (.aload_n 0, 1) := by decide +kernel
theorem dX15_wordOf_18 : decode cX15_wordOf 18 = .ok (.iload_n 3, 1) := by decide +kernel
theorem dX15_wordOf_19 : decode cX15_wordOf 19 = .ok (.invokevirtual 132, 3) := by decide +kernel
theorem dX15_wordOf_22 : decode cX15_wordOf 22 = .ok (.bipush 97, 2) := by decide +kernel
theorem dX15_wordOf_24 : decode cX15_wordOf 24 = .ok (.isub, 1) := by decide +kernel
theorem dX15_wordOf_25 : decode cX15_wordOf 25 = .ok (.iconst 1, 1) := by decide +kernel
theorem dX15_wordOf_26 : decode cX15_wordOf 26 = .ok (.iadd, 1) := by decide +kernel
theorem dX15_wordOf_27 : decode cX15_wordOf 27 = .ok (.i2l, 1) := by decide +kernel
theorem dX15_wordOf_28 : decode cX15_wordOf 28 = .ok (.ladd, 1) := by decide +kernel
theorem dX15_wordOf_29 : decode cX15_wordOf 29 = .ok (.lstore_n 1, 1) := by decide +kernel
theorem dX15_wordOf_30 : decode cX15_wordOf 30 = .ok (.iinc 3 1, 3) := by decide +kernel
theorem dX15_wordOf_33 : decode cX15_wordOf 33 = .ok (.goto (-29), 3) := by decide +kernel
theorem dX15_wordOf_36 : decode cX15_wordOf 36 = .ok (.lload_n 1, 1) := by decide +kernel
theorem dX15_wordOf_37 : decode cX15_wordOf 37 = .ok (.lreturn, 1) := by decide +kernel
theorem dX15_next_0 : decode cX15_next 0 = .ok (.aload_n 0, 1) := by decide +kernel
theorem dX15_next_1 : decode cX15_next 1 = .ok (.aload_n 0, 1) := by decide +kernel
theorem dX15_next_2 : decode cX15_next 2 = .ok (.getfield 136, 3) := by decide +kernel
theorem dX15_next_5 : decode cX15_next 5 = .ok (.invokevirtual 139, 3) := by decide +kernel
theorem dX15_next_8 : decode cX15_next 8 = .ok (.bipush 32, 2) := by decide +kernel
theorem dX15_next_10 : decode cX15_next 10 = .ok (.if_icmp .ne 16, 3) := by decide +kernel
theorem dX15_next_13 : decode cX15_next 13 = .ok (.aload_n 0, 1) := by decide +kernel
theorem dX15_next_14 : decode cX15_next 14 = .ok (.dup, 1) := by decide +kernel
theorem dX15_next_15 : decode cX15_next 15 = .ok (.getfield 136, 3) := by decide +kernel
theorem dX15_next_18 : decode cX15_next 18 = .ok (.iconst 1, 1) := by decide +kernel
theorem dX15_next_19 : decode cX15_next 19 = .ok (.iadd, 1) := by decide +kernel
theorem dX15_next_20 : decode cX15_next 20 = .ok (.putfield 136, 3) := by decide +kernel
theorem dX15_next_23 : decode cX15_next 23 = .ok (.goto (-23), 3) := by decide +kernel
theorem dX15_next_26 : decode cX15_next 26 = .ok (.aload_n 0, 1) := by decide +kernel
theorem dX15_next_27 : decode cX15_next 27 = .ok (.aload_n 0, 1) := by decide +kernel
theorem dX15_next_28 : decode cX15_next 28 = .ok (.getfield 136, 3) := by decide +kernel
theorem dX15_next_31 : decode cX15_next 31 = .ok (.putfield 117, 3) := by decide +kernel
theorem dX15_next_34 : decode cX15_next 34 = .ok (.aload_n 0, 1) := by decide +kernel
theorem dX15_next_35 : decode cX15_next 35 = .ok (.iconst 0, 1) := by decide +kernel
theorem dX15_next_36 : decode cX15_next 36 = .ok (.putfield 143, 3) := by decide +kernel
theorem dX15_next_39 : decode cX15_next 39 = .ok (.aload_n 0, 1) := by decide +kernel
theorem dX15_next_40 : decode cX15_next 40 = .ok (.aload_n 0, 1) := by decide +kernel
theorem dX15_next_41 : decode cX15_next 41 = .ok (.getfield 136, 3) := by decide +kernel
theorem dX15_next_44 : decode cX15_next 44 = .ok (.invokevirtual 139, 3) := by decide +kernel
theorem dX15_next_47 : decode cX15_next 47 = .ok (.istore_n 1, 1) := by decide +kernel
theorem dX15_next_48 : decode cX15_next 48 = .ok (.iconst 0, 1) := by decide +kernel
theorem dX15_next_49 : decode cX15_next 49 = .ok (.istore_n 2, 1) := by decide +kernel
theorem dX15_next_50 : decode cX15_next 50 = .ok (.iload_n 1, 1) := by decide +kernel
theorem dX15_next_51 : decode cX15_next 51 = .ok (.iconst (-1), 1) := by decide +kernel
theorem dX15_next_52 : decode cX15_next 52 = .ok (.if_icmp .ne 11, 3) := by decide +kernel
theorem dX15_next_55 : decode cX15_next 55 = .ok (.aload_n 0, 1) := by decide +kernel
theorem dX15_next_56 : decode cX15_next 56 = .ok (.iconst 1, 1) := by decide +kernel
theorem dX15_next_57 : decode cX15_next 57 = .ok (.putfield 143, 3) := by decide +kernel
theorem dX15_next_60 : decode cX15_next 60 = .ok (.goto 113, 3) := by decide +kernel
theorem dX15_next_63 : decode cX15_next 63 = .ok (.iload_n 1, 1) := by decide +kernel
theorem dX15_next_64 : decode cX15_next 64 = .ok (.invokestatic 146, 3) := by decide +kernel
theorem dX15_next_67 : decode cX15_next 67 = .ok (.ifCond .eq 85, 3) := by decide +kernel
theorem dX15_next_70 : decode cX15_next 70 = .ok (.aload_n 0, 1) := by decide +kernel
theorem dX15_next_71 : decode cX15_next 71 = .ok (.lconst 0, 1) := by decide +kernel
theorem dX15_next_72 : decode cX15_next 72 = .ok (.putfield 150, 3) := by decide +kernel
theorem dX15_next_75 : decode cX15_next 75 = .ok (.aload_n 0, 1) := by decide +kernel
theorem dX15_next_76 : decode cX15_next 76 = .ok (.aload_n 0, 1) := by decide +kernel
theorem dX15_next_77 : decode cX15_next 77 = .ok (.getfield 136, 3) := by decide +kernel
theorem dX15_next_80 : decode cX15_next 80 = .ok (.invokevirtual 139, 3) := by decide +kernel
theorem dX15_next_83 : decode cX15_next 83 = .ok (.invokestatic 146, 3) := by decide +kernel
theorem dX15_next_86 : decode cX15_next 86 = .ok (.ifCond .eq 52, 3) := by decide +kernel
theorem dX15_next_89 : decode cX15_next 89 = .ok (.iload_n 2, 1) := by decide +kernel
theorem dX15_next_90 : decode cX15_next 90 = .ok (.bipush 8, 2) := by decide +kernel
theorem dX15_next_92 : decode cX15_next 92 = .ok (.if_icmp .ge 30, 3) := by decide +kernel
theorem dX15_next_95 : decode cX15_next 95 = .ok (.aload_n 0, 1) := by decide +kernel
theorem dX15_next_96 : decode cX15_next 96 = .ok (.ldc2_w 130, 3) := by decide +kernel
theorem dX15_next_99 : decode cX15_next 99 = .ok (.aload_n 0, 1) := by decide +kernel
theorem dX15_next_100 : decode cX15_next 100 = .ok (.getfield 150, 3) := by decide +kernel
theorem dX15_next_103 : decode cX15_next 103 = .ok (.lmul, 1) := by decide +kernel
theorem dX15_next_104 : decode cX15_next 104 = .ok (.aload_n 0, 1) := by decide +kernel
theorem dX15_next_105 : decode cX15_next 105 = .ok (.aload_n 0, 1) := by decide +kernel
theorem dX15_next_106 : decode cX15_next 106 = .ok (.getfield 136, 3) := by decide +kernel
theorem dX15_next_109 : decode cX15_next 109 = .ok (.invokevirtual 139, 3) := by decide +kernel
theorem dX15_next_112 : decode cX15_next 112 = .ok (.bipush 97, 2) := by decide +kernel
theorem dX15_next_114 : decode cX15_next 114 = .ok (.isub, 1) := by decide +kernel
theorem dX15_next_115 : decode cX15_next 115 = .ok (.iconst 1, 1) := by decide +kernel
theorem dX15_next_116 : decode cX15_next 116 = .ok (.iadd, 1) := by decide +kernel
theorem dX15_next_117 : decode cX15_next 117 = .ok (.i2l, 1) := by decide +kernel
theorem dX15_next_118 : decode cX15_next 118 = .ok (.ladd, 1) := by decide +kernel
theorem dX15_next_119 : decode cX15_next 119 = .ok (.putfield 150, 3) := by decide +kernel
theorem dX15_next_122 : decode cX15_next 122 = .ok (.iinc 2 1, 3) := by decide +kernel
theorem dX15_next_125 : decode cX15_next 125 = .ok (.aload_n 0, 1) := by decide +kernel
theorem dX15_next_126 : decode cX15_next 126 = .ok (.dup, 1) := by decide +kernel
theorem dX15_next_127 : decode cX15_next 127 = .ok (.getfield 136, 3) := by decide +kernel
theorem dX15_next_130 : decode cX15_next 130 = .ok (.iconst 1, 1) := by decide +kernel
theorem dX15_next_131 : decode cX15_next 131 = .ok (.iadd, 1) := by decide +kernel
theorem dX15_next_132 : decode cX15_next 132 = .ok (.putfield 136, 3) := by decide +kernel
theorem dX15_next_135 : decode cX15_next 135 = .ok (.goto (-60), 3) := by decide +kernel
theorem dX15_next_138 : decode cX15_next 138 = .ok (.iload_n 2, 1) := by decide +kernel
theorem dX15_next_139 : decode cX15_next 139 = .ok (.bipush 8, 2) := by decide +kernel
theorem dX15_next_141 : decode cX15_next 141 = .ok (.if_icmp .gt 32, 3) := by decide +kernel
theorem dX15_next_144 : decode cX15_next 144 = .ok (.aload_n 0, 1) := by decide +kernel
theorem dX15_next_145 : decode cX15_next 145 = .ok (.iconst 2, 1) := by decide +kernel
theorem dX15_next_146 : decode cX15_next 146 = .ok (.putfield 143, 3) := by decide +kernel
theorem dX15_next_149 : decode cX15_next 149 = .ok (.goto 24, 3) := by decide +kernel
theorem dX15_next_152 : decode cX15_next 152 = .ok (.iload_n 1, 1) := by decide +kernel
theorem dX15_next_153 : decode cX15_next 153 = .ok (.bipush 59, 2) := by decide +kernel
theorem dX15_next_155 : decode cX15_next 155 = .ok (.if_icmp .ne 18, 3) := by decide +kernel
theorem dX15_next_158 : decode cX15_next 158 = .ok (.aload_n 0, 1) := by decide +kernel
theorem dX15_next_159 : decode cX15_next 159 = .ok (.iconst 3, 1) := by decide +kernel
theorem dX15_next_160 : decode cX15_next 160 = .ok (.putfield 143, 3) := by decide +kernel
theorem dX15_next_163 : decode cX15_next 163 = .ok (.aload_n 0, 1) := by decide +kernel
theorem dX15_next_164 : decode cX15_next 164 = .ok (.dup, 1) := by decide +kernel
theorem dX15_next_165 : decode cX15_next 165 = .ok (.getfield 136, 3) := by decide +kernel
theorem dX15_next_168 : decode cX15_next 168 = .ok (.iconst 1, 1) := by decide +kernel
theorem dX15_next_169 : decode cX15_next 169 = .ok (.iadd, 1) := by decide +kernel
theorem dX15_next_170 : decode cX15_next 170 = .ok (.putfield 136, 3) := by decide +kernel
theorem dX15_next_173 : decode cX15_next 173 = .ok (.return_, 1) := by decide +kernel
theorem dX15_isWord_0 : decode cX15_isWord 0 = .ok (.aload_n 0, 1) := by decide +kernel
theorem dX15_isWord_1 : decode cX15_isWord 1 = .ok (.getfield 143, 3) := by decide +kernel
theorem dX15_isWord_4 : decode cX15_isWord 4 = .ok (.iconst 2, 1) := by decide +kernel
theorem dX15_isWord_5 : decode cX15_isWord 5 = .ok (.if_icmp .ne 19, 3) := by decide +kernel
theorem dX15_isWord_8 : decode cX15_isWord 8 = .ok (.aload_n 0, 1) := by decide +kernel
theorem dX15_isWord_9 : decode cX15_isWord 9 = .ok (.getfield 150, 3) := by decide +kernel
theorem dX15_isWord_12 : decode cX15_isWord 12 = .ok (.aload_n 1, 1) := by decide +kernel
theorem dX15_isWord_13 : decode cX15_isWord 13 = .ok (.invokestatic 154, 3) := by decide +kernel
theorem dX15_isWord_16 : decode cX15_isWord 16 = .ok (.lcmp, 1) := by decide +kernel
theorem dX15_isWord_17 : decode cX15_isWord 17 = .ok (.ifCond .ne 7, 3) := by decide +kernel
theorem dX15_isWord_20 : decode cX15_isWord 20 = .ok (.iconst 1, 1) := by decide +kernel
theorem dX15_isWord_21 : decode cX15_isWord 21 = .ok (.goto 4, 3) := by decide +kernel
theorem dX15_isWord_24 : decode cX15_isWord 24 = .ok (.iconst 0, 1) := by decide +kernel
theorem dX15_isWord_25 : decode cX15_isWord 25 = .ok (.ireturn, 1) := by decide +kernel
theorem dX15_isName_0 : decode cX15_isName 0 = .ok (.aload_n 0, 1) := by decide +kernel
theorem dX15_isName_1 : decode cX15_isName 1 = .ok (.getfield 143, 3) := by decide +kernel
theorem dX15_isName_4 : decode cX15_isName 4 = .ok (.iconst 2, 1) := by decide +kernel
theorem dX15_isName_5 : decode cX15_isName 5 = .ok (.if_icmp .ne 106, 3) := by decide +kernel
theorem dX15_isName_8 : decode cX15_isName 8 = .ok (.aload_n 0, 1) := by decide +kernel
theorem dX15_isName_9 : decode cX15_isName 9 = .ok (.ldc 158, 2) := by decide +kernel
theorem dX15_isName_11 : decode cX15_isName 11 = .ok (.invokevirtual 160, 3) := by decide +kernel
theorem dX15_isName_14 : decode cX15_isName 14 = .ok (.ifCond .ne 97, 3) := by decide +kernel
theorem dX15_isName_17 : decode cX15_isName 17 = .ok (.aload_n 0, 1) := by decide +kernel
theorem dX15_isName_18 : decode cX15_isName 18 = .ok (.ldc 164, 2) := by decide +kernel
theorem dX15_isName_20 : decode cX15_isName 20 = .ok (.invokevirtual 160, 3) := by decide +kernel
theorem dX15_isName_23 : decode cX15_isName 23 = .ok (.ifCond .ne 88, 3) := by decide +kernel
theorem dX15_isName_26 : decode cX15_isName 26 = .ok (.aload_n 0, 1) := by decide +kernel
theorem dX15_isName_27 : decode cX15_isName 27 = .ok (.ldc 166, 2) := by decide +kernel
theorem dX15_isName_29 : decode cX15_isName 29 = .ok (.invokevirtual 160, 3) := by decide +kernel
theorem dX15_isName_32 : decode cX15_isName 32 = .ok (.ifCond .ne 79, 3) := by decide +kernel
theorem dX15_isName_35 : decode cX15_isName 35 = .ok (.aload_n 0, 1) := by decide +kernel
theorem dX15_isName_36 : decode cX15_isName 36 = .ok (.ldc 168, 2) := by decide +kernel
theorem dX15_isName_38 : decode cX15_isName 38 = .ok (.invokevirtual 160, 3) := by decide +kernel
theorem dX15_isName_41 : decode cX15_isName 41 = .ok (.ifCond .ne 70, 3) := by decide +kernel
theorem dX15_isName_44 : decode cX15_isName 44 = .ok (.aload_n 0, 1) := by decide +kernel
theorem dX15_isName_45 : decode cX15_isName 45 = .ok (.ldc 170, 2) := by decide +kernel
theorem dX15_isName_47 : decode cX15_isName 47 = .ok (.invokevirtual 160, 3) := by decide +kernel
theorem dX15_isName_50 : decode cX15_isName 50 = .ok (.ifCond .ne 61, 3) := by decide +kernel
theorem dX15_isName_53 : decode cX15_isName 53 = .ok (.aload_n 0, 1) := by decide +kernel
theorem dX15_isName_54 : decode cX15_isName 54 = .ok (.ldc 172, 2) := by decide +kernel
theorem dX15_isName_56 : decode cX15_isName 56 = .ok (.invokevirtual 160, 3) := by decide +kernel
theorem dX15_isName_59 : decode cX15_isName 59 = .ok (.ifCond .ne 52, 3) := by decide +kernel
theorem dX15_isName_62 : decode cX15_isName 62 = .ok (.aload_n 0, 1) := by decide +kernel
theorem dX15_isName_63 : decode cX15_isName 63 = .ok (.ldc 174, 2) := by decide +kernel
theorem dX15_isName_65 : decode cX15_isName 65 = .ok (.invokevirtual 160, 3) := by decide +kernel
theorem dX15_isName_68 : decode cX15_isName 68 = .ok (.ifCond .ne 43, 3) := by decide +kernel
theorem dX15_isName_71 : decode cX15_isName 71 = .ok (.aload_n 0, 1) := by decide +kernel
theorem dX15_isName_72 : decode cX15_isName 72 = .ok (.ldc 176, 2) := by decide +kernel
theorem dX15_isName_74 : decode cX15_isName 74 = .ok (.invokevirtual 160, 3) := by decide +kernel
theorem dX15_isName_77 : decode cX15_isName 77 = .ok (.ifCond .ne 34, 3) := by decide +kernel
theorem dX15_isName_80 : decode cX15_isName 80 = .ok (.aload_n 0, 1) := by decide +kernel
theorem dX15_isName_81 : decode cX15_isName 81 = .ok (.ldc 178, 2) := by decide +kernel
theorem dX15_isName_83 : decode cX15_isName 83 = .ok (.invokevirtual 160, 3) := by decide +kernel
theorem dX15_isName_86 : decode cX15_isName 86 = .ok (.ifCond .ne 25, 3) := by decide +kernel
theorem dX15_isName_89 : decode cX15_isName 89 = .ok (.aload_n 0, 1) := by decide +kernel
theorem dX15_isName_90 : decode cX15_isName 90 = .ok (.ldc 180, 2) := by decide +kernel
theorem dX15_isName_92 : decode cX15_isName 92 = .ok (.invokevirtual 160, 3) := by decide +kernel
theorem dX15_isName_95 : decode cX15_isName 95 = .ok (.ifCond .ne 16, 3) := by decide +kernel
theorem dX15_isName_98 : decode cX15_isName 98 = .ok (.aload_n 0, 1) := by decide +kernel
theorem dX15_isName_99 : decode cX15_isName 99 = .ok (.ldc 181, 2) := by decide +kernel
theorem dX15_isName_101 : decode cX15_isName 101 = .ok (.invokevirtual 160, 3) := by decide +kernel
theorem dX15_isName_104 : decode cX15_isName 104 = .ok (.ifCond .ne 7, 3) := by decide +kernel
theorem dX15_isName_107 : decode cX15_isName 107 = .ok (.iconst 1, 1) := by decide +kernel
theorem dX15_isName_108 : decode cX15_isName 108 = .ok (.goto 4, 3) := by decide +kernel
theorem dX15_isName_111 : decode cX15_isName 111 = .ok (.iconst 0, 1) := by decide +kernel
theorem dX15_isName_112 : decode cX15_isName 112 = .ok (.ireturn, 1) := by decide +kernel
theorem dX15_needWord_0 : decode cX15_needWord 0 = .ok (.aload_n 0, 1) := by decide +kernel
theorem dX15_needWord_1 : decode cX15_needWord 1 = .ok (.aload_n 1, 1) := by decide +kernel
theorem dX15_needWord_2 : decode cX15_needWord 2 = .ok (.invokevirtual 160, 3) := by decide +kernel
theorem dX15_needWord_5 : decode cX15_needWord 5 = .ok (.ifCond .ne 9, 3) := by decide +kernel
theorem dX15_needWord_8 : decode cX15_needWord 8 = .ok (.aload_n 0, 1) := by decide +kernel
theorem dX15_needWord_9 : decode cX15_needWord 9 = .ok (.iconst 1, 1) := by decide +kernel
theorem dX15_needWord_10 : decode cX15_needWord 10 = .ok (.invokevirtual 183, 3) := by decide +kernel
theorem dX15_needWord_13 : decode cX15_needWord 13 = .ok (.athrow, 1) := by decide +kernel
theorem dX15_needWord_14 : decode cX15_needWord 14 = .ok (.aload_n 0, 1) := by decide +kernel
theorem dX15_needWord_15 : decode cX15_needWord 15 = .ok (.invokevirtual 186, 3) := by decide +kernel
theorem dX15_needWord_18 : decode cX15_needWord 18 = .ok (.return_, 1) := by decide +kernel
theorem dX15_readTold_0 : decode cX15_readTold 0 = .ok (.aload_n 0, 1) := by decide +kernel
theorem dX15_readTold_1 : decode cX15_readTold 1 = .ok (.invokevirtual 189, 3) := by decide +kernel
theorem dX15_readTold_4 : decode cX15_readTold 4 = .ok (.ifCond .ne 9, 3) := by decide +kernel
theorem dX15_readTold_7 : decode cX15_readTold 7 = .ok (.aload_n 0, 1) := by decide +kernel
theorem dX15_readTold_8 : decode cX15_readTold 8 = .ok (.iconst 1, 1) := by decide +kernel
theorem dX15_readTold_9 : decode cX15_readTold 9 = .ok (.invokevirtual 183, 3) := by decide +kernel
theorem dX15_readTold_12 : decode cX15_readTold 12 = .ok (.athrow, 1) := by decide +kernel
theorem dX15_readTold_13 : decode cX15_readTold 13 = .ok (.aload_n 0, 1) := by decide +kernel
theorem dX15_readTold_14 : decode cX15_readTold 14 = .ok (.getfield 193, 3) := by decide +kernel
theorem dX15_readTold_17 : decode cX15_readTold 17 = .ok (.aload_n 0, 1) := by decide +kernel
theorem dX15_readTold_18 : decode cX15_readTold 18 = .ok (.getfield 150, 3) := by decide +kernel
theorem dX15_readTold_21 : decode cX15_readTold 21 = .ok (.invokevirtual 197, 3) := by decide +kernel
theorem dX15_readTold_24 : decode cX15_readTold 24 = .ok (.istore_n 2, 1) := by decide +kernel
theorem dX15_readTold_25 : decode cX15_readTold 25 = .ok (.iload_n 2, 1) := by decide +kernel
theorem dX15_readTold_26 : decode cX15_readTold 26 = .ok (.iconst (-1), 1) := by decide +kernel
theorem dX15_readTold_27 : decode cX15_readTold 27 = .ok (.if_icmp .eq 16, 3) := by decide +kernel
theorem dX15_readTold_30 : decode cX15_readTold 30 = .ok (.aload_n 0, 1) := by decide +kernel
theorem dX15_readTold_31 : decode cX15_readTold 31 = .ok (.getfield 193, 3) := by decide +kernel
theorem dX15_readTold_34 : decode cX15_readTold 34 = .ok (.getfield 203, 3) := by decide +kernel
theorem dX15_readTold_37 : decode cX15_readTold 37 = .ok (.iload_n 2, 1) := by decide +kernel
theorem dX15_readTold_38 : decode cX15_readTold 38 = .ok (.baload, 1) := by decide +kernel
theorem dX15_readTold_39 : decode cX15_readTold 39 = .ok (.iload_n 1, 1) := by decide +kernel
theorem dX15_readTold_40 : decode cX15_readTold 40 = .ok (.if_icmp .eq 9, 3) := by decide +kernel
theorem dX15_readTold_43 : decode cX15_readTold 43 = .ok (.aload_n 0, 1) := by decide +kernel
theorem dX15_readTold_44 : decode cX15_readTold 44 = .ok (.iconst 2, 1) := by decide +kernel
theorem dX15_readTold_45 : decode cX15_readTold 45 = .ok (.invokevirtual 183, 3) := by decide +kernel
theorem dX15_readTold_48 : decode cX15_readTold 48 = .ok (.athrow, 1) := by decide +kernel
theorem dX15_readTold_49 : decode cX15_readTold 49 = .ok (.aload_n 0, 1) := by decide +kernel
theorem dX15_readTold_50 : decode cX15_readTold 50 = .ok (.invokevirtual 186, 3) := by decide +kernel
theorem dX15_readTold_53 : decode cX15_readTold 53 = .ok (.aload_n 0, 1) := by decide +kernel
theorem dX15_readTold_54 : decode cX15_readTold 54 = .ok (.getfield 193, 3) := by decide +kernel
theorem dX15_readTold_57 : decode cX15_readTold 57 = .ok (.getfield 206, 3) := by decide +kernel
theorem dX15_readTold_60 : decode cX15_readTold 60 = .ok (.iload_n 2, 1) := by decide +kernel
theorem dX15_readTold_61 : decode cX15_readTold 61 = .ok (.iaload, 1) := by decide +kernel
theorem dX15_readTold_62 : decode cX15_readTold 62 = .ok (.ireturn, 1) := by decide +kernel
theorem dX15_readBook_0 : decode cX15_readBook 0 = .ok (.aload_n 0, 1) := by decide +kernel
theorem dX15_readBook_1 : decode cX15_readBook 1 = .ok (.ldc 172, 2) := by decide +kernel
theorem dX15_readBook_3 : decode cX15_readBook 3 = .ok (.invokevirtual 160, 3) := by decide +kernel
theorem dX15_readBook_6 : decode cX15_readBook 6 = .ok (.ifCond .ne 145, 3) := by decide +kernel
theorem dX15_readBook_9 : decode cX15_readBook 9 = .ok (.aload_n 0, 1) := by decide +kernel
theorem dX15_readBook_10 : decode cX15_readBook 10 = .ok (.ldc 158, 2) := by decide +kernel
theorem dX15_readBook_12 : decode cX15_readBook 12 = .ok (.invokevirtual 160, 3) := by decide +kernel
theorem dX15_readBook_15 : decode cX15_readBook 15 = .ok (.ifCond .eq 27, 3) := by decide +kernel
theorem dX15_readBook_18 : decode cX15_readBook 18 = .ok (.aload_n 0, 1) := by decide +kernel
theorem dX15_readBook_19 : decode cX15_readBook 19 = .ok (.iconst 0, 1) := by decide +kernel
theorem dX15_readBook_20 : decode cX15_readBook 20 = .ok (.aload_n 0, 1) := by decide +kernel
theorem dX15_readBook_21 : decode cX15_readBook 21 = .ok (.getfield 193, 3) := by decide +kernel
theorem dX15_readBook_24 : decode cX15_readBook 24 = .ok (.getfield 209, 3) := by decide +kernel
theorem dX15_readBook_27 : decode cX15_readBook 27 = .ok (.iconst 4, 1) := by decide +kernel
theorem dX15_readBook_28 : decode cX15_readBook 28 = .ok (.if_icmp .ne 7, 3) := by decide +kernel
theorem dX15_readBook_31 : decode cX15_readBook 31 = .ok (.iconst 1, 1) := by decide +kernel
theorem dX15_readBook_32 : decode cX15_readBook 32 = .ok (.goto 4, 3) := by decide +kernel
theorem dX15_readBook_35 : decode cX15_readBook 35 = .ok (.iconst 0, 1) := by decide +kernel
theorem dX15_readBook_36 : decode cX15_readBook 36 = .ok (.invokevirtual 212, 3) := by decide +kernel
theorem dX15_readBook_39 : decode cX15_readBook 39 = .ok (.goto 91, 3) := by decide +kernel
theorem dX15_readBook_42 : decode cX15_readBook 42 = .ok (.aload_n 0, 1) := by decide +kernel
theorem dX15_readBook_43 : decode cX15_readBook 43 = .ok (.ldc 164, 2) := by decide +kernel
theorem dX15_readBook_45 : decode cX15_readBook 45 = .ok (.invokevirtual 160, 3) := by decide +kernel
theorem dX15_readBook_48 : decode cX15_readBook 48 = .ok (.ifCond .eq 28, 3) := by decide +kernel
theorem dX15_readBook_51 : decode cX15_readBook 51 = .ok (.aload_n 0, 1) := by decide +kernel
theorem dX15_readBook_52 : decode cX15_readBook 52 = .ok (.iconst 1, 1) := by decide +kernel
theorem dX15_readBook_53 : decode cX15_readBook 53 = .ok (.aload_n 0, 1) := by decide +kernel
theorem dX15_readBook_54 : decode cX15_readBook 54 = .ok (.getfield 193, 3) := by decide +kernel
theorem dX15_readBook_57 : decode cX15_readBook 57 = .ok (.getfield 216, 3) := by decide +kernel
theorem dX15_readBook_60 : decode cX15_readBook 60 = .ok (.bipush 10, 2) := by decide +kernel
theorem dX15_readBook_62 : decode cX15_readBook 62 = .ok (.if_icmp .ne 7, 3) := by decide +kernel
theorem dX15_readBook_65 : decode cX15_readBook 65 = .ok (.iconst 1, 1) := by decide +kernel
theorem dX15_readBook_66 : decode cX15_readBook 66 = .ok (.goto 4, 3) := by decide +kernel
theorem dX15_readBook_69 : decode cX15_readBook 69 = .ok (.iconst 0, 1) := by decide +kernel
theorem dX15_readBook_70 : decode cX15_readBook 70 = .ok (.invokevirtual 212, 3) := by decide +kernel
theorem dX15_readBook_73 : decode cX15_readBook 73 = .ok (.goto 57, 3) := by decide +kernel
theorem dX15_readBook_76 : decode cX15_readBook 76 = .ok (.aload_n 0, 1) := by decide +kernel
theorem dX15_readBook_77 : decode cX15_readBook 77 = .ok (.ldc 166, 2) := by decide +kernel
theorem dX15_readBook_79 : decode cX15_readBook 79 = .ok (.invokevirtual 160, 3) := by decide +kernel
theorem dX15_readBook_82 : decode cX15_readBook 82 = .ok (.ifCond .eq 10, 3) := by decide +kernel
theorem dX15_readBook_85 : decode cX15_readBook 85 = .ok (.aload_n 0, 1) := by decide +kernel
theorem dX15_readBook_86 : decode cX15_readBook 86 = .ok (.invokevirtual 219, 3) := by decide +kernel
theorem dX15_readBook_89 : decode cX15_readBook 89 = .ok (.goto 41, 3) := by decide +kernel
theorem dX15_readBook_92 : decode cX15_readBook 92 = .ok (.aload_n 0, 1) := by decide +kernel
theorem dX15_readBook_93 : decode cX15_readBook 93 = .ok (.ldc 168, 2) := by decide +kernel
theorem dX15_readBook_95 : decode cX15_readBook 95 = .ok (.invokevirtual 160, 3) := by decide +kernel
theorem dX15_readBook_98 : decode cX15_readBook 98 = .ok (.ifCond .eq 10, 3) := by decide +kernel
theorem dX15_readBook_101 : decode cX15_readBook 101 = .ok (.aload_n 0, 1) := by decide +kernel
theorem dX15_readBook_102 : decode cX15_readBook 102 = .ok (.invokevirtual 222, 3) := by decide +kernel
theorem dX15_readBook_105 : decode cX15_readBook 105 = .ok (.goto 25, 3) := by decide +kernel
theorem dX15_readBook_108 : decode cX15_readBook 108 = .ok (.aload_n 0, 1) := by decide +kernel
theorem dX15_readBook_109 : decode cX15_readBook 109 = .ok (.ldc 170, 2) := by decide +kernel
theorem dX15_readBook_111 : decode cX15_readBook 111 = .ok (.invokevirtual 160, 3) := by decide +kernel
theorem dX15_readBook_114 : decode cX15_readBook 114 = .ok (.ifCond .eq 10, 3) := by decide +kernel
theorem dX15_readBook_117 : decode cX15_readBook 117 = .ok (.aload_n 0, 1) := by decide +kernel
theorem dX15_readBook_118 : decode cX15_readBook 118 = .ok (.invokevirtual 225, 3) := by decide +kernel
theorem dX15_readBook_121 : decode cX15_readBook 121 = .ok (.goto 9, 3) := by decide +kernel
theorem dX15_readBook_124 : decode cX15_readBook 124 = .ok (.aload_n 0, 1) := by decide +kernel
theorem dX15_readBook_125 : decode cX15_readBook 125 = .ok (.iconst 1, 1) := by decide +kernel
theorem dX15_readBook_126 : decode cX15_readBook 126 = .ok (.invokevirtual 183, 3) := by decide +kernel
theorem dX15_readBook_129 : decode cX15_readBook 129 = .ok (.athrow, 1) := by decide +kernel
theorem dX15_readBook_130 : decode cX15_readBook 130 = .ok (.aload_n 0, 1) := by decide +kernel
theorem dX15_readBook_131 : decode cX15_readBook 131 = .ok (.getfield 143, 3) := by decide +kernel
theorem dX15_readBook_134 : decode cX15_readBook 134 = .ok (.iconst 3, 1) := by decide +kernel
theorem dX15_readBook_135 : decode cX15_readBook 135 = .ok (.if_icmp .eq 9, 3) := by decide +kernel
theorem dX15_readBook_138 : decode cX15_readBook 138 = .ok (.aload_n 0, 1) := by decide +kernel
theorem dX15_readBook_139 : decode cX15_readBook 139 = .ok (.iconst 1, 1) := by decide +kernel
theorem dX15_readBook_140 : decode cX15_readBook 140 = .ok (.invokevirtual 183, 3) := by decide +kernel
theorem dX15_readBook_143 : decode cX15_readBook 143 = .ok (.athrow, 1) := by decide +kernel
theorem dX15_readBook_144 : decode cX15_readBook 144 = .ok (.aload_n 0, 1) := by decide +kernel
theorem dX15_readBook_145 : decode cX15_readBook 145 = .ok (.invokevirtual 186, 3) := by decide +kernel
theorem dX15_readBook_148 : decode cX15_readBook 148 = .ok (.goto (-148), 3) := by decide +kernel
theorem dX15_readBook_151 : decode cX15_readBook 151 = .ok (.aload_n 0, 1) := by decide +kernel
theorem dX15_readBook_152 : decode cX15_readBook 152 = .ok (.invokevirtual 228, 3) := by decide +kernel
theorem dX15_readBook_155 : decode cX15_readBook 155 = .ok (.aload_n 0, 1) := by decide +kernel
theorem dX15_readBook_156 : decode cX15_readBook 156 = .ok (.getfield 143, 3) := by decide +kernel
theorem dX15_readBook_159 : decode cX15_readBook 159 = .ok (.iconst 1, 1) := by decide +kernel
theorem dX15_readBook_160 : decode cX15_readBook 160 = .ok (.if_icmp .eq 9, 3) := by decide +kernel
theorem dX15_readBook_163 : decode cX15_readBook 163 = .ok (.aload_n 0, 1) := by decide +kernel
theorem dX15_readBook_164 : decode cX15_readBook 164 = .ok (.iconst 1, 1) := by decide +kernel
theorem dX15_readBook_165 : decode cX15_readBook 165 = .ok (.invokevirtual 183, 3) := by decide +kernel
theorem dX15_readBook_168 : decode cX15_readBook 168 = .ok (.athrow, 1) := by decide +kernel
theorem dX15_readBook_169 : decode cX15_readBook 169 = .ok (.return_, 1) := by decide +kernel
theorem dX15_readName_0 : decode cX15_readName 0 = .ok (.iload_n 2, 1) := by decide +kernel
theorem dX15_readName_1 : decode cX15_readName 1 = .ok (.ifCond .eq 9, 3) := by decide +kernel
theorem dX15_readName_4 : decode cX15_readName 4 = .ok (.aload_n 0, 1) := by decide +kernel
theorem dX15_readName_5 : decode cX15_readName 5 = .ok (.iconst 5, 1) := by decide +kernel
theorem dX15_readName_6 : decode cX15_readName 6 = .ok (.invokevirtual 183, 3) := by decide +kernel
theorem dX15_readName_9 : decode cX15_readName 9 = .ok (.athrow, 1) := by decide +kernel
theorem dX15_readName_10 : decode cX15_readName 10 = .ok (.aload_n 0, 1) := by decide +kernel
theorem dX15_readName_11 : decode cX15_readName 11 = .ok (.invokevirtual 186, 3) := by decide +kernel
theorem dX15_readName_14 : decode cX15_readName 14 = .ok (.aload_n 0, 1) := by decide +kernel
theorem dX15_readName_15 : decode cX15_readName 15 = .ok (.invokevirtual 189, 3) := by decide +kernel
theorem dX15_readName_18 : decode cX15_readName 18 = .ok (.ifCond .ne 9, 3) := by decide +kernel
theorem dX15_readName_21 : decode cX15_readName 21 = .ok (.aload_n 0, 1) := by decide +kernel
theorem dX15_readName_22 : decode cX15_readName 22 = .ok (.iconst 1, 1) := by decide +kernel
theorem dX15_readName_23 : decode cX15_readName 23 = .ok (.invokevirtual 183, 3) := by decide +kernel
theorem dX15_readName_26 : decode cX15_readName 26 = .ok (.athrow, 1) := by decide +kernel
theorem dX15_readName_27 : decode cX15_readName 27 = .ok (.aload_n 0, 1) := by decide +kernel
theorem dX15_readName_28 : decode cX15_readName 28 = .ok (.getfield 193, 3) := by decide +kernel
theorem dX15_readName_31 : decode cX15_readName 31 = .ok (.aload_n 0, 1) := by decide +kernel
theorem dX15_readName_32 : decode cX15_readName 32 = .ok (.getfield 150, 3) := by decide +kernel
theorem dX15_readName_35 : decode cX15_readName 35 = .ok (.invokevirtual 197, 3) := by decide +kernel
theorem dX15_readName_38 : decode cX15_readName 38 = .ok (.iconst (-1), 1) := by decide +kernel
theorem dX15_readName_39 : decode cX15_readName 39 = .ok (.if_icmp .eq 9, 3) := by decide +kernel
theorem dX15_readName_42 : decode cX15_readName 42 = .ok (.aload_n 0, 1) := by decide +kernel
theorem dX15_readName_43 : decode cX15_readName 43 = .ok (.iconst 3, 1) := by decide +kernel
theorem dX15_readName_44 : decode cX15_readName 44 = .ok (.invokevirtual 183, 3) := by decide +kernel
theorem dX15_readName_47 : decode cX15_readName 47 = .ok (.athrow, 1) := by decide +kernel
theorem dX15_readName_48 : decode cX15_readName 48 = .ok (.iload_n 1, 1) := by decide +kernel
theorem dX15_readName_49 : decode cX15_readName 49 = .ok (.ifCond .eq 13, 3) := by decide +kernel
theorem dX15_readName_52 : decode cX15_readName 52 = .ok (.aload_n 0, 1) := by decide +kernel
theorem dX15_readName_53 : decode cX15_readName 53 = .ok (.getfield 193, 3) := by decide +kernel
theorem dX15_readName_56 : decode cX15_readName 56 = .ok (.getfield 216, 3) := by decide +kernel
theorem dX15_readName_59 : decode cX15_readName 59 = .ok (.goto 10, 3) := by decide +kernel
theorem dX15_readName_62 : decode cX15_readName 62 = .ok (.aload_n 0, 1) := by decide +kernel
theorem dX15_readName_63 : decode cX15_readName 63 = .ok (.getfield 193, 3) := by decide +kernel
theorem dX15_readName_66 : decode cX15_readName 66 = .ok (.getfield 209, 3) := by decide +kernel
theorem dX15_readName_69 : decode cX15_readName 69 = .ok (.istore_n 3, 1) := by decide +kernel
theorem dX15_readName_70 : decode cX15_readName 70 = .ok (.aload_n 0, 1) := by decide +kernel
theorem dX15_readName_71 : decode cX15_readName 71 = .ok (.getfield 193, 3) := by decide +kernel
theorem dX15_readName_74 : decode cX15_readName 74 = .ok (.getfield 231, 3) := by decide +kernel
theorem dX15_readName_77 : decode cX15_readName 77 = .ok (.aload_n 0, 1) := by decide +kernel
theorem dX15_readName_78 : decode cX15_readName 78 = .ok (.getfield 193, 3) := by decide +kernel
theorem dX15_readName_81 : decode cX15_readName 81 = .ok (.getfield 235, 3) := by decide +kernel
theorem dX15_readName_84 : decode cX15_readName 84 = .ok (.aload_n 0, 1) := by decide +kernel
theorem dX15_readName_85 : decode cX15_readName 85 = .ok (.getfield 150, 3) := by decide +kernel
theorem dX15_readName_88 : decode cX15_readName 88 = .ok (.lastore, 1) := by decide +kernel
theorem dX15_readName_89 : decode cX15_readName 89 = .ok (.aload_n 0, 1) := by decide +kernel
theorem dX15_readName_90 : decode cX15_readName 90 = .ok (.getfield 193, 3) := by decide +kernel
theorem dX15_readName_93 : decode cX15_readName 93 = .ok (.getfield 203, 3) := by decide +kernel
theorem dX15_readName_96 : decode cX15_readName 96 = .ok (.aload_n 0, 1) := by decide +kernel
theorem dX15_readName_97 : decode cX15_readName 97 = .ok (.getfield 193, 3) := by decide +kernel
theorem dX15_readName_100 : decode cX15_readName 100 = .ok (.getfield 235, 3) := by decide +kernel
theorem dX15_readName_103 : decode cX15_readName 103 = .ok (.iload_n 1, 1) := by decide +kernel
theorem dX15_readName_104 : decode cX15_readName 104 = .ok (.bastore, 1) := by decide +kernel
theorem dX15_readName_105 : decode cX15_readName 105 = .ok (.aload_n 0, 1) := by decide +kernel
theorem dX15_readName_106 : decode cX15_readName 106 = .ok (.getfield 193, 3) := by decide +kernel
theorem dX15_readName_109 : decode cX15_readName 109 = .ok (.getfield 206, 3) := by decide +kernel
theorem dX15_readName_112 : decode cX15_readName 112 = .ok (.aload_n 0, 1) := by decide +kernel
theorem dX15_readName_113 : decode cX15_readName 113 = .ok (.getfield 193, 3) := by decide +kernel
theorem dX15_readName_116 : decode cX15_readName 116 = .ok (.getfield 235, 3) := by decide +kernel
theorem dX15_readName_119 : decode cX15_readName 119 = .ok (.iload_n 3, 1) := by decide +kernel
theorem dX15_readName_120 : decode cX15_readName 120 = .ok (.iastore, 1) := by decide +kernel
theorem dX15_readName_121 : decode cX15_readName 121 = .ok (.aload_n 0, 1) := by decide +kernel
theorem dX15_readName_122 : decode cX15_readName 122 = .ok (.getfield 193, 3) := by decide +kernel
theorem dX15_readName_125 : decode cX15_readName 125 = .ok (.dup, 1) := by decide +kernel
theorem dX15_readName_126 : decode cX15_readName 126 = .ok (.getfield 235, 3) := by decide +kernel
theorem dX15_readName_129 : decode cX15_readName 129 = .ok (.iconst 1, 1) := by decide +kernel
theorem dX15_readName_130 : decode cX15_readName 130 = .ok (.iadd, 1) := by decide +kernel
theorem dX15_readName_131 : decode cX15_readName 131 = .ok (.putfield 235, 3) := by decide +kernel
theorem dX15_readName_134 : decode cX15_readName 134 = .ok (.iload_n 1, 1) := by decide +kernel
theorem dX15_readName_135 : decode cX15_readName 135 = .ok (.ifCond .eq 19, 3) := by decide +kernel
theorem dX15_readName_138 : decode cX15_readName 138 = .ok (.aload_n 0, 1) := by decide +kernel
theorem dX15_readName_139 : decode cX15_readName 139 = .ok (.getfield 193, 3) := by decide +kernel
theorem dX15_readName_142 : decode cX15_readName 142 = .ok (.dup, 1) := by decide +kernel
theorem dX15_readName_143 : decode cX15_readName 143 = .ok (.getfield 216, 3) := by decide +kernel
theorem dX15_readName_146 : decode cX15_readName 146 = .ok (.iconst 1, 1) := by decide +kernel
theorem dX15_readName_147 : decode cX15_readName 147 = .ok (.iadd, 1) := by decide +kernel
theorem dX15_readName_148 : decode cX15_readName 148 = .ok (.putfield 216, 3) := by decide +kernel
theorem dX15_readName_151 : decode cX15_readName 151 = .ok (.goto 16, 3) := by decide +kernel
theorem dX15_readName_154 : decode cX15_readName 154 = .ok (.aload_n 0, 1) := by decide +kernel
theorem dX15_readName_155 : decode cX15_readName 155 = .ok (.getfield 193, 3) := by decide +kernel
theorem dX15_readName_158 : decode cX15_readName 158 = .ok (.dup, 1) := by decide +kernel
theorem dX15_readName_159 : decode cX15_readName 159 = .ok (.getfield 209, 3) := by decide +kernel
theorem dX15_readName_162 : decode cX15_readName 162 = .ok (.iconst 1, 1) := by decide +kernel
theorem dX15_readName_163 : decode cX15_readName 163 = .ok (.iadd, 1) := by decide +kernel
theorem dX15_readName_164 : decode cX15_readName 164 = .ok (.putfield 209, 3) := by decide +kernel
theorem dX15_readName_167 : decode cX15_readName 167 = .ok (.aload_n 0, 1) := by decide +kernel
theorem dX15_readName_168 : decode cX15_readName 168 = .ok (.invokevirtual 186, 3) := by decide +kernel
theorem dX15_readName_171 : decode cX15_readName 171 = .ok (.iload_n 1, 1) := by decide +kernel
theorem dX15_readName_172 : decode cX15_readName 172 = .ok (.ifCond .eq 12, 3) := by decide +kernel
theorem dX15_readName_175 : decode cX15_readName 175 = .ok (.aload_n 0, 1) := by decide +kernel
theorem dX15_readName_176 : decode cX15_readName 176 = .ok (.ldc 238, 2) := by decide +kernel
theorem dX15_readName_178 : decode cX15_readName 178 = .ok (.invokevirtual 160, 3) := by decide +kernel
theorem dX15_readName_181 : decode cX15_readName 181 = .ok (.ifCond .ne 4, 3) := by decide +kernel
theorem dX15_readName_184 : decode cX15_readName 184 = .ok (.return_, 1) := by decide +kernel
theorem dX15_readName_185 : decode cX15_readName 185 = .ok (.aload_n 0, 1) := by decide +kernel
theorem dX15_readName_186 : decode cX15_readName 186 = .ok (.getfield 193, 3) := by decide +kernel
theorem dX15_readName_189 : decode cX15_readName 189 = .ok (.dup, 1) := by decide +kernel
theorem dX15_readName_190 : decode cX15_readName 190 = .ok (.getfield 240, 3) := by decide +kernel
theorem dX15_readName_193 : decode cX15_readName 193 = .ok (.iconst 1, 1) := by decide +kernel
theorem dX15_readName_194 : decode cX15_readName 194 = .ok (.iload_n 3, 1) := by decide +kernel
theorem dX15_readName_195 : decode cX15_readName 195 = .ok (.ishl, 1) := by decide +kernel
theorem dX15_readName_196 : decode cX15_readName 196 = .ok (.ior, 1) := by decide +kernel
theorem dX15_readName_197 : decode cX15_readName 197 = .ok (.putfield 240, 3) := by decide +kernel
theorem dX15_readName_200 : decode cX15_readName 200 = .ok (.aload_n 0, 1) := by decide +kernel
theorem dX15_readName_201 : decode cX15_readName 201 = .ok (.invokevirtual 186, 3) := by decide +kernel
theorem dX15_readName_204 : decode cX15_readName 204 = .ok (.return_, 1) := by decide +kernel
theorem dX15_readFact_0 : decode cX15_readFact 0 = .ok (.aload_n 0, 1) := by decide +kernel
theorem dX15_readFact_1 : decode cX15_readFact 1 = .ok (.getfield 193, 3) := by decide +kernel
theorem dX15_readFact_4 : decode cX15_readFact 4 = .ok (.getfield 243, 3) := by decide +kernel
theorem dX15_readFact_7 : decode cX15_readFact 7 = .ok (.bipush 10, 2) := by decide +kernel
theorem dX15_readFact_9 : decode cX15_readFact 9 = .ok (.if_icmp .ne 9, 3) := by decide +kernel
theorem dX15_readFact_12 : decode cX15_readFact 12 = .ok (.aload_n 0, 1) := by decide +kernel
theorem dX15_readFact_13 : decode cX15_readFact 13 = .ok (.iconst 5, 1) := by decide +kernel
theorem dX15_readFact_14 : decode cX15_readFact 14 = .ok (.invokevirtual 183, 3) := by decide +kernel
theorem dX15_readFact_17 : decode cX15_readFact 17 = .ok (.athrow, 1) := by decide +kernel
theorem dX15_readFact_18 : decode cX15_readFact 18 = .ok (.aload_n 0, 1) := by decide +kernel
theorem dX15_readFact_19 : decode cX15_readFact 19 = .ok (.invokevirtual 186, 3) := by decide +kernel
theorem dX15_readFact_22 : decode cX15_readFact 22 = .ok (.aload_n 0, 1) := by decide +kernel
theorem dX15_readFact_23 : decode cX15_readFact 23 = .ok (.getfield 193, 3) := by decide +kernel
theorem dX15_readFact_26 : decode cX15_readFact 26 = .ok (.getfield 243, 3) := by decide +kernel
theorem dX15_readFact_29 : decode cX15_readFact 29 = .ok (.istore_n 1, 1) := by decide +kernel
theorem dX15_readFact_30 : decode cX15_readFact 30 = .ok (.aload_n 0, 1) := by decide +kernel
theorem dX15_readFact_31 : decode cX15_readFact 31 = .ok (.getfield 193, 3) := by decide +kernel
theorem dX15_readFact_34 : decode cX15_readFact 34 = .ok (.getfield 246, 3) := by decide +kernel
theorem dX15_readFact_37 : decode cX15_readFact 37 = .ok (.iload_n 1, 1) := by decide +kernel
theorem dX15_readFact_38 : decode cX15_readFact 38 = .ok (.aload_n 0, 1) := by decide +kernel
theorem dX15_readFact_39 : decode cX15_readFact 39 = .ok (.iconst 1, 1) := by decide +kernel
theorem dX15_readFact_40 : decode cX15_readFact 40 = .ok (.invokevirtual 249, 3) := by decide +kernel
theorem dX15_readFact_43 : decode cX15_readFact 43 = .ok (.iastore, 1) := by decide +kernel
theorem dX15_readFact_44 : decode cX15_readFact 44 = .ok (.aload_n 0, 1) := by decide +kernel
theorem dX15_readFact_45 : decode cX15_readFact 45 = .ok (.ldc 180, 2) := by decide +kernel
theorem dX15_readFact_47 : decode cX15_readFact 47 = .ok (.invokevirtual 253, 3) := by decide +kernel
theorem dX15_readFact_50 : decode cX15_readFact 50 = .ok (.aload_n 0, 1) := by decide +kernel
theorem dX15_readFact_51 : decode cX15_readFact 51 = .ok (.getfield 193, 3) := by decide +kernel
theorem dX15_readFact_54 : decode cX15_readFact 54 = .ok (.getfield 257, 3) := by decide +kernel
theorem dX15_readFact_57 : decode cX15_readFact 57 = .ok (.iload_n 1, 1) := by decide +kernel
theorem dX15_readFact_58 : decode cX15_readFact 58 = .ok (.aload_n 0, 1) := by decide +kernel
theorem dX15_readFact_59 : decode cX15_readFact 59 = .ok (.iconst 0, 1) := by decide +kernel
theorem dX15_readFact_60 : decode cX15_readFact 60 = .ok (.invokevirtual 249, 3) := by decide +kernel
theorem dX15_readFact_63 : decode cX15_readFact 63 = .ok (.iastore, 1) := by decide +kernel
theorem dX15_readFact_64 : decode cX15_readFact 64 = .ok (.aload_n 0, 1) := by decide +kernel
theorem dX15_readFact_65 : decode cX15_readFact 65 = .ok (.getfield 193, 3) := by decide +kernel
theorem dX15_readFact_68 : decode cX15_readFact 68 = .ok (.getfield 260, 3) := by decide +kernel
theorem dX15_readFact_71 : decode cX15_readFact 71 = .ok (.iload_n 1, 1) := by decide +kernel
theorem dX15_readFact_72 : decode cX15_readFact 72 = .ok (.iconst (-1), 1) := by decide +kernel
theorem dX15_readFact_73 : decode cX15_readFact 73 = .ok (.iastore, 1) := by decide +kernel
theorem dX15_readFact_74 : decode cX15_readFact 74 = .ok (.aload_n 0, 1) := by decide +kernel
theorem dX15_readFact_75 : decode cX15_readFact 75 = .ok (.ldc_w 263, 3) := by decide +kernel
theorem dX15_readFact_78 : decode cX15_readFact 78 = .ok (.invokevirtual 160, 3) := by decide +kernel
theorem dX15_readFact_81 : decode cX15_readFact 81 = .ok (.ifCond .eq 36, 3) := by decide +kernel
theorem dX15_readFact_84 : decode cX15_readFact 84 = .ok (.aload_n 0, 1) := by decide +kernel
theorem dX15_readFact_85 : decode cX15_readFact 85 = .ok (.getfield 193, 3) := by decide +kernel
theorem dX15_readFact_88 : decode cX15_readFact 88 = .ok (.getfield 260, 3) := by decide +kernel
theorem dX15_readFact_91 : decode cX15_readFact 91 = .ok (.iload_n 1, 1) := by decide +kernel
theorem dX15_readFact_92 : decode cX15_readFact 92 = .ok (.aload_n 0, 1) := by decide +kernel
theorem dX15_readFact_93 : decode cX15_readFact 93 = .ok (.getfield 193, 3) := by decide +kernel
theorem dX15_readFact_96 : decode cX15_readFact 96 = .ok (.getfield 264, 3) := by decide +kernel
theorem dX15_readFact_99 : decode cX15_readFact 99 = .ok (.iastore, 1) := by decide +kernel
theorem dX15_readFact_100 : decode cX15_readFact 100 = .ok (.aload_n 0, 1) := by decide +kernel
theorem dX15_readFact_101 : decode cX15_readFact 101 = .ok (.getfield 193, 3) := by decide +kernel
theorem dX15_readFact_104 : decode cX15_readFact 104 = .ok (.dup, 1) := by decide +kernel
theorem dX15_readFact_105 : decode cX15_readFact 105 = .ok (.getfield 264, 3) := by decide +kernel
theorem dX15_readFact_108 : decode cX15_readFact 108 = .ok (.iconst 1, 1) := by decide +kernel
theorem dX15_readFact_109 : decode cX15_readFact 109 = .ok (.iadd, 1) := by decide +kernel
theorem dX15_readFact_110 : decode cX15_readFact 110 = .ok (.putfield 264, 3) := by decide +kernel
theorem dX15_readFact_113 : decode cX15_readFact 113 = .ok (.aload_n 0, 1) := by decide +kernel
theorem dX15_readFact_114 : decode cX15_readFact 114 = .ok (.invokevirtual 186, 3) := by decide +kernel
theorem dX15_readFact_117 : decode cX15_readFact 117 = .ok (.aload_n 0, 1) := by decide +kernel
theorem dX15_readFact_118 : decode cX15_readFact 118 = .ok (.getfield 193, 3) := by decide +kernel
theorem dX15_readFact_121 : decode cX15_readFact 121 = .ok (.dup, 1) := by decide +kernel
theorem dX15_readFact_122 : decode cX15_readFact 122 = .ok (.getfield 243, 3) := by decide +kernel
theorem dX15_readFact_125 : decode cX15_readFact 125 = .ok (.iconst 1, 1) := by decide +kernel
theorem dX15_readFact_126 : decode cX15_readFact 126 = .ok (.iadd, 1) := by decide +kernel
theorem dX15_readFact_127 : decode cX15_readFact 127 = .ok (.putfield 243, 3) := by decide +kernel
theorem dX15_readFact_130 : decode cX15_readFact 130 = .ok (.return_, 1) := by decide +kernel
theorem dX15_readCases_0 : decode cX15_readCases 0 = .ok (.iconst 0, 1) := by decide +kernel
theorem dX15_readCases_1 : decode cX15_readCases 1 = .ok (.istore_n 3, 1) := by decide +kernel
theorem dX15_readCases_2 : decode cX15_readCases 2 = .ok (.iconst 1, 1) := by decide +kernel
theorem dX15_readCases_3 : decode cX15_readCases 3 = .ok (.istore 4, 2) := by decide +kernel
theorem dX15_readCases_5 : decode cX15_readCases 5 = .ok (.iload 4, 2) := by decide +kernel
theorem dX15_readCases_7 : decode cX15_readCases 7 = .ok (.ifCond .eq 188, 3) := by decide +kernel
theorem dX15_readCases_10 : decode cX15_readCases 10 = .ok (.iload_n 2, 1) := by decide +kernel
theorem dX15_readCases_11 : decode cX15_readCases 11 = .ok (.ifCond .eq 16, 3) := by decide +kernel
theorem dX15_readCases_14 : decode cX15_readCases 14 = .ok (.aload_n 0, 1) := by decide +kernel
theorem dX15_readCases_15 : decode cX15_readCases 15 = .ok (.ldc 174, 2) := by decide +kernel
theorem dX15_readCases_17 : decode cX15_readCases 17 = .ok (.invokevirtual 160, 3) := by decide +kernel
theorem dX15_readCases_20 : decode cX15_readCases 20 = .ok (.ifCond .eq 7, 3) := by decide +kernel
theorem dX15_readCases_23 : decode cX15_readCases 23 = .ok (.iconst 1, 1) := by decide +kernel
theorem dX15_readCases_24 : decode cX15_readCases 24 = .ok (.goto 4, 3) := by decide +kernel
theorem dX15_readCases_27 : decode cX15_readCases 27 = .ok (.iconst 0, 1) := by decide +kernel
theorem dX15_readCases_28 : decode cX15_readCases 28 = .ok (.istore 5, 2) := by decide +kernel
theorem dX15_readCases_30 : decode cX15_readCases 30 = .ok (.iload 5, 2) := by decide +kernel
theorem dX15_readCases_32 : decode cX15_readCases 32 = .ok (.ifCond .eq 18, 3) := by decide +kernel
theorem dX15_readCases_35 : decode cX15_readCases 35 = .ok (.iload_n 3, 1) := by decide +kernel
theorem dX15_readCases_36 : decode cX15_readCases 36 = .ok (.iconst 3, 1) := by decide +kernel
theorem dX15_readCases_37 : decode cX15_readCases 37 = .ok (.if_icmp .ne 9, 3) := by decide +kernel
theorem dX15_readCases_40 : decode cX15_readCases 40 = .ok (.aload_n 0, 1) := by decide +kernel
theorem dX15_readCases_41 : decode cX15_readCases 41 = .ok (.iconst 5, 1) := by decide +kernel
theorem dX15_readCases_42 : decode cX15_readCases 42 = .ok (.invokevirtual 183, 3) := by decide +kernel
theorem dX15_readCases_45 : decode cX15_readCases 45 = .ok (.athrow, 1) := by decide +kernel
theorem dX15_readCases_46 : decode cX15_readCases 46 = .ok (.aload_n 0, 1) := by decide +kernel
theorem dX15_readCases_47 : decode cX15_readCases 47 = .ok (.invokevirtual 186, 3) := by decide +kernel
theorem dX15_readCases_50 : decode cX15_readCases 50 = .ok (.aload_n 0, 1) := by decide +kernel
theorem dX15_readCases_51 : decode cX15_readCases 51 = .ok (.invokevirtual 189, 3) := by decide +kernel
theorem dX15_readCases_54 : decode cX15_readCases 54 = .ok (.ifCond .ne 9, 3) := by decide +kernel
theorem dX15_readCases_57 : decode cX15_readCases 57 = .ok (.aload_n 0, 1) := by decide +kernel
theorem dX15_readCases_58 : decode cX15_readCases 58 = .ok (.iconst 1, 1) := by decide +kernel
theorem dX15_readCases_59 : decode cX15_readCases 59 = .ok (.invokevirtual 183, 3) := by decide +kernel
theorem dX15_readCases_62 : decode cX15_readCases 62 = .ok (.athrow, 1) := by decide +kernel
theorem dX15_readCases_63 : decode cX15_readCases 63 = .ok (.aload_n 0, 1) := by decide +kernel
theorem dX15_readCases_64 : decode cX15_readCases 64 = .ok (.getfield 193, 3) := by decide +kernel
theorem dX15_readCases_67 : decode cX15_readCases 67 = .ok (.aload_n 0, 1) := by decide +kernel
theorem dX15_readCases_68 : decode cX15_readCases 68 = .ok (.getfield 150, 3) := by decide +kernel
theorem dX15_readCases_71 : decode cX15_readCases 71 = .ok (.invokevirtual 197, 3) := by decide +kernel
theorem dX15_readCases_74 : decode cX15_readCases 74 = .ok (.istore 6, 2) := by decide +kernel
theorem dX15_readCases_76 : decode cX15_readCases 76 = .ok (.iload 6, 2) := by decide +kernel
theorem dX15_readCases_78 : decode cX15_readCases 78 = .ok (.iconst (-1), 1) := by decide +kernel
theorem dX15_readCases_79 : decode cX15_readCases 79 = .ok (.if_icmp .eq 16, 3) := by decide +kernel
theorem dX15_readCases_82 : decode cX15_readCases 82 = .ok (.aload_n 0, 1) := by decide +kernel
theorem dX15_readCases_83 : decode cX15_readCases 83 = .ok (.getfield 193, 3) := by decide +kernel
theorem dX15_readCases_86 : decode cX15_readCases 86 = .ok (.getfield 203, 3) := by decide +kernel
theorem dX15_readCases_89 : decode cX15_readCases 89 = .ok (.iload 6, 2) := by decide +kernel
theorem dX15_readCases_91 : decode cX15_readCases 91 = .ok (.baload, 1) := by decide +kernel
theorem dX15_readCases_92 : decode cX15_readCases 92 = .ok (.ifCond .ne 9, 3) := by decide +kernel
theorem dX15_readCases_95 : decode cX15_readCases 95 = .ok (.aload_n 0, 1) := by decide +kernel
theorem dX15_readCases_96 : decode cX15_readCases 96 = .ok (.iconst 2, 1) := by decide +kernel
theorem dX15_readCases_97 : decode cX15_readCases 97 = .ok (.invokevirtual 183, 3) := by decide +kernel
theorem dX15_readCases_100 : decode cX15_readCases 100 = .ok (.athrow, 1) := by decide +kernel
theorem dX15_readCases_101 : decode cX15_readCases 101 = .ok (.iload_n 3, 1) := by decide +kernel
theorem dX15_readCases_102 : decode cX15_readCases 102 = .ok (.iconst 3, 1) := by decide +kernel
theorem dX15_readCases_103 : decode cX15_readCases 103 = .ok (.if_icmp .ne 9, 3) := by decide +kernel
theorem dX15_readCases_106 : decode cX15_readCases 106 = .ok (.aload_n 0, 1) := by decide +kernel
theorem dX15_readCases_107 : decode cX15_readCases 107 = .ok (.iconst 5, 1) := by decide +kernel
theorem dX15_readCases_108 : decode cX15_readCases 108 = .ok (.invokevirtual 183, 3) := by decide +kernel
theorem dX15_readCases_111 : decode cX15_readCases 111 = .ok (.athrow, 1) := by decide +kernel
theorem dX15_readCases_112 : decode cX15_readCases 112 = .ok (.iload 5, 2) := by decide +kernel
theorem dX15_readCases_114 : decode cX15_readCases 114 = .ok (.ifCond .eq 30, 3) := by decide +kernel
theorem dX15_readCases_117 : decode cX15_readCases 117 = .ok (.aload_n 0, 1) := by decide +kernel
theorem dX15_readCases_118 : decode cX15_readCases 118 = .ok (.getfield 193, 3) := by decide +kernel
theorem dX15_readCases_121 : decode cX15_readCases 121 = .ok (.getfield 267, 3) := by decide +kernel
theorem dX15_readCases_124 : decode cX15_readCases 124 = .ok (.iload_n 1, 1) := by decide +kernel
theorem dX15_readCases_125 : decode cX15_readCases 125 = .ok (.dup2, 1) := by decide +kernel
theorem dX15_readCases_126 : decode cX15_readCases 126 = .ok (.iaload, 1) := by decide +kernel
theorem dX15_readCases_127 : decode cX15_readCases 127 = .ok (.iconst 1, 1) := by decide +kernel
theorem dX15_readCases_128 : decode cX15_readCases 128 = .ok (.aload_n 0, 1) := by decide +kernel
theorem dX15_readCases_129 : decode cX15_readCases 129 = .ok (.getfield 193, 3) := by decide +kernel
theorem dX15_readCases_132 : decode cX15_readCases 132 = .ok (.getfield 206, 3) := by decide +kernel
theorem dX15_readCases_135 : decode cX15_readCases 135 = .ok (.iload 6, 2) := by decide +kernel
theorem dX15_readCases_137 : decode cX15_readCases 137 = .ok (.iaload, 1) := by decide +kernel
theorem dX15_readCases_138 : decode cX15_readCases 138 = .ok (.ishl, 1) := by decide +kernel
theorem dX15_readCases_139 : decode cX15_readCases 139 = .ok (.ior, 1) := by decide +kernel
theorem dX15_readCases_140 : decode cX15_readCases 140 = .ok (.iastore, 1) := by decide +kernel
theorem dX15_readCases_141 : decode cX15_readCases 141 = .ok (.goto 27, 3) := by decide +kernel
theorem dX15_readCases_144 : decode cX15_readCases 144 = .ok (.aload_n 0, 1) := by decide +kernel
theorem dX15_readCases_145 : decode cX15_readCases 145 = .ok (.getfield 193, 3) := by decide +kernel
theorem dX15_readCases_148 : decode cX15_readCases 148 = .ok (.getfield 270, 3) := by decide +kernel
theorem dX15_readCases_151 : decode cX15_readCases 151 = .ok (.iload_n 1, 1) := by decide +kernel
theorem dX15_readCases_152 : decode cX15_readCases 152 = .ok (.dup2, 1) := by decide +kernel
theorem dX15_readCases_153 : decode cX15_readCases 153 = .ok (.iaload, 1) := by decide +kernel
theorem dX15_readCases_154 : decode cX15_readCases 154 = .ok (.iconst 1, 1) := by decide +kernel
theorem dX15_readCases_155 : decode cX15_readCases 155 = .ok (.aload_n 0, 1) := by decide +kernel
theorem dX15_readCases_156 : decode cX15_readCases 156 = .ok (.getfield 193, 3) := by decide +kernel
theorem dX15_readCases_159 : decode cX15_readCases 159 = .ok (.getfield 206, 3) := by decide +kernel
theorem dX15_readCases_162 : decode cX15_readCases 162 = .ok (.iload 6, 2) := by decide +kernel
theorem dX15_readCases_164 : decode cX15_readCases 164 = .ok (.iaload, 1) := by decide +kernel
theorem dX15_readCases_165 : decode cX15_readCases 165 = .ok (.ishl, 1) := by decide +kernel
theorem dX15_readCases_166 : decode cX15_readCases 166 = .ok (.ior, 1) := by decide +kernel
theorem dX15_readCases_167 : decode cX15_readCases 167 = .ok (.iastore, 1) := by decide +kernel
theorem dX15_readCases_168 : decode cX15_readCases 168 = .ok (.iinc 3 1, 3) := by decide +kernel
theorem dX15_readCases_171 : decode cX15_readCases 171 = .ok (.aload_n 0, 1) := by decide +kernel
theorem dX15_readCases_172 : decode cX15_readCases 172 = .ok (.invokevirtual 186, 3) := by decide +kernel
theorem dX15_readCases_175 : decode cX15_readCases 175 = .ok (.aload_n 0, 1) := by decide +kernel
theorem dX15_readCases_176 : decode cX15_readCases 176 = .ok (.ldc 176, 2) := by decide +kernel
theorem dX15_readCases_178 : decode cX15_readCases 178 = .ok (.invokevirtual 160, 3) := by decide +kernel
theorem dX15_readCases_181 : decode cX15_readCases 181 = .ok (.istore 4, 2) := by decide +kernel
theorem dX15_readCases_183 : decode cX15_readCases 183 = .ok (.iload 4, 2) := by decide +kernel
theorem dX15_readCases_185 : decode cX15_readCases 185 = .ok (.ifCond .eq 7, 3) := by decide +kernel
theorem dX15_readCases_188 : decode cX15_readCases 188 = .ok (.aload_n 0, 1) := by decide +kernel
theorem dX15_readCases_189 : decode cX15_readCases 189 = .ok (.invokevirtual 186, 3) := by decide +kernel
theorem dX15_readCases_192 : decode cX15_readCases 192 = .ok (.goto (-187), 3) := by decide +kernel
theorem dX15_readCases_195 : decode cX15_readCases 195 = .ok (.return_, 1) := by decide +kernel
theorem dX15_readRule_0 : decode cX15_readRule 0 = .ok (.aload_n 0, 1) := by decide +kernel
theorem dX15_readRule_1 : decode cX15_readRule 1 = .ok (.getfield 193, 3) := by decide +kernel
theorem dX15_readRule_4 : decode cX15_readRule 4 = .ok (.getfield 273, 3) := by decide +kernel
theorem dX15_readRule_7 : decode cX15_readRule 7 = .ok (.bipush 10, 2) := by decide +kernel
theorem dX15_readRule_9 : decode cX15_readRule 9 = .ok (.if_icmp .ne 9, 3) := by decide +kernel
theorem dX15_readRule_12 : decode cX15_readRule 12 = .ok (.aload_n 0, 1) := by decide +kernel
theorem dX15_readRule_13 : decode cX15_readRule 13 = .ok (.iconst 5, 1) := by decide +kernel
theorem dX15_readRule_14 : decode cX15_readRule 14 = .ok (.invokevirtual 183, 3) := by decide +kernel
theorem dX15_readRule_17 : decode cX15_readRule 17 = .ok (.athrow, 1) := by decide +kernel
theorem dX15_readRule_18 : decode cX15_readRule 18 = .ok (.aload_n 0, 1) := by decide +kernel
theorem dX15_readRule_19 : decode cX15_readRule 19 = .ok (.invokevirtual 186, 3) := by decide +kernel
theorem dX15_readRule_22 : decode cX15_readRule 22 = .ok (.aload_n 0, 1) := by decide +kernel
theorem dX15_readRule_23 : decode cX15_readRule 23 = .ok (.getfield 193, 3) := by decide +kernel
theorem dX15_readRule_26 : decode cX15_readRule 26 = .ok (.getfield 273, 3) := by decide +kernel
theorem dX15_readRule_29 : decode cX15_readRule 29 = .ok (.istore_n 1, 1) := by decide +kernel
theorem dX15_readRule_30 : decode cX15_readRule 30 = .ok (.aload_n 0, 1) := by decide +kernel
theorem dX15_readRule_31 : decode cX15_readRule 31 = .ok (.getfield 193, 3) := by decide +kernel
theorem dX15_readRule_34 : decode cX15_readRule 34 = .ok (.getfield 276, 3) := by decide +kernel
theorem dX15_readRule_37 : decode cX15_readRule 37 = .ok (.iload_n 1, 1) := by decide +kernel
theorem dX15_readRule_38 : decode cX15_readRule 38 = .ok (.aload_n 0, 1) := by decide +kernel
theorem dX15_readRule_39 : decode cX15_readRule 39 = .ok (.iconst 1, 1) := by decide +kernel
theorem dX15_readRule_40 : decode cX15_readRule 40 = .ok (.invokevirtual 249, 3) := by decide +kernel
theorem dX15_readRule_43 : decode cX15_readRule 43 = .ok (.iastore, 1) := by decide +kernel
theorem dX15_readRule_44 : decode cX15_readRule 44 = .ok (.aload_n 0, 1) := by decide +kernel
theorem dX15_readRule_45 : decode cX15_readRule 45 = .ok (.getfield 193, 3) := by decide +kernel
theorem dX15_readRule_48 : decode cX15_readRule 48 = .ok (.getfield 279, 3) := by decide +kernel
theorem dX15_readRule_51 : decode cX15_readRule 51 = .ok (.iload_n 1, 1) := by decide +kernel
theorem dX15_readRule_52 : decode cX15_readRule 52 = .ok (.aload_n 0, 1) := by decide +kernel
theorem dX15_readRule_53 : decode cX15_readRule 53 = .ok (.ldc_w 282, 3) := by decide +kernel
theorem dX15_readRule_56 : decode cX15_readRule 56 = .ok (.invokevirtual 160, 3) := by decide +kernel
theorem dX15_readRule_59 : decode cX15_readRule 59 = .ok (.bastore, 1) := by decide +kernel
theorem dX15_readRule_60 : decode cX15_readRule 60 = .ok (.aload_n 0, 1) := by decide +kernel
theorem dX15_readRule_61 : decode cX15_readRule 61 = .ok (.getfield 193, 3) := by decide +kernel
theorem dX15_readRule_64 : decode cX15_readRule 64 = .ok (.getfield 279, 3) := by decide +kernel
theorem dX15_readRule_67 : decode cX15_readRule 67 = .ok (.iload_n 1, 1) := by decide +kernel
theorem dX15_readRule_68 : decode cX15_readRule 68 = .ok (.baload, 1) := by decide +kernel
theorem dX15_readRule_69 : decode cX15_readRule 69 = .ok (.ifCond .ne 19, 3) := by decide +kernel
theorem dX15_readRule_72 : decode cX15_readRule 72 = .ok (.aload_n 0, 1) := by decide +kernel
theorem dX15_readRule_73 : decode cX15_readRule 73 = .ok (.ldc_w 284, 3) := by decide +kernel
theorem dX15_readRule_76 : decode cX15_readRule 76 = .ok (.invokevirtual 160, 3) := by decide +kernel
theorem dX15_readRule_79 : decode cX15_readRule 79 = .ok (.ifCond .ne 9, 3) := by decide +kernel
theorem dX15_readRule_82 : decode cX15_readRule 82 = .ok (.aload_n 0, 1) := by decide +kernel
theorem dX15_readRule_83 : decode cX15_readRule 83 = .ok (.iconst 1, 1) := by decide +kernel
theorem dX15_readRule_84 : decode cX15_readRule 84 = .ok (.invokevirtual 183, 3) := by decide +kernel
theorem dX15_readRule_87 : decode cX15_readRule 87 = .ok (.athrow, 1) := by decide +kernel
theorem dX15_readRule_88 : decode cX15_readRule 88 = .ok (.aload_n 0, 1) := by decide +kernel
theorem dX15_readRule_89 : decode cX15_readRule 89 = .ok (.invokevirtual 186, 3) := by decide +kernel
theorem dX15_readRule_92 : decode cX15_readRule 92 = .ok (.aload_n 0, 1) := by decide +kernel
theorem dX15_readRule_93 : decode cX15_readRule 93 = .ok (.ldc 181, 2) := by decide +kernel
theorem dX15_readRule_95 : decode cX15_readRule 95 = .ok (.invokevirtual 253, 3) := by decide +kernel
theorem dX15_readRule_98 : decode cX15_readRule 98 = .ok (.aload_n 0, 1) := by decide +kernel
theorem dX15_readRule_99 : decode cX15_readRule 99 = .ok (.iload_n 1, 1) := by decide +kernel
theorem dX15_readRule_100 : decode cX15_readRule 100 = .ok (.aload_n 0, 1) := by decide +kernel
theorem dX15_readRule_101 : decode cX15_readRule 101 = .ok (.getfield 193, 3) := by decide +kernel
theorem dX15_readRule_104 : decode cX15_readRule 104 = .ok (.getfield 279, 3) := by decide +kernel
theorem dX15_readRule_107 : decode cX15_readRule 107 = .ok (.iload_n 1, 1) := by decide +kernel
theorem dX15_readRule_108 : decode cX15_readRule 108 = .ok (.baload, 1) := by decide +kernel
theorem dX15_readRule_109 : decode cX15_readRule 109 = .ok (.ifCond .ne 7, 3) := by decide +kernel
theorem dX15_readRule_112 : decode cX15_readRule 112 = .ok (.iconst 1, 1) := by decide +kernel
theorem dX15_readRule_113 : decode cX15_readRule 113 = .ok (.goto 4, 3) := by decide +kernel
theorem dX15_readRule_116 : decode cX15_readRule 116 = .ok (.iconst 0, 1) := by decide +kernel
theorem dX15_readRule_117 : decode cX15_readRule 117 = .ok (.invokevirtual 285, 3) := by decide +kernel
theorem dX15_readRule_120 : decode cX15_readRule 120 = .ok (.aload_n 0, 1) := by decide +kernel
theorem dX15_readRule_121 : decode cX15_readRule 121 = .ok (.getfield 193, 3) := by decide +kernel
theorem dX15_readRule_124 : decode cX15_readRule 124 = .ok (.getfield 289, 3) := by decide +kernel
theorem dX15_readRule_127 : decode cX15_readRule 127 = .ok (.iload_n 1, 1) := by decide +kernel
theorem dX15_readRule_128 : decode cX15_readRule 128 = .ok (.iconst (-1), 1) := by decide +kernel
theorem dX15_readRule_129 : decode cX15_readRule 129 = .ok (.iastore, 1) := by decide +kernel
theorem dX15_readRule_130 : decode cX15_readRule 130 = .ok (.aload_n 0, 1) := by decide +kernel
theorem dX15_readRule_131 : decode cX15_readRule 131 = .ok (.ldc 180, 2) := by decide +kernel
theorem dX15_readRule_133 : decode cX15_readRule 133 = .ok (.invokevirtual 160, 3) := by decide +kernel
theorem dX15_readRule_136 : decode cX15_readRule 136 = .ok (.ifCond .eq 21, 3) := by decide +kernel
theorem dX15_readRule_139 : decode cX15_readRule 139 = .ok (.aload_n 0, 1) := by decide +kernel
theorem dX15_readRule_140 : decode cX15_readRule 140 = .ok (.invokevirtual 186, 3) := by decide +kernel
theorem dX15_readRule_143 : decode cX15_readRule 143 = .ok (.aload_n 0, 1) := by decide +kernel
theorem dX15_readRule_144 : decode cX15_readRule 144 = .ok (.getfield 193, 3) := by decide +kernel
theorem dX15_readRule_147 : decode cX15_readRule 147 = .ok (.getfield 289, 3) := by decide +kernel
theorem dX15_readRule_150 : decode cX15_readRule 150 = .ok (.iload_n 1, 1) := by decide +kernel
theorem dX15_readRule_151 : decode cX15_readRule 151 = .ok (.aload_n 0, 1) := by decide +kernel
theorem dX15_readRule_152 : decode cX15_readRule 152 = .ok (.iconst 0, 1) := by decide +kernel
theorem dX15_readRule_153 : decode cX15_readRule 153 = .ok (.invokevirtual 249, 3) := by decide +kernel
theorem dX15_readRule_156 : decode cX15_readRule 156 = .ok (.iastore, 1) := by decide +kernel
theorem dX15_readRule_157 : decode cX15_readRule 157 = .ok (.aload_n 0, 1) := by decide +kernel
theorem dX15_readRule_158 : decode cX15_readRule 158 = .ok (.getfield 193, 3) := by decide +kernel
theorem dX15_readRule_161 : decode cX15_readRule 161 = .ok (.dup, 1) := by decide +kernel
theorem dX15_readRule_162 : decode cX15_readRule 162 = .ok (.getfield 273, 3) := by decide +kernel
theorem dX15_readRule_165 : decode cX15_readRule 165 = .ok (.iconst 1, 1) := by decide +kernel
theorem dX15_readRule_166 : decode cX15_readRule 166 = .ok (.iadd, 1) := by decide +kernel
theorem dX15_readRule_167 : decode cX15_readRule 167 = .ok (.putfield 273, 3) := by decide +kernel
theorem dX15_readRule_170 : decode cX15_readRule 170 = .ok (.return_, 1) := by decide +kernel
theorem dX15_readSend_0 : decode cX15_readSend 0 = .ok (.aload_n 0, 1) := by decide +kernel
theorem dX15_readSend_1 : decode cX15_readSend 1 = .ok (.getfield 193, 3) := by decide +kernel
theorem dX15_readSend_4 : decode cX15_readSend 4 = .ok (.getfield 292, 3) := by decide +kernel
theorem dX15_readSend_7 : decode cX15_readSend 7 = .ok (.bipush 6, 2) := by decide +kernel
theorem dX15_readSend_9 : decode cX15_readSend 9 = .ok (.if_icmp .ne 9, 3) := by decide +kernel
theorem dX15_readSend_12 : decode cX15_readSend 12 = .ok (.aload_n 0, 1) := by decide +kernel
theorem dX15_readSend_13 : decode cX15_readSend 13 = .ok (.iconst 5, 1) := by decide +kernel
theorem dX15_readSend_14 : decode cX15_readSend 14 = .ok (.invokevirtual 183, 3) := by decide +kernel
theorem dX15_readSend_17 : decode cX15_readSend 17 = .ok (.athrow, 1) := by decide +kernel
theorem dX15_readSend_18 : decode cX15_readSend 18 = .ok (.aload_n 0, 1) := by decide +kernel
theorem dX15_readSend_19 : decode cX15_readSend 19 = .ok (.invokevirtual 186, 3) := by decide +kernel
theorem dX15_readSend_22 : decode cX15_readSend 22 = .ok (.aload_n 0, 1) := by decide +kernel
theorem dX15_readSend_23 : decode cX15_readSend 23 = .ok (.getfield 193, 3) := by decide +kernel
theorem dX15_readSend_26 : decode cX15_readSend 26 = .ok (.getfield 292, 3) := by decide +kernel
theorem dX15_readSend_29 : decode cX15_readSend 29 = .ok (.istore_n 1, 1) := by decide +kernel
theorem dX15_readSend_30 : decode cX15_readSend 30 = .ok (.aload_n 0, 1) := by decide +kernel
theorem dX15_readSend_31 : decode cX15_readSend 31 = .ok (.getfield 193, 3) := by decide +kernel
theorem dX15_readSend_34 : decode cX15_readSend 34 = .ok (.getfield 295, 3) := by decide +kernel
theorem dX15_readSend_37 : decode cX15_readSend 37 = .ok (.iload_n 1, 1) := by decide +kernel
theorem dX15_readSend_38 : decode cX15_readSend 38 = .ok (.aload_n 0, 1) := by decide +kernel
theorem dX15_readSend_39 : decode cX15_readSend 39 = .ok (.iconst 1, 1) := by decide +kernel
theorem dX15_readSend_40 : decode cX15_readSend 40 = .ok (.invokevirtual 249, 3) := by decide +kernel
theorem dX15_readSend_43 : decode cX15_readSend 43 = .ok (.iastore, 1) := by decide +kernel
theorem dX15_readSend_44 : decode cX15_readSend 44 = .ok (.aload_n 0, 1) := by decide +kernel
theorem dX15_readSend_45 : decode cX15_readSend 45 = .ok (.ldc_w 298, 3) := by decide +kernel
theorem dX15_readSend_48 : decode cX15_readSend 48 = .ok (.invokevirtual 253, 3) := by decide +kernel
theorem dX15_readSend_51 : decode cX15_readSend 51 = .ok (.aload_n 0, 1) := by decide +kernel
theorem dX15_readSend_52 : decode cX15_readSend 52 = .ok (.getfield 193, 3) := by decide +kernel
theorem dX15_readSend_55 : decode cX15_readSend 55 = .ok (.getfield 300, 3) := by decide +kernel
theorem dX15_readSend_58 : decode cX15_readSend 58 = .ok (.iload_n 1, 1) := by decide +kernel
theorem dX15_readSend_59 : decode cX15_readSend 59 = .ok (.aload_n 0, 1) := by decide +kernel
theorem dX15_readSend_60 : decode cX15_readSend 60 = .ok (.iconst 0, 1) := by decide +kernel
theorem dX15_readSend_61 : decode cX15_readSend 61 = .ok (.invokevirtual 249, 3) := by decide +kernel
theorem dX15_readSend_64 : decode cX15_readSend 64 = .ok (.iastore, 1) := by decide +kernel
theorem dX15_readSend_65 : decode cX15_readSend 65 = .ok (.aload_n 0, 1) := by decide +kernel
theorem dX15_readSend_66 : decode cX15_readSend 66 = .ok (.ldc 181, 2) := by decide +kernel
theorem dX15_readSend_68 : decode cX15_readSend 68 = .ok (.invokevirtual 253, 3) := by decide +kernel
theorem dX15_readSend_71 : decode cX15_readSend 71 = .ok (.aload_n 0, 1) := by decide +kernel
theorem dX15_readSend_72 : decode cX15_readSend 72 = .ok (.bipush 10, 2) := by decide +kernel
theorem dX15_readSend_74 : decode cX15_readSend 74 = .ok (.iload_n 1, 1) := by decide +kernel
theorem dX15_readSend_75 : decode cX15_readSend 75 = .ok (.iadd, 1) := by decide +kernel
theorem dX15_readSend_76 : decode cX15_readSend 76 = .ok (.iconst 1, 1) := by decide +kernel
theorem dX15_readSend_77 : decode cX15_readSend 77 = .ok (.invokevirtual 285, 3) := by decide +kernel
theorem dX15_readSend_80 : decode cX15_readSend 80 = .ok (.aload_n 0, 1) := by decide +kernel
theorem dX15_readSend_81 : decode cX15_readSend 81 = .ok (.ldc 180, 2) := by decide +kernel
theorem dX15_readSend_83 : decode cX15_readSend 83 = .ok (.invokevirtual 253, 3) := by decide +kernel
theorem dX15_readSend_86 : decode cX15_readSend 86 = .ok (.aload_n 0, 1) := by decide +kernel
theorem dX15_readSend_87 : decode cX15_readSend 87 = .ok (.getfield 117, 3) := by decide +kernel
theorem dX15_readSend_90 : decode cX15_readSend 90 = .ok (.istore_n 2, 1) := by decide +kernel
theorem dX15_readSend_91 : decode cX15_readSend 91 = .ok (.aload_n 0, 1) := by decide +kernel
theorem dX15_readSend_92 : decode cX15_readSend 92 = .ok (.getfield 193, 3) := by decide +kernel
theorem dX15_readSend_95 : decode cX15_readSend 95 = .ok (.getfield 303, 3) := by decide +kernel
theorem dX15_readSend_98 : decode cX15_readSend 98 = .ok (.iload_n 1, 1) := by decide +kernel
theorem dX15_readSend_99 : decode cX15_readSend 99 = .ok (.aload_n 0, 1) := by decide +kernel
theorem dX15_readSend_100 : decode cX15_readSend 100 = .ok (.iconst 0, 1) := by decide +kernel
theorem dX15_readSend_101 : decode cX15_readSend 101 = .ok (.invokevirtual 249, 3) := by decide +kernel
theorem dX15_readSend_104 : decode cX15_readSend 104 = .ok (.iastore, 1) := by decide +kernel
theorem dX15_readSend_105 : decode cX15_readSend 105 = .ok (.aload_n 0, 1) := by decide +kernel
theorem dX15_readSend_106 : decode cX15_readSend 106 = .ok (.getfield 193, 3) := by decide +kernel
theorem dX15_readSend_109 : decode cX15_readSend 109 = .ok (.getfield 303, 3) := by decide +kernel
theorem dX15_readSend_112 : decode cX15_readSend 112 = .ok (.iload_n 1, 1) := by decide +kernel
theorem dX15_readSend_113 : decode cX15_readSend 113 = .ok (.iaload, 1) := by decide +kernel
theorem dX15_readSend_114 : decode cX15_readSend 114 = .ok (.aload_n 0, 1) := by decide +kernel
theorem dX15_readSend_115 : decode cX15_readSend 115 = .ok (.getfield 193, 3) := by decide +kernel
theorem dX15_readSend_118 : decode cX15_readSend 118 = .ok (.getfield 300, 3) := by decide +kernel
theorem dX15_readSend_121 : decode cX15_readSend 121 = .ok (.iload_n 1, 1) := by decide +kernel
theorem dX15_readSend_122 : decode cX15_readSend 122 = .ok (.iaload, 1) := by decide +kernel
theorem dX15_readSend_123 : decode cX15_readSend 123 = .ok (.if_icmp .ne 14, 3) := by decide +kernel
theorem dX15_readSend_126 : decode cX15_readSend 126 = .ok (.aload_n 0, 1) := by decide +kernel
theorem dX15_readSend_127 : decode cX15_readSend 127 = .ok (.iload_n 2, 1) := by decide +kernel
theorem dX15_readSend_128 : decode cX15_readSend 128 = .ok (.putfield 117, 3) := by decide +kernel
theorem dX15_readSend_131 : decode cX15_readSend 131 = .ok (.aload_n 0, 1) := by decide +kernel
theorem dX15_readSend_132 : decode cX15_readSend 132 = .ok (.iconst 3, 1) := by decide +kernel
theorem dX15_readSend_133 : decode cX15_readSend 133 = .ok (.invokevirtual 183, 3) := by decide +kernel
theorem dX15_readSend_136 : decode cX15_readSend 136 = .ok (.athrow, 1) := by decide +kernel
theorem dX15_readSend_137 : decode cX15_readSend 137 = .ok (.aload_n 0, 1) := by decide +kernel
theorem dX15_readSend_138 : decode cX15_readSend 138 = .ok (.getfield 193, 3) := by decide +kernel
theorem dX15_readSend_141 : decode cX15_readSend 141 = .ok (.dup, 1) := by decide +kernel
theorem dX15_readSend_142 : decode cX15_readSend 142 = .ok (.getfield 292, 3) := by decide +kernel
theorem dX15_readSend_145 : decode cX15_readSend 145 = .ok (.iconst 1, 1) := by decide +kernel
theorem dX15_readSend_146 : decode cX15_readSend 146 = .ok (.iadd, 1) := by decide +kernel
theorem dX15_readSend_147 : decode cX15_readSend 147 = .ok (.putfield 292, 3) := by decide +kernel
theorem dX15_readSend_150 : decode cX15_readSend 150 = .ok (.return_, 1) := by decide +kernel
theorem dX15_readPlaces_0 : decode cX15_readPlaces 0 = .ok (.iconst 0, 1) := by decide +kernel
theorem dX15_readPlaces_1 : decode cX15_readPlaces 1 = .ok (.istore 4, 2) := by decide +kernel
theorem dX15_readPlaces_3 : decode cX15_readPlaces 3 = .ok (.iconst 1, 1) := by decide +kernel
theorem dX15_readPlaces_4 : decode cX15_readPlaces 4 = .ok (.istore 5, 2) := by decide +kernel
theorem dX15_readPlaces_6 : decode cX15_readPlaces 6 = .ok (.iload 5, 2) := by decide +kernel
theorem dX15_readPlaces_8 : decode cX15_readPlaces 8 = .ok (.ifCond .eq 121, 3) := by decide +kernel
theorem dX15_readPlaces_11 : decode cX15_readPlaces 11 = .ok (.aload_n 0, 1) := by decide +kernel
theorem dX15_readPlaces_12 : decode cX15_readPlaces 12 = .ok (.invokevirtual 189, 3) := by decide +kernel
theorem dX15_readPlaces_15 : decode cX15_readPlaces 15 = .ok (.ifCond .ne 9, 3) := by decide +kernel
theorem dX15_readPlaces_18 : decode cX15_readPlaces 18 = .ok (.aload_n 0, 1) := by decide +kernel
theorem dX15_readPlaces_19 : decode cX15_readPlaces 19 = .ok (.iconst 1, 1) := by decide +kernel
theorem dX15_readPlaces_20 : decode cX15_readPlaces 20 = .ok (.invokevirtual 183, 3) := by decide +kernel
theorem dX15_readPlaces_23 : decode cX15_readPlaces 23 = .ok (.athrow, 1) := by decide +kernel
theorem dX15_readPlaces_24 : decode cX15_readPlaces 24 = .ok (.aload_n 0, 1) := by decide +kernel
theorem dX15_readPlaces_25 : decode cX15_readPlaces 25 = .ok (.getfield 193, 3) := by decide +kernel
theorem dX15_readPlaces_28 : decode cX15_readPlaces 28 = .ok (.aload_n 0, 1) := by decide +kernel
theorem dX15_readPlaces_29 : decode cX15_readPlaces 29 = .ok (.getfield 150, 3) := by decide +kernel
theorem dX15_readPlaces_32 : decode cX15_readPlaces 32 = .ok (.invokevirtual 197, 3) := by decide +kernel
theorem dX15_readPlaces_35 : decode cX15_readPlaces 35 = .ok (.istore 6, 2) := by decide +kernel
theorem dX15_readPlaces_37 : decode cX15_readPlaces 37 = .ok (.iload 6, 2) := by decide +kernel
theorem dX15_readPlaces_39 : decode cX15_readPlaces 39 = .ok (.iconst (-1), 1) := by decide +kernel
theorem dX15_readPlaces_40 : decode cX15_readPlaces 40 = .ok (.if_icmp .eq 16, 3) := by decide +kernel
theorem dX15_readPlaces_43 : decode cX15_readPlaces 43 = .ok (.aload_n 0, 1) := by decide +kernel
theorem dX15_readPlaces_44 : decode cX15_readPlaces 44 = .ok (.getfield 193, 3) := by decide +kernel
theorem dX15_readPlaces_47 : decode cX15_readPlaces 47 = .ok (.getfield 203, 3) := by decide +kernel
theorem dX15_readPlaces_50 : decode cX15_readPlaces 50 = .ok (.iload 6, 2) := by decide +kernel
theorem dX15_readPlaces_52 : decode cX15_readPlaces 52 = .ok (.baload, 1) := by decide +kernel
theorem dX15_readPlaces_53 : decode cX15_readPlaces 53 = .ok (.ifCond .ne 9, 3) := by decide +kernel
theorem dX15_readPlaces_56 : decode cX15_readPlaces 56 = .ok (.aload_n 0, 1) := by decide +kernel
theorem dX15_readPlaces_57 : decode cX15_readPlaces 57 = .ok (.iconst 2, 1) := by decide +kernel
theorem dX15_readPlaces_58 : decode cX15_readPlaces 58 = .ok (.invokevirtual 183, 3) := by decide +kernel
theorem dX15_readPlaces_61 : decode cX15_readPlaces 61 = .ok (.athrow, 1) := by decide +kernel
theorem dX15_readPlaces_62 : decode cX15_readPlaces 62 = .ok (.iload 4, 2) := by decide +kernel
theorem dX15_readPlaces_64 : decode cX15_readPlaces 64 = .ok (.iconst 3, 1) := by decide +kernel
theorem dX15_readPlaces_65 : decode cX15_readPlaces 65 = .ok (.if_icmp .ne 9, 3) := by decide +kernel
theorem dX15_readPlaces_68 : decode cX15_readPlaces 68 = .ok (.aload_n 0, 1) := by decide +kernel
theorem dX15_readPlaces_69 : decode cX15_readPlaces 69 = .ok (.iconst 5, 1) := by decide +kernel
theorem dX15_readPlaces_70 : decode cX15_readPlaces 70 = .ok (.invokevirtual 183, 3) := by decide +kernel
theorem dX15_readPlaces_73 : decode cX15_readPlaces 73 = .ok (.athrow, 1) := by decide +kernel
theorem dX15_readPlaces_74 : decode cX15_readPlaces 74 = .ok (.aload_n 2, 1) := by decide +kernel
theorem dX15_readPlaces_75 : decode cX15_readPlaces 75 = .ok (.iload 4, 2) := by decide +kernel
theorem dX15_readPlaces_77 : decode cX15_readPlaces 77 = .ok (.aload_n 0, 1) := by decide +kernel
theorem dX15_readPlaces_78 : decode cX15_readPlaces 78 = .ok (.getfield 193, 3) := by decide +kernel
theorem dX15_readPlaces_81 : decode cX15_readPlaces 81 = .ok (.getfield 206, 3) := by decide +kernel
theorem dX15_readPlaces_84 : decode cX15_readPlaces 84 = .ok (.iload 6, 2) := by decide +kernel
theorem dX15_readPlaces_86 : decode cX15_readPlaces 86 = .ok (.iaload, 1) := by decide +kernel
theorem dX15_readPlaces_87 : decode cX15_readPlaces 87 = .ok (.iastore, 1) := by decide +kernel
theorem dX15_readPlaces_88 : decode cX15_readPlaces 88 = .ok (.aload_n 0, 1) := by decide +kernel
theorem dX15_readPlaces_89 : decode cX15_readPlaces 89 = .ok (.invokevirtual 186, 3) := by decide +kernel
theorem dX15_readPlaces_92 : decode cX15_readPlaces 92 = .ok (.aload_n 0, 1) := by decide +kernel
theorem dX15_readPlaces_93 : decode cX15_readPlaces 93 = .ok (.ldc 180, 2) := by decide +kernel
theorem dX15_readPlaces_95 : decode cX15_readPlaces 95 = .ok (.invokevirtual 253, 3) := by decide +kernel
theorem dX15_readPlaces_98 : decode cX15_readPlaces 98 = .ok (.aload_n 3, 1) := by decide +kernel
theorem dX15_readPlaces_99 : decode cX15_readPlaces 99 = .ok (.iload 4, 2) := by decide +kernel
theorem dX15_readPlaces_101 : decode cX15_readPlaces 101 = .ok (.aload_n 0, 1) := by decide +kernel
theorem dX15_readPlaces_102 : decode cX15_readPlaces 102 = .ok (.iconst 0, 1) := by decide +kernel
theorem dX15_readPlaces_103 : decode cX15_readPlaces 103 = .ok (.invokevirtual 249, 3) := by decide +kernel
theorem dX15_readPlaces_106 : decode cX15_readPlaces 106 = .ok (.iastore, 1) := by decide +kernel
theorem dX15_readPlaces_107 : decode cX15_readPlaces 107 = .ok (.iinc 4 1, 3) := by decide +kernel
theorem dX15_readPlaces_110 : decode cX15_readPlaces 110 = .ok (.aload_n 0, 1) := by decide +kernel
theorem dX15_readPlaces_111 : decode cX15_readPlaces 111 = .ok (.aload_n 1, 1) := by decide +kernel
theorem dX15_readPlaces_112 : decode cX15_readPlaces 112 = .ok (.invokevirtual 160, 3) := by decide +kernel
theorem dX15_readPlaces_115 : decode cX15_readPlaces 115 = .ok (.istore 5, 2) := by decide +kernel
theorem dX15_readPlaces_117 : decode cX15_readPlaces 117 = .ok (.iload 5, 2) := by decide +kernel
theorem dX15_readPlaces_119 : decode cX15_readPlaces 119 = .ok (.ifCond .eq 7, 3) := by decide +kernel
theorem dX15_readPlaces_122 : decode cX15_readPlaces 122 = .ok (.aload_n 0, 1) := by decide +kernel
theorem dX15_readPlaces_123 : decode cX15_readPlaces 123 = .ok (.invokevirtual 186, 3) := by decide +kernel
theorem dX15_readPlaces_126 : decode cX15_readPlaces 126 = .ok (.goto (-120), 3) := by decide +kernel
theorem dX15_readPlaces_129 : decode cX15_readPlaces 129 = .ok (.iload 4, 2) := by decide +kernel
theorem dX15_readPlaces_131 : decode cX15_readPlaces 131 = .ok (.ireturn, 1) := by decide +kernel
theorem dX15_readPromise_0 : decode cX15_readPromise 0 = .ok (.aload_n 0, 1) := by decide +kernel
theorem dX15_readPromise_1 : decode cX15_readPromise 1 = .ok (.invokevirtual 186, 3) := by decide +kernel
theorem dX15_readPromise_4 : decode cX15_readPromise 4 = .ok (.aload_n 0, 1) := by decide +kernel
theorem dX15_readPromise_5 : decode cX15_readPromise 5 = .ok (.getfield 193, 3) := by decide +kernel
theorem dX15_readPromise_8 : decode cX15_readPromise 8 = .ok (.aload_n 0, 1) := by decide +kernel
theorem dX15_readPromise_9 : decode cX15_readPromise 9 = .ok (.ldc 176, 2) := by decide +kernel
theorem dX15_readPromise_11 : decode cX15_readPromise 11 = .ok (.aload_n 0, 1) := by decide +kernel
theorem dX15_readPromise_12 : decode cX15_readPromise 12 = .ok (.getfield 193, 3) := by decide +kernel
theorem dX15_readPromise_15 : decode cX15_readPromise 15 = .ok (.getfield 306, 3) := by decide +kernel
theorem dX15_readPromise_18 : decode cX15_readPromise 18 = .ok (.aload_n 0, 1) := by decide +kernel
theorem dX15_readPromise_19 : decode cX15_readPromise 19 = .ok (.getfield 193, 3) := by decide +kernel
theorem dX15_readPromise_22 : decode cX15_readPromise 22 = .ok (.getfield 309, 3) := by decide +kernel
theorem dX15_readPromise_25 : decode cX15_readPromise 25 = .ok (.invokevirtual 312, 3) := by decide +kernel
theorem dX15_readPromise_28 : decode cX15_readPromise 28 = .ok (.putfield 316, 3) := by decide +kernel
theorem dX15_readPromise_31 : decode cX15_readPromise 31 = .ok (.aload_n 0, 1) := by decide +kernel
theorem dX15_readPromise_32 : decode cX15_readPromise 32 = .ok (.ldc_w 319, 3) := by decide +kernel
theorem dX15_readPromise_35 : decode cX15_readPromise 35 = .ok (.invokevirtual 253, 3) := by decide +kernel
theorem dX15_readPromise_38 : decode cX15_readPromise 38 = .ok (.aload_n 0, 1) := by decide +kernel
theorem dX15_readPromise_39 : decode cX15_readPromise 39 = .ok (.getfield 193, 3) := by decide +kernel
theorem dX15_readPromise_42 : decode cX15_readPromise 42 = .ok (.aload_n 0, 1) := by decide +kernel
theorem dX15_readPromise_43 : decode cX15_readPromise 43 = .ok (.ldc 178, 2) := by decide +kernel
theorem dX15_readPromise_45 : decode cX15_readPromise 45 = .ok (.aload_n 0, 1) := by decide +kernel
theorem dX15_readPromise_46 : decode cX15_readPromise 46 = .ok (.getfield 193, 3) := by decide +kernel
theorem dX15_readPromise_49 : decode cX15_readPromise 49 = .ok (.getfield 321, 3) := by decide +kernel
theorem dX15_readPromise_52 : decode cX15_readPromise 52 = .ok (.aload_n 0, 1) := by decide +kernel
theorem dX15_readPromise_53 : decode cX15_readPromise 53 = .ok (.getfield 193, 3) := by decide +kernel
theorem dX15_readPromise_56 : decode cX15_readPromise 56 = .ok (.getfield 324, 3) := by decide +kernel
theorem dX15_readPromise_59 : decode cX15_readPromise 59 = .ok (.invokevirtual 312, 3) := by decide +kernel
theorem dX15_readPromise_62 : decode cX15_readPromise 62 = .ok (.putfield 327, 3) := by decide +kernel
theorem dX15_readPromise_65 : decode cX15_readPromise 65 = .ok (.return_, 1) := by decide +kernel
theorem dX15_feed_0 : decode cX15_feed 0 = .ok (.aload_n 0, 1) := by decide +kernel
theorem dX15_feed_1 : decode cX15_feed 1 = .ok (.iconst 0, 1) := by decide +kernel
theorem dX15_feed_2 : decode cX15_feed 2 = .ok (.putfield 108, 3) := by decide +kernel
theorem dX15_feed_5 : decode cX15_feed 5 = .ok (.aload_n 0, 1) := by decide +kernel
theorem dX15_feed_6 : decode cX15_feed 6 = .ok (.getfield 330, 3) := by decide +kernel
theorem dX15_feed_9 : decode cX15_feed 9 = .ok (.bipush 20, 2) := by decide +kernel
theorem dX15_feed_11 : decode cX15_feed 11 = .ok (.iadd, 1) := by decide +kernel
theorem dX15_feed_12 : decode cX15_feed 12 = .ok (.sipush 700, 3) := by decide +kernel
theorem dX15_feed_15 : decode cX15_feed 15 = .ok (.if_icmp .le 5, 3) := by decide +kernel
theorem dX15_feed_18 : decode cX15_feed 18 = .ok (.iconst (-1), 1) := by decide +kernel
theorem dX15_feed_19 : decode cX15_feed 19 = .ok (.ireturn, 1) := by decide +kernel
theorem dX15_feed_20 : decode cX15_feed 20 = .ok (.iconst 0, 1) := by decide +kernel
theorem dX15_feed_21 : decode cX15_feed 21 = .ok (.istore 6, 2) := by decide +kernel
theorem dX15_feed_23 : decode cX15_feed 23 = .ok (.iload 6, 2) := by decide +kernel
theorem dX15_feed_25 : decode cX15_feed 25 = .ok (.bipush 20, 2) := by decide +kernel
theorem dX15_feed_27 : decode cX15_feed 27 = .ok (.if_icmp .ge 90, 3) := by decide +kernel
theorem dX15_feed_30 : decode cX15_feed 30 = .ok (.iload 6, 2) := by decide +kernel
theorem dX15_feed_32 : decode cX15_feed 32 = .ok (.iconst 4, 1) := by decide +kernel
theorem dX15_feed_33 : decode cX15_feed 33 = .ok (.if_icmp .ge 7, 3) := by decide +kernel
theorem dX15_feed_36 : decode cX15_feed 36 = .ok (.iload_n 1, 1) := by decide +kernel
theorem dX15_feed_37 : decode cX15_feed 37 = .ok (.goto 39, 3) := by decide +kernel
theorem dX15_feed_40 : decode cX15_feed 40 = .ok (.iload 6, 2) := by decide +kernel
theorem dX15_feed_42 : decode cX15_feed 42 = .ok (.bipush 8, 2) := by decide +kernel
theorem dX15_feed_44 : decode cX15_feed 44 = .ok (.if_icmp .ge 7, 3) := by decide +kernel
theorem dX15_feed_47 : decode cX15_feed 47 = .ok (.iload_n 2, 1) := by decide +kernel
theorem dX15_feed_48 : decode cX15_feed 48 = .ok (.goto 28, 3) := by decide +kernel
theorem dX15_feed_51 : decode cX15_feed 51 = .ok (.iload 6, 2) := by decide +kernel
theorem dX15_feed_53 : decode cX15_feed 53 = .ok (.bipush 12, 2) := by decide +kernel
theorem dX15_feed_55 : decode cX15_feed 55 = .ok (.if_icmp .ge 7, 3) := by decide +kernel
theorem dX15_feed_58 : decode cX15_feed 58 = .ok (.iload_n 3, 1) := by decide +kernel
theorem dX15_feed_59 : decode cX15_feed 59 = .ok (.goto 17, 3) := by decide +kernel
theorem dX15_feed_62 : decode cX15_feed 62 = .ok (.iload 6, 2) := by decide +kernel
theorem dX15_feed_64 : decode cX15_feed 64 = .ok (.bipush 16, 2) := by decide +kernel
theorem dX15_feed_66 : decode cX15_feed 66 = .ok (.if_icmp .ge 8, 3) := by decide +kernel
theorem dX15_feed_69 : decode cX15_feed 69 = .ok (.iload 4, 2) := by decide +kernel
theorem dX15_feed_71 : decode cX15_feed 71 = .ok (.goto 5, 3) := by decide +kernel
theorem dX15_feed_74 : decode cX15_feed 74 = .ok (.iload 5, 2) := by decide +kernel
theorem dX15_feed_76 : decode cX15_feed 76 = .ok (.istore 7, 2) := by decide +kernel
theorem dX15_feed_78 : decode cX15_feed 78 = .ok (.aload_n 0, 1) := by decide +kernel
theorem dX15_feed_79 : decode cX15_feed 79 = .ok (.getfield 20, 3) := by decide +kernel
theorem dX15_feed_82 : decode cX15_feed 82 = .ok (.aload_n 0, 1) := by decide +kernel
theorem dX15_feed_83 : decode cX15_feed 83 = .ok (.getfield 330, 3) := by decide +kernel
theorem dX15_feed_86 : decode cX15_feed 86 = .ok (.iload 7, 2) := by decide +kernel
theorem dX15_feed_88 : decode cX15_feed 88 = .ok (.bipush 24, 2) := by decide +kernel
theorem dX15_feed_90 : decode cX15_feed 90 = .ok (.bipush 8, 2) := by decide +kernel
theorem dX15_feed_92 : decode cX15_feed 92 = .ok (.iload 6, 2) := by decide +kernel
theorem dX15_feed_94 : decode cX15_feed 94 = .ok (.iconst 4, 1) := by decide +kernel
theorem dX15_feed_95 : decode cX15_feed 95 = .ok (.irem, 1) := by decide +kernel
theorem dX15_feed_96 : decode cX15_feed 96 = .ok (.imul, 1) := by decide +kernel
theorem dX15_feed_97 : decode cX15_feed 97 = .ok (.isub, 1) := by decide +kernel
theorem dX15_feed_98 : decode cX15_feed 98 = .ok (.ishr, 1) := by decide +kernel
theorem dX15_feed_99 : decode cX15_feed 99 = .ok (.i2b, 1) := by decide +kernel
theorem dX15_feed_100 : decode cX15_feed 100 = .ok (.bastore, 1) := by decide +kernel
theorem dX15_feed_101 : decode cX15_feed 101 = .ok (.aload_n 0, 1) := by decide +kernel
theorem dX15_feed_102 : decode cX15_feed 102 = .ok (.dup, 1) := by decide +kernel
theorem dX15_feed_103 : decode cX15_feed 103 = .ok (.getfield 330, 3) := by decide +kernel
theorem dX15_feed_106 : decode cX15_feed 106 = .ok (.iconst 1, 1) := by decide +kernel
theorem dX15_feed_107 : decode cX15_feed 107 = .ok (.iadd, 1) := by decide +kernel
theorem dX15_feed_108 : decode cX15_feed 108 = .ok (.putfield 330, 3) := by decide +kernel
theorem dX15_feed_111 : decode cX15_feed 111 = .ok (.iinc 6 1, 3) := by decide +kernel
theorem dX15_feed_114 : decode cX15_feed 114 = .ok (.goto (-91), 3) := by decide +kernel
theorem dX15_feed_117 : decode cX15_feed 117 = .ok (.aload_n 0, 1) := by decide +kernel
theorem dX15_feed_118 : decode cX15_feed 118 = .ok (.getfield 330, 3) := by decide +kernel
theorem dX15_feed_121 : decode cX15_feed 121 = .ok (.ireturn, 1) := by decide +kernel
theorem dX15_book_0 : decode cX15_book 0 = .ok (.aload_n 0, 1) := by decide +kernel
theorem dX15_book_1 : decode cX15_book 1 = .ok (.iconst 0, 1) := by decide +kernel
theorem dX15_book_2 : decode cX15_book 2 = .ok (.putfield 108, 3) := by decide +kernel
theorem dX15_book_5 : decode cX15_book 5 = .ok (.iload_n 1, 1) := by decide +kernel
theorem dX15_book_6 : decode cX15_book 6 = .ok (.ifCond .lt 11, 3) := by decide +kernel
theorem dX15_book_9 : decode cX15_book 9 = .ok (.iload_n 1, 1) := by decide +kernel
theorem dX15_book_10 : decode cX15_book 10 = .ok (.aload_n 0, 1) := by decide +kernel
theorem dX15_book_11 : decode cX15_book 11 = .ok (.getfield 330, 3) := by decide +kernel
theorem dX15_book_14 : decode cX15_book 14 = .ok (.if_icmp .le 9, 3) := by decide +kernel
theorem dX15_book_17 : decode cX15_book 17 = .ok (.aload_n 0, 1) := by decide +kernel
theorem dX15_book_18 : decode cX15_book 18 = .ok (.iconst 2, 1) := by decide +kernel
theorem dX15_book_19 : decode cX15_book 19 = .ok (.invokevirtual 333, 3) := by decide +kernel
theorem dX15_book_22 : decode cX15_book 22 = .ok (.ireturn, 1) := by decide +kernel
theorem dX15_book_23 : decode cX15_book 23 = .ok (.aload_n 0, 1) := by decide +kernel
theorem dX15_book_24 : decode cX15_book 24 = .ok (.iload_n 1, 1) := by decide +kernel
theorem dX15_book_25 : decode cX15_book 25 = .ok (.putfield 121, 3) := by decide +kernel
theorem dX15_book_28 : decode cX15_book 28 = .ok (.aload_n 0, 1) := by decide +kernel
theorem dX15_book_29 : decode cX15_book 29 = .ok (.iconst 0, 1) := by decide +kernel
theorem dX15_book_30 : decode cX15_book 30 = .ok (.putfield 330, 3) := by decide +kernel
theorem dX15_book_33 : decode cX15_book 33 = .ok (.aload_n 0, 1) := by decide +kernel
theorem dX15_book_34 : decode cX15_book 34 = .ok (.iconst 0, 1) := by decide +kernel
theorem dX15_book_35 : decode cX15_book 35 = .ok (.putfield 136, 3) := by decide +kernel
theorem dX15_book_38 : decode cX15_book 38 = .ok (.aload_n 0, 1) := by decide +kernel
theorem dX15_book_39 : decode cX15_book 39 = .ok (.iconst 0, 1) := by decide +kernel
theorem dX15_book_40 : decode cX15_book 40 = .ok (.putfield 336, 3) := by decide +kernel
theorem dX15_book_43 : decode cX15_book 43 = .ok (.aload_n 0, 1) := by decide +kernel
theorem dX15_book_44 : decode cX15_book 44 = .ok (.new 198, 3) := by decide +kernel
theorem dX15_book_47 : decode cX15_book 47 = .ok (.dup, 1) := by decide +kernel
theorem dX15_book_48 : decode cX15_book 48 = .ok (.invokespecial 339, 3) := by decide +kernel
theorem dX15_book_51 : decode cX15_book 51 = .ok (.putfield 193, 3) := by decide +kernel
theorem dX15_book_54 : decode cX15_book 54 = .ok (.aload_n 0, 1) := by decide +kernel
theorem dX15_book_55 : decode cX15_book 55 = .ok (.invokevirtual 186, 3) := by decide +kernel
theorem dX15_book_58 : decode cX15_book 58 = .ok (.aload_n 0, 1) := by decide +kernel
theorem dX15_book_59 : decode cX15_book 59 = .ok (.invokevirtual 340, 3) := by decide +kernel
theorem dX15_book_62 : decode cX15_book 62 = .ok (.goto 27, 3) := by decide +kernel
theorem dX15_book_65 : decode cX15_book 65 = .ok (.astore_n 2, 1) := by decide +kernel
theorem dX15_book_66 : decode cX15_book 66 = .ok (.aload_n 0, 1) := by decide +kernel
theorem dX15_book_67 : decode cX15_book 67 = .ok (.aload_n 2, 1) := by decide +kernel
theorem dX15_book_68 : decode cX15_book 68 = .ok (.getfield 114, 3) := by decide +kernel
theorem dX15_book_71 : decode cX15_book 71 = .ok (.putfield 336, 3) := by decide +kernel
theorem dX15_book_74 : decode cX15_book 74 = .ok (.aload_n 0, 1) := by decide +kernel
theorem dX15_book_75 : decode cX15_book 75 = .ok (.iconst 4, 1) := by decide +kernel
theorem dX15_book_76 : decode cX15_book 76 = .ok (.putfield 111, 3) := by decide +kernel
theorem dX15_book_79 : decode cX15_book 79 = .ok (.aload_n 0, 1) := by decide +kernel
theorem dX15_book_80 : decode cX15_book 80 = .ok (.aload_n 2, 1) := by decide +kernel
theorem dX15_book_81 : decode cX15_book 81 = .ok (.getfield 120, 3) := by decide +kernel
theorem dX15_book_84 : decode cX15_book 84 = .ok (.putfield 9, 3) := by decide +kernel
theorem dX15_book_87 : decode cX15_book 87 = .ok (.iconst (-1), 1) := by decide +kernel
theorem dX15_book_88 : decode cX15_book 88 = .ok (.ireturn, 1) := by decide +kernel
theorem dX15_book_89 : decode cX15_book 89 = .ok (.aload_n 0, 1) := by decide +kernel
theorem dX15_book_90 : decode cX15_book 90 = .ok (.aload_n 0, 1) := by decide +kernel
theorem dX15_book_91 : decode cX15_book 91 = .ok (.getfield 193, 3) := by decide +kernel
theorem dX15_book_94 : decode cX15_book 94 = .ok (.putfield 343, 3) := by decide +kernel
theorem dX15_book_97 : decode cX15_book 97 = .ok (.aload_n 0, 1) := by decide +kernel
theorem dX15_book_98 : decode cX15_book 98 = .ok (.iconst 4, 1) := by decide +kernel
theorem dX15_book_99 : decode cX15_book 99 = .ok (.putfield 24, 3) := by decide +kernel
theorem dX15_book_102 : decode cX15_book 102 = .ok (.iconst 0, 1) := by decide +kernel
theorem dX15_book_103 : decode cX15_book 103 = .ok (.istore_n 2, 1) := by decide +kernel
theorem dX15_book_104 : decode cX15_book 104 = .ok (.iload_n 2, 1) := by decide +kernel
theorem dX15_book_105 : decode cX15_book 105 = .ok (.iconst 4, 1) := by decide +kernel
theorem dX15_book_106 : decode cX15_book 106 = .ok (.if_icmp .ge 25, 3) := by decide +kernel
theorem dX15_book_109 : decode cX15_book 109 = .ok (.aload_n 0, 1) := by decide +kernel
theorem dX15_book_110 : decode cX15_book 110 = .ok (.getfield 27, 3) := by decide +kernel
theorem dX15_book_113 : decode cX15_book 113 = .ok (.iload_n 2, 1) := by decide +kernel
theorem dX15_book_114 : decode cX15_book 114 = .ok (.iload_n 2, 1) := by decide +kernel
theorem dX15_book_115 : decode cX15_book 115 = .ok (.iconst 2, 1) := by decide +kernel
theorem dX15_book_116 : decode cX15_book 116 = .ok (.if_icmp .ge 7, 3) := by decide +kernel
theorem dX15_book_119 : decode cX15_book 119 = .ok (.iconst 1, 1) := by decide +kernel
theorem dX15_book_120 : decode cX15_book 120 = .ok (.goto 4, 3) := by decide +kernel
theorem dX15_book_123 : decode cX15_book 123 = .ok (.iconst 0, 1) := by decide +kernel
theorem dX15_book_124 : decode cX15_book 124 = .ok (.iastore, 1) := by decide +kernel
theorem dX15_book_125 : decode cX15_book 125 = .ok (.iinc 2 1, 3) := by decide +kernel
theorem dX15_book_128 : decode cX15_book 128 = .ok (.goto (-24), 3) := by decide +kernel
theorem dX15_book_131 : decode cX15_book 131 = .ok (.aload_n 0, 1) := by decide +kernel
theorem dX15_book_132 : decode cX15_book 132 = .ok (.iconst 1, 1) := by decide +kernel
theorem dX15_book_133 : decode cX15_book 133 = .ok (.aload_n 0, 1) := by decide +kernel
theorem dX15_book_134 : decode cX15_book 134 = .ok (.getfield 343, 3) := by decide +kernel
theorem dX15_book_137 : decode cX15_book 137 = .ok (.getfield 264, 3) := by decide +kernel
theorem dX15_book_140 : decode cX15_book 140 = .ok (.ishl, 1) := by decide +kernel
theorem dX15_book_141 : decode cX15_book 141 = .ok (.iconst 1, 1) := by decide +kernel
theorem dX15_book_142 : decode cX15_book 142 = .ok (.isub, 1) := by decide +kernel
theorem dX15_book_143 : decode cX15_book 143 = .ok (.putfield 346, 3) := by decide +kernel
theorem dX15_book_146 : decode cX15_book 146 = .ok (.aload_n 0, 1) := by decide +kernel
theorem dX15_book_147 : decode cX15_book 147 = .ok (.iconst 0, 1) := by decide +kernel
theorem dX15_book_148 : decode cX15_book 148 = .ok (.putfield 349, 3) := by decide +kernel
theorem dX15_book_151 : decode cX15_book 151 = .ok (.aload_n 0, 1) := by decide +kernel
theorem dX15_book_152 : decode cX15_book 152 = .ok (.iconst 0, 1) := by decide +kernel
theorem dX15_book_153 : decode cX15_book 153 = .ok (.putfield 352, 3) := by decide +kernel
theorem dX15_book_156 : decode cX15_book 156 = .ok (.aload_n 0, 1) := by decide +kernel
theorem dX15_book_157 : decode cX15_book 157 = .ok (.iconst 0, 1) := by decide +kernel
theorem dX15_book_158 : decode cX15_book 158 = .ok (.putfield 355, 3) := by decide +kernel
theorem dX15_book_161 : decode cX15_book 161 = .ok (.aload_n 0, 1) := by decide +kernel
theorem dX15_book_162 : decode cX15_book 162 = .ok (.iconst (-1), 1) := by decide +kernel
theorem dX15_book_163 : decode cX15_book 163 = .ok (.putfield 81, 3) := by decide +kernel
theorem dX15_book_166 : decode cX15_book 166 = .ok (.aload_n 0, 1) := by decide +kernel
theorem dX15_book_167 : decode cX15_book 167 = .ok (.iconst (-1), 1) := by decide +kernel
theorem dX15_book_168 : decode cX15_book 168 = .ok (.putfield 84, 3) := by decide +kernel
theorem dX15_book_171 : decode cX15_book 171 = .ok (.aload_n 0, 1) := by decide +kernel
theorem dX15_book_172 : decode cX15_book 172 = .ok (.iconst 0, 1) := by decide +kernel
theorem dX15_book_173 : decode cX15_book 173 = .ok (.putfield 358, 3) := by decide +kernel
theorem dX15_book_176 : decode cX15_book 176 = .ok (.aload_n 0, 1) := by decide +kernel
theorem dX15_book_177 : decode cX15_book 177 = .ok (.iconst 0, 1) := by decide +kernel
theorem dX15_book_178 : decode cX15_book 178 = .ok (.putfield 361, 3) := by decide +kernel
theorem dX15_book_181 : decode cX15_book 181 = .ok (.aload_n 0, 1) := by decide +kernel
theorem dX15_book_182 : decode cX15_book 182 = .ok (.iconst (-1), 1) := by decide +kernel
theorem dX15_book_183 : decode cX15_book 183 = .ok (.putfield 96, 3) := by decide +kernel
theorem dX15_book_186 : decode cX15_book 186 = .ok (.aload_n 0, 1) := by decide +kernel
theorem dX15_book_187 : decode cX15_book 187 = .ok (.aload_n 0, 1) := by decide +kernel
theorem dX15_book_188 : decode cX15_book 188 = .ok (.getfield 343, 3) := by decide +kernel
theorem dX15_book_191 : decode cX15_book 191 = .ok (.getfield 240, 3) := by decide +kernel
theorem dX15_book_194 : decode cX15_book 194 = .ok (.putfield 364, 3) := by decide +kernel
theorem dX15_book_197 : decode cX15_book 197 = .ok (.aload_n 0, 1) := by decide +kernel
theorem dX15_book_198 : decode cX15_book 198 = .ok (.iconst 0, 1) := by decide +kernel
theorem dX15_book_199 : decode cX15_book 199 = .ok (.putfield 365, 3) := by decide +kernel
theorem dX15_book_202 : decode cX15_book 202 = .ok (.aload_n 0, 1) := by decide +kernel
theorem dX15_book_203 : decode cX15_book 203 = .ok (.iconst 0, 1) := by decide +kernel
theorem dX15_book_204 : decode cX15_book 204 = .ok (.putfield 368, 3) := by decide +kernel
theorem dX15_book_207 : decode cX15_book 207 = .ok (.aload_n 0, 1) := by decide +kernel
theorem dX15_book_208 : decode cX15_book 208 = .ok (.aload_n 0, 1) := by decide +kernel
theorem dX15_book_209 : decode cX15_book 209 = .ok (.getfield 343, 3) := by decide +kernel
theorem dX15_book_212 : decode cX15_book 212 = .ok (.getfield 273, 3) := by decide +kernel
theorem dX15_book_215 : decode cX15_book 215 = .ok (.aload_n 0, 1) := by decide +kernel
theorem dX15_book_216 : decode cX15_book 216 = .ok (.getfield 343, 3) := by decide +kernel
theorem dX15_book_219 : decode cX15_book 219 = .ok (.getfield 292, 3) := by decide +kernel
theorem dX15_book_222 : decode cX15_book 222 = .ok (.iadd, 1) := by decide +kernel
theorem dX15_book_223 : decode cX15_book 223 = .ok (.invokevirtual 371, 3) := by decide +kernel
theorem dX15_book_226 : decode cX15_book 226 = .ok (.ireturn, 1) := by decide +kernel
theorem dX15_fault_0 : decode cX15_fault 0 = .ok (.aload_n 0, 1) := by decide +kernel
theorem dX15_fault_1 : decode cX15_fault 1 = .ok (.iconst 0, 1) := by decide +kernel
theorem dX15_fault_2 : decode cX15_fault 2 = .ok (.putfield 108, 3) := by decide +kernel
theorem dX15_fault_5 : decode cX15_fault 5 = .ok (.aload_n 0, 1) := by decide +kernel
theorem dX15_fault_6 : decode cX15_fault 6 = .ok (.getfield 336, 3) := by decide +kernel
theorem dX15_fault_9 : decode cX15_fault 9 = .ok (.ireturn, 1) := by decide +kernel
theorem dX15_where_0 : decode cX15_where 0 = .ok (.aload_n 0, 1) := by decide +kernel
theorem dX15_where_1 : decode cX15_where 1 = .ok (.iconst 0, 1) := by decide +kernel
theorem dX15_where_2 : decode cX15_where 2 = .ok (.putfield 108, 3) := by decide +kernel
theorem dX15_where_5 : decode cX15_where 5 = .ok (.aload_n 0, 1) := by decide +kernel
theorem dX15_where_6 : decode cX15_where 6 = .ok (.getfield 9, 3) := by decide +kernel
theorem dX15_where_9 : decode cX15_where 9 = .ok (.ireturn, 1) := by decide +kernel
theorem dX15_last_0 : decode cX15_last 0 = .ok (.aload_n 0, 1) := by decide +kernel
theorem dX15_last_1 : decode cX15_last 1 = .ok (.iconst 0, 1) := by decide +kernel
theorem dX15_last_2 : decode cX15_last 2 = .ok (.putfield 108, 3) := by decide +kernel
theorem dX15_last_5 : decode cX15_last 5 = .ok (.aload_n 0, 1) := by decide +kernel
theorem dX15_last_6 : decode cX15_last 6 = .ok (.getfield 343, 3) := by decide +kernel
theorem dX15_last_9 : decode cX15_last 9 = .ok (.ifnonnull 9, 3) := by decide +kernel
theorem dX15_last_12 : decode cX15_last 12 = .ok (.aload_n 0, 1) := by decide +kernel
theorem dX15_last_13 : decode cX15_last 13 = .ok (.iconst 1, 1) := by decide +kernel
theorem dX15_last_14 : decode cX15_last 14 = .ok (.invokevirtual 374, 3) := by decide +kernel
theorem dX15_last_17 : decode cX15_last 17 = .ok (.ireturn, 1) := by decide +kernel
theorem dX15_last_18 : decode cX15_last 18 = .ok (.iload_n 1, 1) := by decide +kernel
theorem dX15_last_19 : decode cX15_last 19 = .ok (.iconst 1, 1) := by decide +kernel
theorem dX15_last_20 : decode cX15_last 20 = .ok (.bipush 6, 2) := by decide +kernel
theorem dX15_last_22 : decode cX15_last 22 = .ok (.invokestatic 377, 3) := by decide +kernel
theorem dX15_last_25 : decode cX15_last 25 = .ok (.ifCond .ne 9, 3) := by decide +kernel
theorem dX15_last_28 : decode cX15_last 28 = .ok (.aload_n 0, 1) := by decide +kernel
theorem dX15_last_29 : decode cX15_last 29 = .ok (.iconst 2, 1) := by decide +kernel
theorem dX15_last_30 : decode cX15_last 30 = .ok (.invokevirtual 374, 3) := by decide +kernel
theorem dX15_last_33 : decode cX15_last 33 = .ok (.ireturn, 1) := by decide +kernel
theorem dX15_last_34 : decode cX15_last 34 = .ok (.aload_n 0, 1) := by decide +kernel
theorem dX15_last_35 : decode cX15_last 35 = .ok (.iload_n 1, 1) := by decide +kernel
theorem dX15_last_36 : decode cX15_last 36 = .ok (.putfield 24, 3) := by decide +kernel
theorem dX15_last_39 : decode cX15_last 39 = .ok (.aload_n 0, 1) := by decide +kernel
theorem dX15_last_40 : decode cX15_last 40 = .ok (.iconst 0, 1) := by decide +kernel
theorem dX15_last_41 : decode cX15_last 41 = .ok (.putfield 349, 3) := by decide +kernel
theorem dX15_last_44 : decode cX15_last 44 = .ok (.aload_n 0, 1) := by decide +kernel
theorem dX15_last_45 : decode cX15_last 45 = .ok (.iconst 0, 1) := by decide +kernel
theorem dX15_last_46 : decode cX15_last 46 = .ok (.putfield 355, 3) := by decide +kernel
theorem dX15_last_49 : decode cX15_last 49 = .ok (.aload_n 0, 1) := by decide +kernel
theorem dX15_last_50 : decode cX15_last 50 = .ok (.invokevirtual 381, 3) := by decide +kernel
theorem dX15_last_53 : decode cX15_last 53 = .ok (.ireturn, 1) := by decide +kernel
theorem dX15_inPurse_0 : decode cX15_inPurse 0 = .ok (.aload_n 0, 1) := by decide +kernel
theorem dX15_inPurse_1 : decode cX15_inPurse 1 = .ok (.getfield 27, 3) := by decide +kernel
theorem dX15_inPurse_4 : decode cX15_inPurse 4 = .ok (.iconst 0, 1) := by decide +kernel
theorem dX15_inPurse_5 : decode cX15_inPurse 5 = .ok (.iaload, 1) := by decide +kernel
theorem dX15_inPurse_6 : decode cX15_inPurse 6 = .ok (.aload_n 0, 1) := by decide +kernel
theorem dX15_inPurse_7 : decode cX15_inPurse 7 = .ok (.getfield 27, 3) := by decide +kernel
theorem dX15_inPurse_10 : decode cX15_inPurse 10 = .ok (.iconst 1, 1) := by decide +kernel
theorem dX15_inPurse_11 : decode cX15_inPurse 11 = .ok (.iaload, 1) := by decide +kernel
theorem dX15_inPurse_12 : decode cX15_inPurse 12 = .ok (.iadd, 1) := by decide +kernel
theorem dX15_inPurse_13 : decode cX15_inPurse 13 = .ok (.aload_n 0, 1) := by decide +kernel
theorem dX15_inPurse_14 : decode cX15_inPurse 14 = .ok (.getfield 27, 3) := by decide +kernel
theorem dX15_inPurse_17 : decode cX15_inPurse 17 = .ok (.iconst 2, 1) := by decide +kernel
theorem dX15_inPurse_18 : decode cX15_inPurse 18 = .ok (.iaload, 1) := by decide +kernel
theorem dX15_inPurse_19 : decode cX15_inPurse 19 = .ok (.iadd, 1) := by decide +kernel
theorem dX15_inPurse_20 : decode cX15_inPurse 20 = .ok (.aload_n 0, 1) := by decide +kernel
theorem dX15_inPurse_21 : decode cX15_inPurse 21 = .ok (.getfield 27, 3) := by decide +kernel
theorem dX15_inPurse_24 : decode cX15_inPurse 24 = .ok (.iconst 3, 1) := by decide +kernel
theorem dX15_inPurse_25 : decode cX15_inPurse 25 = .ok (.iaload, 1) := by decide +kernel
theorem dX15_inPurse_26 : decode cX15_inPurse 26 = .ok (.iadd, 1) := by decide +kernel
theorem dX15_inPurse_27 : decode cX15_inPurse 27 = .ok (.ireturn, 1) := by decide +kernel
theorem dX15_purse_0 : decode cX15_purse 0 = .ok (.aload_n 0, 1) := by decide +kernel
theorem dX15_purse_1 : decode cX15_purse 1 = .ok (.iconst 0, 1) := by decide +kernel
theorem dX15_purse_2 : decode cX15_purse 2 = .ok (.putfield 108, 3) := by decide +kernel
theorem dX15_purse_5 : decode cX15_purse 5 = .ok (.aload_n 0, 1) := by decide +kernel
theorem dX15_purse_6 : decode cX15_purse 6 = .ok (.getfield 343, 3) := by decide +kernel
theorem dX15_purse_9 : decode cX15_purse 9 = .ok (.ifnull 12, 3) := by decide +kernel
theorem dX15_purse_12 : decode cX15_purse 12 = .ok (.iload_n 1, 1) := by decide +kernel
theorem dX15_purse_13 : decode cX15_purse 13 = .ok (.iconst 0, 1) := by decide +kernel
theorem dX15_purse_14 : decode cX15_purse 14 = .ok (.iconst 3, 1) := by decide +kernel
theorem dX15_purse_15 : decode cX15_purse 15 = .ok (.invokestatic 377, 3) := by decide +kernel
theorem dX15_purse_18 : decode cX15_purse 18 = .ok (.ifCond .ne 9, 3) := by decide +kernel
theorem dX15_purse_21 : decode cX15_purse 21 = .ok (.aload_n 0, 1) := by decide +kernel
theorem dX15_purse_22 : decode cX15_purse 22 = .ok (.iconst 1, 1) := by decide +kernel
theorem dX15_purse_23 : decode cX15_purse 23 = .ok (.invokevirtual 374, 3) := by decide +kernel
theorem dX15_purse_26 : decode cX15_purse 26 = .ok (.ireturn, 1) := by decide +kernel
theorem dX15_purse_27 : decode cX15_purse 27 = .ok (.iload_n 2, 1) := by decide +kernel
theorem dX15_purse_28 : decode cX15_purse 28 = .ok (.iconst 0, 1) := by decide +kernel
theorem dX15_purse_29 : decode cX15_purse 29 = .ok (.iconst 3, 1) := by decide +kernel
theorem dX15_purse_30 : decode cX15_purse 30 = .ok (.invokestatic 377, 3) := by decide +kernel
theorem dX15_purse_33 : decode cX15_purse 33 = .ok (.ifCond .eq 20, 3) := by decide +kernel
theorem dX15_purse_36 : decode cX15_purse 36 = .ok (.aload_n 0, 1) := by decide +kernel
theorem dX15_purse_37 : decode cX15_purse 37 = .ok (.invokevirtual 384, 3) := by decide +kernel
theorem dX15_purse_40 : decode cX15_purse 40 = .ok (.aload_n 0, 1) := by decide +kernel
theorem dX15_purse_41 : decode cX15_purse 41 = .ok (.getfield 27, 3) := by decide +kernel
theorem dX15_purse_44 : decode cX15_purse 44 = .ok (.iload_n 1, 1) := by decide +kernel
theorem dX15_purse_45 : decode cX15_purse 45 = .ok (.iaload, 1) := by decide +kernel
theorem dX15_purse_46 : decode cX15_purse 46 = .ok (.isub, 1) := by decide +kernel
theorem dX15_purse_47 : decode cX15_purse 47 = .ok (.iload_n 2, 1) := by decide +kernel
theorem dX15_purse_48 : decode cX15_purse 48 = .ok (.iadd, 1) := by decide +kernel
theorem dX15_purse_49 : decode cX15_purse 49 = .ok (.iconst 3, 1) := by decide +kernel
theorem dX15_purse_50 : decode cX15_purse 50 = .ok (.if_icmp .le 9, 3) := by decide +kernel
theorem dX15_purse_53 : decode cX15_purse 53 = .ok (.aload_n 0, 1) := by decide +kernel
theorem dX15_purse_54 : decode cX15_purse 54 = .ok (.iconst 2, 1) := by decide +kernel
theorem dX15_purse_55 : decode cX15_purse 55 = .ok (.invokevirtual 374, 3) := by decide +kernel
theorem dX15_purse_58 : decode cX15_purse 58 = .ok (.ireturn, 1) := by decide +kernel
theorem dX15_purse_59 : decode cX15_purse 59 = .ok (.aload_n 0, 1) := by decide +kernel
theorem dX15_purse_60 : decode cX15_purse 60 = .ok (.getfield 27, 3) := by decide +kernel
theorem dX15_purse_63 : decode cX15_purse 63 = .ok (.iload_n 1, 1) := by decide +kernel
theorem dX15_purse_64 : decode cX15_purse 64 = .ok (.iload_n 2, 1) := by decide +kernel
theorem dX15_purse_65 : decode cX15_purse 65 = .ok (.iastore, 1) := by decide +kernel
theorem dX15_purse_66 : decode cX15_purse 66 = .ok (.aload_n 0, 1) := by decide +kernel
theorem dX15_purse_67 : decode cX15_purse 67 = .ok (.invokevirtual 381, 3) := by decide +kernel
theorem dX15_purse_70 : decode cX15_purse 70 = .ok (.ireturn, 1) := by decide +kernel
theorem dX15_things_0 : decode cX15_things 0 = .ok (.iload_n 1, 1) := by decide +kernel
theorem dX15_things_1 : decode cX15_things 1 = .ok (.ifCond .eq 8, 3) := by decide +kernel
theorem dX15_things_4 : decode cX15_things 4 = .ok (.iload_n 1, 1) := by decide +kernel
theorem dX15_things_5 : decode cX15_things 5 = .ok (.iconst 3, 1) := by decide +kernel
theorem dX15_things_6 : decode cX15_things 6 = .ok (.if_icmp .ne 13, 3) := by decide +kernel
theorem dX15_things_9 : decode cX15_things 9 = .ok (.aload_n 0, 1) := by decide +kernel
theorem dX15_things_10 : decode cX15_things 10 = .ok (.getfield 343, 3) := by decide +kernel
theorem dX15_things_13 : decode cX15_things 13 = .ok (.getfield 292, 3) := by decide +kernel
theorem dX15_things_16 : decode cX15_things 16 = .ok (.goto 10, 3) := by decide +kernel
theorem dX15_things_19 : decode cX15_things 19 = .ok (.aload_n 0, 1) := by decide +kernel
theorem dX15_things_20 : decode cX15_things 20 = .ok (.getfield 343, 3) := by decide +kernel
theorem dX15_things_23 : decode cX15_things 23 = .ok (.getfield 209, 3) := by decide +kernel
theorem dX15_things_26 : decode cX15_things 26 = .ok (.ireturn, 1) := by decide +kernel
theorem dX15_fall_0 : decode cX15_fall 0 = .ok (.aload_n 0, 1) := by decide +kernel
theorem dX15_fall_1 : decode cX15_fall 1 = .ok (.iconst 0, 1) := by decide +kernel
theorem dX15_fall_2 : decode cX15_fall 2 = .ok (.putfield 108, 3) := by decide +kernel
theorem dX15_fall_5 : decode cX15_fall 5 = .ok (.aload_n 0, 1) := by decide +kernel
theorem dX15_fall_6 : decode cX15_fall 6 = .ok (.getfield 343, 3) := by decide +kernel
theorem dX15_fall_9 : decode cX15_fall 9 = .ok (.ifnull 25, 3) := by decide +kernel
theorem dX15_fall_12 : decode cX15_fall 12 = .ok (.iload_n 1, 1) := by decide +kernel
theorem dX15_fall_13 : decode cX15_fall 13 = .ok (.iconst 0, 1) := by decide +kernel
theorem dX15_fall_14 : decode cX15_fall 14 = .ok (.iconst 3, 1) := by decide +kernel
theorem dX15_fall_15 : decode cX15_fall 15 = .ok (.invokestatic 377, 3) := by decide +kernel
theorem dX15_fall_18 : decode cX15_fall 18 = .ok (.ifCond .eq 16, 3) := by decide +kernel
theorem dX15_fall_21 : decode cX15_fall 21 = .ok (.iload_n 2, 1) := by decide +kernel
theorem dX15_fall_22 : decode cX15_fall 22 = .ok (.ifCond .lt 12, 3) := by decide +kernel
theorem dX15_fall_25 : decode cX15_fall 25 = .ok (.iload_n 2, 1) := by decide +kernel
theorem dX15_fall_26 : decode cX15_fall 26 = .ok (.aload_n 0, 1) := by decide +kernel
theorem dX15_fall_27 : decode cX15_fall 27 = .ok (.iload_n 1, 1) := by decide +kernel
theorem dX15_fall_28 : decode cX15_fall 28 = .ok (.invokevirtual 387, 3) := by decide +kernel
theorem dX15_fall_31 : decode cX15_fall 31 = .ok (.if_icmp .lt 9, 3) := by decide +kernel
theorem dX15_fall_34 : decode cX15_fall 34 = .ok (.aload_n 0, 1) := by decide +kernel
theorem dX15_fall_35 : decode cX15_fall 35 = .ok (.iconst 1, 1) := by decide +kernel
theorem dX15_fall_36 : decode cX15_fall 36 = .ok (.invokevirtual 333, 3) := by decide +kernel
theorem dX15_fall_39 : decode cX15_fall 39 = .ok (.ireturn, 1) := by decide +kernel
theorem dX15_fall_40 : decode cX15_fall 40 = .ok (.iload_n 3, 1) := by decide +kernel
theorem dX15_fall_41 : decode cX15_fall 41 = .ok (.iconst 0, 1) := by decide +kernel
theorem dX15_fall_42 : decode cX15_fall 42 = .ok (.aload_n 0, 1) := by decide +kernel
theorem dX15_fall_43 : decode cX15_fall 43 = .ok (.getfield 24, 3) := by decide +kernel
theorem dX15_fall_46 : decode cX15_fall 46 = .ok (.iconst 1, 1) := by decide +kernel
theorem dX15_fall_47 : decode cX15_fall 47 = .ok (.isub, 1) := by decide +kernel
theorem dX15_fall_48 : decode cX15_fall 48 = .ok (.invokestatic 377, 3) := by decide +kernel
theorem dX15_fall_51 : decode cX15_fall 51 = .ok (.ifCond .ne 9, 3) := by decide +kernel
theorem dX15_fall_54 : decode cX15_fall 54 = .ok (.aload_n 0, 1) := by decide +kernel
theorem dX15_fall_55 : decode cX15_fall 55 = .ok (.iconst 2, 1) := by decide +kernel
theorem dX15_fall_56 : decode cX15_fall 56 = .ok (.invokevirtual 333, 3) := by decide +kernel
theorem dX15_fall_59 : decode cX15_fall 59 = .ok (.ireturn, 1) := by decide +kernel
theorem dX15_fall_60 : decode cX15_fall 60 = .ok (.bipush 100, 2) := by decide +kernel
theorem dX15_fall_62 : decode cX15_fall 62 = .ok (.iload_n 1, 1) := by decide +kernel
theorem dX15_fall_63 : decode cX15_fall 63 = .ok (.imul, 1) := by decide +kernel
theorem dX15_fall_64 : decode cX15_fall 64 = .ok (.bipush 10, 2) := by decide +kernel
theorem dX15_fall_66 : decode cX15_fall 66 = .ok (.iload_n 2, 1) := by decide +kernel
theorem dX15_fall_67 : decode cX15_fall 67 = .ok (.imul, 1) := by decide +kernel
theorem dX15_fall_68 : decode cX15_fall 68 = .ok (.iadd, 1) := by decide +kernel
theorem dX15_fall_69 : decode cX15_fall 69 = .ok (.iload_n 3, 1) := by decide +kernel
theorem dX15_fall_70 : decode cX15_fall 70 = .ok (.iadd, 1) := by decide +kernel
theorem dX15_fall_71 : decode cX15_fall 71 = .ok (.istore 4, 2) := by decide +kernel
theorem dX15_fall_73 : decode cX15_fall 73 = .ok (.iconst 0, 1) := by decide +kernel
theorem dX15_fall_74 : decode cX15_fall 74 = .ok (.istore 5, 2) := by decide +kernel
theorem dX15_fall_76 : decode cX15_fall 76 = .ok (.iload 5, 2) := by decide +kernel
theorem dX15_fall_78 : decode cX15_fall 78 = .ok (.aload_n 0, 1) := by decide +kernel
theorem dX15_fall_79 : decode cX15_fall 79 = .ok (.getfield 349, 3) := by decide +kernel
theorem dX15_fall_82 : decode cX15_fall 82 = .ok (.if_icmp .ge 27, 3) := by decide +kernel
theorem dX15_fall_85 : decode cX15_fall 85 = .ok (.aload_n 0, 1) := by decide +kernel
theorem dX15_fall_86 : decode cX15_fall 86 = .ok (.getfield 31, 3) := by decide +kernel
theorem dX15_fall_89 : decode cX15_fall 89 = .ok (.iload 5, 2) := by decide +kernel
theorem dX15_fall_91 : decode cX15_fall 91 = .ok (.iaload, 1) := by decide +kernel
theorem dX15_fall_92 : decode cX15_fall 92 = .ok (.iload 4, 2) := by decide +kernel
theorem dX15_fall_94 : decode cX15_fall 94 = .ok (.if_icmp .ne 9, 3) := by decide +kernel
theorem dX15_fall_97 : decode cX15_fall 97 = .ok (.aload_n 0, 1) := by decide +kernel
theorem dX15_fall_98 : decode cX15_fall 98 = .ok (.iconst 5, 1) := by decide +kernel
theorem dX15_fall_99 : decode cX15_fall 99 = .ok (.invokevirtual 333, 3) := by decide +kernel
theorem dX15_fall_102 : decode cX15_fall 102 = .ok (.ireturn, 1) := by decide +kernel
theorem dX15_fall_103 : decode cX15_fall 103 = .ok (.iinc 5 1, 3) := by decide +kernel
theorem dX15_fall_106 : decode cX15_fall 106 = .ok (.goto (-30), 3) := by decide +kernel
theorem dX15_fall_109 : decode cX15_fall 109 = .ok (.aload_n 0, 1) := by decide +kernel
theorem dX15_fall_110 : decode cX15_fall 110 = .ok (.getfield 349, 3) := by decide +kernel
theorem dX15_fall_113 : decode cX15_fall 113 = .ok (.bipush 6, 2) := by decide +kernel
theorem dX15_fall_115 : decode cX15_fall 115 = .ok (.if_icmp .ne 9, 3) := by decide +kernel
theorem dX15_fall_118 : decode cX15_fall 118 = .ok (.aload_n 0, 1) := by decide +kernel
theorem dX15_fall_119 : decode cX15_fall 119 = .ok (.iconst 3, 1) := by decide +kernel
theorem dX15_fall_120 : decode cX15_fall 120 = .ok (.invokevirtual 333, 3) := by decide +kernel
theorem dX15_fall_123 : decode cX15_fall 123 = .ok (.ireturn, 1) := by decide +kernel
theorem dX15_fall_124 : decode cX15_fall 124 = .ok (.aload_n 0, 1) := by decide +kernel
theorem dX15_fall_125 : decode cX15_fall 125 = .ok (.getfield 349, 3) := by decide +kernel
theorem dX15_fall_128 : decode cX15_fall 128 = .ok (.istore 5, 2) := by decide +kernel
theorem dX15_fall_130 : decode cX15_fall 130 = .ok (.iload 5, 2) := by decide +kernel
theorem dX15_fall_132 : decode cX15_fall 132 = .ok (.ifCond .le 39, 3) := by decide +kernel
theorem dX15_fall_135 : decode cX15_fall 135 = .ok (.aload_n 0, 1) := by decide +kernel
theorem dX15_fall_136 : decode cX15_fall 136 = .ok (.getfield 31, 3) := by decide +kernel
theorem dX15_fall_139 : decode cX15_fall 139 = .ok (.iload 5, 2) := by decide +kernel
theorem dX15_fall_141 : decode cX15_fall 141 = .ok (.iconst 1, 1) := by decide +kernel
theorem dX15_fall_142 : decode cX15_fall 142 = .ok (.isub, 1) := by decide +kernel
theorem dX15_fall_143 : decode cX15_fall 143 = .ok (.iaload, 1) := by decide +kernel
theorem dX15_fall_144 : decode cX15_fall 144 = .ok (.iload 4, 2) := by decide +kernel
theorem dX15_fall_146 : decode cX15_fall 146 = .ok (.if_icmp .le 25, 3) := by decide +kernel
theorem dX15_fall_149 : decode cX15_fall 149 = .ok (.aload_n 0, 1) := by decide +kernel
theorem dX15_fall_150 : decode cX15_fall 150 = .ok (.getfield 31, 3) := by decide +kernel
theorem dX15_fall_153 : decode cX15_fall 153 = .ok (.iload 5, 2) := by decide +kernel
theorem dX15_fall_155 : decode cX15_fall 155 = .ok (.aload_n 0, 1) := by decide +kernel
theorem dX15_fall_156 : decode cX15_fall 156 = .ok (.getfield 31, 3) := by decide +kernel
theorem dX15_fall_159 : decode cX15_fall 159 = .ok (.iload 5, 2) := by decide +kernel
theorem dX15_fall_161 : decode cX15_fall 161 = .ok (.iconst 1, 1) := by decide +kernel
theorem dX15_fall_162 : decode cX15_fall 162 = .ok (.isub, 1) := by decide +kernel
theorem dX15_fall_163 : decode cX15_fall 163 = .ok (.iaload, 1) := by decide +kernel
theorem dX15_fall_164 : decode cX15_fall 164 = .ok (.iastore, 1) := by decide +kernel
theorem dX15_fall_165 : decode cX15_fall 165 = .ok (.iinc 5 (-1), 3) := by decide +kernel
theorem dX15_fall_168 : decode cX15_fall 168 = .ok (.goto (-38), 3) := by decide +kernel
theorem dX15_fall_171 : decode cX15_fall 171 = .ok (.aload_n 0, 1) := by decide +kernel
theorem dX15_fall_172 : decode cX15_fall 172 = .ok (.getfield 31, 3) := by decide +kernel
theorem dX15_fall_175 : decode cX15_fall 175 = .ok (.iload 5, 2) := by decide +kernel
theorem dX15_fall_177 : decode cX15_fall 177 = .ok (.iload 4, 2) := by decide +kernel
theorem dX15_fall_179 : decode cX15_fall 179 = .ok (.iastore, 1) := by decide +kernel
theorem dX15_fall_180 : decode cX15_fall 180 = .ok (.aload_n 0, 1) := by decide +kernel
theorem dX15_fall_181 : decode cX15_fall 181 = .ok (.dup, 1) := by decide +kernel
theorem dX15_fall_182 : decode cX15_fall 182 = .ok (.getfield 349, 3) := by decide +kernel
theorem dX15_fall_185 : decode cX15_fall 185 = .ok (.iconst 1, 1) := by decide +kernel
theorem dX15_fall_186 : decode cX15_fall 186 = .ok (.iadd, 1) := by decide +kernel
theorem dX15_fall_187 : decode cX15_fall 187 = .ok (.putfield 349, 3) := by decide +kernel
theorem dX15_fall_190 : decode cX15_fall 190 = .ok (.aload_n 0, 1) := by decide +kernel
theorem dX15_fall_191 : decode cX15_fall 191 = .ok (.aload_n 0, 1) := by decide +kernel
theorem dX15_fall_192 : decode cX15_fall 192 = .ok (.getfield 349, 3) := by decide +kernel
theorem dX15_fall_195 : decode cX15_fall 195 = .ok (.invokevirtual 371, 3) := by decide +kernel
theorem dX15_fall_198 : decode cX15_fall 198 = .ok (.ireturn, 1) := by decide +kernel
theorem dX15_clear_0 : decode cX15_clear 0 = .ok (.aload_n 0, 1) := by decide +kernel
theorem dX15_clear_1 : decode cX15_clear 1 = .ok (.iconst 0, 1) := by decide +kernel
theorem dX15_clear_2 : decode cX15_clear 2 = .ok (.putfield 108, 3) := by decide +kernel
theorem dX15_clear_5 : decode cX15_clear 5 = .ok (.aload_n 0, 1) := by decide +kernel
theorem dX15_clear_6 : decode cX15_clear 6 = .ok (.getfield 349, 3) := by decide +kernel
theorem dX15_clear_9 : decode cX15_clear 9 = .ok (.istore_n 1, 1) := by decide +kernel
theorem dX15_clear_10 : decode cX15_clear 10 = .ok (.aload_n 0, 1) := by decide +kernel
theorem dX15_clear_11 : decode cX15_clear 11 = .ok (.iconst 0, 1) := by decide +kernel
theorem dX15_clear_12 : decode cX15_clear 12 = .ok (.putfield 349, 3) := by decide +kernel
theorem dX15_clear_15 : decode cX15_clear 15 = .ok (.iload_n 1, 1) := by decide +kernel
theorem dX15_clear_16 : decode cX15_clear 16 = .ok (.ireturn, 1) := by decide +kernel
theorem dX15_isDown_0 : decode cX15_isDown 0 = .ok (.aload_n 0, 1) := by decide +kernel
theorem dX15_isDown_1 : decode cX15_isDown 1 = .ok (.getfield 53, 3) := by decide +kernel
theorem dX15_isDown_4 : decode cX15_isDown 4 = .ok (.bipush 7, 2) := by decide +kernel
theorem dX15_isDown_6 : decode cX15_isDown 6 = .ok (.iload_n 1, 1) := by decide +kernel
theorem dX15_isDown_7 : decode cX15_isDown 7 = .ok (.imul, 1) := by decide +kernel
theorem dX15_isDown_8 : decode cX15_isDown 8 = .ok (.iload_n 2, 1) := by decide +kernel
theorem dX15_isDown_9 : decode cX15_isDown 9 = .ok (.iadd, 1) := by decide +kernel
theorem dX15_isDown_10 : decode cX15_isDown 10 = .ok (.iaload, 1) := by decide +kernel
theorem dX15_isDown_11 : decode cX15_isDown 11 = .ok (.iload_n 3, 1) := by decide +kernel
theorem dX15_isDown_12 : decode cX15_isDown 12 = .ok (.ishr, 1) := by decide +kernel
theorem dX15_isDown_13 : decode cX15_isDown 13 = .ok (.iconst 1, 1) := by decide +kernel
theorem dX15_isDown_14 : decode cX15_isDown 14 = .ok (.iand, 1) := by decide +kernel
theorem dX15_isDown_15 : decode cX15_isDown 15 = .ok (.iconst 1, 1) := by decide +kernel
theorem dX15_isDown_16 : decode cX15_isDown 16 = .ok (.if_icmp .ne 7, 3) := by decide +kernel
theorem dX15_isDown_19 : decode cX15_isDown 19 = .ok (.iconst 1, 1) := by decide +kernel
theorem dX15_isDown_20 : decode cX15_isDown 20 = .ok (.goto 4, 3) := by decide +kernel
theorem dX15_isDown_23 : decode cX15_isDown 23 = .ok (.iconst 0, 1) := by decide +kernel
theorem dX15_isDown_24 : decode cX15_isDown 24 = .ok (.ireturn, 1) := by decide +kernel
theorem dX15_rowsAt_0 : decode cX15_rowsAt 0 = .ok (.aload_n 0, 1) := by decide +kernel
theorem dX15_rowsAt_1 : decode cX15_rowsAt 1 = .ok (.getfield 50, 3) := by decide +kernel
theorem dX15_rowsAt_4 : decode cX15_rowsAt 4 = .ok (.bipush 28, 2) := by decide +kernel
theorem dX15_rowsAt_6 : decode cX15_rowsAt 6 = .ok (.iload_n 1, 1) := by decide +kernel
theorem dX15_rowsAt_7 : decode cX15_rowsAt 7 = .ok (.imul, 1) := by decide +kernel
theorem dX15_rowsAt_8 : decode cX15_rowsAt 8 = .ok (.iconst 4, 1) := by decide +kernel
theorem dX15_rowsAt_9 : decode cX15_rowsAt 9 = .ok (.iload_n 2, 1) := by decide +kernel
theorem dX15_rowsAt_10 : decode cX15_rowsAt 10 = .ok (.imul, 1) := by decide +kernel
theorem dX15_rowsAt_11 : decode cX15_rowsAt 11 = .ok (.iadd, 1) := by decide +kernel
theorem dX15_rowsAt_12 : decode cX15_rowsAt 12 = .ok (.iload_n 3, 1) := by decide +kernel
theorem dX15_rowsAt_13 : decode cX15_rowsAt 13 = .ok (.iadd, 1) := by decide +kernel
theorem dX15_rowsAt_14 : decode cX15_rowsAt 14 = .ok (.iaload, 1) := by decide +kernel
theorem dX15_rowsAt_15 : decode cX15_rowsAt 15 = .ok (.ireturn, 1) := by decide +kernel
theorem dX15_has_0 : decode cX15_has 0 = .ok (.iload_n 0, 1) := by decide +kernel
theorem dX15_has_1 : decode cX15_has 1 = .ok (.iload_n 1, 1) := by decide +kernel
theorem dX15_has_2 : decode cX15_has 2 = .ok (.ishr, 1) := by decide +kernel
theorem dX15_has_3 : decode cX15_has 3 = .ok (.iconst 1, 1) := by decide +kernel
theorem dX15_has_4 : decode cX15_has 4 = .ok (.iand, 1) := by decide +kernel
theorem dX15_has_5 : decode cX15_has 5 = .ok (.iconst 1, 1) := by decide +kernel
theorem dX15_has_6 : decode cX15_has 6 = .ok (.if_icmp .ne 7, 3) := by decide +kernel
theorem dX15_has_9 : decode cX15_has 9 = .ok (.iconst 1, 1) := by decide +kernel
theorem dX15_has_10 : decode cX15_has 10 = .ok (.goto 4, 3) := by decide +kernel
theorem dX15_has_13 : decode cX15_has 13 = .ok (.iconst 0, 1) := by decide +kernel
theorem dX15_has_14 : decode cX15_has 14 = .ok (.ireturn, 1) := by decide +kernel
theorem dX15_notsOf_0 : decode cX15_notsOf 0 = .ok (.iload_n 1, 1) := by decide +kernel
theorem dX15_notsOf_1 : decode cX15_notsOf 1 = .ok (.bipush 10, 2) := by decide +kernel
theorem dX15_notsOf_3 : decode cX15_notsOf 3 = .ok (.if_icmp .lt 21, 3) := by decide +kernel
theorem dX15_notsOf_6 : decode cX15_notsOf 6 = .ok (.aload_n 0, 1) := by decide +kernel
theorem dX15_notsOf_7 : decode cX15_notsOf 7 = .ok (.getfield 368, 3) := by decide +kernel
theorem dX15_notsOf_10 : decode cX15_notsOf 10 = .ok (.iload_n 1, 1) := by decide +kernel
theorem dX15_notsOf_11 : decode cX15_notsOf 11 = .ok (.bipush 10, 2) := by decide +kernel
theorem dX15_notsOf_13 : decode cX15_notsOf 13 = .ok (.isub, 1) := by decide +kernel
theorem dX15_notsOf_14 : decode cX15_notsOf 14 = .ok (.invokestatic 390, 3) := by decide +kernel
theorem dX15_notsOf_17 : decode cX15_notsOf 17 = .ok (.ifCond .eq 7, 3) := by decide +kernel
theorem dX15_notsOf_20 : decode cX15_notsOf 20 = .ok (.iconst 0, 1) := by decide +kernel
theorem dX15_notsOf_21 : decode cX15_notsOf 21 = .ok (.goto 12, 3) := by decide +kernel
theorem dX15_notsOf_24 : decode cX15_notsOf 24 = .ok (.aload_n 0, 1) := by decide +kernel
theorem dX15_notsOf_25 : decode cX15_notsOf 25 = .ok (.getfield 343, 3) := by decide +kernel
theorem dX15_notsOf_28 : decode cX15_notsOf 28 = .ok (.getfield 267, 3) := by decide +kernel
theorem dX15_notsOf_31 : decode cX15_notsOf 31 = .ok (.iload_n 1, 1) := by decide +kernel
theorem dX15_notsOf_32 : decode cX15_notsOf 32 = .ok (.iaload, 1) := by decide +kernel
theorem dX15_notsOf_33 : decode cX15_notsOf 33 = .ok (.ireturn, 1) := by decide +kernel
theorem dX15_holds_0 : decode cX15_holds 0 = .ok (.aload_n 0, 1) := by decide +kernel
theorem dX15_holds_1 : decode cX15_holds 1 = .ok (.iload_n 1, 1) := by decide +kernel
theorem dX15_holds_2 : decode cX15_holds 2 = .ok (.iload_n 3, 1) := by decide +kernel
theorem dX15_holds_3 : decode cX15_holds 3 = .ok (.iload 4, 2) := by decide +kernel
theorem dX15_holds_5 : decode cX15_holds 5 = .ok (.invokevirtual 394, 3) := by decide +kernel
theorem dX15_holds_8 : decode cX15_holds 8 = .ok (.istore 5, 2) := by decide +kernel
theorem dX15_holds_10 : decode cX15_holds 10 = .ok (.aload_n 0, 1) := by decide +kernel
theorem dX15_holds_11 : decode cX15_holds 11 = .ok (.iload_n 1, 1) := by decide +kernel
theorem dX15_holds_12 : decode cX15_holds 12 = .ok (.iload_n 3, 1) := by decide +kernel
theorem dX15_holds_13 : decode cX15_holds 13 = .ok (.iload 4, 2) := by decide +kernel
theorem dX15_holds_15 : decode cX15_holds 15 = .ok (.invokevirtual 398, 3) := by decide +kernel
theorem dX15_holds_18 : decode cX15_holds 18 = .ok (.ifCond .ne 42, 3) := by decide +kernel
theorem dX15_holds_21 : decode cX15_holds 21 = .ok (.iload 5, 2) := by decide +kernel
theorem dX15_holds_23 : decode cX15_holds 23 = .ok (.aload_n 0, 1) := by decide +kernel
theorem dX15_holds_24 : decode cX15_holds 24 = .ok (.getfield 343, 3) := by decide +kernel
theorem dX15_holds_27 : decode cX15_holds 27 = .ok (.getfield 270, 3) := by decide +kernel
theorem dX15_holds_30 : decode cX15_holds 30 = .ok (.iload_n 2, 1) := by decide +kernel
theorem dX15_holds_31 : decode cX15_holds 31 = .ok (.iaload, 1) := by decide +kernel
theorem dX15_holds_32 : decode cX15_holds 32 = .ok (.iand, 1) := by decide +kernel
theorem dX15_holds_33 : decode cX15_holds 33 = .ok (.aload_n 0, 1) := by decide +kernel
theorem dX15_holds_34 : decode cX15_holds 34 = .ok (.getfield 343, 3) := by decide +kernel
theorem dX15_holds_37 : decode cX15_holds 37 = .ok (.getfield 270, 3) := by decide +kernel
theorem dX15_holds_40 : decode cX15_holds 40 = .ok (.iload_n 2, 1) := by decide +kernel
theorem dX15_holds_41 : decode cX15_holds 41 = .ok (.iaload, 1) := by decide +kernel
theorem dX15_holds_42 : decode cX15_holds 42 = .ok (.if_icmp .ne 18, 3) := by decide +kernel
theorem dX15_holds_45 : decode cX15_holds 45 = .ok (.iload 5, 2) := by decide +kernel
theorem dX15_holds_47 : decode cX15_holds 47 = .ok (.aload_n 0, 1) := by decide +kernel
theorem dX15_holds_48 : decode cX15_holds 48 = .ok (.iload_n 2, 1) := by decide +kernel
theorem dX15_holds_49 : decode cX15_holds 49 = .ok (.invokevirtual 401, 3) := by decide +kernel
theorem dX15_holds_52 : decode cX15_holds 52 = .ok (.iand, 1) := by decide +kernel
theorem dX15_holds_53 : decode cX15_holds 53 = .ok (.ifCond .ne 7, 3) := by decide +kernel
theorem dX15_holds_56 : decode cX15_holds 56 = .ok (.iconst 1, 1) := by decide +kernel
theorem dX15_holds_57 : decode cX15_holds 57 = .ok (.goto 4, 3) := by decide +kernel
theorem dX15_holds_60 : decode cX15_holds 60 = .ok (.iconst 0, 1) := by decide +kernel
theorem dX15_holds_61 : decode cX15_holds 61 = .ok (.ireturn, 1) := by decide +kernel
theorem dX15_isFact_0 : decode cX15_isFact 0 = .ok (.iconst 0, 1) := by decide +kernel
theorem dX15_isFact_1 : decode cX15_isFact 1 = .ok (.istore_n 3, 1) := by decide +kernel
theorem dX15_isFact_2 : decode cX15_isFact 2 = .ok (.iload_n 3, 1) := by decide +kernel
theorem dX15_isFact_3 : decode cX15_isFact 3 = .ok (.aload_n 0, 1) := by decide +kernel
theorem dX15_isFact_4 : decode cX15_isFact 4 = .ok (.getfield 343, 3) := by decide +kernel
theorem dX15_isFact_7 : decode cX15_isFact 7 = .ok (.getfield 243, 3) := by decide +kernel
theorem dX15_isFact_10 : decode cX15_isFact 10 = .ok (.if_icmp .ge 69, 3) := by decide +kernel
theorem dX15_isFact_13 : decode cX15_isFact 13 = .ok (.aload_n 0, 1) := by decide +kernel
theorem dX15_isFact_14 : decode cX15_isFact 14 = .ok (.getfield 343, 3) := by decide +kernel
theorem dX15_isFact_17 : decode cX15_isFact 17 = .ok (.getfield 246, 3) := by decide +kernel
theorem dX15_isFact_20 : decode cX15_isFact 20 = .ok (.iload_n 3, 1) := by decide +kernel
theorem dX15_isFact_21 : decode cX15_isFact 21 = .ok (.iaload, 1) := by decide +kernel
theorem dX15_isFact_22 : decode cX15_isFact 22 = .ok (.iload_n 1, 1) := by decide +kernel
theorem dX15_isFact_23 : decode cX15_isFact 23 = .ok (.if_icmp .ne 50, 3) := by decide +kernel
theorem dX15_isFact_26 : decode cX15_isFact 26 = .ok (.aload_n 0, 1) := by decide +kernel
theorem dX15_isFact_27 : decode cX15_isFact 27 = .ok (.getfield 343, 3) := by decide +kernel
theorem dX15_isFact_30 : decode cX15_isFact 30 = .ok (.getfield 257, 3) := by decide +kernel
theorem dX15_isFact_33 : decode cX15_isFact 33 = .ok (.iload_n 3, 1) := by decide +kernel
theorem dX15_isFact_34 : decode cX15_isFact 34 = .ok (.iaload, 1) := by decide +kernel
theorem dX15_isFact_35 : decode cX15_isFact 35 = .ok (.iload_n 2, 1) := by decide +kernel
theorem dX15_isFact_36 : decode cX15_isFact 36 = .ok (.if_icmp .ne 37, 3) := by decide +kernel
theorem dX15_isFact_39 : decode cX15_isFact 39 = .ok (.aload_n 0, 1) := by decide +kernel
theorem dX15_isFact_40 : decode cX15_isFact 40 = .ok (.getfield 343, 3) := by decide +kernel
theorem dX15_isFact_43 : decode cX15_isFact 43 = .ok (.getfield 260, 3) := by decide +kernel
theorem dX15_isFact_46 : decode cX15_isFact 46 = .ok (.iload_n 3, 1) := by decide +kernel
theorem dX15_isFact_47 : decode cX15_isFact 47 = .ok (.iaload, 1) := by decide +kernel
theorem dX15_isFact_48 : decode cX15_isFact 48 = .ok (.iconst (-1), 1) := by decide +kernel
theorem dX15_isFact_49 : decode cX15_isFact 49 = .ok (.if_icmp .eq 22, 3) := by decide +kernel
theorem dX15_isFact_52 : decode cX15_isFact 52 = .ok (.aload_n 0, 1) := by decide +kernel
theorem dX15_isFact_53 : decode cX15_isFact 53 = .ok (.getfield 346, 3) := by decide +kernel
theorem dX15_isFact_56 : decode cX15_isFact 56 = .ok (.aload_n 0, 1) := by decide +kernel
theorem dX15_isFact_57 : decode cX15_isFact 57 = .ok (.getfield 343, 3) := by decide +kernel
theorem dX15_isFact_60 : decode cX15_isFact 60 = .ok (.getfield 260, 3) := by decide +kernel
theorem dX15_isFact_63 : decode cX15_isFact 63 = .ok (.iload_n 3, 1) := by decide +kernel
theorem dX15_isFact_64 : decode cX15_isFact 64 = .ok (.iaload, 1) := by decide +kernel
theorem dX15_isFact_65 : decode cX15_isFact 65 = .ok (.invokestatic 390, 3) := by decide +kernel
theorem dX15_isFact_68 : decode cX15_isFact 68 = .ok (.ifCond .eq 5, 3) := by decide +kernel
theorem dX15_isFact_71 : decode cX15_isFact 71 = .ok (.iconst 1, 1) := by decide +kernel
theorem dX15_isFact_72 : decode cX15_isFact 72 = .ok (.ireturn, 1) := by decide +kernel
theorem dX15_isFact_73 : decode cX15_isFact 73 = .ok (.iinc 3 1, 3) := by decide +kernel
theorem dX15_isFact_76 : decode cX15_isFact 76 = .ok (.goto (-74), 3) := by decide +kernel
theorem dX15_isFact_79 : decode cX15_isFact 79 = .ok (.iconst 0, 1) := by decide +kernel
theorem dX15_isFact_80 : decode cX15_isFact 80 = .ok (.ireturn, 1) := by decide +kernel
theorem dX15_keptFrom_0 : decode cX15_keptFrom 0 = .ok (.iload_n 2, 1) := by decide +kernel
theorem dX15_keptFrom_1 : decode cX15_keptFrom 1 = .ok (.iconst 1, 1) := by decide +kernel
theorem dX15_keptFrom_2 : decode cX15_keptFrom 2 = .ok (.isub, 1) := by decide +kernel
theorem dX15_keptFrom_3 : decode cX15_keptFrom 3 = .ok (.istore 4, 2) := by decide +kernel
theorem dX15_keptFrom_5 : decode cX15_keptFrom 5 = .ok (.iload 4, 2) := by decide +kernel
theorem dX15_keptFrom_7 : decode cX15_keptFrom 7 = .ok (.ifCond .lt 23, 3) := by decide +kernel
theorem dX15_keptFrom_10 : decode cX15_keptFrom 10 = .ok (.aload_n 0, 1) := by decide +kernel
theorem dX15_keptFrom_11 : decode cX15_keptFrom 11 = .ok (.iload_n 1, 1) := by decide +kernel
theorem dX15_keptFrom_12 : decode cX15_keptFrom 12 = .ok (.iload 4, 2) := by decide +kernel
theorem dX15_keptFrom_14 : decode cX15_keptFrom 14 = .ok (.iload_n 3, 1) := by decide +kernel
theorem dX15_keptFrom_15 : decode cX15_keptFrom 15 = .ok (.invokevirtual 398, 3) := by decide +kernel
theorem dX15_keptFrom_18 : decode cX15_keptFrom 18 = .ok (.ifCond .ne 6, 3) := by decide +kernel
theorem dX15_keptFrom_21 : decode cX15_keptFrom 21 = .ok (.iload 4, 2) := by decide +kernel
theorem dX15_keptFrom_23 : decode cX15_keptFrom 23 = .ok (.ireturn, 1) := by decide +kernel
theorem dX15_keptFrom_24 : decode cX15_keptFrom 24 = .ok (.iinc 4 (-1), 3) := by decide +kernel
theorem dX15_keptFrom_27 : decode cX15_keptFrom 27 = .ok (.goto (-22), 3) := by decide +kernel
theorem dX15_keptFrom_30 : decode cX15_keptFrom 30 = .ok (.iconst (-1), 1) := by decide +kernel
theorem dX15_keptFrom_31 : decode cX15_keptFrom 31 = .ok (.ireturn, 1) := by decide +kernel
theorem dX15_isOf_0 : decode cX15_isOf 0 = .ok (.aload_n 0, 1) := by decide +kernel
theorem dX15_isOf_1 : decode cX15_isOf 1 = .ok (.getfield 343, 3) := by decide +kernel
theorem dX15_isOf_4 : decode cX15_isOf 4 = .ok (.getfield 289, 3) := by decide +kernel
theorem dX15_isOf_7 : decode cX15_isOf 7 = .ok (.iload_n 1, 1) := by decide +kernel
theorem dX15_isOf_8 : decode cX15_isOf 8 = .ok (.iaload, 1) := by decide +kernel
theorem dX15_isOf_9 : decode cX15_isOf 9 = .ok (.iconst (-1), 1) := by decide +kernel
theorem dX15_isOf_10 : decode cX15_isOf 10 = .ok (.if_icmp .eq 16, 3) := by decide +kernel
theorem dX15_isOf_13 : decode cX15_isOf 13 = .ok (.aload_n 0, 1) := by decide +kernel
theorem dX15_isOf_14 : decode cX15_isOf 14 = .ok (.getfield 343, 3) := by decide +kernel
theorem dX15_isOf_17 : decode cX15_isOf 17 = .ok (.getfield 289, 3) := by decide +kernel
theorem dX15_isOf_20 : decode cX15_isOf 20 = .ok (.iload_n 1, 1) := by decide +kernel
theorem dX15_isOf_21 : decode cX15_isOf 21 = .ok (.iaload, 1) := by decide +kernel
theorem dX15_isOf_22 : decode cX15_isOf 22 = .ok (.iload_n 2, 1) := by decide +kernel
theorem dX15_isOf_23 : decode cX15_isOf 23 = .ok (.if_icmp .ne 7, 3) := by decide +kernel
theorem dX15_isOf_26 : decode cX15_isOf 26 = .ok (.iconst 1, 1) := by decide +kernel
theorem dX15_isOf_27 : decode cX15_isOf 27 = .ok (.goto 4, 3) := by decide +kernel
theorem dX15_isOf_30 : decode cX15_isOf 30 = .ok (.iconst 0, 1) := by decide +kernel
theorem dX15_isOf_31 : decode cX15_isOf 31 = .ok (.ireturn, 1) := by decide +kernel
theorem dX15_comesAt_0 : decode cX15_comesAt 0 = .ok (.iconst 0, 1) := by decide +kernel
theorem dX15_comesAt_1 : decode cX15_comesAt 1 = .ok (.istore 4, 2) := by decide +kernel
theorem dX15_comesAt_3 : decode cX15_comesAt 3 = .ok (.iconst 0, 1) := by decide +kernel
theorem dX15_comesAt_4 : decode cX15_comesAt 4 = .ok (.istore 5, 2) := by decide +kernel
theorem dX15_comesAt_6 : decode cX15_comesAt 6 = .ok (.iload 5, 2) := by decide +kernel
theorem dX15_comesAt_8 : decode cX15_comesAt 8 = .ok (.aload_n 0, 1) := by decide +kernel
theorem dX15_comesAt_9 : decode cX15_comesAt 9 = .ok (.getfield 343, 3) := by decide +kernel
theorem dX15_comesAt_12 : decode cX15_comesAt 12 = .ok (.getfield 216, 3) := by decide +kernel
theorem dX15_comesAt_15 : decode cX15_comesAt 15 = .ok (.if_icmp .ge 36, 3) := by decide +kernel
theorem dX15_comesAt_18 : decode cX15_comesAt 18 = .ok (.iload_n 2, 1) := by decide +kernel
theorem dX15_comesAt_19 : decode cX15_comesAt 19 = .ok (.ifCond .ne 32, 3) := by decide +kernel
theorem dX15_comesAt_22 : decode cX15_comesAt 22 = .ok (.iload 4, 2) := by decide +kernel
theorem dX15_comesAt_24 : decode cX15_comesAt 24 = .ok (.aload_n 0, 1) := by decide +kernel
theorem dX15_comesAt_25 : decode cX15_comesAt 25 = .ok (.iload 5, 2) := by decide +kernel
theorem dX15_comesAt_27 : decode cX15_comesAt 27 = .ok (.iload_n 3, 1) := by decide +kernel
theorem dX15_comesAt_28 : decode cX15_comesAt 28 = .ok (.invokevirtual 404, 3) := by decide +kernel
theorem dX15_comesAt_31 : decode cX15_comesAt 31 = .ok (.ifCond .eq 10, 3) := by decide +kernel
theorem dX15_comesAt_34 : decode cX15_comesAt 34 = .ok (.iconst 1, 1) := by decide +kernel
theorem dX15_comesAt_35 : decode cX15_comesAt 35 = .ok (.iload 5, 2) := by decide +kernel
theorem dX15_comesAt_37 : decode cX15_comesAt 37 = .ok (.ishl, 1) := by decide +kernel
theorem dX15_comesAt_38 : decode cX15_comesAt 38 = .ok (.goto 4, 3) := by decide +kernel
theorem dX15_comesAt_41 : decode cX15_comesAt 41 = .ok (.iconst 0, 1) := by decide +kernel
theorem dX15_comesAt_42 : decode cX15_comesAt 42 = .ok (.ior, 1) := by decide +kernel
theorem dX15_comesAt_43 : decode cX15_comesAt 43 = .ok (.istore 4, 2) := by decide +kernel
theorem dX15_comesAt_45 : decode cX15_comesAt 45 = .ok (.iinc 5 1, 3) := by decide +kernel
theorem dX15_comesAt_48 : decode cX15_comesAt 48 = .ok (.goto (-42), 3) := by decide +kernel
theorem dX15_comesAt_51 : decode cX15_comesAt 51 = .ok (.iconst 0, 1) := by decide +kernel
theorem dX15_comesAt_52 : decode cX15_comesAt 52 = .ok (.istore 5, 2) := by decide +kernel
theorem dX15_comesAt_54 : decode cX15_comesAt 54 = .ok (.iload 5, 2) := by decide +kernel
theorem dX15_comesAt_56 : decode cX15_comesAt 56 = .ok (.aload_n 0, 1) := by decide +kernel
theorem dX15_comesAt_57 : decode cX15_comesAt 57 = .ok (.getfield 343, 3) := by decide +kernel
theorem dX15_comesAt_60 : decode cX15_comesAt 60 = .ok (.getfield 292, 3) := by decide +kernel
theorem dX15_comesAt_63 : decode cX15_comesAt 63 = .ok (.if_icmp .ge 81, 3) := by decide +kernel
theorem dX15_comesAt_66 : decode cX15_comesAt 66 = .ok (.iconst 0, 1) := by decide +kernel
theorem dX15_comesAt_67 : decode cX15_comesAt 67 = .ok (.istore 6, 2) := by decide +kernel
theorem dX15_comesAt_69 : decode cX15_comesAt 69 = .ok (.iload 6, 2) := by decide +kernel
theorem dX15_comesAt_71 : decode cX15_comesAt 71 = .ok (.iload_n 2, 1) := by decide +kernel
theorem dX15_comesAt_72 : decode cX15_comesAt 72 = .ok (.if_icmp .ge 66, 3) := by decide +kernel
theorem dX15_comesAt_75 : decode cX15_comesAt 75 = .ok (.aload_n 0, 1) := by decide +kernel
theorem dX15_comesAt_76 : decode cX15_comesAt 76 = .ok (.getfield 343, 3) := by decide +kernel
theorem dX15_comesAt_79 : decode cX15_comesAt 79 = .ok (.getfield 300, 3) := by decide +kernel
theorem dX15_comesAt_82 : decode cX15_comesAt 82 = .ok (.iload 5, 2) := by decide +kernel
theorem dX15_comesAt_84 : decode cX15_comesAt 84 = .ok (.iaload, 1) := by decide +kernel
theorem dX15_comesAt_85 : decode cX15_comesAt 85 = .ok (.iload_n 3, 1) := by decide +kernel
theorem dX15_comesAt_86 : decode cX15_comesAt 86 = .ok (.if_icmp .ne 52, 3) := by decide +kernel
theorem dX15_comesAt_89 : decode cX15_comesAt 89 = .ok (.iload 4, 2) := by decide +kernel
theorem dX15_comesAt_91 : decode cX15_comesAt 91 = .ok (.aload_n 0, 1) := by decide +kernel
theorem dX15_comesAt_92 : decode cX15_comesAt 92 = .ok (.getfield 56, 3) := by decide +kernel
theorem dX15_comesAt_95 : decode cX15_comesAt 95 = .ok (.bipush 42, 2) := by decide +kernel
theorem dX15_comesAt_97 : decode cX15_comesAt 97 = .ok (.iload_n 1, 1) := by decide +kernel
theorem dX15_comesAt_98 : decode cX15_comesAt 98 = .ok (.imul, 1) := by decide +kernel
theorem dX15_comesAt_99 : decode cX15_comesAt 99 = .ok (.bipush 7, 2) := by decide +kernel
theorem dX15_comesAt_101 : decode cX15_comesAt 101 = .ok (.iload 5, 2) := by decide +kernel
theorem dX15_comesAt_103 : decode cX15_comesAt 103 = .ok (.imul, 1) := by decide +kernel
theorem dX15_comesAt_104 : decode cX15_comesAt 104 = .ok (.iadd, 1) := by decide +kernel
theorem dX15_comesAt_105 : decode cX15_comesAt 105 = .ok (.iload 6, 2) := by decide +kernel
theorem dX15_comesAt_107 : decode cX15_comesAt 107 = .ok (.iadd, 1) := by decide +kernel
theorem dX15_comesAt_108 : decode cX15_comesAt 108 = .ok (.iaload, 1) := by decide +kernel
theorem dX15_comesAt_109 : decode cX15_comesAt 109 = .ok (.iload_n 2, 1) := by decide +kernel
theorem dX15_comesAt_110 : decode cX15_comesAt 110 = .ok (.if_icmp .ne 18, 3) := by decide +kernel
theorem dX15_comesAt_113 : decode cX15_comesAt 113 = .ok (.iconst 1, 1) := by decide +kernel
theorem dX15_comesAt_114 : decode cX15_comesAt 114 = .ok (.aload_n 0, 1) := by decide +kernel
theorem dX15_comesAt_115 : decode cX15_comesAt 115 = .ok (.getfield 343, 3) := by decide +kernel
theorem dX15_comesAt_118 : decode cX15_comesAt 118 = .ok (.getfield 295, 3) := by decide +kernel
theorem dX15_comesAt_121 : decode cX15_comesAt 121 = .ok (.iload 5, 2) := by decide +kernel
theorem dX15_comesAt_123 : decode cX15_comesAt 123 = .ok (.iaload, 1) := by decide +kernel
theorem dX15_comesAt_124 : decode cX15_comesAt 124 = .ok (.ishl, 1) := by decide +kernel
theorem dX15_comesAt_125 : decode cX15_comesAt 125 = .ok (.goto 4, 3) := by decide +kernel
theorem dX15_comesAt_128 : decode cX15_comesAt 128 = .ok (.iconst 0, 1) := by decide +kernel
theorem dX15_comesAt_129 : decode cX15_comesAt 129 = .ok (.ior, 1) := by decide +kernel
theorem dX15_comesAt_130 : decode cX15_comesAt 130 = .ok (.istore 4, 2) := by decide +kernel
theorem dX15_comesAt_132 : decode cX15_comesAt 132 = .ok (.iinc 6 1, 3) := by decide +kernel
theorem dX15_comesAt_135 : decode cX15_comesAt 135 = .ok (.goto (-66), 3) := by decide +kernel
theorem dX15_comesAt_138 : decode cX15_comesAt 138 = .ok (.iinc 5 1, 3) := by decide +kernel
theorem dX15_comesAt_141 : decode cX15_comesAt 141 = .ok (.goto (-87), 3) := by decide +kernel
theorem dX15_comesAt_144 : decode cX15_comesAt 144 = .ok (.aload_n 0, 1) := by decide +kernel
theorem dX15_comesAt_145 : decode cX15_comesAt 145 = .ok (.iload_n 1, 1) := by decide +kernel
theorem dX15_comesAt_146 : decode cX15_comesAt 146 = .ok (.iload_n 2, 1) := by decide +kernel
theorem dX15_comesAt_147 : decode cX15_comesAt 147 = .ok (.iload_n 3, 1) := by decide +kernel
theorem dX15_comesAt_148 : decode cX15_comesAt 148 = .ok (.invokevirtual 407, 3) := by decide +kernel
theorem dX15_comesAt_151 : decode cX15_comesAt 151 = .ok (.istore 5, 2) := by decide +kernel
theorem dX15_comesAt_153 : decode cX15_comesAt 153 = .ok (.iload 5, 2) := by decide +kernel
theorem dX15_comesAt_155 : decode cX15_comesAt 155 = .ok (.iconst (-1), 1) := by decide +kernel
theorem dX15_comesAt_156 : decode cX15_comesAt 156 = .ok (.if_icmp .eq 21, 3) := by decide +kernel
theorem dX15_comesAt_159 : decode cX15_comesAt 159 = .ok (.iload 4, 2) := by decide +kernel
theorem dX15_comesAt_161 : decode cX15_comesAt 161 = .ok (.aload_n 0, 1) := by decide +kernel
theorem dX15_comesAt_162 : decode cX15_comesAt 162 = .ok (.iload_n 1, 1) := by decide +kernel
theorem dX15_comesAt_163 : decode cX15_comesAt 163 = .ok (.iload 5, 2) := by decide +kernel
theorem dX15_comesAt_165 : decode cX15_comesAt 165 = .ok (.iload_n 3, 1) := by decide +kernel
theorem dX15_comesAt_166 : decode cX15_comesAt 166 = .ok (.invokevirtual 394, 3) := by decide +kernel
theorem dX15_comesAt_169 : decode cX15_comesAt 169 = .ok (.aload_n 0, 1) := by decide +kernel
theorem dX15_comesAt_170 : decode cX15_comesAt 170 = .ok (.getfield 364, 3) := by decide +kernel
theorem dX15_comesAt_173 : decode cX15_comesAt 173 = .ok (.iand, 1) := by decide +kernel
theorem dX15_comesAt_174 : decode cX15_comesAt 174 = .ok (.ior, 1) := by decide +kernel
theorem dX15_comesAt_175 : decode cX15_comesAt 175 = .ok (.istore 4, 2) := by decide +kernel
theorem dX15_comesAt_177 : decode cX15_comesAt 177 = .ok (.iconst 0, 1) := by decide +kernel
theorem dX15_comesAt_178 : decode cX15_comesAt 178 = .ok (.istore 6, 2) := by decide +kernel
theorem dX15_comesAt_180 : decode cX15_comesAt 180 = .ok (.iload 6, 2) := by decide +kernel
theorem dX15_comesAt_182 : decode cX15_comesAt 182 = .ok (.aload_n 0, 1) := by decide +kernel
theorem dX15_comesAt_183 : decode cX15_comesAt 183 = .ok (.getfield 343, 3) := by decide +kernel
theorem dX15_comesAt_186 : decode cX15_comesAt 186 = .ok (.getfield 273, 3) := by decide +kernel
theorem dX15_comesAt_189 : decode cX15_comesAt 189 = .ok (.if_icmp .ge 71, 3) := by decide +kernel
theorem dX15_comesAt_192 : decode cX15_comesAt 192 = .ok (.iload_n 2, 1) := by decide +kernel
theorem dX15_comesAt_193 : decode cX15_comesAt 193 = .ok (.ifCond .le 67, 3) := by decide +kernel
theorem dX15_comesAt_196 : decode cX15_comesAt 196 = .ok (.iload 4, 2) := by decide +kernel
theorem dX15_comesAt_198 : decode cX15_comesAt 198 = .ok (.aload_n 0, 1) := by decide +kernel
theorem dX15_comesAt_199 : decode cX15_comesAt 199 = .ok (.getfield 343, 3) := by decide +kernel
theorem dX15_comesAt_202 : decode cX15_comesAt 202 = .ok (.getfield 279, 3) := by decide +kernel
theorem dX15_comesAt_205 : decode cX15_comesAt 205 = .ok (.iload 6, 2) := by decide +kernel
theorem dX15_comesAt_207 : decode cX15_comesAt 207 = .ok (.baload, 1) := by decide +kernel
theorem dX15_comesAt_208 : decode cX15_comesAt 208 = .ok (.ifCond .ne 42, 3) := by decide +kernel
theorem dX15_comesAt_211 : decode cX15_comesAt 211 = .ok (.aload_n 0, 1) := by decide +kernel
theorem dX15_comesAt_212 : decode cX15_comesAt 212 = .ok (.iload 6, 2) := by decide +kernel
theorem dX15_comesAt_214 : decode cX15_comesAt 214 = .ok (.iload_n 3, 1) := by decide +kernel
theorem dX15_comesAt_215 : decode cX15_comesAt 215 = .ok (.invokevirtual 410, 3) := by decide +kernel
theorem dX15_comesAt_218 : decode cX15_comesAt 218 = .ok (.ifCond .eq 32, 3) := by decide +kernel
theorem dX15_comesAt_221 : decode cX15_comesAt 221 = .ok (.aload_n 0, 1) := by decide +kernel
theorem dX15_comesAt_222 : decode cX15_comesAt 222 = .ok (.iload_n 1, 1) := by decide +kernel
theorem dX15_comesAt_223 : decode cX15_comesAt 223 = .ok (.iload 6, 2) := by decide +kernel
theorem dX15_comesAt_225 : decode cX15_comesAt 225 = .ok (.iload_n 2, 1) := by decide +kernel
theorem dX15_comesAt_226 : decode cX15_comesAt 226 = .ok (.iconst 1, 1) := by decide +kernel
theorem dX15_comesAt_227 : decode cX15_comesAt 227 = .ok (.isub, 1) := by decide +kernel
theorem dX15_comesAt_228 : decode cX15_comesAt 228 = .ok (.iload_n 3, 1) := by decide +kernel
theorem dX15_comesAt_229 : decode cX15_comesAt 229 = .ok (.invokevirtual 413, 3) := by decide +kernel
theorem dX15_comesAt_232 : decode cX15_comesAt 232 = .ok (.ifCond .eq 18, 3) := by decide +kernel
theorem dX15_comesAt_235 : decode cX15_comesAt 235 = .ok (.iconst 1, 1) := by decide +kernel
theorem dX15_comesAt_236 : decode cX15_comesAt 236 = .ok (.aload_n 0, 1) := by decide +kernel
theorem dX15_comesAt_237 : decode cX15_comesAt 237 = .ok (.getfield 343, 3) := by decide +kernel
theorem dX15_comesAt_240 : decode cX15_comesAt 240 = .ok (.getfield 276, 3) := by decide +kernel
theorem dX15_comesAt_243 : decode cX15_comesAt 243 = .ok (.iload 6, 2) := by decide +kernel
theorem dX15_comesAt_245 : decode cX15_comesAt 245 = .ok (.iaload, 1) := by decide +kernel
theorem dX15_comesAt_246 : decode cX15_comesAt 246 = .ok (.ishl, 1) := by decide +kernel
theorem dX15_comesAt_247 : decode cX15_comesAt 247 = .ok (.goto 4, 3) := by decide +kernel
theorem dX15_comesAt_250 : decode cX15_comesAt 250 = .ok (.iconst 0, 1) := by decide +kernel
theorem dX15_comesAt_251 : decode cX15_comesAt 251 = .ok (.ior, 1) := by decide +kernel
theorem dX15_comesAt_252 : decode cX15_comesAt 252 = .ok (.istore 4, 2) := by decide +kernel
theorem dX15_comesAt_254 : decode cX15_comesAt 254 = .ok (.iinc 6 1, 3) := by decide +kernel
theorem dX15_comesAt_257 : decode cX15_comesAt 257 = .ok (.goto (-77), 3) := by decide +kernel
theorem dX15_comesAt_260 : decode cX15_comesAt 260 = .ok (.iload 4, 2) := by decide +kernel
theorem dX15_comesAt_262 : decode cX15_comesAt 262 = .ok (.ireturn, 1) := by decide +kernel
theorem dX15_closed_0 : decode cX15_closed 0 = .ok (.iload_n 1, 1) := by decide +kernel
theorem dX15_closed_1 : decode cX15_closed 1 = .ok (.istore_n 3, 1) := by decide +kernel
theorem dX15_closed_2 : decode cX15_closed 2 = .ok (.iconst 0, 1) := by decide +kernel
theorem dX15_closed_3 : decode cX15_closed 3 = .ok (.istore 4, 2) := by decide +kernel
theorem dX15_closed_5 : decode cX15_closed 5 = .ok (.iload 4, 2) := by decide +kernel
theorem dX15_closed_7 : decode cX15_closed 7 = .ok (.bipush 10, 2) := by decide +kernel
theorem dX15_closed_9 : decode cX15_closed 9 = .ok (.if_icmp .ge 93, 3) := by decide +kernel
theorem dX15_closed_12 : decode cX15_closed 12 = .ok (.iconst 0, 1) := by decide +kernel
theorem dX15_closed_13 : decode cX15_closed 13 = .ok (.istore 5, 2) := by decide +kernel
theorem dX15_closed_15 : decode cX15_closed 15 = .ok (.iload 5, 2) := by decide +kernel
theorem dX15_closed_17 : decode cX15_closed 17 = .ok (.aload_n 0, 1) := by decide +kernel
theorem dX15_closed_18 : decode cX15_closed 18 = .ok (.getfield 343, 3) := by decide +kernel
theorem dX15_closed_21 : decode cX15_closed 21 = .ok (.getfield 273, 3) := by decide +kernel
theorem dX15_closed_24 : decode cX15_closed 24 = .ok (.if_icmp .ge 72, 3) := by decide +kernel
theorem dX15_closed_27 : decode cX15_closed 27 = .ok (.aload_n 0, 1) := by decide +kernel
theorem dX15_closed_28 : decode cX15_closed 28 = .ok (.getfield 343, 3) := by decide +kernel
theorem dX15_closed_31 : decode cX15_closed 31 = .ok (.getfield 279, 3) := by decide +kernel
theorem dX15_closed_34 : decode cX15_closed 34 = .ok (.iload 5, 2) := by decide +kernel
theorem dX15_closed_36 : decode cX15_closed 36 = .ok (.baload, 1) := by decide +kernel
theorem dX15_closed_37 : decode cX15_closed 37 = .ok (.ifCond .eq 53, 3) := by decide +kernel
theorem dX15_closed_40 : decode cX15_closed 40 = .ok (.aload_n 0, 1) := by decide +kernel
theorem dX15_closed_41 : decode cX15_closed 41 = .ok (.iload 5, 2) := by decide +kernel
theorem dX15_closed_43 : decode cX15_closed 43 = .ok (.iload_n 2, 1) := by decide +kernel
theorem dX15_closed_44 : decode cX15_closed 44 = .ok (.invokevirtual 410, 3) := by decide +kernel
theorem dX15_closed_47 : decode cX15_closed 47 = .ok (.ifCond .eq 43, 3) := by decide +kernel
theorem dX15_closed_50 : decode cX15_closed 50 = .ok (.iload_n 3, 1) := by decide +kernel
theorem dX15_closed_51 : decode cX15_closed 51 = .ok (.aload_n 0, 1) := by decide +kernel
theorem dX15_closed_52 : decode cX15_closed 52 = .ok (.getfield 343, 3) := by decide +kernel
theorem dX15_closed_55 : decode cX15_closed 55 = .ok (.getfield 270, 3) := by decide +kernel
theorem dX15_closed_58 : decode cX15_closed 58 = .ok (.iload 5, 2) := by decide +kernel
theorem dX15_closed_60 : decode cX15_closed 60 = .ok (.iaload, 1) := by decide +kernel
theorem dX15_closed_61 : decode cX15_closed 61 = .ok (.iand, 1) := by decide +kernel
theorem dX15_closed_62 : decode cX15_closed 62 = .ok (.aload_n 0, 1) := by decide +kernel
theorem dX15_closed_63 : decode cX15_closed 63 = .ok (.getfield 343, 3) := by decide +kernel
theorem dX15_closed_66 : decode cX15_closed 66 = .ok (.getfield 270, 3) := by decide +kernel
theorem dX15_closed_69 : decode cX15_closed 69 = .ok (.iload 5, 2) := by decide +kernel
theorem dX15_closed_71 : decode cX15_closed 71 = .ok (.iaload, 1) := by decide +kernel
theorem dX15_closed_72 : decode cX15_closed 72 = .ok (.if_icmp .ne 18, 3) := by decide +kernel
theorem dX15_closed_75 : decode cX15_closed 75 = .ok (.iload_n 3, 1) := by decide +kernel
theorem dX15_closed_76 : decode cX15_closed 76 = .ok (.iconst 1, 1) := by decide +kernel
theorem dX15_closed_77 : decode cX15_closed 77 = .ok (.aload_n 0, 1) := by decide +kernel
theorem dX15_closed_78 : decode cX15_closed 78 = .ok (.getfield 343, 3) := by decide +kernel
theorem dX15_closed_81 : decode cX15_closed 81 = .ok (.getfield 276, 3) := by decide +kernel
theorem dX15_closed_84 : decode cX15_closed 84 = .ok (.iload 5, 2) := by decide +kernel
theorem dX15_closed_86 : decode cX15_closed 86 = .ok (.iaload, 1) := by decide +kernel
theorem dX15_closed_87 : decode cX15_closed 87 = .ok (.ishl, 1) := by decide +kernel
theorem dX15_closed_88 : decode cX15_closed 88 = .ok (.ior, 1) := by decide +kernel
theorem dX15_closed_89 : decode cX15_closed 89 = .ok (.istore_n 3, 1) := by decide +kernel
theorem dX15_closed_90 : decode cX15_closed 90 = .ok (.iinc 5 1, 3) := by decide +kernel
theorem dX15_closed_93 : decode cX15_closed 93 = .ok (.goto (-78), 3) := by decide +kernel
theorem dX15_closed_96 : decode cX15_closed 96 = .ok (.iinc 4 1, 3) := by decide +kernel
theorem dX15_closed_99 : decode cX15_closed 99 = .ok (.goto (-94), 3) := by decide +kernel
theorem dX15_closed_102 : decode cX15_closed 102 = .ok (.iload_n 3, 1) := by decide +kernel
theorem dX15_closed_103 : decode cX15_closed 103 = .ok (.ireturn, 1) := by decide +kernel
theorem dX15_goes_0 : decode cX15_goes 0 = .ok (.iconst 0, 1) := by decide +kernel
theorem dX15_goes_1 : decode cX15_goes 1 = .ok (.istore_n 2, 1) := by decide +kernel
theorem dX15_goes_2 : decode cX15_goes 2 = .ok (.iload_n 2, 1) := by decide +kernel
theorem dX15_goes_3 : decode cX15_goes 3 = .ok (.bipush 7, 2) := by decide +kernel
theorem dX15_goes_5 : decode cX15_goes 5 = .ok (.if_icmp .ge 58, 3) := by decide +kernel
theorem dX15_goes_8 : decode cX15_goes 8 = .ok (.aload_n 0, 1) := by decide +kernel
theorem dX15_goes_9 : decode cX15_goes 9 = .ok (.getfield 53, 3) := by decide +kernel
theorem dX15_goes_12 : decode cX15_goes 12 = .ok (.bipush 7, 2) := by decide +kernel
theorem dX15_goes_14 : decode cX15_goes 14 = .ok (.iload_n 1, 1) := by decide +kernel
theorem dX15_goes_15 : decode cX15_goes 15 = .ok (.imul, 1) := by decide +kernel
theorem dX15_goes_16 : decode cX15_goes 16 = .ok (.iload_n 2, 1) := by decide +kernel
theorem dX15_goes_17 : decode cX15_goes 17 = .ok (.iadd, 1) := by decide +kernel
theorem dX15_goes_18 : decode cX15_goes 18 = .ok (.aload_n 0, 1) := by decide +kernel
theorem dX15_goes_19 : decode cX15_goes 19 = .ok (.getfield 43, 3) := by decide +kernel
theorem dX15_goes_22 : decode cX15_goes 22 = .ok (.getfield 417, 3) := by decide +kernel
theorem dX15_goes_25 : decode cX15_goes 25 = .ok (.iload_n 2, 1) := by decide +kernel
theorem dX15_goes_26 : decode cX15_goes 26 = .ok (.iaload, 1) := by decide +kernel
theorem dX15_goes_27 : decode cX15_goes 27 = .ok (.iastore, 1) := by decide +kernel
theorem dX15_goes_28 : decode cX15_goes 28 = .ok (.iconst 0, 1) := by decide +kernel
theorem dX15_goes_29 : decode cX15_goes 29 = .ok (.istore_n 3, 1) := by decide +kernel
theorem dX15_goes_30 : decode cX15_goes 30 = .ok (.iload_n 3, 1) := by decide +kernel
theorem dX15_goes_31 : decode cX15_goes 31 = .ok (.iconst 4, 1) := by decide +kernel
theorem dX15_goes_32 : decode cX15_goes 32 = .ok (.if_icmp .ge 25, 3) := by decide +kernel
theorem dX15_goes_35 : decode cX15_goes 35 = .ok (.aload_n 0, 1) := by decide +kernel
theorem dX15_goes_36 : decode cX15_goes 36 = .ok (.getfield 50, 3) := by decide +kernel
theorem dX15_goes_39 : decode cX15_goes 39 = .ok (.bipush 28, 2) := by decide +kernel
theorem dX15_goes_41 : decode cX15_goes 41 = .ok (.iload_n 1, 1) := by decide +kernel
theorem dX15_goes_42 : decode cX15_goes 42 = .ok (.imul, 1) := by decide +kernel
theorem dX15_goes_43 : decode cX15_goes 43 = .ok (.iconst 4, 1) := by decide +kernel
theorem dX15_goes_44 : decode cX15_goes 44 = .ok (.iload_n 2, 1) := by decide +kernel
theorem dX15_goes_45 : decode cX15_goes 45 = .ok (.imul, 1) := by decide +kernel
theorem dX15_goes_46 : decode cX15_goes 46 = .ok (.iadd, 1) := by decide +kernel
theorem dX15_goes_47 : decode cX15_goes 47 = .ok (.iload_n 3, 1) := by decide +kernel
theorem dX15_goes_48 : decode cX15_goes 48 = .ok (.iadd, 1) := by decide +kernel
theorem dX15_goes_49 : decode cX15_goes 49 = .ok (.iconst 0, 1) := by decide +kernel
theorem dX15_goes_50 : decode cX15_goes 50 = .ok (.iastore, 1) := by decide +kernel
theorem dX15_goes_51 : decode cX15_goes 51 = .ok (.iinc 3 1, 3) := by decide +kernel
theorem dX15_goes_54 : decode cX15_goes 54 = .ok (.goto (-24), 3) := by decide +kernel
theorem dX15_goes_57 : decode cX15_goes 57 = .ok (.iinc 2 1, 3) := by decide +kernel
theorem dX15_goes_60 : decode cX15_goes 60 = .ok (.goto (-58), 3) := by decide +kernel
theorem dX15_goes_63 : decode cX15_goes 63 = .ok (.iconst 0, 1) := by decide +kernel
theorem dX15_goes_64 : decode cX15_goes 64 = .ok (.istore_n 2, 1) := by decide +kernel
theorem dX15_goes_65 : decode cX15_goes 65 = .ok (.iload_n 2, 1) := by decide +kernel
theorem dX15_goes_66 : decode cX15_goes 66 = .ok (.bipush 42, 2) := by decide +kernel
theorem dX15_goes_68 : decode cX15_goes 68 = .ok (.if_icmp .ge 45, 3) := by decide +kernel
theorem dX15_goes_71 : decode cX15_goes 71 = .ok (.aload_n 0, 1) := by decide +kernel
theorem dX15_goes_72 : decode cX15_goes 72 = .ok (.getfield 56, 3) := by decide +kernel
theorem dX15_goes_75 : decode cX15_goes 75 = .ok (.bipush 42, 2) := by decide +kernel
theorem dX15_goes_77 : decode cX15_goes 77 = .ok (.iload_n 1, 1) := by decide +kernel
theorem dX15_goes_78 : decode cX15_goes 78 = .ok (.imul, 1) := by decide +kernel
theorem dX15_goes_79 : decode cX15_goes 79 = .ok (.iload_n 2, 1) := by decide +kernel
theorem dX15_goes_80 : decode cX15_goes 80 = .ok (.iadd, 1) := by decide +kernel
theorem dX15_goes_81 : decode cX15_goes 81 = .ok (.iconst (-1), 1) := by decide +kernel
theorem dX15_goes_82 : decode cX15_goes 82 = .ok (.iastore, 1) := by decide +kernel
theorem dX15_goes_83 : decode cX15_goes 83 = .ok (.aload_n 0, 1) := by decide +kernel
theorem dX15_goes_84 : decode cX15_goes 84 = .ok (.getfield 59, 3) := by decide +kernel
theorem dX15_goes_87 : decode cX15_goes 87 = .ok (.bipush 42, 2) := by decide +kernel
theorem dX15_goes_89 : decode cX15_goes 89 = .ok (.iload_n 1, 1) := by decide +kernel
theorem dX15_goes_90 : decode cX15_goes 90 = .ok (.imul, 1) := by decide +kernel
theorem dX15_goes_91 : decode cX15_goes 91 = .ok (.iload_n 2, 1) := by decide +kernel
theorem dX15_goes_92 : decode cX15_goes 92 = .ok (.iadd, 1) := by decide +kernel
theorem dX15_goes_93 : decode cX15_goes 93 = .ok (.iconst 0, 1) := by decide +kernel
theorem dX15_goes_94 : decode cX15_goes 94 = .ok (.iastore, 1) := by decide +kernel
theorem dX15_goes_95 : decode cX15_goes 95 = .ok (.aload_n 0, 1) := by decide +kernel
theorem dX15_goes_96 : decode cX15_goes 96 = .ok (.getfield 62, 3) := by decide +kernel
theorem dX15_goes_99 : decode cX15_goes 99 = .ok (.bipush 42, 2) := by decide +kernel
theorem dX15_goes_101 : decode cX15_goes 101 = .ok (.iload_n 1, 1) := by decide +kernel
theorem dX15_goes_102 : decode cX15_goes 102 = .ok (.imul, 1) := by decide +kernel
theorem dX15_goes_103 : decode cX15_goes 103 = .ok (.iload_n 2, 1) := by decide +kernel
theorem dX15_goes_104 : decode cX15_goes 104 = .ok (.iadd, 1) := by decide +kernel
theorem dX15_goes_105 : decode cX15_goes 105 = .ok (.iconst 0, 1) := by decide +kernel
theorem dX15_goes_106 : decode cX15_goes 106 = .ok (.bastore, 1) := by decide +kernel
theorem dX15_goes_107 : decode cX15_goes 107 = .ok (.iinc 2 1, 3) := by decide +kernel
theorem dX15_goes_110 : decode cX15_goes 110 = .ok (.goto (-45), 3) := by decide +kernel
theorem dX15_goes_113 : decode cX15_goes 113 = .ok (.iconst 0, 1) := by decide +kernel
theorem dX15_goes_114 : decode cX15_goes 114 = .ok (.istore_n 2, 1) := by decide +kernel
theorem dX15_goes_115 : decode cX15_goes 115 = .ok (.iload_n 2, 1) := by decide +kernel
theorem dX15_goes_116 : decode cX15_goes 116 = .ok (.aload_n 0, 1) := by decide +kernel
theorem dX15_goes_117 : decode cX15_goes 117 = .ok (.getfield 24, 3) := by decide +kernel
theorem dX15_goes_120 : decode cX15_goes 120 = .ok (.if_icmp .gt 99, 3) := by decide +kernel
theorem dX15_goes_123 : decode cX15_goes 123 = .ok (.iconst 0, 1) := by decide +kernel
theorem dX15_goes_124 : decode cX15_goes 124 = .ok (.istore_n 3, 1) := by decide +kernel
theorem dX15_goes_125 : decode cX15_goes 125 = .ok (.iload_n 3, 1) := by decide +kernel
theorem dX15_goes_126 : decode cX15_goes 126 = .ok (.aload_n 0, 1) := by decide +kernel
theorem dX15_goes_127 : decode cX15_goes 127 = .ok (.getfield 343, 3) := by decide +kernel
theorem dX15_goes_130 : decode cX15_goes 130 = .ok (.getfield 209, 3) := by decide +kernel
theorem dX15_goes_133 : decode cX15_goes 133 = .ok (.if_icmp .ge 46, 3) := by decide +kernel
theorem dX15_goes_136 : decode cX15_goes 136 = .ok (.aload_n 0, 1) := by decide +kernel
theorem dX15_goes_137 : decode cX15_goes 137 = .ok (.iload_n 1, 1) := by decide +kernel
theorem dX15_goes_138 : decode cX15_goes 138 = .ok (.iload_n 2, 1) := by decide +kernel
theorem dX15_goes_139 : decode cX15_goes 139 = .ok (.iload_n 3, 1) := by decide +kernel
theorem dX15_goes_140 : decode cX15_goes 140 = .ok (.invokevirtual 398, 3) := by decide +kernel
theorem dX15_goes_143 : decode cX15_goes 143 = .ok (.ifCond .ne 30, 3) := by decide +kernel
theorem dX15_goes_146 : decode cX15_goes 146 = .ok (.aload_n 0, 1) := by decide +kernel
theorem dX15_goes_147 : decode cX15_goes 147 = .ok (.getfield 50, 3) := by decide +kernel
theorem dX15_goes_150 : decode cX15_goes 150 = .ok (.bipush 28, 2) := by decide +kernel
theorem dX15_goes_152 : decode cX15_goes 152 = .ok (.iload_n 1, 1) := by decide +kernel
theorem dX15_goes_153 : decode cX15_goes 153 = .ok (.imul, 1) := by decide +kernel
theorem dX15_goes_154 : decode cX15_goes 154 = .ok (.iconst 4, 1) := by decide +kernel
theorem dX15_goes_155 : decode cX15_goes 155 = .ok (.iload_n 2, 1) := by decide +kernel
theorem dX15_goes_156 : decode cX15_goes 156 = .ok (.imul, 1) := by decide +kernel
theorem dX15_goes_157 : decode cX15_goes 157 = .ok (.iadd, 1) := by decide +kernel
theorem dX15_goes_158 : decode cX15_goes 158 = .ok (.iload_n 3, 1) := by decide +kernel
theorem dX15_goes_159 : decode cX15_goes 159 = .ok (.iadd, 1) := by decide +kernel
theorem dX15_goes_160 : decode cX15_goes 160 = .ok (.aload_n 0, 1) := by decide +kernel
theorem dX15_goes_161 : decode cX15_goes 161 = .ok (.aload_n 0, 1) := by decide +kernel
theorem dX15_goes_162 : decode cX15_goes 162 = .ok (.iload_n 1, 1) := by decide +kernel
theorem dX15_goes_163 : decode cX15_goes 163 = .ok (.iload_n 2, 1) := by decide +kernel
theorem dX15_goes_164 : decode cX15_goes 164 = .ok (.iload_n 3, 1) := by decide +kernel
theorem dX15_goes_165 : decode cX15_goes 165 = .ok (.invokevirtual 420, 3) := by decide +kernel
theorem dX15_goes_168 : decode cX15_goes 168 = .ok (.iload_n 3, 1) := by decide +kernel
theorem dX15_goes_169 : decode cX15_goes 169 = .ok (.invokevirtual 423, 3) := by decide +kernel
theorem dX15_goes_172 : decode cX15_goes 172 = .ok (.iastore, 1) := by decide +kernel
theorem dX15_goes_173 : decode cX15_goes 173 = .ok (.iinc 3 1, 3) := by decide +kernel
theorem dX15_goes_176 : decode cX15_goes 176 = .ok (.goto (-51), 3) := by decide +kernel
theorem dX15_goes_179 : decode cX15_goes 179 = .ok (.iconst 0, 1) := by decide +kernel
theorem dX15_goes_180 : decode cX15_goes 180 = .ok (.istore_n 3, 1) := by decide +kernel
theorem dX15_goes_181 : decode cX15_goes 181 = .ok (.iload_n 3, 1) := by decide +kernel
theorem dX15_goes_182 : decode cX15_goes 182 = .ok (.aload_n 0, 1) := by decide +kernel
theorem dX15_goes_183 : decode cX15_goes 183 = .ok (.getfield 343, 3) := by decide +kernel
theorem dX15_goes_186 : decode cX15_goes 186 = .ok (.getfield 292, 3) := by decide +kernel
theorem dX15_goes_189 : decode cX15_goes 189 = .ok (.if_icmp .ge 24, 3) := by decide +kernel
theorem dX15_goes_192 : decode cX15_goes 192 = .ok (.iload_n 2, 1) := by decide +kernel
theorem dX15_goes_193 : decode cX15_goes 193 = .ok (.aload_n 0, 1) := by decide +kernel
theorem dX15_goes_194 : decode cX15_goes 194 = .ok (.getfield 24, 3) := by decide +kernel
theorem dX15_goes_197 : decode cX15_goes 197 = .ok (.if_icmp .ge 16, 3) := by decide +kernel
theorem dX15_goes_200 : decode cX15_goes 200 = .ok (.aload_n 0, 1) := by decide +kernel
theorem dX15_goes_201 : decode cX15_goes 201 = .ok (.iload_n 1, 1) := by decide +kernel
theorem dX15_goes_202 : decode cX15_goes 202 = .ok (.iload_n 3, 1) := by decide +kernel
theorem dX15_goes_203 : decode cX15_goes 203 = .ok (.iload_n 2, 1) := by decide +kernel
theorem dX15_goes_204 : decode cX15_goes 204 = .ok (.invokevirtual 427, 3) := by decide +kernel
theorem dX15_goes_207 : decode cX15_goes 207 = .ok (.iinc 3 1, 3) := by decide +kernel
theorem dX15_goes_210 : decode cX15_goes 210 = .ok (.goto (-29), 3) := by decide +kernel
theorem dX15_goes_213 : decode cX15_goes 213 = .ok (.iinc 2 1, 3) := by decide +kernel
theorem dX15_goes_216 : decode cX15_goes 216 = .ok (.goto (-101), 3) := by decide +kernel
theorem dX15_goes_219 : decode cX15_goes 219 = .ok (.return_, 1) := by decide +kernel
theorem dX15_sends_0 : decode cX15_sends 0 = .ok (.aload_n 0, 1) := by decide +kernel
theorem dX15_sends_1 : decode cX15_sends 1 = .ok (.getfield 343, 3) := by decide +kernel
theorem dX15_sends_4 : decode cX15_sends 4 = .ok (.getfield 303, 3) := by decide +kernel
theorem dX15_sends_7 : decode cX15_sends 7 = .ok (.iload_n 2, 1) := by decide +kernel
theorem dX15_sends_8 : decode cX15_sends 8 = .ok (.iaload, 1) := by decide +kernel
theorem dX15_sends_9 : decode cX15_sends 9 = .ok (.istore 4, 2) := by decide +kernel
theorem dX15_sends_11 : decode cX15_sends 11 = .ok (.bipush 42, 2) := by decide +kernel
theorem dX15_sends_13 : decode cX15_sends 13 = .ok (.iload_n 1, 1) := by decide +kernel
theorem dX15_sends_14 : decode cX15_sends 14 = .ok (.imul, 1) := by decide +kernel
theorem dX15_sends_15 : decode cX15_sends 15 = .ok (.bipush 7, 2) := by decide +kernel
theorem dX15_sends_17 : decode cX15_sends 17 = .ok (.iload_n 2, 1) := by decide +kernel
theorem dX15_sends_18 : decode cX15_sends 18 = .ok (.imul, 1) := by decide +kernel
theorem dX15_sends_19 : decode cX15_sends 19 = .ok (.iadd, 1) := by decide +kernel
theorem dX15_sends_20 : decode cX15_sends 20 = .ok (.iload_n 3, 1) := by decide +kernel
theorem dX15_sends_21 : decode cX15_sends 21 = .ok (.iadd, 1) := by decide +kernel
theorem dX15_sends_22 : decode cX15_sends 22 = .ok (.istore 5, 2) := by decide +kernel
theorem dX15_sends_24 : decode cX15_sends 24 = .ok (.aload_n 0, 1) := by decide +kernel
theorem dX15_sends_25 : decode cX15_sends 25 = .ok (.iload_n 1, 1) := by decide +kernel
theorem dX15_sends_26 : decode cX15_sends 26 = .ok (.bipush 10, 2) := by decide +kernel
theorem dX15_sends_28 : decode cX15_sends 28 = .ok (.iload_n 2, 1) := by decide +kernel
theorem dX15_sends_29 : decode cX15_sends 29 = .ok (.iadd, 1) := by decide +kernel
theorem dX15_sends_30 : decode cX15_sends 30 = .ok (.iload_n 3, 1) := by decide +kernel
theorem dX15_sends_31 : decode cX15_sends 31 = .ok (.iload 4, 2) := by decide +kernel
theorem dX15_sends_33 : decode cX15_sends 33 = .ok (.invokevirtual 413, 3) := by decide +kernel
theorem dX15_sends_36 : decode cX15_sends 36 = .ok (.istore 6, 2) := by decide +kernel
theorem dX15_sends_38 : decode cX15_sends 38 = .ok (.iload 6, 2) := by decide +kernel
theorem dX15_sends_40 : decode cX15_sends 40 = .ok (.ifCond .ne 50, 3) := by decide +kernel
theorem dX15_sends_43 : decode cX15_sends 43 = .ok (.aload_n 0, 1) := by decide +kernel
theorem dX15_sends_44 : decode cX15_sends 44 = .ok (.getfield 365, 3) := by decide +kernel
theorem dX15_sends_47 : decode cX15_sends 47 = .ok (.iload_n 2, 1) := by decide +kernel
theorem dX15_sends_48 : decode cX15_sends 48 = .ok (.invokestatic 390, 3) := by decide +kernel
theorem dX15_sends_51 : decode cX15_sends 51 = .ok (.ifCond .eq 39, 3) := by decide +kernel
theorem dX15_sends_54 : decode cX15_sends 54 = .ok (.iload_n 3, 1) := by decide +kernel
theorem dX15_sends_55 : decode cX15_sends 55 = .ok (.ifCond .le 35, 3) := by decide +kernel
theorem dX15_sends_58 : decode cX15_sends 58 = .ok (.aload_n 0, 1) := by decide +kernel
theorem dX15_sends_59 : decode cX15_sends 59 = .ok (.iload_n 1, 1) := by decide +kernel
theorem dX15_sends_60 : decode cX15_sends 60 = .ok (.iload_n 3, 1) := by decide +kernel
theorem dX15_sends_61 : decode cX15_sends 61 = .ok (.iload 4, 2) := by decide +kernel
theorem dX15_sends_63 : decode cX15_sends 63 = .ok (.invokevirtual 398, 3) := by decide +kernel
theorem dX15_sends_66 : decode cX15_sends 66 = .ok (.ifCond .ne 24, 3) := by decide +kernel
theorem dX15_sends_69 : decode cX15_sends 69 = .ok (.aload_n 0, 1) := by decide +kernel
theorem dX15_sends_70 : decode cX15_sends 70 = .ok (.iload_n 1, 1) := by decide +kernel
theorem dX15_sends_71 : decode cX15_sends 71 = .ok (.bipush 10, 2) := by decide +kernel
theorem dX15_sends_73 : decode cX15_sends 73 = .ok (.iload_n 2, 1) := by decide +kernel
theorem dX15_sends_74 : decode cX15_sends 74 = .ok (.iadd, 1) := by decide +kernel
theorem dX15_sends_75 : decode cX15_sends 75 = .ok (.iload_n 3, 1) := by decide +kernel
theorem dX15_sends_76 : decode cX15_sends 76 = .ok (.iconst 1, 1) := by decide +kernel
theorem dX15_sends_77 : decode cX15_sends 77 = .ok (.isub, 1) := by decide +kernel
theorem dX15_sends_78 : decode cX15_sends 78 = .ok (.iload 4, 2) := by decide +kernel
theorem dX15_sends_80 : decode cX15_sends 80 = .ok (.invokevirtual 413, 3) := by decide +kernel
theorem dX15_sends_83 : decode cX15_sends 83 = .ok (.ifCond .eq 7, 3) := by decide +kernel
theorem dX15_sends_86 : decode cX15_sends 86 = .ok (.iconst 1, 1) := by decide +kernel
theorem dX15_sends_87 : decode cX15_sends 87 = .ok (.goto 4, 3) := by decide +kernel
theorem dX15_sends_90 : decode cX15_sends 90 = .ok (.iconst 0, 1) := by decide +kernel
theorem dX15_sends_91 : decode cX15_sends 91 = .ok (.istore 7, 2) := by decide +kernel
theorem dX15_sends_93 : decode cX15_sends 93 = .ok (.iload 6, 2) := by decide +kernel
theorem dX15_sends_95 : decode cX15_sends 95 = .ok (.ifCond .ne 9, 3) := by decide +kernel
theorem dX15_sends_98 : decode cX15_sends 98 = .ok (.iload 7, 2) := by decide +kernel
theorem dX15_sends_100 : decode cX15_sends 100 = .ok (.ifCond .ne 4, 3) := by decide +kernel
theorem dX15_sends_103 : decode cX15_sends 103 = .ok (.return_, 1) := by decide +kernel
theorem dX15_sends_104 : decode cX15_sends 104 = .ok (.aload_n 0, 1) := by decide +kernel
theorem dX15_sends_105 : decode cX15_sends 105 = .ok (.getfield 62, 3) := by decide +kernel
theorem dX15_sends_108 : decode cX15_sends 108 = .ok (.iload 5, 2) := by decide +kernel
theorem dX15_sends_110 : decode cX15_sends 110 = .ok (.iload 7, 2) := by decide +kernel
theorem dX15_sends_112 : decode cX15_sends 112 = .ok (.bastore, 1) := by decide +kernel
theorem dX15_sends_113 : decode cX15_sends 113 = .ok (.bipush 7, 2) := by decide +kernel
theorem dX15_sends_115 : decode cX15_sends 115 = .ok (.iload_n 2, 1) := by decide +kernel
theorem dX15_sends_116 : decode cX15_sends 116 = .ok (.imul, 1) := by decide +kernel
theorem dX15_sends_117 : decode cX15_sends 117 = .ok (.iload_n 3, 1) := by decide +kernel
theorem dX15_sends_118 : decode cX15_sends 118 = .ok (.iadd, 1) := by decide +kernel
theorem dX15_sends_119 : decode cX15_sends 119 = .ok (.istore 8, 2) := by decide +kernel
theorem dX15_sends_121 : decode cX15_sends 121 = .ok (.iload_n 3, 1) := by decide +kernel
theorem dX15_sends_122 : decode cX15_sends 122 = .ok (.aload_n 0, 1) := by decide +kernel
theorem dX15_sends_123 : decode cX15_sends 123 = .ok (.getfield 43, 3) := by decide +kernel
theorem dX15_sends_126 : decode cX15_sends 126 = .ok (.getfield 430, 3) := by decide +kernel
theorem dX15_sends_129 : decode cX15_sends 129 = .ok (.iload 8, 2) := by decide +kernel
theorem dX15_sends_131 : decode cX15_sends 131 = .ok (.baload, 1) := by decide +kernel
theorem dX15_sends_132 : decode cX15_sends 132 = .ok (.ifCond .eq 7, 3) := by decide +kernel
theorem dX15_sends_135 : decode cX15_sends 135 = .ok (.iconst 3, 1) := by decide +kernel
theorem dX15_sends_136 : decode cX15_sends 136 = .ok (.goto 4, 3) := by decide +kernel
theorem dX15_sends_139 : decode cX15_sends 139 = .ok (.iconst 1, 1) := by decide +kernel
theorem dX15_sends_140 : decode cX15_sends 140 = .ok (.iadd, 1) := by decide +kernel
theorem dX15_sends_141 : decode cX15_sends 141 = .ok (.istore 9, 2) := by decide +kernel
theorem dX15_sends_143 : decode cX15_sends 143 = .ok (.aload_n 0, 1) := by decide +kernel
theorem dX15_sends_144 : decode cX15_sends 144 = .ok (.getfield 43, 3) := by decide +kernel
theorem dX15_sends_147 : decode cX15_sends 147 = .ok (.getfield 433, 3) := by decide +kernel
theorem dX15_sends_150 : decode cX15_sends 150 = .ok (.iload 8, 2) := by decide +kernel
theorem dX15_sends_152 : decode cX15_sends 152 = .ok (.baload, 1) := by decide +kernel
theorem dX15_sends_153 : decode cX15_sends 153 = .ok (.ifCond .eq 14, 3) := by decide +kernel
theorem dX15_sends_156 : decode cX15_sends 156 = .ok (.aload_n 0, 1) := by decide +kernel
theorem dX15_sends_157 : decode cX15_sends 157 = .ok (.getfield 59, 3) := by decide +kernel
theorem dX15_sends_160 : decode cX15_sends 160 = .ok (.iload 5, 2) := by decide +kernel
theorem dX15_sends_162 : decode cX15_sends 162 = .ok (.iconst 2, 1) := by decide +kernel
theorem dX15_sends_163 : decode cX15_sends 163 = .ok (.iastore, 1) := by decide +kernel
theorem dX15_sends_164 : decode cX15_sends 164 = .ok (.goto 76, 3) := by decide +kernel
theorem dX15_sends_167 : decode cX15_sends 167 = .ok (.iload 9, 2) := by decide +kernel
theorem dX15_sends_169 : decode cX15_sends 169 = .ok (.aload_n 0, 1) := by decide +kernel
theorem dX15_sends_170 : decode cX15_sends 170 = .ok (.getfield 24, 3) := by decide +kernel
theorem dX15_sends_173 : decode cX15_sends 173 = .ok (.if_icmp .gt 22, 3) := by decide +kernel
theorem dX15_sends_176 : decode cX15_sends 176 = .ok (.aload_n 0, 1) := by decide +kernel
theorem dX15_sends_177 : decode cX15_sends 177 = .ok (.iload_n 1, 1) := by decide +kernel
theorem dX15_sends_178 : decode cX15_sends 178 = .ok (.iload 9, 2) := by decide +kernel
theorem dX15_sends_180 : decode cX15_sends 180 = .ok (.aload_n 0, 1) := by decide +kernel
theorem dX15_sends_181 : decode cX15_sends 181 = .ok (.getfield 343, 3) := by decide +kernel
theorem dX15_sends_184 : decode cX15_sends 184 = .ok (.getfield 300, 3) := by decide +kernel
theorem dX15_sends_187 : decode cX15_sends 187 = .ok (.iload_n 2, 1) := by decide +kernel
theorem dX15_sends_188 : decode cX15_sends 188 = .ok (.iaload, 1) := by decide +kernel
theorem dX15_sends_189 : decode cX15_sends 189 = .ok (.invokevirtual 398, 3) := by decide +kernel
theorem dX15_sends_192 : decode cX15_sends 192 = .ok (.ifCond .eq 14, 3) := by decide +kernel
theorem dX15_sends_195 : decode cX15_sends 195 = .ok (.aload_n 0, 1) := by decide +kernel
theorem dX15_sends_196 : decode cX15_sends 196 = .ok (.getfield 59, 3) := by decide +kernel
theorem dX15_sends_199 : decode cX15_sends 199 = .ok (.iload 5, 2) := by decide +kernel
theorem dX15_sends_201 : decode cX15_sends 201 = .ok (.iconst 4, 1) := by decide +kernel
theorem dX15_sends_202 : decode cX15_sends 202 = .ok (.iastore, 1) := by decide +kernel
theorem dX15_sends_203 : decode cX15_sends 203 = .ok (.goto 37, 3) := by decide +kernel
theorem dX15_sends_206 : decode cX15_sends 206 = .ok (.aload_n 0, 1) := by decide +kernel
theorem dX15_sends_207 : decode cX15_sends 207 = .ok (.getfield 59, 3) := by decide +kernel
theorem dX15_sends_210 : decode cX15_sends 210 = .ok (.iload 5, 2) := by decide +kernel
theorem dX15_sends_212 : decode cX15_sends 212 = .ok (.aload_n 0, 1) := by decide +kernel
theorem dX15_sends_213 : decode cX15_sends 213 = .ok (.getfield 43, 3) := by decide +kernel
theorem dX15_sends_216 : decode cX15_sends 216 = .ok (.getfield 430, 3) := by decide +kernel
theorem dX15_sends_219 : decode cX15_sends 219 = .ok (.iload 8, 2) := by decide +kernel
theorem dX15_sends_221 : decode cX15_sends 221 = .ok (.baload, 1) := by decide +kernel
theorem dX15_sends_222 : decode cX15_sends 222 = .ok (.ifCond .eq 7, 3) := by decide +kernel
theorem dX15_sends_225 : decode cX15_sends 225 = .ok (.iconst 3, 1) := by decide +kernel
theorem dX15_sends_226 : decode cX15_sends 226 = .ok (.goto 4, 3) := by decide +kernel
theorem dX15_sends_229 : decode cX15_sends 229 = .ok (.iconst 1, 1) := by decide +kernel
theorem dX15_sends_230 : decode cX15_sends 230 = .ok (.iastore, 1) := by decide +kernel
theorem dX15_sends_231 : decode cX15_sends 231 = .ok (.aload_n 0, 1) := by decide +kernel
theorem dX15_sends_232 : decode cX15_sends 232 = .ok (.getfield 56, 3) := by decide +kernel
theorem dX15_sends_235 : decode cX15_sends 235 = .ok (.iload 5, 2) := by decide +kernel
theorem dX15_sends_237 : decode cX15_sends 237 = .ok (.iload 9, 2) := by decide +kernel
theorem dX15_sends_239 : decode cX15_sends 239 = .ok (.iastore, 1) := by decide +kernel
theorem dX15_sends_240 : decode cX15_sends 240 = .ok (.return_, 1) := by decide +kernel
theorem dX15_isThere_0 : decode cX15_isThere 0 = .ok (.aload_n 0, 1) := by decide +kernel
theorem dX15_isThere_1 : decode cX15_isThere 1 = .ok (.iload_n 1, 1) := by decide +kernel
theorem dX15_isThere_2 : decode cX15_isThere 2 = .ok (.iload 4, 2) := by decide +kernel
theorem dX15_isThere_4 : decode cX15_isThere 4 = .ok (.iload_n 3, 1) := by decide +kernel
theorem dX15_isThere_5 : decode cX15_isThere 5 = .ok (.invokevirtual 394, 3) := by decide +kernel
theorem dX15_isThere_8 : decode cX15_isThere 8 = .ok (.iload_n 2, 1) := by decide +kernel
theorem dX15_isThere_9 : decode cX15_isThere 9 = .ok (.invokestatic 390, 3) := by decide +kernel
theorem dX15_isThere_12 : decode cX15_isThere 12 = .ok (.ireturn, 1) := by decide +kernel
theorem dX15_outcome_0 : decode cX15_outcome 0 = .ok (.iconst 0, 1) := by decide +kernel
theorem dX15_outcome_1 : decode cX15_outcome 1 = .ok (.istore_n 2, 1) := by decide +kernel
theorem dX15_outcome_2 : decode cX15_outcome 2 = .ok (.iload_n 2, 1) := by decide +kernel
theorem dX15_outcome_3 : decode cX15_outcome 3 = .ok (.aload_n 0, 1) := by decide +kernel
theorem dX15_outcome_4 : decode cX15_outcome 4 = .ok (.getfield 343, 3) := by decide +kernel
theorem dX15_outcome_7 : decode cX15_outcome 7 = .ok (.getfield 316, 3) := by decide +kernel
theorem dX15_outcome_10 : decode cX15_outcome 10 = .ok (.if_icmp .ge 41, 3) := by decide +kernel
theorem dX15_outcome_13 : decode cX15_outcome 13 = .ok (.aload_n 0, 1) := by decide +kernel
theorem dX15_outcome_14 : decode cX15_outcome 14 = .ok (.iload_n 1, 1) := by decide +kernel
theorem dX15_outcome_15 : decode cX15_outcome 15 = .ok (.aload_n 0, 1) := by decide +kernel
theorem dX15_outcome_16 : decode cX15_outcome 16 = .ok (.getfield 343, 3) := by decide +kernel
theorem dX15_outcome_19 : decode cX15_outcome 19 = .ok (.getfield 306, 3) := by decide +kernel
theorem dX15_outcome_22 : decode cX15_outcome 22 = .ok (.iload_n 2, 1) := by decide +kernel
theorem dX15_outcome_23 : decode cX15_outcome 23 = .ok (.iaload, 1) := by decide +kernel
theorem dX15_outcome_24 : decode cX15_outcome 24 = .ok (.aload_n 0, 1) := by decide +kernel
theorem dX15_outcome_25 : decode cX15_outcome 25 = .ok (.getfield 343, 3) := by decide +kernel
theorem dX15_outcome_28 : decode cX15_outcome 28 = .ok (.getfield 309, 3) := by decide +kernel
theorem dX15_outcome_31 : decode cX15_outcome 31 = .ok (.iload_n 2, 1) := by decide +kernel
theorem dX15_outcome_32 : decode cX15_outcome 32 = .ok (.iaload, 1) := by decide +kernel
theorem dX15_outcome_33 : decode cX15_outcome 33 = .ok (.aload_n 0, 1) := by decide +kernel
theorem dX15_outcome_34 : decode cX15_outcome 34 = .ok (.getfield 24, 3) := by decide +kernel
theorem dX15_outcome_37 : decode cX15_outcome 37 = .ok (.invokevirtual 436, 3) := by decide +kernel
theorem dX15_outcome_40 : decode cX15_outcome 40 = .ok (.ifCond .ne 5, 3) := by decide +kernel
theorem dX15_outcome_43 : decode cX15_outcome 43 = .ok (.iconst 1, 1) := by decide +kernel
theorem dX15_outcome_44 : decode cX15_outcome 44 = .ok (.ireturn, 1) := by decide +kernel
theorem dX15_outcome_45 : decode cX15_outcome 45 = .ok (.iinc 2 1, 3) := by decide +kernel
theorem dX15_outcome_48 : decode cX15_outcome 48 = .ok (.goto (-46), 3) := by decide +kernel
theorem dX15_outcome_51 : decode cX15_outcome 51 = .ok (.iconst 0, 1) := by decide +kernel
theorem dX15_outcome_52 : decode cX15_outcome 52 = .ok (.istore_n 2, 1) := by decide +kernel
theorem dX15_outcome_53 : decode cX15_outcome 53 = .ok (.iload_n 2, 1) := by decide +kernel
theorem dX15_outcome_54 : decode cX15_outcome 54 = .ok (.aload_n 0, 1) := by decide +kernel
theorem dX15_outcome_55 : decode cX15_outcome 55 = .ok (.getfield 343, 3) := by decide +kernel
theorem dX15_outcome_58 : decode cX15_outcome 58 = .ok (.getfield 327, 3) := by decide +kernel
theorem dX15_outcome_61 : decode cX15_outcome 61 = .ok (.if_icmp .ge 41, 3) := by decide +kernel
theorem dX15_outcome_64 : decode cX15_outcome 64 = .ok (.aload_n 0, 1) := by decide +kernel
theorem dX15_outcome_65 : decode cX15_outcome 65 = .ok (.iload_n 1, 1) := by decide +kernel
theorem dX15_outcome_66 : decode cX15_outcome 66 = .ok (.aload_n 0, 1) := by decide +kernel
theorem dX15_outcome_67 : decode cX15_outcome 67 = .ok (.getfield 343, 3) := by decide +kernel
theorem dX15_outcome_70 : decode cX15_outcome 70 = .ok (.getfield 321, 3) := by decide +kernel
theorem dX15_outcome_73 : decode cX15_outcome 73 = .ok (.iload_n 2, 1) := by decide +kernel
theorem dX15_outcome_74 : decode cX15_outcome 74 = .ok (.iaload, 1) := by decide +kernel
theorem dX15_outcome_75 : decode cX15_outcome 75 = .ok (.aload_n 0, 1) := by decide +kernel
theorem dX15_outcome_76 : decode cX15_outcome 76 = .ok (.getfield 343, 3) := by decide +kernel
theorem dX15_outcome_79 : decode cX15_outcome 79 = .ok (.getfield 324, 3) := by decide +kernel
theorem dX15_outcome_82 : decode cX15_outcome 82 = .ok (.iload_n 2, 1) := by decide +kernel
theorem dX15_outcome_83 : decode cX15_outcome 83 = .ok (.iaload, 1) := by decide +kernel
theorem dX15_outcome_84 : decode cX15_outcome 84 = .ok (.aload_n 0, 1) := by decide +kernel
theorem dX15_outcome_85 : decode cX15_outcome 85 = .ok (.getfield 24, 3) := by decide +kernel
theorem dX15_outcome_88 : decode cX15_outcome 88 = .ok (.invokevirtual 436, 3) := by decide +kernel
theorem dX15_outcome_91 : decode cX15_outcome 91 = .ok (.ifCond .eq 5, 3) := by decide +kernel
theorem dX15_outcome_94 : decode cX15_outcome 94 = .ok (.iconst 0, 1) := by decide +kernel
theorem dX15_outcome_95 : decode cX15_outcome 95 = .ok (.ireturn, 1) := by decide +kernel
theorem dX15_outcome_96 : decode cX15_outcome 96 = .ok (.iinc 2 1, 3) := by decide +kernel
theorem dX15_outcome_99 : decode cX15_outcome 99 = .ok (.goto (-46), 3) := by decide +kernel
theorem dX15_outcome_102 : decode cX15_outcome 102 = .ok (.iconst 2, 1) := by decide +kernel
theorem dX15_outcome_103 : decode cX15_outcome 103 = .ok (.ireturn, 1) := by decide +kernel
theorem dX15_runs_0 : decode cX15_runs 0 = .ok (.aload_n 0, 1) := by decide +kernel
theorem dX15_runs_1 : decode cX15_runs 1 = .ok (.getfield 43, 3) := by decide +kernel
theorem dX15_runs_4 : decode cX15_runs 4 = .ok (.aload_n 2, 1) := by decide +kernel
theorem dX15_runs_5 : decode cX15_runs 5 = .ok (.iload_n 3, 1) := by decide +kernel
theorem dX15_runs_6 : decode cX15_runs 6 = .ok (.iload 4, 2) := by decide +kernel
theorem dX15_runs_8 : decode cX15_runs 8 = .ok (.invokevirtual 439, 3) := by decide +kernel
theorem dX15_runs_11 : decode cX15_runs 11 = .ok (.aload_n 0, 1) := by decide +kernel
theorem dX15_runs_12 : decode cX15_runs 12 = .ok (.iload_n 1, 1) := by decide +kernel
theorem dX15_runs_13 : decode cX15_runs 13 = .ok (.invokevirtual 443, 3) := by decide +kernel
theorem dX15_runs_16 : decode cX15_runs 16 = .ok (.aload_n 0, 1) := by decide +kernel
theorem dX15_runs_17 : decode cX15_runs 17 = .ok (.iload_n 1, 1) := by decide +kernel
theorem dX15_runs_18 : decode cX15_runs 18 = .ok (.invokevirtual 447, 3) := by decide +kernel
theorem dX15_runs_21 : decode cX15_runs 21 = .ok (.ireturn, 1) := by decide +kernel
theorem dX15_run_0 : decode cX15_run 0 = .ok (.aload_n 0, 1) := by decide +kernel
theorem dX15_run_1 : decode cX15_run 1 = .ok (.iconst 0, 1) := by decide +kernel
theorem dX15_run_2 : decode cX15_run 2 = .ok (.putfield 108, 3) := by decide +kernel
theorem dX15_run_5 : decode cX15_run 5 = .ok (.aload_n 0, 1) := by decide +kernel
theorem dX15_run_6 : decode cX15_run 6 = .ok (.getfield 343, 3) := by decide +kernel
theorem dX15_run_9 : decode cX15_run 9 = .ok (.ifnonnull 11, 3) := by decide +kernel
theorem dX15_run_12 : decode cX15_run 12 = .ok (.aload_n 0, 1) := by decide +kernel
theorem dX15_run_13 : decode cX15_run 13 = .ok (.iconst 1, 1) := by decide +kernel
theorem dX15_run_14 : decode cX15_run 14 = .ok (.invokevirtual 333, 3) := by decide +kernel
theorem dX15_run_17 : decode cX15_run 17 = .ok (.goto 21, 3) := by decide +kernel
theorem dX15_run_20 : decode cX15_run 20 = .ok (.aload_n 0, 1) := by decide +kernel
theorem dX15_run_21 : decode cX15_run 21 = .ok (.aload_n 0, 1) := by decide +kernel
theorem dX15_run_22 : decode cX15_run 22 = .ok (.iconst 0, 1) := by decide +kernel
theorem dX15_run_23 : decode cX15_run 23 = .ok (.aload_n 0, 1) := by decide +kernel
theorem dX15_run_24 : decode cX15_run 24 = .ok (.getfield 31, 3) := by decide +kernel
theorem dX15_run_27 : decode cX15_run 27 = .ok (.iconst 0, 1) := by decide +kernel
theorem dX15_run_28 : decode cX15_run 28 = .ok (.aload_n 0, 1) := by decide +kernel
theorem dX15_run_29 : decode cX15_run 29 = .ok (.getfield 349, 3) := by decide +kernel
theorem dX15_run_32 : decode cX15_run 32 = .ok (.invokevirtual 450, 3) := by decide +kernel
theorem dX15_run_35 : decode cX15_run 35 = .ok (.invokevirtual 371, 3) := by decide +kernel
theorem dX15_run_38 : decode cX15_run 38 = .ok (.ireturn, 1) := by decide +kernel
theorem dX15_isRow_0 : decode cX15_isRow 0 = .ok (.aload_n 0, 1) := by decide +kernel
theorem dX15_isRow_1 : decode cX15_isRow 1 = .ok (.getfield 343, 3) := by decide +kernel
theorem dX15_isRow_4 : decode cX15_isRow 4 = .ok (.ifnull 22, 3) := by decide +kernel
theorem dX15_isRow_7 : decode cX15_isRow 7 = .ok (.iload_n 1, 1) := by decide +kernel
theorem dX15_isRow_8 : decode cX15_isRow 8 = .ok (.ifCond .lt 18, 3) := by decide +kernel
theorem dX15_isRow_11 : decode cX15_isRow 11 = .ok (.iload_n 1, 1) := by decide +kernel
theorem dX15_isRow_12 : decode cX15_isRow 12 = .ok (.aload_n 0, 1) := by decide +kernel
theorem dX15_isRow_13 : decode cX15_isRow 13 = .ok (.getfield 343, 3) := by decide +kernel
theorem dX15_isRow_16 : decode cX15_isRow 16 = .ok (.getfield 216, 3) := by decide +kernel
theorem dX15_isRow_19 : decode cX15_isRow 19 = .ok (.if_icmp .ge 7, 3) := by decide +kernel
theorem dX15_isRow_22 : decode cX15_isRow 22 = .ok (.iconst 1, 1) := by decide +kernel
theorem dX15_isRow_23 : decode cX15_isRow 23 = .ok (.goto 4, 3) := by decide +kernel
theorem dX15_isRow_26 : decode cX15_isRow 26 = .ok (.iconst 0, 1) := by decide +kernel
theorem dX15_isRow_27 : decode cX15_isRow 27 = .ok (.ireturn, 1) := by decide +kernel
theorem dX15_isMachine_0 : decode cX15_isMachine 0 = .ok (.aload_n 0, 1) := by decide +kernel
theorem dX15_isMachine_1 : decode cX15_isMachine 1 = .ok (.getfield 343, 3) := by decide +kernel
theorem dX15_isMachine_4 : decode cX15_isMachine 4 = .ok (.ifnull 22, 3) := by decide +kernel
theorem dX15_isMachine_7 : decode cX15_isMachine 7 = .ok (.iload_n 1, 1) := by decide +kernel
theorem dX15_isMachine_8 : decode cX15_isMachine 8 = .ok (.ifCond .lt 18, 3) := by decide +kernel
theorem dX15_isMachine_11 : decode cX15_isMachine 11 = .ok (.iload_n 1, 1) := by decide +kernel
theorem dX15_isMachine_12 : decode cX15_isMachine 12 = .ok (.aload_n 0, 1) := by decide +kernel
theorem dX15_isMachine_13 : decode cX15_isMachine 13 = .ok (.getfield 343, 3) := by decide +kernel
theorem dX15_isMachine_16 : decode cX15_isMachine 16 = .ok (.getfield 209, 3) := by decide +kernel
theorem dX15_isMachine_19 : decode cX15_isMachine 19 = .ok (.if_icmp .ge 7, 3) := by decide +kernel
theorem dX15_isMachine_22 : decode cX15_isMachine 22 = .ok (.iconst 1, 1) := by decide +kernel
theorem dX15_isMachine_23 : decode cX15_isMachine 23 = .ok (.goto 4, 3) := by decide +kernel
theorem dX15_isMachine_26 : decode cX15_isMachine 26 = .ok (.iconst 0, 1) := by decide +kernel
theorem dX15_isMachine_27 : decode cX15_isMachine 27 = .ok (.ireturn, 1) := by decide +kernel
theorem dX15_isSend_0 : decode cX15_isSend 0 = .ok (.aload_n 0, 1) := by decide +kernel
theorem dX15_isSend_1 : decode cX15_isSend 1 = .ok (.getfield 343, 3) := by decide +kernel
theorem dX15_isSend_4 : decode cX15_isSend 4 = .ok (.ifnull 22, 3) := by decide +kernel
theorem dX15_isSend_7 : decode cX15_isSend 7 = .ok (.iload_n 1, 1) := by decide +kernel
theorem dX15_isSend_8 : decode cX15_isSend 8 = .ok (.ifCond .lt 18, 3) := by decide +kernel
theorem dX15_isSend_11 : decode cX15_isSend 11 = .ok (.iload_n 1, 1) := by decide +kernel
theorem dX15_isSend_12 : decode cX15_isSend 12 = .ok (.aload_n 0, 1) := by decide +kernel
theorem dX15_isSend_13 : decode cX15_isSend 13 = .ok (.getfield 343, 3) := by decide +kernel
theorem dX15_isSend_16 : decode cX15_isSend 16 = .ok (.getfield 292, 3) := by decide +kernel
theorem dX15_isSend_19 : decode cX15_isSend 19 = .ok (.if_icmp .ge 7, 3) := by decide +kernel
theorem dX15_isSend_22 : decode cX15_isSend 22 = .ok (.iconst 1, 1) := by decide +kernel
theorem dX15_isSend_23 : decode cX15_isSend 23 = .ok (.goto 4, 3) := by decide +kernel
theorem dX15_isSend_26 : decode cX15_isSend 26 = .ok (.iconst 0, 1) := by decide +kernel
theorem dX15_isSend_27 : decode cX15_isSend 27 = .ok (.ireturn, 1) := by decide +kernel
theorem dX15_there_0 : decode cX15_there 0 = .ok (.aload_n 0, 1) := by decide +kernel
theorem dX15_there_1 : decode cX15_there 1 = .ok (.iconst 0, 1) := by decide +kernel
theorem dX15_there_2 : decode cX15_there 2 = .ok (.putfield 108, 3) := by decide +kernel
theorem dX15_there_5 : decode cX15_there 5 = .ok (.aload_n 0, 1) := by decide +kernel
theorem dX15_there_6 : decode cX15_there 6 = .ok (.iload_n 1, 1) := by decide +kernel
theorem dX15_there_7 : decode cX15_there 7 = .ok (.invokevirtual 454, 3) := by decide +kernel
theorem dX15_there_10 : decode cX15_there 10 = .ok (.ifCond .eq 11, 3) := by decide +kernel
theorem dX15_there_13 : decode cX15_there 13 = .ok (.aload_n 0, 1) := by decide +kernel
theorem dX15_there_14 : decode cX15_there 14 = .ok (.iload_n 2, 1) := by decide +kernel
theorem dX15_there_15 : decode cX15_there 15 = .ok (.invokevirtual 456, 3) := by decide +kernel
theorem dX15_there_18 : decode cX15_there 18 = .ok (.ifCond .ne 9, 3) := by decide +kernel
theorem dX15_there_21 : decode cX15_there 21 = .ok (.aload_n 0, 1) := by decide +kernel
theorem dX15_there_22 : decode cX15_there 22 = .ok (.iconst 1, 1) := by decide +kernel
theorem dX15_there_23 : decode cX15_there 23 = .ok (.invokevirtual 333, 3) := by decide +kernel
theorem dX15_there_26 : decode cX15_there 26 = .ok (.ireturn, 1) := by decide +kernel
theorem dX15_there_27 : decode cX15_there 27 = .ok (.iload_n 3, 1) := by decide +kernel
theorem dX15_there_28 : decode cX15_there 28 = .ok (.iconst 0, 1) := by decide +kernel
theorem dX15_there_29 : decode cX15_there 29 = .ok (.aload_n 0, 1) := by decide +kernel
theorem dX15_there_30 : decode cX15_there 30 = .ok (.getfield 24, 3) := by decide +kernel
theorem dX15_there_33 : decode cX15_there 33 = .ok (.invokestatic 377, 3) := by decide +kernel
theorem dX15_there_36 : decode cX15_there 36 = .ok (.ifCond .ne 9, 3) := by decide +kernel
theorem dX15_there_39 : decode cX15_there 39 = .ok (.aload_n 0, 1) := by decide +kernel
theorem dX15_there_40 : decode cX15_there 40 = .ok (.iconst 2, 1) := by decide +kernel
theorem dX15_there_41 : decode cX15_there 41 = .ok (.invokevirtual 333, 3) := by decide +kernel
theorem dX15_there_44 : decode cX15_there 44 = .ok (.ireturn, 1) := by decide +kernel
theorem dX15_there_45 : decode cX15_there 45 = .ok (.aload_n 0, 1) := by decide +kernel
theorem dX15_there_46 : decode cX15_there 46 = .ok (.iconst 0, 1) := by decide +kernel
theorem dX15_there_47 : decode cX15_there 47 = .ok (.aload_n 0, 1) := by decide +kernel
theorem dX15_there_48 : decode cX15_there 48 = .ok (.getfield 31, 3) := by decide +kernel
theorem dX15_there_51 : decode cX15_there 51 = .ok (.iconst 0, 1) := by decide +kernel
theorem dX15_there_52 : decode cX15_there 52 = .ok (.aload_n 0, 1) := by decide +kernel
theorem dX15_there_53 : decode cX15_there 53 = .ok (.getfield 349, 3) := by decide +kernel
theorem dX15_there_56 : decode cX15_there 56 = .ok (.invokevirtual 450, 3) := by decide +kernel
theorem dX15_there_59 : decode cX15_there 59 = .ok (.istore 4, 2) := by decide +kernel
theorem dX15_there_61 : decode cX15_there 61 = .ok (.aload_n 0, 1) := by decide +kernel
theorem dX15_there_62 : decode cX15_there 62 = .ok (.aload_n 0, 1) := by decide +kernel
theorem dX15_there_63 : decode cX15_there 63 = .ok (.iconst 0, 1) := by decide +kernel
theorem dX15_there_64 : decode cX15_there 64 = .ok (.iload_n 1, 1) := by decide +kernel
theorem dX15_there_65 : decode cX15_there 65 = .ok (.iload_n 2, 1) := by decide +kernel
theorem dX15_there_66 : decode cX15_there 66 = .ok (.iload_n 3, 1) := by decide +kernel
theorem dX15_there_67 : decode cX15_there 67 = .ok (.invokevirtual 436, 3) := by decide +kernel
theorem dX15_there_70 : decode cX15_there 70 = .ok (.ifCond .eq 7, 3) := by decide +kernel
theorem dX15_there_73 : decode cX15_there 73 = .ok (.iconst 1, 1) := by decide +kernel
theorem dX15_there_74 : decode cX15_there 74 = .ok (.goto 4, 3) := by decide +kernel
theorem dX15_there_77 : decode cX15_there 77 = .ok (.iconst 0, 1) := by decide +kernel
theorem dX15_there_78 : decode cX15_there 78 = .ok (.invokevirtual 371, 3) := by decide +kernel
theorem dX15_there_81 : decode cX15_there 81 = .ok (.ireturn, 1) := by decide +kernel
theorem dX15_reasonsOf_0 : decode cX15_reasonsOf 0 = .ok (.aload_n 0, 1) := by decide +kernel
theorem dX15_reasonsOf_1 : decode cX15_reasonsOf 1 = .ok (.iconst 0, 1) := by decide +kernel
theorem dX15_reasonsOf_2 : decode cX15_reasonsOf 2 = .ok (.putfield 459, 3) := by decide +kernel
theorem dX15_reasonsOf_5 : decode cX15_reasonsOf 5 = .ok (.aload_n 0, 1) := by decide +kernel
theorem dX15_reasonsOf_6 : decode cX15_reasonsOf 6 = .ok (.iload_n 1, 1) := by decide +kernel
theorem dX15_reasonsOf_7 : decode cX15_reasonsOf 7 = .ok (.iload_n 2, 1) := by decide +kernel
theorem dX15_reasonsOf_8 : decode cX15_reasonsOf 8 = .ok (.iload_n 3, 1) := by decide +kernel
theorem dX15_reasonsOf_9 : decode cX15_reasonsOf 9 = .ok (.iload 4, 2) := by decide +kernel
theorem dX15_reasonsOf_11 : decode cX15_reasonsOf 11 = .ok (.invokevirtual 436, 3) := by decide +kernel
theorem dX15_reasonsOf_14 : decode cX15_reasonsOf 14 = .ok (.ifCond .ne 4, 3) := by decide +kernel
theorem dX15_reasonsOf_17 : decode cX15_reasonsOf 17 = .ok (.return_, 1) := by decide +kernel
theorem dX15_reasonsOf_18 : decode cX15_reasonsOf 18 = .ok (.iload 4, 2) := by decide +kernel
theorem dX15_reasonsOf_20 : decode cX15_reasonsOf 20 = .ok (.ifCond .ne 17, 3) := by decide +kernel
theorem dX15_reasonsOf_23 : decode cX15_reasonsOf 23 = .ok (.aload_n 0, 1) := by decide +kernel
theorem dX15_reasonsOf_24 : decode cX15_reasonsOf 24 = .ok (.iload_n 2, 1) := by decide +kernel
theorem dX15_reasonsOf_25 : decode cX15_reasonsOf 25 = .ok (.iload_n 3, 1) := by decide +kernel
theorem dX15_reasonsOf_26 : decode cX15_reasonsOf 26 = .ok (.invokevirtual 404, 3) := by decide +kernel
theorem dX15_reasonsOf_29 : decode cX15_reasonsOf 29 = .ok (.ifCond .eq 8, 3) := by decide +kernel
theorem dX15_reasonsOf_32 : decode cX15_reasonsOf 32 = .ok (.aload_n 0, 1) := by decide +kernel
theorem dX15_reasonsOf_33 : decode cX15_reasonsOf 33 = .ok (.iconst 0, 1) := by decide +kernel
theorem dX15_reasonsOf_34 : decode cX15_reasonsOf 34 = .ok (.invokevirtual 462, 3) := by decide +kernel
theorem dX15_reasonsOf_37 : decode cX15_reasonsOf 37 = .ok (.iconst 0, 1) := by decide +kernel
theorem dX15_reasonsOf_38 : decode cX15_reasonsOf 38 = .ok (.istore 5, 2) := by decide +kernel
theorem dX15_reasonsOf_40 : decode cX15_reasonsOf 40 = .ok (.iload 5, 2) := by decide +kernel
theorem dX15_reasonsOf_42 : decode cX15_reasonsOf 42 = .ok (.aload_n 0, 1) := by decide +kernel
theorem dX15_reasonsOf_43 : decode cX15_reasonsOf 43 = .ok (.getfield 343, 3) := by decide +kernel
theorem dX15_reasonsOf_46 : decode cX15_reasonsOf 46 = .ok (.getfield 292, 3) := by decide +kernel
theorem dX15_reasonsOf_49 : decode cX15_reasonsOf 49 = .ok (.if_icmp .ge 92, 3) := by decide +kernel
theorem dX15_reasonsOf_52 : decode cX15_reasonsOf 52 = .ok (.iconst 0, 1) := by decide +kernel
theorem dX15_reasonsOf_53 : decode cX15_reasonsOf 53 = .ok (.istore 6, 2) := by decide +kernel
theorem dX15_reasonsOf_55 : decode cX15_reasonsOf 55 = .ok (.iload 6, 2) := by decide +kernel
theorem dX15_reasonsOf_57 : decode cX15_reasonsOf 57 = .ok (.iload 4, 2) := by decide +kernel
theorem dX15_reasonsOf_59 : decode cX15_reasonsOf 59 = .ok (.if_icmp .ge 76, 3) := by decide +kernel
theorem dX15_reasonsOf_62 : decode cX15_reasonsOf 62 = .ok (.aload_n 0, 1) := by decide +kernel
theorem dX15_reasonsOf_63 : decode cX15_reasonsOf 63 = .ok (.getfield 343, 3) := by decide +kernel
theorem dX15_reasonsOf_66 : decode cX15_reasonsOf 66 = .ok (.getfield 300, 3) := by decide +kernel
theorem dX15_reasonsOf_69 : decode cX15_reasonsOf 69 = .ok (.iload 5, 2) := by decide +kernel
theorem dX15_reasonsOf_71 : decode cX15_reasonsOf 71 = .ok (.iaload, 1) := by decide +kernel
theorem dX15_reasonsOf_72 : decode cX15_reasonsOf 72 = .ok (.iload_n 3, 1) := by decide +kernel
theorem dX15_reasonsOf_73 : decode cX15_reasonsOf 73 = .ok (.if_icmp .ne 56, 3) := by decide +kernel
theorem dX15_reasonsOf_76 : decode cX15_reasonsOf 76 = .ok (.aload_n 0, 1) := by decide +kernel
theorem dX15_reasonsOf_77 : decode cX15_reasonsOf 77 = .ok (.getfield 343, 3) := by decide +kernel
theorem dX15_reasonsOf_80 : decode cX15_reasonsOf 80 = .ok (.getfield 295, 3) := by decide +kernel
theorem dX15_reasonsOf_83 : decode cX15_reasonsOf 83 = .ok (.iload 5, 2) := by decide +kernel
theorem dX15_reasonsOf_85 : decode cX15_reasonsOf 85 = .ok (.iaload, 1) := by decide +kernel
theorem dX15_reasonsOf_86 : decode cX15_reasonsOf 86 = .ok (.iload_n 2, 1) := by decide +kernel
theorem dX15_reasonsOf_87 : decode cX15_reasonsOf 87 = .ok (.if_icmp .ne 42, 3) := by decide +kernel
theorem dX15_reasonsOf_90 : decode cX15_reasonsOf 90 = .ok (.aload_n 0, 1) := by decide +kernel
theorem dX15_reasonsOf_91 : decode cX15_reasonsOf 91 = .ok (.getfield 56, 3) := by decide +kernel
theorem dX15_reasonsOf_94 : decode cX15_reasonsOf 94 = .ok (.bipush 42, 2) := by decide +kernel
theorem dX15_reasonsOf_96 : decode cX15_reasonsOf 96 = .ok (.iload_n 1, 1) := by decide +kernel
theorem dX15_reasonsOf_97 : decode cX15_reasonsOf 97 = .ok (.imul, 1) := by decide +kernel
theorem dX15_reasonsOf_98 : decode cX15_reasonsOf 98 = .ok (.bipush 7, 2) := by decide +kernel
theorem dX15_reasonsOf_100 : decode cX15_reasonsOf 100 = .ok (.iload 5, 2) := by decide +kernel
theorem dX15_reasonsOf_102 : decode cX15_reasonsOf 102 = .ok (.imul, 1) := by decide +kernel
theorem dX15_reasonsOf_103 : decode cX15_reasonsOf 103 = .ok (.iadd, 1) := by decide +kernel
theorem dX15_reasonsOf_104 : decode cX15_reasonsOf 104 = .ok (.iload 6, 2) := by decide +kernel
theorem dX15_reasonsOf_106 : decode cX15_reasonsOf 106 = .ok (.iadd, 1) := by decide +kernel
theorem dX15_reasonsOf_107 : decode cX15_reasonsOf 107 = .ok (.iaload, 1) := by decide +kernel
theorem dX15_reasonsOf_108 : decode cX15_reasonsOf 108 = .ok (.iload 4, 2) := by decide +kernel
theorem dX15_reasonsOf_110 : decode cX15_reasonsOf 110 = .ok (.if_icmp .ne 19, 3) := by decide +kernel
theorem dX15_reasonsOf_113 : decode cX15_reasonsOf 113 = .ok (.aload_n 0, 1) := by decide +kernel
theorem dX15_reasonsOf_114 : decode cX15_reasonsOf 114 = .ok (.sipush 1000, 3) := by decide +kernel
theorem dX15_reasonsOf_117 : decode cX15_reasonsOf 117 = .ok (.bipush 10, 2) := by decide +kernel
theorem dX15_reasonsOf_119 : decode cX15_reasonsOf 119 = .ok (.iload 5, 2) := by decide +kernel
theorem dX15_reasonsOf_121 : decode cX15_reasonsOf 121 = .ok (.imul, 1) := by decide +kernel
theorem dX15_reasonsOf_122 : decode cX15_reasonsOf 122 = .ok (.iadd, 1) := by decide +kernel
theorem dX15_reasonsOf_123 : decode cX15_reasonsOf 123 = .ok (.iload 6, 2) := by decide +kernel
theorem dX15_reasonsOf_125 : decode cX15_reasonsOf 125 = .ok (.iadd, 1) := by decide +kernel
theorem dX15_reasonsOf_126 : decode cX15_reasonsOf 126 = .ok (.invokevirtual 462, 3) := by decide +kernel
theorem dX15_reasonsOf_129 : decode cX15_reasonsOf 129 = .ok (.iinc 6 1, 3) := by decide +kernel
theorem dX15_reasonsOf_132 : decode cX15_reasonsOf 132 = .ok (.goto (-77), 3) := by decide +kernel
theorem dX15_reasonsOf_135 : decode cX15_reasonsOf 135 = .ok (.iinc 5 1, 3) := by decide +kernel
theorem dX15_reasonsOf_138 : decode cX15_reasonsOf 138 = .ok (.goto (-98), 3) := by decide +kernel
theorem dX15_reasonsOf_141 : decode cX15_reasonsOf 141 = .ok (.aload_n 0, 1) := by decide +kernel
theorem dX15_reasonsOf_142 : decode cX15_reasonsOf 142 = .ok (.iload_n 1, 1) := by decide +kernel
theorem dX15_reasonsOf_143 : decode cX15_reasonsOf 143 = .ok (.iload 4, 2) := by decide +kernel
theorem dX15_reasonsOf_145 : decode cX15_reasonsOf 145 = .ok (.iload_n 3, 1) := by decide +kernel
theorem dX15_reasonsOf_146 : decode cX15_reasonsOf 146 = .ok (.invokevirtual 407, 3) := by decide +kernel
theorem dX15_reasonsOf_149 : decode cX15_reasonsOf 149 = .ok (.istore 5, 2) := by decide +kernel
theorem dX15_reasonsOf_151 : decode cX15_reasonsOf 151 = .ok (.iload 5, 2) := by decide +kernel
theorem dX15_reasonsOf_153 : decode cX15_reasonsOf 153 = .ok (.iconst (-1), 1) := by decide +kernel
theorem dX15_reasonsOf_154 : decode cX15_reasonsOf 154 = .ok (.if_icmp .eq 36, 3) := by decide +kernel
theorem dX15_reasonsOf_157 : decode cX15_reasonsOf 157 = .ok (.aload_n 0, 1) := by decide +kernel
theorem dX15_reasonsOf_158 : decode cX15_reasonsOf 158 = .ok (.getfield 364, 3) := by decide +kernel
theorem dX15_reasonsOf_161 : decode cX15_reasonsOf 161 = .ok (.iload_n 2, 1) := by decide +kernel
theorem dX15_reasonsOf_162 : decode cX15_reasonsOf 162 = .ok (.invokestatic 390, 3) := by decide +kernel
theorem dX15_reasonsOf_165 : decode cX15_reasonsOf 165 = .ok (.ifCond .eq 25, 3) := by decide +kernel
theorem dX15_reasonsOf_168 : decode cX15_reasonsOf 168 = .ok (.aload_n 0, 1) := by decide +kernel
theorem dX15_reasonsOf_169 : decode cX15_reasonsOf 169 = .ok (.iload_n 1, 1) := by decide +kernel
theorem dX15_reasonsOf_170 : decode cX15_reasonsOf 170 = .ok (.iload_n 2, 1) := by decide +kernel
theorem dX15_reasonsOf_171 : decode cX15_reasonsOf 171 = .ok (.iload_n 3, 1) := by decide +kernel
theorem dX15_reasonsOf_172 : decode cX15_reasonsOf 172 = .ok (.iload 5, 2) := by decide +kernel
theorem dX15_reasonsOf_174 : decode cX15_reasonsOf 174 = .ok (.invokevirtual 436, 3) := by decide +kernel
theorem dX15_reasonsOf_177 : decode cX15_reasonsOf 177 = .ok (.ifCond .eq 13, 3) := by decide +kernel
theorem dX15_reasonsOf_180 : decode cX15_reasonsOf 180 = .ok (.aload_n 0, 1) := by decide +kernel
theorem dX15_reasonsOf_181 : decode cX15_reasonsOf 181 = .ok (.sipush 2000, 3) := by decide +kernel
theorem dX15_reasonsOf_184 : decode cX15_reasonsOf 184 = .ok (.iload 5, 2) := by decide +kernel
theorem dX15_reasonsOf_186 : decode cX15_reasonsOf 186 = .ok (.iadd, 1) := by decide +kernel
theorem dX15_reasonsOf_187 : decode cX15_reasonsOf 187 = .ok (.invokevirtual 462, 3) := by decide +kernel
theorem dX15_reasonsOf_190 : decode cX15_reasonsOf 190 = .ok (.iconst 0, 1) := by decide +kernel
theorem dX15_reasonsOf_191 : decode cX15_reasonsOf 191 = .ok (.istore 6, 2) := by decide +kernel
theorem dX15_reasonsOf_193 : decode cX15_reasonsOf 193 = .ok (.iload 6, 2) := by decide +kernel
theorem dX15_reasonsOf_195 : decode cX15_reasonsOf 195 = .ok (.aload_n 0, 1) := by decide +kernel
theorem dX15_reasonsOf_196 : decode cX15_reasonsOf 196 = .ok (.getfield 343, 3) := by decide +kernel
theorem dX15_reasonsOf_199 : decode cX15_reasonsOf 199 = .ok (.getfield 273, 3) := by decide +kernel
theorem dX15_reasonsOf_202 : decode cX15_reasonsOf 202 = .ok (.if_icmp .ge 76, 3) := by decide +kernel
theorem dX15_reasonsOf_205 : decode cX15_reasonsOf 205 = .ok (.aload_n 0, 1) := by decide +kernel
theorem dX15_reasonsOf_206 : decode cX15_reasonsOf 206 = .ok (.getfield 343, 3) := by decide +kernel
theorem dX15_reasonsOf_209 : decode cX15_reasonsOf 209 = .ok (.getfield 279, 3) := by decide +kernel
theorem dX15_reasonsOf_212 : decode cX15_reasonsOf 212 = .ok (.iload 6, 2) := by decide +kernel
theorem dX15_reasonsOf_214 : decode cX15_reasonsOf 214 = .ok (.baload, 1) := by decide +kernel
theorem dX15_reasonsOf_215 : decode cX15_reasonsOf 215 = .ok (.ifCond .ne 57, 3) := by decide +kernel
theorem dX15_reasonsOf_218 : decode cX15_reasonsOf 218 = .ok (.aload_n 0, 1) := by decide +kernel
theorem dX15_reasonsOf_219 : decode cX15_reasonsOf 219 = .ok (.getfield 343, 3) := by decide +kernel
theorem dX15_reasonsOf_222 : decode cX15_reasonsOf 222 = .ok (.getfield 276, 3) := by decide +kernel
theorem dX15_reasonsOf_225 : decode cX15_reasonsOf 225 = .ok (.iload 6, 2) := by decide +kernel
theorem dX15_reasonsOf_227 : decode cX15_reasonsOf 227 = .ok (.iaload, 1) := by decide +kernel
theorem dX15_reasonsOf_228 : decode cX15_reasonsOf 228 = .ok (.iload_n 2, 1) := by decide +kernel
theorem dX15_reasonsOf_229 : decode cX15_reasonsOf 229 = .ok (.if_icmp .ne 43, 3) := by decide +kernel
theorem dX15_reasonsOf_232 : decode cX15_reasonsOf 232 = .ok (.aload_n 0, 1) := by decide +kernel
theorem dX15_reasonsOf_233 : decode cX15_reasonsOf 233 = .ok (.iload 6, 2) := by decide +kernel
theorem dX15_reasonsOf_235 : decode cX15_reasonsOf 235 = .ok (.iload_n 3, 1) := by decide +kernel
theorem dX15_reasonsOf_236 : decode cX15_reasonsOf 236 = .ok (.invokevirtual 410, 3) := by decide +kernel
theorem dX15_reasonsOf_239 : decode cX15_reasonsOf 239 = .ok (.ifCond .eq 33, 3) := by decide +kernel
theorem dX15_reasonsOf_242 : decode cX15_reasonsOf 242 = .ok (.iload 4, 2) := by decide +kernel
theorem dX15_reasonsOf_244 : decode cX15_reasonsOf 244 = .ok (.ifCond .le 28, 3) := by decide +kernel
theorem dX15_reasonsOf_247 : decode cX15_reasonsOf 247 = .ok (.aload_n 0, 1) := by decide +kernel
theorem dX15_reasonsOf_248 : decode cX15_reasonsOf 248 = .ok (.iload_n 1, 1) := by decide +kernel
theorem dX15_reasonsOf_249 : decode cX15_reasonsOf 249 = .ok (.iload 6, 2) := by decide +kernel
theorem dX15_reasonsOf_251 : decode cX15_reasonsOf 251 = .ok (.iload 4, 2) := by decide +kernel
theorem dX15_reasonsOf_253 : decode cX15_reasonsOf 253 = .ok (.iconst 1, 1) := by decide +kernel
theorem dX15_reasonsOf_254 : decode cX15_reasonsOf 254 = .ok (.isub, 1) := by decide +kernel
theorem dX15_reasonsOf_255 : decode cX15_reasonsOf 255 = .ok (.iload_n 3, 1) := by decide +kernel
theorem dX15_reasonsOf_256 : decode cX15_reasonsOf 256 = .ok (.invokevirtual 413, 3) := by decide +kernel
theorem dX15_reasonsOf_259 : decode cX15_reasonsOf 259 = .ok (.ifCond .eq 13, 3) := by decide +kernel
theorem dX15_reasonsOf_262 : decode cX15_reasonsOf 262 = .ok (.aload_n 0, 1) := by decide +kernel
theorem dX15_reasonsOf_263 : decode cX15_reasonsOf 263 = .ok (.sipush 3000, 3) := by decide +kernel
theorem dX15_reasonsOf_266 : decode cX15_reasonsOf 266 = .ok (.iload 6, 2) := by decide +kernel
theorem dX15_reasonsOf_268 : decode cX15_reasonsOf 268 = .ok (.iadd, 1) := by decide +kernel
theorem dX15_reasonsOf_269 : decode cX15_reasonsOf 269 = .ok (.invokevirtual 462, 3) := by decide +kernel
theorem dX15_reasonsOf_272 : decode cX15_reasonsOf 272 = .ok (.iinc 6 1, 3) := by decide +kernel
theorem dX15_reasonsOf_275 : decode cX15_reasonsOf 275 = .ok (.goto (-82), 3) := by decide +kernel
theorem dX15_reasonsOf_278 : decode cX15_reasonsOf 278 = .ok (.iconst 0, 1) := by decide +kernel
theorem dX15_reasonsOf_279 : decode cX15_reasonsOf 279 = .ok (.istore 6, 2) := by decide +kernel
theorem dX15_reasonsOf_281 : decode cX15_reasonsOf 281 = .ok (.iload 6, 2) := by decide +kernel
theorem dX15_reasonsOf_283 : decode cX15_reasonsOf 283 = .ok (.aload_n 0, 1) := by decide +kernel
theorem dX15_reasonsOf_284 : decode cX15_reasonsOf 284 = .ok (.getfield 343, 3) := by decide +kernel
theorem dX15_reasonsOf_287 : decode cX15_reasonsOf 287 = .ok (.getfield 273, 3) := by decide +kernel
theorem dX15_reasonsOf_290 : decode cX15_reasonsOf 290 = .ok (.if_icmp .ge 88, 3) := by decide +kernel
theorem dX15_reasonsOf_293 : decode cX15_reasonsOf 293 = .ok (.aload_n 0, 1) := by decide +kernel
theorem dX15_reasonsOf_294 : decode cX15_reasonsOf 294 = .ok (.getfield 343, 3) := by decide +kernel
theorem dX15_reasonsOf_297 : decode cX15_reasonsOf 297 = .ok (.getfield 279, 3) := by decide +kernel
theorem dX15_reasonsOf_300 : decode cX15_reasonsOf 300 = .ok (.iload 6, 2) := by decide +kernel
theorem dX15_reasonsOf_302 : decode cX15_reasonsOf 302 = .ok (.baload, 1) := by decide +kernel
theorem dX15_reasonsOf_303 : decode cX15_reasonsOf 303 = .ok (.ifCond .eq 69, 3) := by decide +kernel
theorem dX15_reasonsOf_306 : decode cX15_reasonsOf 306 = .ok (.aload_n 0, 1) := by decide +kernel
theorem dX15_reasonsOf_307 : decode cX15_reasonsOf 307 = .ok (.getfield 343, 3) := by decide +kernel
theorem dX15_reasonsOf_310 : decode cX15_reasonsOf 310 = .ok (.getfield 276, 3) := by decide +kernel
theorem dX15_reasonsOf_313 : decode cX15_reasonsOf 313 = .ok (.iload 6, 2) := by decide +kernel
theorem dX15_reasonsOf_315 : decode cX15_reasonsOf 315 = .ok (.iaload, 1) := by decide +kernel
theorem dX15_reasonsOf_316 : decode cX15_reasonsOf 316 = .ok (.iload_n 2, 1) := by decide +kernel
theorem dX15_reasonsOf_317 : decode cX15_reasonsOf 317 = .ok (.if_icmp .ne 55, 3) := by decide +kernel
theorem dX15_reasonsOf_320 : decode cX15_reasonsOf 320 = .ok (.aload_n 0, 1) := by decide +kernel
theorem dX15_reasonsOf_321 : decode cX15_reasonsOf 321 = .ok (.iload 6, 2) := by decide +kernel
theorem dX15_reasonsOf_323 : decode cX15_reasonsOf 323 = .ok (.iload_n 3, 1) := by decide +kernel
theorem dX15_reasonsOf_324 : decode cX15_reasonsOf 324 = .ok (.invokevirtual 410, 3) := by decide +kernel
theorem dX15_reasonsOf_327 : decode cX15_reasonsOf 327 = .ok (.ifCond .eq 45, 3) := by decide +kernel
theorem dX15_reasonsOf_330 : decode cX15_reasonsOf 330 = .ok (.aload_n 0, 1) := by decide +kernel
theorem dX15_reasonsOf_331 : decode cX15_reasonsOf 331 = .ok (.iload_n 1, 1) := by decide +kernel
theorem dX15_reasonsOf_332 : decode cX15_reasonsOf 332 = .ok (.iload 4, 2) := by decide +kernel
theorem dX15_reasonsOf_334 : decode cX15_reasonsOf 334 = .ok (.iload_n 3, 1) := by decide +kernel
theorem dX15_reasonsOf_335 : decode cX15_reasonsOf 335 = .ok (.invokevirtual 394, 3) := by decide +kernel
theorem dX15_reasonsOf_338 : decode cX15_reasonsOf 338 = .ok (.aload_n 0, 1) := by decide +kernel
theorem dX15_reasonsOf_339 : decode cX15_reasonsOf 339 = .ok (.getfield 343, 3) := by decide +kernel
theorem dX15_reasonsOf_342 : decode cX15_reasonsOf 342 = .ok (.getfield 270, 3) := by decide +kernel
theorem dX15_reasonsOf_345 : decode cX15_reasonsOf 345 = .ok (.iload 6, 2) := by decide +kernel
theorem dX15_reasonsOf_347 : decode cX15_reasonsOf 347 = .ok (.iaload, 1) := by decide +kernel
theorem dX15_reasonsOf_348 : decode cX15_reasonsOf 348 = .ok (.iand, 1) := by decide +kernel
theorem dX15_reasonsOf_349 : decode cX15_reasonsOf 349 = .ok (.aload_n 0, 1) := by decide +kernel
theorem dX15_reasonsOf_350 : decode cX15_reasonsOf 350 = .ok (.getfield 343, 3) := by decide +kernel
theorem dX15_reasonsOf_353 : decode cX15_reasonsOf 353 = .ok (.getfield 270, 3) := by decide +kernel
theorem dX15_reasonsOf_356 : decode cX15_reasonsOf 356 = .ok (.iload 6, 2) := by decide +kernel
theorem dX15_reasonsOf_358 : decode cX15_reasonsOf 358 = .ok (.iaload, 1) := by decide +kernel
theorem dX15_reasonsOf_359 : decode cX15_reasonsOf 359 = .ok (.if_icmp .ne 13, 3) := by decide +kernel
theorem dX15_reasonsOf_362 : decode cX15_reasonsOf 362 = .ok (.aload_n 0, 1) := by decide +kernel
theorem dX15_reasonsOf_363 : decode cX15_reasonsOf 363 = .ok (.sipush 4000, 3) := by decide +kernel
theorem dX15_reasonsOf_366 : decode cX15_reasonsOf 366 = .ok (.iload 6, 2) := by decide +kernel
theorem dX15_reasonsOf_368 : decode cX15_reasonsOf 368 = .ok (.iadd, 1) := by decide +kernel
theorem dX15_reasonsOf_369 : decode cX15_reasonsOf 369 = .ok (.invokevirtual 462, 3) := by decide +kernel
theorem dX15_reasonsOf_372 : decode cX15_reasonsOf 372 = .ok (.iinc 6 1, 3) := by decide +kernel
theorem dX15_reasonsOf_375 : decode cX15_reasonsOf 375 = .ok (.goto (-94), 3) := by decide +kernel
theorem dX15_reasonsOf_378 : decode cX15_reasonsOf 378 = .ok (.return_, 1) := by decide +kernel
theorem dX15_tells_0 : decode cX15_tells 0 = .ok (.aload_n 0, 1) := by decide +kernel
theorem dX15_tells_1 : decode cX15_tells 1 = .ok (.getfield 66, 3) := by decide +kernel
theorem dX15_tells_4 : decode cX15_tells 4 = .ok (.aload_n 0, 1) := by decide +kernel
theorem dX15_tells_5 : decode cX15_tells 5 = .ok (.getfield 459, 3) := by decide +kernel
theorem dX15_tells_8 : decode cX15_tells 8 = .ok (.iload_n 1, 1) := by decide +kernel
theorem dX15_tells_9 : decode cX15_tells 9 = .ok (.iastore, 1) := by decide +kernel
theorem dX15_tells_10 : decode cX15_tells 10 = .ok (.aload_n 0, 1) := by decide +kernel
theorem dX15_tells_11 : decode cX15_tells 11 = .ok (.dup, 1) := by decide +kernel
theorem dX15_tells_12 : decode cX15_tells 12 = .ok (.getfield 459, 3) := by decide +kernel
theorem dX15_tells_15 : decode cX15_tells 15 = .ok (.iconst 1, 1) := by decide +kernel
theorem dX15_tells_16 : decode cX15_tells 16 = .ok (.iadd, 1) := by decide +kernel
theorem dX15_tells_17 : decode cX15_tells 17 = .ok (.putfield 459, 3) := by decide +kernel
theorem dX15_tells_20 : decode cX15_tells 20 = .ok (.return_, 1) := by decide +kernel
theorem dX15_reasons_0 : decode cX15_reasons 0 = .ok (.aload_n 0, 1) := by decide +kernel
theorem dX15_reasons_1 : decode cX15_reasons 1 = .ok (.iconst 0, 1) := by decide +kernel
theorem dX15_reasons_2 : decode cX15_reasons 2 = .ok (.putfield 108, 3) := by decide +kernel
theorem dX15_reasons_5 : decode cX15_reasons 5 = .ok (.aload_n 0, 1) := by decide +kernel
theorem dX15_reasons_6 : decode cX15_reasons 6 = .ok (.iload_n 1, 1) := by decide +kernel
theorem dX15_reasons_7 : decode cX15_reasons 7 = .ok (.invokevirtual 454, 3) := by decide +kernel
theorem dX15_reasons_10 : decode cX15_reasons 10 = .ok (.ifCond .eq 11, 3) := by decide +kernel
theorem dX15_reasons_13 : decode cX15_reasons 13 = .ok (.aload_n 0, 1) := by decide +kernel
theorem dX15_reasons_14 : decode cX15_reasons 14 = .ok (.iload_n 2, 1) := by decide +kernel
theorem dX15_reasons_15 : decode cX15_reasons 15 = .ok (.invokevirtual 456, 3) := by decide +kernel
theorem dX15_reasons_18 : decode cX15_reasons 18 = .ok (.ifCond .ne 9, 3) := by decide +kernel
theorem dX15_reasons_21 : decode cX15_reasons 21 = .ok (.aload_n 0, 1) := by decide +kernel
theorem dX15_reasons_22 : decode cX15_reasons 22 = .ok (.iconst 1, 1) := by decide +kernel
theorem dX15_reasons_23 : decode cX15_reasons 23 = .ok (.invokevirtual 333, 3) := by decide +kernel
theorem dX15_reasons_26 : decode cX15_reasons 26 = .ok (.ireturn, 1) := by decide +kernel
theorem dX15_reasons_27 : decode cX15_reasons 27 = .ok (.iload_n 3, 1) := by decide +kernel
theorem dX15_reasons_28 : decode cX15_reasons 28 = .ok (.iconst 0, 1) := by decide +kernel
theorem dX15_reasons_29 : decode cX15_reasons 29 = .ok (.aload_n 0, 1) := by decide +kernel
theorem dX15_reasons_30 : decode cX15_reasons 30 = .ok (.getfield 24, 3) := by decide +kernel
theorem dX15_reasons_33 : decode cX15_reasons 33 = .ok (.invokestatic 377, 3) := by decide +kernel
theorem dX15_reasons_36 : decode cX15_reasons 36 = .ok (.ifCond .ne 9, 3) := by decide +kernel
theorem dX15_reasons_39 : decode cX15_reasons 39 = .ok (.aload_n 0, 1) := by decide +kernel
theorem dX15_reasons_40 : decode cX15_reasons 40 = .ok (.iconst 2, 1) := by decide +kernel
theorem dX15_reasons_41 : decode cX15_reasons 41 = .ok (.invokevirtual 333, 3) := by decide +kernel
theorem dX15_reasons_44 : decode cX15_reasons 44 = .ok (.ireturn, 1) := by decide +kernel
theorem dX15_reasons_45 : decode cX15_reasons 45 = .ok (.aload_n 0, 1) := by decide +kernel
theorem dX15_reasons_46 : decode cX15_reasons 46 = .ok (.iconst 0, 1) := by decide +kernel
theorem dX15_reasons_47 : decode cX15_reasons 47 = .ok (.aload_n 0, 1) := by decide +kernel
theorem dX15_reasons_48 : decode cX15_reasons 48 = .ok (.getfield 31, 3) := by decide +kernel
theorem dX15_reasons_51 : decode cX15_reasons 51 = .ok (.iconst 0, 1) := by decide +kernel
theorem dX15_reasons_52 : decode cX15_reasons 52 = .ok (.aload_n 0, 1) := by decide +kernel
theorem dX15_reasons_53 : decode cX15_reasons 53 = .ok (.getfield 349, 3) := by decide +kernel
theorem dX15_reasons_56 : decode cX15_reasons 56 = .ok (.invokevirtual 450, 3) := by decide +kernel
theorem dX15_reasons_59 : decode cX15_reasons 59 = .ok (.istore 4, 2) := by decide +kernel
theorem dX15_reasons_61 : decode cX15_reasons 61 = .ok (.aload_n 0, 1) := by decide +kernel
theorem dX15_reasons_62 : decode cX15_reasons 62 = .ok (.iconst 0, 1) := by decide +kernel
theorem dX15_reasons_63 : decode cX15_reasons 63 = .ok (.iload_n 1, 1) := by decide +kernel
theorem dX15_reasons_64 : decode cX15_reasons 64 = .ok (.iload_n 2, 1) := by decide +kernel
theorem dX15_reasons_65 : decode cX15_reasons 65 = .ok (.iload_n 3, 1) := by decide +kernel
theorem dX15_reasons_66 : decode cX15_reasons 66 = .ok (.invokevirtual 465, 3) := by decide +kernel
theorem dX15_reasons_69 : decode cX15_reasons 69 = .ok (.aload_n 0, 1) := by decide +kernel
theorem dX15_reasons_70 : decode cX15_reasons 70 = .ok (.aload_n 0, 1) := by decide +kernel
theorem dX15_reasons_71 : decode cX15_reasons 71 = .ok (.getfield 459, 3) := by decide +kernel
theorem dX15_reasons_74 : decode cX15_reasons 74 = .ok (.invokevirtual 371, 3) := by decide +kernel
theorem dX15_reasons_77 : decode cX15_reasons 77 = .ok (.ireturn, 1) := by decide +kernel
theorem dX15_reason_0 : decode cX15_reason 0 = .ok (.aload_n 0, 1) := by decide +kernel
theorem dX15_reason_1 : decode cX15_reason 1 = .ok (.iconst 1, 1) := by decide +kernel
theorem dX15_reason_2 : decode cX15_reason 2 = .ok (.putfield 108, 3) := by decide +kernel
theorem dX15_reason_5 : decode cX15_reason 5 = .ok (.aload_n 0, 1) := by decide +kernel
theorem dX15_reason_6 : decode cX15_reason 6 = .ok (.iload_n 1, 1) := by decide +kernel
theorem dX15_reason_7 : decode cX15_reason 7 = .ok (.invokevirtual 454, 3) := by decide +kernel
theorem dX15_reason_10 : decode cX15_reason 10 = .ok (.ifCond .eq 23, 3) := by decide +kernel
theorem dX15_reason_13 : decode cX15_reason 13 = .ok (.aload_n 0, 1) := by decide +kernel
theorem dX15_reason_14 : decode cX15_reason 14 = .ok (.iload_n 2, 1) := by decide +kernel
theorem dX15_reason_15 : decode cX15_reason 15 = .ok (.invokevirtual 456, 3) := by decide +kernel
theorem dX15_reason_18 : decode cX15_reason 18 = .ok (.ifCond .eq 15, 3) := by decide +kernel
theorem dX15_reason_21 : decode cX15_reason 21 = .ok (.iload_n 3, 1) := by decide +kernel
theorem dX15_reason_22 : decode cX15_reason 22 = .ok (.iconst 0, 1) := by decide +kernel
theorem dX15_reason_23 : decode cX15_reason 23 = .ok (.aload_n 0, 1) := by decide +kernel
theorem dX15_reason_24 : decode cX15_reason 24 = .ok (.getfield 24, 3) := by decide +kernel
theorem dX15_reason_27 : decode cX15_reason 27 = .ok (.invokestatic 377, 3) := by decide +kernel
theorem dX15_reason_30 : decode cX15_reason 30 = .ok (.ifCond .ne 5, 3) := by decide +kernel
theorem dX15_reason_33 : decode cX15_reason 33 = .ok (.iconst 0, 1) := by decide +kernel
theorem dX15_reason_34 : decode cX15_reason 34 = .ok (.ireturn, 1) := by decide +kernel
theorem dX15_reason_35 : decode cX15_reason 35 = .ok (.aload_n 0, 1) := by decide +kernel
theorem dX15_reason_36 : decode cX15_reason 36 = .ok (.iconst 0, 1) := by decide +kernel
theorem dX15_reason_37 : decode cX15_reason 37 = .ok (.aload_n 0, 1) := by decide +kernel
theorem dX15_reason_38 : decode cX15_reason 38 = .ok (.getfield 31, 3) := by decide +kernel
theorem dX15_reason_41 : decode cX15_reason 41 = .ok (.iconst 0, 1) := by decide +kernel
theorem dX15_reason_42 : decode cX15_reason 42 = .ok (.aload_n 0, 1) := by decide +kernel
theorem dX15_reason_43 : decode cX15_reason 43 = .ok (.getfield 349, 3) := by decide +kernel
theorem dX15_reason_46 : decode cX15_reason 46 = .ok (.invokevirtual 450, 3) := by decide +kernel
theorem dX15_reason_49 : decode cX15_reason 49 = .ok (.istore 5, 2) := by decide +kernel
theorem dX15_reason_51 : decode cX15_reason 51 = .ok (.aload_n 0, 1) := by decide +kernel
theorem dX15_reason_52 : decode cX15_reason 52 = .ok (.iconst 0, 1) := by decide +kernel
theorem dX15_reason_53 : decode cX15_reason 53 = .ok (.iload_n 1, 1) := by decide +kernel
theorem dX15_reason_54 : decode cX15_reason 54 = .ok (.iload_n 2, 1) := by decide +kernel
theorem dX15_reason_55 : decode cX15_reason 55 = .ok (.iload_n 3, 1) := by decide +kernel
theorem dX15_reason_56 : decode cX15_reason 56 = .ok (.invokevirtual 465, 3) := by decide +kernel
theorem dX15_reason_59 : decode cX15_reason 59 = .ok (.iload 4, 2) := by decide +kernel
theorem dX15_reason_61 : decode cX15_reason 61 = .ok (.ifCond .lt 12, 3) := by decide +kernel
theorem dX15_reason_64 : decode cX15_reason 64 = .ok (.iload 4, 2) := by decide +kernel
theorem dX15_reason_66 : decode cX15_reason 66 = .ok (.aload_n 0, 1) := by decide +kernel
theorem dX15_reason_67 : decode cX15_reason 67 = .ok (.getfield 459, 3) := by decide +kernel
theorem dX15_reason_70 : decode cX15_reason 70 = .ok (.if_icmp .lt 5, 3) := by decide +kernel
theorem dX15_reason_73 : decode cX15_reason 73 = .ok (.iconst 0, 1) := by decide +kernel
theorem dX15_reason_74 : decode cX15_reason 74 = .ok (.ireturn, 1) := by decide +kernel
theorem dX15_reason_75 : decode cX15_reason 75 = .ok (.aload_n 0, 1) := by decide +kernel
theorem dX15_reason_76 : decode cX15_reason 76 = .ok (.iconst 0, 1) := by decide +kernel
theorem dX15_reason_77 : decode cX15_reason 77 = .ok (.putfield 108, 3) := by decide +kernel
theorem dX15_reason_80 : decode cX15_reason 80 = .ok (.aload_n 0, 1) := by decide +kernel
theorem dX15_reason_81 : decode cX15_reason 81 = .ok (.getfield 66, 3) := by decide +kernel
theorem dX15_reason_84 : decode cX15_reason 84 = .ok (.iload 4, 2) := by decide +kernel
theorem dX15_reason_86 : decode cX15_reason 86 = .ok (.iaload, 1) := by decide +kernel
theorem dX15_reason_87 : decode cX15_reason 87 = .ok (.ireturn, 1) := by decide +kernel
theorem dX15_word_0 : decode cX15_word 0 = .ok (.aload_n 0, 1) := by decide +kernel
theorem dX15_word_1 : decode cX15_word 1 = .ok (.iconst 0, 1) := by decide +kernel
theorem dX15_word_2 : decode cX15_word 2 = .ok (.putfield 108, 3) := by decide +kernel
theorem dX15_word_5 : decode cX15_word 5 = .ok (.aload_n 0, 1) := by decide +kernel
theorem dX15_word_6 : decode cX15_word 6 = .ok (.iload_n 1, 1) := by decide +kernel
theorem dX15_word_7 : decode cX15_word 7 = .ok (.invokevirtual 469, 3) := by decide +kernel
theorem dX15_word_10 : decode cX15_word 10 = .ok (.ifCond .ne 9, 3) := by decide +kernel
theorem dX15_word_13 : decode cX15_word 13 = .ok (.aload_n 0, 1) := by decide +kernel
theorem dX15_word_14 : decode cX15_word 14 = .ok (.iconst 1, 1) := by decide +kernel
theorem dX15_word_15 : decode cX15_word 15 = .ok (.invokevirtual 333, 3) := by decide +kernel
theorem dX15_word_18 : decode cX15_word 18 = .ok (.ireturn, 1) := by decide +kernel
theorem dX15_word_19 : decode cX15_word 19 = .ok (.iload_n 2, 1) := by decide +kernel
theorem dX15_word_20 : decode cX15_word 20 = .ok (.iconst 0, 1) := by decide +kernel
theorem dX15_word_21 : decode cX15_word 21 = .ok (.aload_n 0, 1) := by decide +kernel
theorem dX15_word_22 : decode cX15_word 22 = .ok (.getfield 24, 3) := by decide +kernel
theorem dX15_word_25 : decode cX15_word 25 = .ok (.iconst 1, 1) := by decide +kernel
theorem dX15_word_26 : decode cX15_word 26 = .ok (.isub, 1) := by decide +kernel
theorem dX15_word_27 : decode cX15_word 27 = .ok (.invokestatic 377, 3) := by decide +kernel
theorem dX15_word_30 : decode cX15_word 30 = .ok (.ifCond .ne 9, 3) := by decide +kernel
theorem dX15_word_33 : decode cX15_word 33 = .ok (.aload_n 0, 1) := by decide +kernel
theorem dX15_word_34 : decode cX15_word 34 = .ok (.iconst 2, 1) := by decide +kernel
theorem dX15_word_35 : decode cX15_word 35 = .ok (.invokevirtual 333, 3) := by decide +kernel
theorem dX15_word_38 : decode cX15_word 38 = .ok (.ireturn, 1) := by decide +kernel
theorem dX15_word_39 : decode cX15_word 39 = .ok (.aload_n 0, 1) := by decide +kernel
theorem dX15_word_40 : decode cX15_word 40 = .ok (.iconst 0, 1) := by decide +kernel
theorem dX15_word_41 : decode cX15_word 41 = .ok (.aload_n 0, 1) := by decide +kernel
theorem dX15_word_42 : decode cX15_word 42 = .ok (.getfield 31, 3) := by decide +kernel
theorem dX15_word_45 : decode cX15_word 45 = .ok (.iconst 0, 1) := by decide +kernel
theorem dX15_word_46 : decode cX15_word 46 = .ok (.aload_n 0, 1) := by decide +kernel
theorem dX15_word_47 : decode cX15_word 47 = .ok (.getfield 349, 3) := by decide +kernel
theorem dX15_word_50 : decode cX15_word 50 = .ok (.invokevirtual 450, 3) := by decide +kernel
theorem dX15_word_53 : decode cX15_word 53 = .ok (.istore_n 3, 1) := by decide +kernel
theorem dX15_word_54 : decode cX15_word 54 = .ok (.aload_n 0, 1) := by decide +kernel
theorem dX15_word_55 : decode cX15_word 55 = .ok (.aload_n 0, 1) := by decide +kernel
theorem dX15_word_56 : decode cX15_word 56 = .ok (.getfield 59, 3) := by decide +kernel
theorem dX15_word_59 : decode cX15_word 59 = .ok (.iconst 0, 1) := by decide +kernel
theorem dX15_word_60 : decode cX15_word 60 = .ok (.bipush 7, 2) := by decide +kernel
theorem dX15_word_62 : decode cX15_word 62 = .ok (.iload_n 1, 1) := by decide +kernel
theorem dX15_word_63 : decode cX15_word 63 = .ok (.imul, 1) := by decide +kernel
theorem dX15_word_64 : decode cX15_word 64 = .ok (.iadd, 1) := by decide +kernel
theorem dX15_word_65 : decode cX15_word 65 = .ok (.iload_n 2, 1) := by decide +kernel
theorem dX15_word_66 : decode cX15_word 66 = .ok (.iadd, 1) := by decide +kernel
theorem dX15_word_67 : decode cX15_word 67 = .ok (.iaload, 1) := by decide +kernel
theorem dX15_word_68 : decode cX15_word 68 = .ok (.invokevirtual 371, 3) := by decide +kernel
theorem dX15_word_71 : decode cX15_word 71 = .ok (.ireturn, 1) := by decide +kernel
theorem dX15_differs_0 : decode cX15_differs 0 = .ok (.aload_n 0, 1) := by decide +kernel
theorem dX15_differs_1 : decode cX15_differs 1 = .ok (.iconst 0, 1) := by decide +kernel
theorem dX15_differs_2 : decode cX15_differs 2 = .ok (.putfield 108, 3) := by decide +kernel
theorem dX15_differs_5 : decode cX15_differs 5 = .ok (.aload_n 0, 1) := by decide +kernel
theorem dX15_differs_6 : decode cX15_differs 6 = .ok (.getfield 343, 3) := by decide +kernel
theorem dX15_differs_9 : decode cX15_differs 9 = .ok (.ifnull 12, 3) := by decide +kernel
theorem dX15_differs_12 : decode cX15_differs 12 = .ok (.iload_n 1, 1) := by decide +kernel
theorem dX15_differs_13 : decode cX15_differs 13 = .ok (.iconst 0, 1) := by decide +kernel
theorem dX15_differs_14 : decode cX15_differs 14 = .ok (.iconst 3, 1) := by decide +kernel
theorem dX15_differs_15 : decode cX15_differs 15 = .ok (.invokestatic 377, 3) := by decide +kernel
theorem dX15_differs_18 : decode cX15_differs 18 = .ok (.ifCond .ne 9, 3) := by decide +kernel
theorem dX15_differs_21 : decode cX15_differs 21 = .ok (.aload_n 0, 1) := by decide +kernel
theorem dX15_differs_22 : decode cX15_differs 22 = .ok (.iconst 1, 1) := by decide +kernel
theorem dX15_differs_23 : decode cX15_differs 23 = .ok (.invokevirtual 333, 3) := by decide +kernel
theorem dX15_differs_26 : decode cX15_differs 26 = .ok (.ireturn, 1) := by decide +kernel
theorem dX15_differs_27 : decode cX15_differs 27 = .ok (.aload_n 0, 1) := by decide +kernel
theorem dX15_differs_28 : decode cX15_differs 28 = .ok (.iconst 0, 1) := by decide +kernel
theorem dX15_differs_29 : decode cX15_differs 29 = .ok (.aload_n 0, 1) := by decide +kernel
theorem dX15_differs_30 : decode cX15_differs 30 = .ok (.getfield 31, 3) := by decide +kernel
theorem dX15_differs_33 : decode cX15_differs 33 = .ok (.iconst 0, 1) := by decide +kernel
theorem dX15_differs_34 : decode cX15_differs 34 = .ok (.aload_n 0, 1) := by decide +kernel
theorem dX15_differs_35 : decode cX15_differs 35 = .ok (.getfield 349, 3) := by decide +kernel
theorem dX15_differs_38 : decode cX15_differs 38 = .ok (.invokevirtual 450, 3) := by decide +kernel
theorem dX15_differs_41 : decode cX15_differs 41 = .ok (.istore_n 2, 1) := by decide +kernel
theorem dX15_differs_42 : decode cX15_differs 42 = .ok (.aload_n 0, 1) := by decide +kernel
theorem dX15_differs_43 : decode cX15_differs 43 = .ok (.iconst 1, 1) := by decide +kernel
theorem dX15_differs_44 : decode cX15_differs 44 = .ok (.aload_n 0, 1) := by decide +kernel
theorem dX15_differs_45 : decode cX15_differs 45 = .ok (.getfield 31, 3) := by decide +kernel
theorem dX15_differs_48 : decode cX15_differs 48 = .ok (.iconst 0, 1) := by decide +kernel
theorem dX15_differs_49 : decode cX15_differs 49 = .ok (.iconst 0, 1) := by decide +kernel
theorem dX15_differs_50 : decode cX15_differs 50 = .ok (.invokevirtual 450, 3) := by decide +kernel
theorem dX15_differs_53 : decode cX15_differs 53 = .ok (.istore_n 2, 1) := by decide +kernel
theorem dX15_differs_54 : decode cX15_differs 54 = .ok (.iconst 0, 1) := by decide +kernel
theorem dX15_differs_55 : decode cX15_differs 55 = .ok (.istore_n 3, 1) := by decide +kernel
theorem dX15_differs_56 : decode cX15_differs 56 = .ok (.iload_n 3, 1) := by decide +kernel
theorem dX15_differs_57 : decode cX15_differs 57 = .ok (.aload_n 0, 1) := by decide +kernel
theorem dX15_differs_58 : decode cX15_differs 58 = .ok (.getfield 24, 3) := by decide +kernel
theorem dX15_differs_61 : decode cX15_differs 61 = .ok (.if_icmp .gt 124, 3) := by decide +kernel
theorem dX15_differs_64 : decode cX15_differs 64 = .ok (.iconst 0, 1) := by decide +kernel
theorem dX15_differs_65 : decode cX15_differs 65 = .ok (.istore 4, 2) := by decide +kernel
theorem dX15_differs_67 : decode cX15_differs 67 = .ok (.iload 4, 2) := by decide +kernel
theorem dX15_differs_69 : decode cX15_differs 69 = .ok (.aload_n 0, 1) := by decide +kernel
theorem dX15_differs_70 : decode cX15_differs 70 = .ok (.getfield 343, 3) := by decide +kernel
theorem dX15_differs_73 : decode cX15_differs 73 = .ok (.getfield 209, 3) := by decide +kernel
theorem dX15_differs_76 : decode cX15_differs 76 = .ok (.if_icmp .ge 103, 3) := by decide +kernel
theorem dX15_differs_79 : decode cX15_differs 79 = .ok (.iconst 0, 1) := by decide +kernel
theorem dX15_differs_80 : decode cX15_differs 80 = .ok (.istore 5, 2) := by decide +kernel
theorem dX15_differs_82 : decode cX15_differs 82 = .ok (.iload 5, 2) := by decide +kernel
theorem dX15_differs_84 : decode cX15_differs 84 = .ok (.aload_n 0, 1) := by decide +kernel
theorem dX15_differs_85 : decode cX15_differs 85 = .ok (.getfield 343, 3) := by decide +kernel
theorem dX15_differs_88 : decode cX15_differs 88 = .ok (.getfield 216, 3) := by decide +kernel
theorem dX15_differs_91 : decode cX15_differs 91 = .ok (.if_icmp .ge 82, 3) := by decide +kernel
theorem dX15_differs_94 : decode cX15_differs 94 = .ok (.aload_n 0, 1) := by decide +kernel
theorem dX15_differs_95 : decode cX15_differs 95 = .ok (.iconst 0, 1) := by decide +kernel
theorem dX15_differs_96 : decode cX15_differs 96 = .ok (.iload 5, 2) := by decide +kernel
theorem dX15_differs_98 : decode cX15_differs 98 = .ok (.iload 4, 2) := by decide +kernel
theorem dX15_differs_100 : decode cX15_differs 100 = .ok (.iload_n 3, 1) := by decide +kernel
theorem dX15_differs_101 : decode cX15_differs 101 = .ok (.invokevirtual 436, 3) := by decide +kernel
theorem dX15_differs_104 : decode cX15_differs 104 = .ok (.istore 6, 2) := by decide +kernel
theorem dX15_differs_106 : decode cX15_differs 106 = .ok (.iload 6, 2) := by decide +kernel
theorem dX15_differs_108 : decode cX15_differs 108 = .ok (.aload_n 0, 1) := by decide +kernel
theorem dX15_differs_109 : decode cX15_differs 109 = .ok (.iconst 1, 1) := by decide +kernel
theorem dX15_differs_110 : decode cX15_differs 110 = .ok (.iload 5, 2) := by decide +kernel
theorem dX15_differs_112 : decode cX15_differs 112 = .ok (.iload 4, 2) := by decide +kernel
theorem dX15_differs_114 : decode cX15_differs 114 = .ok (.iload_n 3, 1) := by decide +kernel
theorem dX15_differs_115 : decode cX15_differs 115 = .ok (.invokevirtual 436, 3) := by decide +kernel
theorem dX15_differs_118 : decode cX15_differs 118 = .ok (.if_icmp .ne 6, 3) := by decide +kernel
theorem dX15_differs_121 : decode cX15_differs 121 = .ok (.goto 46, 3) := by decide +kernel
theorem dX15_differs_124 : decode cX15_differs 124 = .ok (.aload_n 0, 1) := by decide +kernel
theorem dX15_differs_125 : decode cX15_differs 125 = .ok (.iload_n 1, 1) := by decide +kernel
theorem dX15_differs_126 : decode cX15_differs 126 = .ok (.ifCond .ne 7, 3) := by decide +kernel
theorem dX15_differs_129 : decode cX15_differs 129 = .ok (.iload_n 3, 1) := by decide +kernel
theorem dX15_differs_130 : decode cX15_differs 130 = .ok (.goto 33, 3) := by decide +kernel
theorem dX15_differs_133 : decode cX15_differs 133 = .ok (.iload_n 1, 1) := by decide +kernel
