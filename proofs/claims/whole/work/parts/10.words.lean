theorem lt_1 {w : Cond} (h : w ∈ tables_1_1) : w ∈ lw_tbl := List.mem_append_right _ (show w ∈ tables_1 from List.mem_append_left _ h)
theorem lt_2 {w : Cond} (h : w ∈ tables_1_2) : w ∈ lw_tbl := List.mem_append_right _ (show w ∈ tables_1 from List.mem_append_right _ (List.mem_append_left _ h))
theorem lt_3 {w : Cond} (h : w ∈ tables_1_3) : w ∈ lw_tbl := List.mem_append_right _ (show w ∈ tables_1 from List.mem_append_right _ (List.mem_append_right _ (List.mem_append_left _ h)))
theorem lt_4 {w : Cond} (h : w ∈ tables_1_4) : w ∈ lw_tbl := List.mem_append_right _ (show w ∈ tables_1 from List.mem_append_right _ (List.mem_append_right _ (List.mem_append_right _ (List.mem_append_left _ h))))
theorem lt_5 {w : Cond} (h : w ∈ tables_1_5) : w ∈ lw_tbl := List.mem_append_right _ (show w ∈ tables_1 from List.mem_append_right _ (List.mem_append_right _ (List.mem_append_right _ (List.mem_append_right _ (List.mem_append_left _ h)))))
theorem lt_6 {w : Cond} (h : w ∈ tables_1_6) : w ∈ lw_tbl := List.mem_append_right _ (show w ∈ tables_1 from List.mem_append_right _ (List.mem_append_right _ (List.mem_append_right _ (List.mem_append_right _ (List.mem_append_right _ (List.mem_append_left _ h))))))
theorem lt_7 {w : Cond} (h : w ∈ tables_1_7) : w ∈ lw_tbl := List.mem_append_right _ (show w ∈ tables_1 from List.mem_append_right _ (List.mem_append_right _ (List.mem_append_right _ (List.mem_append_right _ (List.mem_append_right _ (List.mem_append_right _ (List.mem_append_left _ h)))))))
theorem lt_8 {w : Cond} (h : w ∈ tables_1_8) : w ∈ lw_tbl := List.mem_append_right _ (show w ∈ tables_1 from List.mem_append_right _ (List.mem_append_right _ (List.mem_append_right _ (List.mem_append_right _ (List.mem_append_right _ (List.mem_append_right _ (List.mem_append_right _ (List.mem_append_left _ h))))))))
theorem lt_9 {w : Cond} (h : w ∈ tables_1_9) : w ∈ lw_tbl := List.mem_append_right _ (show w ∈ tables_1 from List.mem_append_right _ (List.mem_append_right _ (List.mem_append_right _ (List.mem_append_right _ (List.mem_append_right _ (List.mem_append_right _ (List.mem_append_right _ (List.mem_append_right _ (h)))))))))
theorem kw_1_0 : Cond.initialized RL ∈ WG := wg_in (lt_1 (List.mem_of_getElem? (i := 0) rfl)) rfl
theorem kw_1_1 : Cond.initialized RX11 ∈ WG := wg_in (lt_1 (List.mem_of_getElem? (i := 1) rfl)) rfl
theorem kw_1_2 : Cond.initialized RX0 ∈ WG := wg_in (lt_1 (List.mem_of_getElem? (i := 2) rfl)) rfl
theorem kw_1_3 : Cond.initialized RX1 ∈ WG := wg_in (lt_1 (List.mem_of_getElem? (i := 3) rfl)) rfl
theorem kw_1_4 : Cond.initialized RX6 ∈ WG := wg_in (lt_1 (List.mem_of_getElem? (i := 4) rfl)) rfl
theorem kw_1_5 : Cond.initialized RX10 ∈ WG := wg_in (lt_1 (List.mem_of_getElem? (i := 5) rfl)) rfl
theorem kw_1_6 : Cond.initialized RX4 ∈ WG := wg_in (lt_1 (List.mem_of_getElem? (i := 6) rfl)) rfl
theorem kw_1_7 : Cond.initialized RX9 ∈ WG := wg_in (lt_1 (List.mem_of_getElem? (i := 7) rfl)) rfl
theorem kw_1_8 : Cond.initialized RX5 ∈ WG := wg_in (lt_1 (List.mem_of_getElem? (i := 8) rfl)) rfl
theorem kw_1_9 : Cond.initialized RX3 ∈ WG := wg_in (lt_1 (List.mem_of_getElem? (i := 9) rfl)) rfl
theorem kw_1_10 : Cond.initialized RX8 ∈ WG := wg_in (lt_1 (List.mem_of_getElem? (i := 10) rfl)) rfl
theorem kw_1_11 : Cond.initialized RX2 ∈ WG := wg_in (lt_1 (List.mem_of_getElem? (i := 11) rfl)) rfl
theorem kw_1_12 : Cond.initialized RX7 ∈ WG := wg_in (lt_1 (List.mem_of_getElem? (i := 12) rfl)) rfl
theorem kw_1_13 : Cond.initialized RX15 ∈ WG := wg_in (lt_1 (List.mem_of_getElem? (i := 13) rfl)) rfl
theorem kw_1_14 : Cond.initialized "java/lang/Throwable" ∈ WG := wg_in (lt_1 (List.mem_of_getElem? (i := 14) rfl)) rfl
theorem kw_1_15 : Cond.initialized "java/lang/Exception" ∈ WG := wg_in (lt_1 (List.mem_of_getElem? (i := 15) rfl)) rfl
theorem kw_1_16 : Cond.initialized "java/lang/RuntimeException" ∈ WG := wg_in (lt_1 (List.mem_of_getElem? (i := 16) rfl)) rfl
theorem kw_1_17 : Cond.initialized RX14 ∈ WG := wg_in (lt_1 (List.mem_of_getElem? (i := 17) rfl)) rfl
theorem kw_1_18 : Cond.initialized RX13 ∈ WG := wg_in (lt_1 (List.mem_of_getElem? (i := 18) rfl)) rfl
theorem kw_1_19 : Cond.initialized RJ9 ∈ WG := wg_in (lt_1 (List.mem_of_getElem? (i := 19) rfl)) rfl
theorem kw_1_20 : Cond.initialized RJ0 ∈ WG := wg_in (lt_1 (List.mem_of_getElem? (i := 20) rfl)) rfl
theorem kw_1_21 : Cond.initialized RJ1 ∈ WG := wg_in (lt_1 (List.mem_of_getElem? (i := 21) rfl)) rfl
theorem kw_1_22 : Cond.initialized RJ3 ∈ WG := wg_in (lt_1 (List.mem_of_getElem? (i := 22) rfl)) rfl
theorem kw_1_23 : Cond.initialized RJ2 ∈ WG := wg_in (lt_1 (List.mem_of_getElem? (i := 23) rfl)) rfl
theorem kw_1_24 : Cond.initialized RX12 ∈ WG := wg_in (lt_1 (List.mem_of_getElem? (i := 24) rfl)) rfl
theorem kw_1_25 : Cond.initialized RJ7 ∈ WG := wg_in (lt_1 (List.mem_of_getElem? (i := 25) rfl)) rfl
theorem kw_1_26 : Cond.initialized "java/util/NoSuchElementException" ∈ WG := wg_in (lt_1 (List.mem_of_getElem? (i := 26) rfl)) rfl
theorem kw_1_27 : Cond.initialized RJ6 ∈ WG := wg_in (lt_1 (List.mem_of_getElem? (i := 27) rfl)) rfl
theorem kw_1_28 : Cond.initialized RJ13 ∈ WG := wg_in (lt_1 (List.mem_of_getElem? (i := 28) rfl)) rfl
theorem kw_1_29 : Cond.classLink RL 8 RX11 ∈ WG := wg_in (lt_1 (List.mem_of_getElem? (i := 29) rfl)) rfl
theorem kw_1_30 : Cond.instantiable RX11 18 ∈ WG := wg_in (lt_1 (List.mem_of_getElem? (i := 30) rfl)) rfl
theorem kw_1_31 : Cond.methodLink RL 19 yX11_init ∈ WG := wg_in (lt_1 (List.mem_of_getElem? (i := 31) rfl)) rfl
theorem kw_1_32 : Cond.instanceMethod yX11_init ∈ WG := wg_in (lt_1 (List.mem_of_getElem? (i := 32) rfl)) rfl
theorem kw_1_33 : Cond.code yX11_init cX11_init 2 none ∈ WG := wg_in (lt_1 (List.mem_of_getElem? (i := 33) rfl)) rfl
theorem kw_1_34 : Cond.methodLink RX11 3 (⟨"java/lang/Object", "<init>", "()V"⟩ : MethodName) ∈ WG := wg_in (lt_1 (List.mem_of_getElem? (i := 34) rfl)) rfl
theorem kw_1_35 : Cond.instanceMethod (⟨"java/lang/Object", "<init>", "()V"⟩ : MethodName) ∈ WG := wg_in (lt_1 (List.mem_of_getElem? (i := 35) rfl)) rfl
theorem kw_1_36 : Cond.code (⟨"java/lang/Object", "<init>", "()V"⟩ : MethodName) object_method_1_code 1 none ∈ WG := wg_in (lt_1 (List.mem_of_getElem? (i := 36) rfl)) rfl
theorem kw_1_37 : Cond.classLink RX11 9 RX0 ∈ WG := wg_in (lt_1 (List.mem_of_getElem? (i := 37) rfl)) rfl
theorem kw_1_38 : Cond.instantiable RX0 16 ∈ WG := wg_in (lt_1 (List.mem_of_getElem? (i := 38) rfl)) rfl
theorem kw_1_39 : Cond.methodLink RX11 11 yX0_init ∈ WG := wg_in (lt_1 (List.mem_of_getElem? (i := 39) rfl)) rfl
theorem kw_1_40 : Cond.instanceMethod yX0_init ∈ WG := wg_in (lt_1 (List.mem_of_getElem? (i := 40) rfl)) rfl
theorem kw_1_41 : Cond.code yX0_init cX0_init 2 none ∈ WG := wg_in (lt_1 (List.mem_of_getElem? (i := 41) rfl)) rfl
theorem kw_1_42 : Cond.methodLink RX0 3 (⟨"java/lang/Object", "<init>", "()V"⟩ : MethodName) ∈ WG := wg_in (lt_1 (List.mem_of_getElem? (i := 42) rfl)) rfl
theorem kw_1_43 : Cond.classLink RX0 21 RX1 ∈ WG := wg_in (lt_1 (List.mem_of_getElem? (i := 43) rfl)) rfl
theorem kw_1_45 : Cond.instantiable RX1 9 ∈ WG := wg_in (lt_1 (List.mem_of_getElem? (i := 45) rfl)) rfl
theorem kw_1_47 : Cond.instanceMethod yX1_init ∈ WG := wg_in (lt_1 (List.mem_of_getElem? (i := 47) rfl)) rfl
theorem kw_1_48 : Cond.code yX1_init cX1_init 1 none ∈ WG := wg_in (lt_1 (List.mem_of_getElem? (i := 48) rfl)) rfl
theorem kw_1_49 : Cond.methodLink RX1 3 (⟨"java/lang/Object", "<init>", "()V"⟩ : MethodName) ∈ WG := wg_in (lt_1 (List.mem_of_getElem? (i := 49) rfl)) rfl
theorem kw_1_50 : Cond.fieldLink RX1 9 RX1 "caseRow" "[I" ∈ WG := wg_in (lt_1 (List.mem_of_getElem? (i := 50) rfl)) rfl
theorem kw_1_51 : Cond.fieldLink RX2 126 RX1 "caseRow" "[I" ∈ WG := wg_in (lt_1 (List.mem_of_getElem? (i := 51) rfl)) rfl
theorem kw_1_52 : Cond.fieldLink RX7 166 RX1 "caseRow" "[I" ∈ WG := wg_in (lt_1 (List.mem_of_getElem? (i := 52) rfl)) rfl
theorem kw_1_53 : Cond.fieldLink RX1 15 RX1 "caseNot" "[Z" ∈ WG := wg_in (lt_1 (List.mem_of_getElem? (i := 53) rfl)) rfl
theorem kw_1_54 : Cond.fieldLink RX2 130 RX1 "caseNot" "[Z" ∈ WG := wg_in (lt_1 (List.mem_of_getElem? (i := 54) rfl)) rfl
theorem kw_1_55 : Cond.fieldLink RX7 162 RX1 "caseNot" "[Z" ∈ WG := wg_in (lt_1 (List.mem_of_getElem? (i := 55) rfl)) rfl
theorem kw_1_56 : Cond.fieldLink RX1 19 RX1 "cases" "I" ∈ WG := wg_in (lt_1 (List.mem_of_getElem? (i := 56) rfl)) rfl
theorem kw_1_57 : Cond.fieldLink RX2 123 RX1 "cases" "I" ∈ WG := wg_in (lt_1 (List.mem_of_getElem? (i := 57) rfl)) rfl
theorem kw_1_58 : Cond.fieldLink RX7 159 RX1 "cases" "I" ∈ WG := wg_in (lt_1 (List.mem_of_getElem? (i := 58) rfl)) rfl
theorem kw_1_59 : Cond.fieldLink RX1 23 RX1 "row" "I" ∈ WG := wg_in (lt_1 (List.mem_of_getElem? (i := 59) rfl)) rfl
theorem kw_1_60 : Cond.fieldLink RX2 116 RX1 "row" "I" ∈ WG := wg_in (lt_1 (List.mem_of_getElem? (i := 60) rfl)) rfl
theorem kw_1_61 : Cond.fieldLink RX7 132 RX1 "row" "I" ∈ WG := wg_in (lt_1 (List.mem_of_getElem? (i := 61) rfl)) rfl
theorem kw_1_62 : Cond.fieldLink RX8 153 RX1 "row" "I" ∈ WG := wg_in (lt_1 (List.mem_of_getElem? (i := 62) rfl)) rfl
theorem kw_1_63 : Cond.fieldLink RX6 182 RX1 "row" "I" ∈ WG := wg_in (lt_1 (List.mem_of_getElem? (i := 63) rfl)) rfl
theorem kw_1_64 : Cond.fieldLink RX1 26 RX1 "wanted" "I" ∈ WG := wg_in (lt_1 (List.mem_of_getElem? (i := 64) rfl)) rfl
theorem kw_1_65 : Cond.fieldLink RX8 191 RX1 "wanted" "I" ∈ WG := wg_in (lt_1 (List.mem_of_getElem? (i := 65) rfl)) rfl
theorem kw_1_66 : Cond.fieldLink RX1 29 RX1 "unwanted" "I" ∈ WG := wg_in (lt_1 (List.mem_of_getElem? (i := 66) rfl)) rfl
theorem kw_1_67 : Cond.fieldLink RX1 32 RX1 "place" "I" ∈ WG := wg_in (lt_1 (List.mem_of_getElem? (i := 67) rfl)) rfl
theorem kw_1_68 : Cond.fieldLink RX8 87 RX1 "place" "I" ∈ WG := wg_in (lt_1 (List.mem_of_getElem? (i := 68) rfl)) rfl
theorem kw_1_69 : Cond.fieldLink RX7 122 RX1 "place" "I" ∈ WG := wg_in (lt_1 (List.mem_of_getElem? (i := 69) rfl)) rfl
theorem kw_1_70 : Cond.fieldLink RX2 137 RX1 "place" "I" ∈ WG := wg_in (lt_1 (List.mem_of_getElem? (i := 70) rfl)) rfl
theorem kw_1_71 : Cond.fieldLink RX6 195 RX1 "place" "I" ∈ WG := wg_in (lt_1 (List.mem_of_getElem? (i := 71) rfl)) rfl
theorem kw_1_72 : Cond.fieldLink RX1 35 RX1 "target" "I" ∈ WG := wg_in (lt_1 (List.mem_of_getElem? (i := 72) rfl)) rfl
theorem kw_1_73 : Cond.fieldLink RX8 106 RX1 "target" "I" ∈ WG := wg_in (lt_1 (List.mem_of_getElem? (i := 73) rfl)) rfl
theorem kw_1_74 : Cond.fieldLink RX7 103 RX1 "target" "I" ∈ WG := wg_in (lt_1 (List.mem_of_getElem? (i := 74) rfl)) rfl
theorem kw_1_75 : Cond.fieldLink RX2 156 RX1 "target" "I" ∈ WG := wg_in (lt_1 (List.mem_of_getElem? (i := 75) rfl)) rfl
theorem kw_1_76 : Cond.fieldLink RX6 205 RX1 "target" "I" ∈ WG := wg_in (lt_1 (List.mem_of_getElem? (i := 76) rfl)) rfl
theorem kw_1_77 : Cond.fieldLink RX1 38 RX1 "now" "Z" ∈ WG := wg_in (lt_1 (List.mem_of_getElem? (i := 77) rfl)) rfl
theorem kw_1_78 : Cond.fieldLink RX2 106 RX1 "now" "Z" ∈ WG := wg_in (lt_1 (List.mem_of_getElem? (i := 78) rfl)) rfl
theorem kw_1_79 : Cond.fieldLink RX7 151 RX1 "now" "Z" ∈ WG := wg_in (lt_1 (List.mem_of_getElem? (i := 79) rfl)) rfl
theorem kw_1_80 : Cond.fieldLink RX8 113 RX1 "now" "Z" ∈ WG := wg_in (lt_1 (List.mem_of_getElem? (i := 80) rfl)) rfl
theorem kw_1_81 : Cond.fieldLink RX6 186 RX1 "now" "Z" ∈ WG := wg_in (lt_1 (List.mem_of_getElem? (i := 81) rfl)) rfl
theorem kw_1_101 : Cond.arrayClass .int ∈ WG := wg_in (lt_1 (List.mem_of_getElem? (i := 101) rfl)) rfl
theorem kw_1_102 : Cond.arrayClass .boolean ∈ WG := wg_in (lt_1 (List.mem_of_getElem? (i := 102) rfl)) rfl
theorem kw_1_103 : Cond.fieldLink RX0 37 RX0 "machines" "I" ∈ WG := wg_in (lt_1 (List.mem_of_getElem? (i := 103) rfl)) rfl
theorem kw_1_104 : Cond.fieldLink RX8 33 RX0 "machines" "I" ∈ WG := wg_in (lt_1 (List.mem_of_getElem? (i := 104) rfl)) rfl
theorem kw_1_105 : Cond.fieldLink RX7 38 RX0 "machines" "I" ∈ WG := wg_in (lt_1 (List.mem_of_getElem? (i := 105) rfl)) rfl
theorem kw_1_106 : Cond.fieldLink RX2 52 RX0 "machines" "I" ∈ WG := wg_in (lt_1 (List.mem_of_getElem? (i := 106) rfl)) rfl
theorem kw_1_107 : Cond.fieldLink RX11 199 RX0 "machines" "I" ∈ WG := wg_in (lt_1 (List.mem_of_getElem? (i := 107) rfl)) rfl
theorem kw_1_108 : Cond.fieldLink RX6 139 RX0 "machines" "I" ∈ WG := wg_in (lt_1 (List.mem_of_getElem? (i := 108) rfl)) rfl
theorem kw_1_109 : Cond.fieldLink RX0 41 RX0 "rows" "I" ∈ WG := wg_in (lt_1 (List.mem_of_getElem? (i := 109) rfl)) rfl
theorem kw_1_110 : Cond.fieldLink RX8 48 RX0 "rows" "I" ∈ WG := wg_in (lt_1 (List.mem_of_getElem? (i := 110) rfl)) rfl
theorem kw_1_111 : Cond.fieldLink RX7 60 RX0 "rows" "I" ∈ WG := wg_in (lt_1 (List.mem_of_getElem? (i := 111) rfl)) rfl
theorem kw_1_112 : Cond.fieldLink RX2 86 RX0 "rows" "I" ∈ WG := wg_in (lt_1 (List.mem_of_getElem? (i := 112) rfl)) rfl
theorem kw_1_113 : Cond.fieldLink RX6 148 RX0 "rows" "I" ∈ WG := wg_in (lt_1 (List.mem_of_getElem? (i := 113) rfl)) rfl
theorem kw_1_114 : Cond.fieldLink RX11 288 RX0 "rows" "I" ∈ WG := wg_in (lt_1 (List.mem_of_getElem? (i := 114) rfl)) rfl
theorem kw_1_115 : Cond.fieldLink RX0 44 RX0 "facts" "I" ∈ WG := wg_in (lt_1 (List.mem_of_getElem? (i := 115) rfl)) rfl
theorem kw_1_116 : Cond.fieldLink RX6 155 RX0 "facts" "I" ∈ WG := wg_in (lt_1 (List.mem_of_getElem? (i := 116) rfl)) rfl
theorem kw_1_117 : Cond.fieldLink RX11 307 RX0 "facts" "I" ∈ WG := wg_in (lt_1 (List.mem_of_getElem? (i := 117) rfl)) rfl
theorem kw_1_118 : Cond.fieldLink RX0 47 RX0 "rules" "I" ∈ WG := wg_in (lt_1 (List.mem_of_getElem? (i := 118) rfl)) rfl
theorem kw_1_119 : Cond.fieldLink RX11 124 RX0 "rules" "I" ∈ WG := wg_in (lt_1 (List.mem_of_getElem? (i := 119) rfl)) rfl
theorem kw_1_120 : Cond.fieldLink RX2 99 RX0 "rules" "I" ∈ WG := wg_in (lt_1 (List.mem_of_getElem? (i := 120) rfl)) rfl
theorem kw_1_121 : Cond.fieldLink RX7 141 RX0 "rules" "I" ∈ WG := wg_in (lt_1 (List.mem_of_getElem? (i := 121) rfl)) rfl
theorem kw_1_122 : Cond.fieldLink RX8 147 RX0 "rules" "I" ∈ WG := wg_in (lt_1 (List.mem_of_getElem? (i := 122) rfl)) rfl
theorem kw_1_123 : Cond.fieldLink RX6 173 RX0 "rules" "I" ∈ WG := wg_in (lt_1 (List.mem_of_getElem? (i := 123) rfl)) rfl
theorem kw_1_124 : Cond.fieldLink RX0 50 RX0 "sends" "I" ∈ WG := wg_in (lt_1 (List.mem_of_getElem? (i := 124) rfl)) rfl
theorem kw_1_125 : Cond.fieldLink RX2 60 RX0 "sends" "I" ∈ WG := wg_in (lt_1 (List.mem_of_getElem? (i := 125) rfl)) rfl
theorem kw_1_126 : Cond.fieldLink RX8 59 RX0 "sends" "I" ∈ WG := wg_in (lt_1 (List.mem_of_getElem? (i := 126) rfl)) rfl
theorem kw_1_127 : Cond.fieldLink RX11 127 RX0 "sends" "I" ∈ WG := wg_in (lt_1 (List.mem_of_getElem? (i := 127) rfl)) rfl
theorem kw_1_128 : Cond.fieldLink RX7 96 RX0 "sends" "I" ∈ WG := wg_in (lt_1 (List.mem_of_getElem? (i := 128) rfl)) rfl
theorem kw_1_129 : Cond.fieldLink RX6 198 RX0 "sends" "I" ∈ WG := wg_in (lt_1 (List.mem_of_getElem? (i := 129) rfl)) rfl
theorem kw_1_130 : Cond.fieldLink RX10 19 RX0 "maybes" "I" ∈ WG := wg_in (lt_1 (List.mem_of_getElem? (i := 130) rfl)) rfl
theorem kw_1_131 : Cond.fieldLink RX0 53 RX0 "maybes" "I" ∈ WG := wg_in (lt_1 (List.mem_of_getElem? (i := 131) rfl)) rfl
theorem kw_1_132 : Cond.fieldLink RX9 158 RX0 "maybes" "I" ∈ WG := wg_in (lt_1 (List.mem_of_getElem? (i := 132) rfl)) rfl
theorem kw_1_133 : Cond.fieldLink RX11 269 RX0 "maybes" "I" ∈ WG := wg_in (lt_1 (List.mem_of_getElem? (i := 133) rfl)) rfl
theorem kw_1_134 : Cond.fieldLink RX10 27 RX0 "kept" "I" ∈ WG := wg_in (lt_1 (List.mem_of_getElem? (i := 134) rfl)) rfl
theorem kw_1_135 : Cond.fieldLink RX0 56 RX0 "kept" "I" ∈ WG := wg_in (lt_1 (List.mem_of_getElem? (i := 135) rfl)) rfl
theorem kw_1_136 : Cond.fieldLink RX6 153 RX0 "kept" "I" ∈ WG := wg_in (lt_1 (List.mem_of_getElem? (i := 136) rfl)) rfl
theorem kw_1_137 : Cond.fieldLink RX0 9 RX0 "factRow" "[I" ∈ WG := wg_in (lt_1 (List.mem_of_getElem? (i := 137) rfl)) rfl
theorem kw_1_138 : Cond.fieldLink RX0 15 RX0 "factMachine" "[I" ∈ WG := wg_in (lt_1 (List.mem_of_getElem? (i := 138) rfl)) rfl
theorem kw_1_139 : Cond.fieldLink RX0 18 RX0 "factBit" "[I" ∈ WG := wg_in (lt_1 (List.mem_of_getElem? (i := 139) rfl)) rfl
theorem kw_1_140 : Cond.fieldLink RX0 23 RX0 "rule" "[LFallTrials$Clause;" ∈ WG := wg_in (lt_1 (List.mem_of_getElem? (i := 140) rfl)) rfl
theorem kw_1_141 : Cond.fieldLink RX2 102 RX0 "rule" "[LFallTrials$Clause;" ∈ WG := wg_in (lt_1 (List.mem_of_getElem? (i := 141) rfl)) rfl
theorem kw_1_142 : Cond.fieldLink RX7 144 RX0 "rule" "[LFallTrials$Clause;" ∈ WG := wg_in (lt_1 (List.mem_of_getElem? (i := 142) rfl)) rfl
theorem kw_1_143 : Cond.fieldLink RX8 150 RX0 "rule" "[LFallTrials$Clause;" ∈ WG := wg_in (lt_1 (List.mem_of_getElem? (i := 143) rfl)) rfl
theorem kw_1_144 : Cond.fieldLink RX6 176 RX0 "rule" "[LFallTrials$Clause;" ∈ WG := wg_in (lt_1 (List.mem_of_getElem? (i := 144) rfl)) rfl
theorem kw_1_145 : Cond.fieldLink RX0 27 RX0 "send" "[LFallTrials$Clause;" ∈ WG := wg_in (lt_1 (List.mem_of_getElem? (i := 145) rfl)) rfl
theorem kw_1_146 : Cond.fieldLink RX8 80 RX0 "send" "[LFallTrials$Clause;" ∈ WG := wg_in (lt_1 (List.mem_of_getElem? (i := 146) rfl)) rfl
theorem kw_1_147 : Cond.fieldLink RX7 99 RX0 "send" "[LFallTrials$Clause;" ∈ WG := wg_in (lt_1 (List.mem_of_getElem? (i := 147) rfl)) rfl
theorem kw_1_148 : Cond.fieldLink RX2 134 RX0 "send" "[LFallTrials$Clause;" ∈ WG := wg_in (lt_1 (List.mem_of_getElem? (i := 148) rfl)) rfl
theorem kw_1_149 : Cond.fieldLink RX6 201 RX0 "send" "[LFallTrials$Clause;" ∈ WG := wg_in (lt_1 (List.mem_of_getElem? (i := 149) rfl)) rfl
theorem kw_1_150 : Cond.fieldLink RX0 30 RX0 "ahead" "[I" ∈ WG := wg_in (lt_1 (List.mem_of_getElem? (i := 150) rfl)) rfl
theorem kw_1_151 : Cond.fieldLink RX2 162 RX0 "ahead" "[I" ∈ WG := wg_in (lt_1 (List.mem_of_getElem? (i := 151) rfl)) rfl
theorem kw_1_152 : Cond.fieldLink RX6 212 RX0 "ahead" "[I" ∈ WG := wg_in (lt_1 (List.mem_of_getElem? (i := 152) rfl)) rfl
theorem kw_1_153 : Cond.fieldLink RX0 33 RX0 "behind" "[I" ∈ WG := wg_in (lt_1 (List.mem_of_getElem? (i := 153) rfl)) rfl
theorem kw_1_154 : Cond.fieldLink RX7 54 RX0 "behind" "[I" ∈ WG := wg_in (lt_1 (List.mem_of_getElem? (i := 154) rfl)) rfl
theorem kw_1_155 : Cond.fieldLink RX2 168 RX0 "behind" "[I" ∈ WG := wg_in (lt_1 (List.mem_of_getElem? (i := 155) rfl)) rfl
theorem kw_1_156 : Cond.fieldLink RX8 177 RX0 "behind" "[I" ∈ WG := wg_in (lt_1 (List.mem_of_getElem? (i := 156) rfl)) rfl
theorem kw_1_157 : Cond.fieldLink RX6 224 RX0 "behind" "[I" ∈ WG := wg_in (lt_1 (List.mem_of_getElem? (i := 157) rfl)) rfl
theorem kw_1_158 : Cond.fieldLink RX0 59 RX0 "aheadCount" "I" ∈ WG := wg_in (lt_1 (List.mem_of_getElem? (i := 158) rfl)) rfl
theorem kw_1_159 : Cond.fieldLink RX2 159 RX0 "aheadCount" "I" ∈ WG := wg_in (lt_1 (List.mem_of_getElem? (i := 159) rfl)) rfl
theorem kw_1_160 : Cond.fieldLink RX6 219 RX0 "aheadCount" "I" ∈ WG := wg_in (lt_1 (List.mem_of_getElem? (i := 160) rfl)) rfl
theorem kw_1_161 : Cond.fieldLink RX0 62 RX0 "behindCount" "I" ∈ WG := wg_in (lt_1 (List.mem_of_getElem? (i := 161) rfl)) rfl
theorem kw_1_162 : Cond.fieldLink RX7 51 RX0 "behindCount" "I" ∈ WG := wg_in (lt_1 (List.mem_of_getElem? (i := 162) rfl)) rfl
theorem kw_1_163 : Cond.fieldLink RX2 165 RX0 "behindCount" "I" ∈ WG := wg_in (lt_1 (List.mem_of_getElem? (i := 163) rfl)) rfl
theorem kw_1_164 : Cond.fieldLink RX8 174 RX0 "behindCount" "I" ∈ WG := wg_in (lt_1 (List.mem_of_getElem? (i := 164) rfl)) rfl
theorem kw_1_165 : Cond.fieldLink RX6 227 RX0 "behindCount" "I" ∈ WG := wg_in (lt_1 (List.mem_of_getElem? (i := 165) rfl)) rfl
theorem kw_1_199 : Cond.classLink RX11 16 RX6 ∈ WG := wg_in (lt_1 (List.mem_of_getElem? (i := 199) rfl)) rfl
theorem kw_1_200 : Cond.instantiable RX6 11 ∈ WG := wg_in (lt_1 (List.mem_of_getElem? (i := 200) rfl)) rfl
theorem kw_1_201 : Cond.methodLink RX11 18 yX6_init ∈ WG := wg_in (lt_1 (List.mem_of_getElem? (i := 201) rfl)) rfl
theorem kw_1_202 : Cond.instanceMethod yX6_init ∈ WG := wg_in (lt_1 (List.mem_of_getElem? (i := 202) rfl)) rfl
theorem kw_1_203 : Cond.code yX6_init cX6_init 2 none ∈ WG := wg_in (lt_1 (List.mem_of_getElem? (i := 203) rfl)) rfl
theorem kw_1_204 : Cond.methodLink RX6 3 (⟨"java/lang/Object", "<init>", "()V"⟩ : MethodName) ∈ WG := wg_in (lt_1 (List.mem_of_getElem? (i := 204) rfl)) rfl
theorem kw_1_205 : Cond.fieldLink RX6 9 RX6 "tape" "[B" ∈ WG := wg_in (lt_1 (List.mem_of_getElem? (i := 205) rfl)) rfl
theorem kw_1_206 : Cond.fieldLink RX6 15 RX6 "names" "[J" ∈ WG := wg_in (lt_1 (List.mem_of_getElem? (i := 206) rfl)) rfl
theorem kw_1_207 : Cond.fieldLink RX6 19 RX6 "meanings" "[I" ∈ WG := wg_in (lt_1 (List.mem_of_getElem? (i := 207) rfl)) rfl
theorem kw_1_208 : Cond.fieldLink RX6 46 RX6 "nameCount" "I" ∈ WG := wg_in (lt_1 (List.mem_of_getElem? (i := 208) rfl)) rfl
theorem kw_1_209 : Cond.fieldLink RX11 83 RX6 "fed" "I" ∈ WG := wg_in (lt_1 (List.mem_of_getElem? (i := 209) rfl)) rfl
theorem kw_1_210 : Cond.fieldLink RX6 27 RX6 "fed" "I" ∈ WG := wg_in (lt_1 (List.mem_of_getElem? (i := 210) rfl)) rfl
theorem kw_1_211 : Cond.fieldLink RX6 40 RX6 "end" "I" ∈ WG := wg_in (lt_1 (List.mem_of_getElem? (i := 211) rfl)) rfl
theorem kw_1_212 : Cond.fieldLink RX11 102 RX6 "at" "I" ∈ WG := wg_in (lt_1 (List.mem_of_getElem? (i := 212) rfl)) rfl
theorem kw_1_213 : Cond.fieldLink RX6 99 RX6 "at" "I" ∈ WG := wg_in (lt_1 (List.mem_of_getElem? (i := 213) rfl)) rfl
theorem kw_1_214 : Cond.fieldLink RX6 43 RX6 "after" "I" ∈ WG := wg_in (lt_1 (List.mem_of_getElem? (i := 214) rfl)) rfl
theorem kw_1_215 : Cond.fieldLink RX6 102 RX6 "sort" "I" ∈ WG := wg_in (lt_1 (List.mem_of_getElem? (i := 215) rfl)) rfl
theorem kw_1_216 : Cond.fieldLink RX6 49 RX6 "flaw" "I" ∈ WG := wg_in (lt_1 (List.mem_of_getElem? (i := 216) rfl)) rfl
theorem kw_1_217 : Cond.fieldLink RX11 98 RX6 "flaw" "I" ∈ WG := wg_in (lt_1 (List.mem_of_getElem? (i := 217) rfl)) rfl
theorem kw_1_218 : Cond.fieldLink RX6 23 RX6 "book" "LFallTrials$Book;" ∈ WG := wg_in (lt_1 (List.mem_of_getElem? (i := 218) rfl)) rfl
theorem kw_2_2 : Cond.arrayClass .byte ∈ WG := wg_in (lt_2 (List.mem_of_getElem? (i := 2) rfl)) rfl
theorem kw_2_3 : Cond.arrayClass .long ∈ WG := wg_in (lt_2 (List.mem_of_getElem? (i := 3) rfl)) rfl
theorem kw_2_4 : Cond.classLink RX11 25 RX10 ∈ WG := wg_in (lt_2 (List.mem_of_getElem? (i := 4) rfl)) rfl
theorem kw_2_5 : Cond.instantiable RX10 6 ∈ WG := wg_in (lt_2 (List.mem_of_getElem? (i := 5) rfl)) rfl
theorem kw_2_6 : Cond.methodLink RX11 27 yX10_init ∈ WG := wg_in (lt_2 (List.mem_of_getElem? (i := 6) rfl)) rfl
theorem kw_2_7 : Cond.instanceMethod yX10_init ∈ WG := wg_in (lt_2 (List.mem_of_getElem? (i := 7) rfl)) rfl
theorem kw_2_8 : Cond.code yX10_init cX10_init 2 none ∈ WG := wg_in (lt_2 (List.mem_of_getElem? (i := 8) rfl)) rfl
theorem kw_2_9 : Cond.methodLink RX10 3 (⟨"java/lang/Object", "<init>", "()V"⟩ : MethodName) ∈ WG := wg_in (lt_2 (List.mem_of_getElem? (i := 9) rfl)) rfl
theorem kw_2_10 : Cond.fieldLink RX10 9 RX10 "book" "LFallTrials$Book;" ∈ WG := wg_in (lt_2 (List.mem_of_getElem? (i := 10) rfl)) rfl
theorem kw_2_11 : Cond.fieldLink RX7 19 RX10 "book" "LFallTrials$Book;" ∈ WG := wg_in (lt_2 (List.mem_of_getElem? (i := 11) rfl)) rfl
theorem kw_2_12 : Cond.fieldLink RX2 31 RX10 "book" "LFallTrials$Book;" ∈ WG := wg_in (lt_2 (List.mem_of_getElem? (i := 12) rfl)) rfl
theorem kw_2_13 : Cond.fieldLink RX11 32 RX10 "book" "LFallTrials$Book;" ∈ WG := wg_in (lt_2 (List.mem_of_getElem? (i := 13) rfl)) rfl
theorem kw_2_14 : Cond.fieldLink RX8 27 RX10 "book" "LFallTrials$Book;" ∈ WG := wg_in (lt_2 (List.mem_of_getElem? (i := 14) rfl)) rfl
theorem kw_2_15 : Cond.fieldLink RX5 24 RX10 "book" "LFallTrials$Book;" ∈ WG := wg_in (lt_2 (List.mem_of_getElem? (i := 15) rfl)) rfl
theorem kw_2_16 : Cond.fieldLink RX9 152 RX10 "book" "LFallTrials$Book;" ∈ WG := wg_in (lt_2 (List.mem_of_getElem? (i := 16) rfl)) rfl
theorem kw_2_17 : Cond.fieldLink RX10 15 RX10 "last" "I" ∈ WG := wg_in (lt_2 (List.mem_of_getElem? (i := 17) rfl)) rfl
theorem kw_2_18 : Cond.fieldLink RX8 39 RX10 "last" "I" ∈ WG := wg_in (lt_2 (List.mem_of_getElem? (i := 18) rfl)) rfl
theorem kw_2_19 : Cond.fieldLink RX7 34 RX10 "last" "I" ∈ WG := wg_in (lt_2 (List.mem_of_getElem? (i := 19) rfl)) rfl
theorem kw_2_20 : Cond.fieldLink RX2 48 RX10 "last" "I" ∈ WG := wg_in (lt_2 (List.mem_of_getElem? (i := 20) rfl)) rfl
theorem kw_2_21 : Cond.fieldLink RX5 36 RX10 "last" "I" ∈ WG := wg_in (lt_2 (List.mem_of_getElem? (i := 21) rfl)) rfl
theorem kw_2_22 : Cond.fieldLink RX11 136 RX10 "last" "I" ∈ WG := wg_in (lt_2 (List.mem_of_getElem? (i := 22) rfl)) rfl
theorem kw_2_23 : Cond.fieldLink RX10 24 RX10 "begun" "I" ∈ WG := wg_in (lt_2 (List.mem_of_getElem? (i := 23) rfl)) rfl
theorem kw_2_24 : Cond.fieldLink RX2 80 RX10 "begun" "I" ∈ WG := wg_in (lt_2 (List.mem_of_getElem? (i := 24) rfl)) rfl
theorem kw_2_25 : Cond.fieldLink RX7 90 RX10 "begun" "I" ∈ WG := wg_in (lt_2 (List.mem_of_getElem? (i := 25) rfl)) rfl
theorem kw_2_26 : Cond.fieldLink RX9 163 RX10 "begun" "I" ∈ WG := wg_in (lt_2 (List.mem_of_getElem? (i := 26) rfl)) rfl
theorem kw_2_27 : Cond.fieldLink RX8 123 RX10 "begun" "I" ∈ WG := wg_in (lt_2 (List.mem_of_getElem? (i := 27) rfl)) rfl
theorem kw_2_28 : Cond.fieldLink RX11 272 RX10 "begun" "I" ∈ WG := wg_in (lt_2 (List.mem_of_getElem? (i := 28) rfl)) rfl
theorem kw_2_29 : Cond.fieldLink RX10 30 RX10 "kept" "I" ∈ WG := wg_in (lt_2 (List.mem_of_getElem? (i := 29) rfl)) rfl
theorem kw_2_30 : Cond.fieldLink RX2 89 RX10 "kept" "I" ∈ WG := wg_in (lt_2 (List.mem_of_getElem? (i := 30) rfl)) rfl
theorem kw_2_31 : Cond.fieldLink RX7 138 RX10 "kept" "I" ∈ WG := wg_in (lt_2 (List.mem_of_getElem? (i := 31) rfl)) rfl
theorem kw_2_32 : Cond.fieldLink RX8 140 RX10 "kept" "I" ∈ WG := wg_in (lt_2 (List.mem_of_getElem? (i := 32) rfl)) rfl
theorem kw_2_33 : Cond.fieldLink RX10 31 RX10 "again" "I" ∈ WG := wg_in (lt_2 (List.mem_of_getElem? (i := 33) rfl)) rfl
theorem kw_2_34 : Cond.fieldLink RX10 34 RX10 "bare" "I" ∈ WG := wg_in (lt_2 (List.mem_of_getElem? (i := 34) rfl)) rfl
theorem kw_2_48 : Cond.classLink RX11 38 RX4 ∈ WG := wg_in (lt_2 (List.mem_of_getElem? (i := 48) rfl)) rfl
theorem kw_2_49 : Cond.instantiable RX4 2 ∈ WG := wg_in (lt_2 (List.mem_of_getElem? (i := 49) rfl)) rfl
theorem kw_2_50 : Cond.methodLink RX11 40 yX4_init ∈ WG := wg_in (lt_2 (List.mem_of_getElem? (i := 50) rfl)) rfl
theorem kw_2_51 : Cond.instanceMethod yX4_init ∈ WG := wg_in (lt_2 (List.mem_of_getElem? (i := 51) rfl)) rfl
theorem kw_2_52 : Cond.code yX4_init cX4_init 2 none ∈ WG := wg_in (lt_2 (List.mem_of_getElem? (i := 52) rfl)) rfl
theorem kw_2_53 : Cond.methodLink RX4 3 (⟨"java/lang/Object", "<init>", "()V"⟩ : MethodName) ∈ WG := wg_in (lt_2 (List.mem_of_getElem? (i := 53) rfl)) rfl
theorem kw_2_54 : Cond.fieldLink RX4 9 RX4 "held" "[I" ∈ WG := wg_in (lt_2 (List.mem_of_getElem? (i := 54) rfl)) rfl
theorem kw_2_55 : Cond.fieldLink RX3 40 RX4 "held" "[I" ∈ WG := wg_in (lt_2 (List.mem_of_getElem? (i := 55) rfl)) rfl
theorem kw_2_56 : Cond.fieldLink RX4 15 RX4 "size" "I" ∈ WG := wg_in (lt_2 (List.mem_of_getElem? (i := 56) rfl)) rfl
theorem kw_2_57 : Cond.fieldLink RX3 34 RX4 "size" "I" ∈ WG := wg_in (lt_2 (List.mem_of_getElem? (i := 57) rfl)) rfl
theorem kw_2_58 : Cond.fieldLink RX11 163 RX4 "size" "I" ∈ WG := wg_in (lt_2 (List.mem_of_getElem? (i := 58) rfl)) rfl
theorem kw_2_65 : Cond.classLink RX11 60 RX9 ∈ WG := wg_in (lt_2 (List.mem_of_getElem? (i := 65) rfl)) rfl
theorem kw_2_66 : Cond.instantiable RX9 13 ∈ WG := wg_in (lt_2 (List.mem_of_getElem? (i := 66) rfl)) rfl
theorem kw_2_67 : Cond.methodLink RX11 62 yX9_init ∈ WG := wg_in (lt_2 (List.mem_of_getElem? (i := 67) rfl)) rfl
theorem kw_2_68 : Cond.instanceMethod yX9_init ∈ WG := wg_in (lt_2 (List.mem_of_getElem? (i := 68) rfl)) rfl
theorem kw_2_69 : Cond.code yX9_init cX9_init 2 none ∈ WG := wg_in (lt_2 (List.mem_of_getElem? (i := 69) rfl)) rfl
theorem kw_2_70 : Cond.methodLink RX9 3 (⟨"java/lang/Object", "<init>", "()V"⟩ : MethodName) ∈ WG := wg_in (lt_2 (List.mem_of_getElem? (i := 70) rfl)) rfl
theorem kw_2_71 : Cond.classLink RX9 9 RX5 ∈ WG := wg_in (lt_2 (List.mem_of_getElem? (i := 71) rfl)) rfl
theorem kw_2_72 : Cond.instantiable RX5 8 ∈ WG := wg_in (lt_2 (List.mem_of_getElem? (i := 72) rfl)) rfl
theorem kw_2_74 : Cond.instanceMethod yX5_init ∈ WG := wg_in (lt_2 (List.mem_of_getElem? (i := 74) rfl)) rfl
theorem kw_2_75 : Cond.code yX5_init cX5_init 1 none ∈ WG := wg_in (lt_2 (List.mem_of_getElem? (i := 75) rfl)) rfl
theorem kw_2_76 : Cond.methodLink RX5 3 (⟨"java/lang/Object", "<init>", "()V"⟩ : MethodName) ∈ WG := wg_in (lt_2 (List.mem_of_getElem? (i := 76) rfl)) rfl
theorem kw_2_77 : Cond.fieldLink RX5 9 RX5 "room" "[I" ∈ WG := wg_in (lt_2 (List.mem_of_getElem? (i := 77) rfl)) rfl
theorem kw_2_78 : Cond.fieldLink RX11 149 RX5 "room" "[I" ∈ WG := wg_in (lt_2 (List.mem_of_getElem? (i := 78) rfl)) rfl
theorem kw_2_79 : Cond.fieldLink RX5 15 RX5 "all" "[I" ∈ WG := wg_in (lt_2 (List.mem_of_getElem? (i := 79) rfl)) rfl
theorem kw_2_80 : Cond.fieldLink RX5 18 RX5 "stem" "[I" ∈ WG := wg_in (lt_2 (List.mem_of_getElem? (i := 80) rfl)) rfl
theorem kw_2_81 : Cond.fieldLink RX5 21 RX5 "used" "[I" ∈ WG := wg_in (lt_2 (List.mem_of_getElem? (i := 81) rfl)) rfl
theorem kw_2_82 : Cond.fieldLink RX5 52 RX5 "size" "I" ∈ WG := wg_in (lt_2 (List.mem_of_getElem? (i := 82) rfl)) rfl
theorem kw_2_83 : Cond.fieldLink RX5 59 RX5 "howMany" "I" ∈ WG := wg_in (lt_2 (List.mem_of_getElem? (i := 83) rfl)) rfl
theorem kw_2_84 : Cond.fieldLink RX9 170 RX5 "howMany" "I" ∈ WG := wg_in (lt_2 (List.mem_of_getElem? (i := 84) rfl)) rfl
theorem kw_2_85 : Cond.fieldLink RX5 62 RX5 "base" "I" ∈ WG := wg_in (lt_2 (List.mem_of_getElem? (i := 85) rfl)) rfl
theorem kw_2_86 : Cond.fieldLink RX9 127 RX5 "open" "J" ∈ WG := wg_in (lt_2 (List.mem_of_getElem? (i := 86) rfl)) rfl
theorem kw_2_87 : Cond.fieldLink RX5 80 RX5 "open" "J" ∈ WG := wg_in (lt_2 (List.mem_of_getElem? (i := 87) rfl)) rfl
theorem kw_2_105 : Cond.classLink RX9 18 RX3 ∈ WG := wg_in (lt_2 (List.mem_of_getElem? (i := 105) rfl)) rfl
theorem kw_2_106 : Cond.instantiable RX3 3 ∈ WG := wg_in (lt_2 (List.mem_of_getElem? (i := 106) rfl)) rfl
theorem kw_2_108 : Cond.instanceMethod yX3_init ∈ WG := wg_in (lt_2 (List.mem_of_getElem? (i := 108) rfl)) rfl
theorem kw_2_109 : Cond.code yX3_init cX3_init 1 none ∈ WG := wg_in (lt_2 (List.mem_of_getElem? (i := 109) rfl)) rfl
theorem kw_2_110 : Cond.methodLink RX3 3 (⟨"java/lang/Object", "<init>", "()V"⟩ : MethodName) ∈ WG := wg_in (lt_2 (List.mem_of_getElem? (i := 110) rfl)) rfl
theorem kw_2_111 : Cond.fieldLink RX3 9 RX3 "lost" "[J" ∈ WG := wg_in (lt_2 (List.mem_of_getElem? (i := 111) rfl)) rfl
theorem kw_2_112 : Cond.fieldLink RX8 103 RX3 "lost" "[J" ∈ WG := wg_in (lt_2 (List.mem_of_getElem? (i := 112) rfl)) rfl
theorem kw_2_113 : Cond.fieldLink RX7 116 RX3 "lost" "[J" ∈ WG := wg_in (lt_2 (List.mem_of_getElem? (i := 113) rfl)) rfl
theorem kw_2_114 : Cond.fieldLink RX2 146 RX3 "lost" "[J" ∈ WG := wg_in (lt_2 (List.mem_of_getElem? (i := 114) rfl)) rfl
theorem kw_2_115 : Cond.fieldLink RX3 15 RX3 "late" "[J" ∈ WG := wg_in (lt_2 (List.mem_of_getElem? (i := 115) rfl)) rfl
theorem kw_2_116 : Cond.fieldLink RX8 100 RX3 "late" "[J" ∈ WG := wg_in (lt_2 (List.mem_of_getElem? (i := 116) rfl)) rfl
theorem kw_2_117 : Cond.fieldLink RX7 119 RX3 "late" "[J" ∈ WG := wg_in (lt_2 (List.mem_of_getElem? (i := 117) rfl)) rfl
theorem kw_2_118 : Cond.fieldLink RX2 149 RX3 "late" "[J" ∈ WG := wg_in (lt_2 (List.mem_of_getElem? (i := 118) rfl)) rfl
theorem kw_2_119 : Cond.fieldLink RX3 18 RX3 "down" "[J" ∈ WG := wg_in (lt_2 (List.mem_of_getElem? (i := 119) rfl)) rfl
theorem kw_2_120 : Cond.fieldLink RX8 42 RX3 "down" "[J" ∈ WG := wg_in (lt_2 (List.mem_of_getElem? (i := 120) rfl)) rfl
theorem kw_2_121 : Cond.fieldLink RX2 69 RX3 "down" "[J" ∈ WG := wg_in (lt_2 (List.mem_of_getElem? (i := 121) rfl)) rfl
theorem kw_2_122 : Cond.fieldLink RX7 68 RX3 "down" "[J" ∈ WG := wg_in (lt_2 (List.mem_of_getElem? (i := 122) rfl)) rfl
theorem kw_2_130 : Cond.classLink RX9 28 RX8 ∈ WG := wg_in (lt_2 (List.mem_of_getElem? (i := 130) rfl)) rfl
theorem kw_2_132 : Cond.classLink RX9 34 RX4 ∈ WG := wg_in (lt_2 (List.mem_of_getElem? (i := 132) rfl)) rfl
theorem kw_2_133 : Cond.methodLink RX9 36 yX4_init ∈ WG := wg_in (lt_2 (List.mem_of_getElem? (i := 133) rfl)) rfl
theorem kw_2_134 : Cond.instantiable RX8 7 ∈ WG := wg_in (lt_2 (List.mem_of_getElem? (i := 134) rfl)) rfl
theorem kw_2_136 : Cond.instanceMethod yX8_init ∈ WG := wg_in (lt_2 (List.mem_of_getElem? (i := 136) rfl)) rfl
theorem kw_2_137 : Cond.code yX8_init cX8_init 1 none ∈ WG := wg_in (lt_2 (List.mem_of_getElem? (i := 137) rfl)) rfl
theorem kw_2_138 : Cond.methodLink RX8 3 (⟨"java/lang/Object", "<init>", "()V"⟩ : MethodName) ∈ WG := wg_in (lt_2 (List.mem_of_getElem? (i := 138) rfl)) rfl
theorem kw_2_139 : Cond.fieldLink RX8 9 RX8 "there" "[I" ∈ WG := wg_in (lt_2 (List.mem_of_getElem? (i := 139) rfl)) rfl
theorem kw_2_140 : Cond.fieldLink RX7 63 RX8 "there" "[I" ∈ WG := wg_in (lt_2 (List.mem_of_getElem? (i := 140) rfl)) rfl
theorem kw_2_141 : Cond.fieldLink RX11 202 RX8 "there" "[I" ∈ WG := wg_in (lt_2 (List.mem_of_getElem? (i := 141) rfl)) rfl
theorem kw_2_142 : Cond.fieldLink RX8 15 RX8 "downTicks" "[I" ∈ WG := wg_in (lt_2 (List.mem_of_getElem? (i := 142) rfl)) rfl
theorem kw_2_143 : Cond.fieldLink RX8 18 RX8 "againTicks" "[I" ∈ WG := wg_in (lt_2 (List.mem_of_getElem? (i := 143) rfl)) rfl
theorem kw_2_144 : Cond.fieldLink RX8 21 RX8 "words" "[I" ∈ WG := wg_in (lt_2 (List.mem_of_getElem? (i := 144) rfl)) rfl
theorem kw_2_145 : Cond.fieldLink RX11 196 RX8 "words" "[I" ∈ WG := wg_in (lt_2 (List.mem_of_getElem? (i := 145) rfl)) rfl
theorem kw_2_146 : Cond.fieldLink RX8 24 RX8 "list" "[I" ∈ WG := wg_in (lt_2 (List.mem_of_getElem? (i := 146) rfl)) rfl
theorem kw_2_147 : Cond.fieldLink RX11 193 RX8 "list" "[I" ∈ WG := wg_in (lt_2 (List.mem_of_getElem? (i := 147) rfl)) rfl
theorem kw_2_148 : Cond.fieldLink RX8 120 RX8 "listed" "I" ∈ WG := wg_in (lt_2 (List.mem_of_getElem? (i := 148) rfl)) rfl
theorem kw_2_149 : Cond.fieldLink RX11 187 RX8 "listed" "I" ∈ WG := wg_in (lt_2 (List.mem_of_getElem? (i := 149) rfl)) rfl
theorem kw_2_150 : Cond.fieldLink RX8 75 RX8 "verdict" "I" ∈ WG := wg_in (lt_2 (List.mem_of_getElem? (i := 150) rfl)) rfl
theorem kw_2_151 : Cond.fieldLink RX9 135 RX8 "verdict" "I" ∈ WG := wg_in (lt_2 (List.mem_of_getElem? (i := 151) rfl)) rfl
theorem kw_2_152 : Cond.fieldLink RX11 173 RX8 "verdict" "I" ∈ WG := wg_in (lt_2 (List.mem_of_getElem? (i := 152) rfl)) rfl
theorem kw_2_168 : Cond.classLink RX9 63 RX2 ∈ WG := wg_in (lt_2 (List.mem_of_getElem? (i := 168) rfl)) rfl
theorem kw_2_169 : Cond.instantiable RX2 10 ∈ WG := wg_in (lt_2 (List.mem_of_getElem? (i := 169) rfl)) rfl
theorem kw_2_170 : Cond.methodLink RX9 65 yX2_init ∈ WG := wg_in (lt_2 (List.mem_of_getElem? (i := 170) rfl)) rfl
theorem kw_2_171 : Cond.instanceMethod yX2_init ∈ WG := wg_in (lt_2 (List.mem_of_getElem? (i := 171) rfl)) rfl
theorem kw_2_172 : Cond.code yX2_init cX2_init 3 none ∈ WG := wg_in (lt_2 (List.mem_of_getElem? (i := 172) rfl)) rfl
theorem kw_2_173 : Cond.methodLink RX2 3 (⟨"java/lang/Object", "<init>", "()V"⟩ : MethodName) ∈ WG := wg_in (lt_2 (List.mem_of_getElem? (i := 173) rfl)) rfl
theorem kw_2_174 : Cond.fieldLink RX2 9 RX2 "there" "[J" ∈ WG := wg_in (lt_2 (List.mem_of_getElem? (i := 174) rfl)) rfl
theorem kw_2_175 : Cond.fieldLink RX8 78 RX2 "there" "[J" ∈ WG := wg_in (lt_2 (List.mem_of_getElem? (i := 175) rfl)) rfl
theorem kw_2_176 : Cond.fieldLink RX2 15 RX2 "arrived" "[J" ∈ WG := wg_in (lt_2 (List.mem_of_getElem? (i := 176) rfl)) rfl
theorem kw_2_177 : Cond.fieldLink RX2 18 RX2 "carried" "[J" ∈ WG := wg_in (lt_2 (List.mem_of_getElem? (i := 177) rfl)) rfl
theorem kw_2_178 : Cond.fieldLink RX2 21 RX2 "heldBefore" "[J" ∈ WG := wg_in (lt_2 (List.mem_of_getElem? (i := 178) rfl)) rfl
theorem kw_2_179 : Cond.fieldLink RX2 24 RX2 "sent" "[J" ∈ WG := wg_in (lt_2 (List.mem_of_getElem? (i := 179) rfl)) rfl
theorem kw_2_180 : Cond.fieldLink RX8 84 RX2 "sent" "[J" ∈ WG := wg_in (lt_2 (List.mem_of_getElem? (i := 180) rfl)) rfl
theorem kw_2_181 : Cond.fieldLink RX8 66 RX2 "broken" "J" ∈ WG := wg_in (lt_2 (List.mem_of_getElem? (i := 181) rfl)) rfl
theorem kw_2_182 : Cond.fieldLink RX9 140 RX2 "broken" "J" ∈ WG := wg_in (lt_2 (List.mem_of_getElem? (i := 182) rfl)) rfl
theorem kw_2_183 : Cond.fieldLink RX2 171 RX2 "broken" "J" ∈ WG := wg_in (lt_2 (List.mem_of_getElem? (i := 183) rfl)) rfl
theorem kw_2_184 : Cond.fieldLink RX8 72 RX2 "good" "J" ∈ WG := wg_in (lt_2 (List.mem_of_getElem? (i := 184) rfl)) rfl
theorem kw_2_185 : Cond.fieldLink RX2 175 RX2 "good" "J" ∈ WG := wg_in (lt_2 (List.mem_of_getElem? (i := 185) rfl)) rfl
theorem kw_2_186 : Cond.fieldLink RX2 27 RX2 "works" "LFallTrials$Works;" ∈ WG := wg_in (lt_2 (List.mem_of_getElem? (i := 186) rfl)) rfl
theorem kw_2_187 : Cond.fieldLink RX2 37 RX2 "book" "LFallTrials$Book;" ∈ WG := wg_in (lt_2 (List.mem_of_getElem? (i := 187) rfl)) rfl
theorem kw_2_188 : Cond.fieldLink RX2 38 RX2 "falls" "LFallTrials$FallLanes;" ∈ WG := wg_in (lt_2 (List.mem_of_getElem? (i := 188) rfl)) rfl
theorem kw_2_210 : Cond.classLink RX9 72 RX7 ∈ WG := wg_in (lt_2 (List.mem_of_getElem? (i := 210) rfl)) rfl
theorem kw_2_211 : Cond.instantiable RX7 5 ∈ WG := wg_in (lt_2 (List.mem_of_getElem? (i := 211) rfl)) rfl
theorem kw_2_212 : Cond.methodLink RX9 74 yX7_init ∈ WG := wg_in (lt_2 (List.mem_of_getElem? (i := 212) rfl)) rfl
theorem kw_2_213 : Cond.instanceMethod yX7_init ∈ WG := wg_in (lt_2 (List.mem_of_getElem? (i := 213) rfl)) rfl
theorem kw_2_214 : Cond.code yX7_init cX7_init 4 none ∈ WG := wg_in (lt_2 (List.mem_of_getElem? (i := 214) rfl)) rfl
theorem kw_2_215 : Cond.methodLink RX7 3 (⟨"java/lang/Object", "<init>", "()V"⟩ : MethodName) ∈ WG := wg_in (lt_2 (List.mem_of_getElem? (i := 215) rfl)) rfl
theorem kw_2_216 : Cond.fieldLink RX7 9 RX7 "stand" "[J" ∈ WG := wg_in (lt_2 (List.mem_of_getElem? (i := 216) rfl)) rfl
theorem kw_2_217 : Cond.fieldLink RX11 226 RX7 "stand" "[J" ∈ WG := wg_in (lt_2 (List.mem_of_getElem? (i := 217) rfl)) rfl
theorem kw_2_218 : Cond.fieldLink RX7 15 RX7 "works" "LFallTrials$Works;" ∈ WG := wg_in (lt_2 (List.mem_of_getElem? (i := 218) rfl)) rfl
theorem kw_2_219 : Cond.fieldLink RX7 25 RX7 "book" "LFallTrials$Book;" ∈ WG := wg_in (lt_2 (List.mem_of_getElem? (i := 219) rfl)) rfl
theorem kw_2_220 : Cond.fieldLink RX7 26 RX7 "base" "LFallTrials$Trace;" ∈ WG := wg_in (lt_2 (List.mem_of_getElem? (i := 220) rfl)) rfl
theorem kw_2_221 : Cond.fieldLink RX7 30 RX7 "put" "LFallTrials$FallLanes;" ∈ WG := wg_in (lt_2 (List.mem_of_getElem? (i := 221) rfl)) rfl
theorem kw_2_233 : Cond.fieldLink RX9 12 RX9 "purse" "LFallTrials$Purse;" ∈ WG := wg_in (lt_2 (List.mem_of_getElem? (i := 233) rfl)) rfl
theorem kw_2_234 : Cond.fieldLink RX11 139 RX9 "purse" "LFallTrials$Purse;" ∈ WG := wg_in (lt_2 (List.mem_of_getElem? (i := 234) rfl)) rfl
theorem kw_2_235 : Cond.fieldLink RX9 21 RX9 "single" "LFallTrials$FallLanes;" ∈ WG := wg_in (lt_2 (List.mem_of_getElem? (i := 235) rfl)) rfl
theorem kw_2_236 : Cond.fieldLink RX9 25 RX9 "many" "LFallTrials$FallLanes;" ∈ WG := wg_in (lt_2 (List.mem_of_getElem? (i := 236) rfl)) rfl
theorem kw_2_237 : Cond.fieldLink RX9 30 RX9 "formulas" "[LFallTrials$Trace;" ∈ WG := wg_in (lt_2 (List.mem_of_getElem? (i := 237) rfl)) rfl
theorem kw_2_238 : Cond.fieldLink RX9 39 RX9 "tryingSet" "LFallTrials$Numbers;" ∈ WG := wg_in (lt_2 (List.mem_of_getElem? (i := 238) rfl)) rfl
theorem kw_2_239 : Cond.fieldLink RX9 43 RX9 "foundSet" "LFallTrials$Numbers;" ∈ WG := wg_in (lt_2 (List.mem_of_getElem? (i := 239) rfl)) rfl
theorem kw_3_0 : Cond.fieldLink RX11 246 RX9 "foundSet" "LFallTrials$Numbers;" ∈ WG := wg_in (lt_3 (List.mem_of_getElem? (i := 0) rfl)) rfl
theorem kw_3_1 : Cond.fieldLink RX9 46 RX9 "exactSet" "LFallTrials$Numbers;" ∈ WG := wg_in (lt_3 (List.mem_of_getElem? (i := 1) rfl)) rfl
theorem kw_3_2 : Cond.fieldLink RX11 255 RX9 "exactSet" "LFallTrials$Numbers;" ∈ WG := wg_in (lt_3 (List.mem_of_getElem? (i := 2) rfl)) rfl
theorem kw_3_3 : Cond.fieldLink RX9 49 RX9 "empty" "LFallTrials$Numbers;" ∈ WG := wg_in (lt_3 (List.mem_of_getElem? (i := 3) rfl)) rfl
theorem kw_3_4 : Cond.fieldLink RX9 68 RX9 "course" "LFallTrials$Course;" ∈ WG := wg_in (lt_3 (List.mem_of_getElem? (i := 4) rfl)) rfl
theorem kw_3_5 : Cond.fieldLink RX9 77 RX9 "support" "LFallTrials$Support;" ∈ WG := wg_in (lt_3 (List.mem_of_getElem? (i := 5) rfl)) rfl
theorem kw_3_6 : Cond.fieldLink RX11 222 RX9 "support" "LFallTrials$Support;" ∈ WG := wg_in (lt_3 (List.mem_of_getElem? (i := 6) rfl)) rfl
theorem kw_3_7 : Cond.fieldLink RX9 52 RX9 "triedRuns" "I" ∈ WG := wg_in (lt_3 (List.mem_of_getElem? (i := 7) rfl)) rfl
theorem kw_3_8 : Cond.fieldLink RX11 240 RX9 "triedRuns" "I" ∈ WG := wg_in (lt_3 (List.mem_of_getElem? (i := 8) rfl)) rfl
theorem kw_3_9 : Cond.fieldLink RX9 56 RX9 "formulaCount" "I" ∈ WG := wg_in (lt_3 (List.mem_of_getElem? (i := 9) rfl)) rfl
theorem kw_3_10 : Cond.fieldLink RX11 243 RX9 "formulaCount" "I" ∈ WG := wg_in (lt_3 (List.mem_of_getElem? (i := 10) rfl)) rfl
theorem kw_3_11 : Cond.fieldLink RX9 59 RX9 "thinSize" "I" ∈ WG := wg_in (lt_3 (List.mem_of_getElem? (i := 11) rfl)) rfl
theorem kw_3_12 : Cond.fieldLink RX11 281 RX9 "thinSize" "I" ∈ WG := wg_in (lt_3 (List.mem_of_getElem? (i := 12) rfl)) rfl
theorem kw_3_40 : Cond.classLink RX11 69 RX8 ∈ WG := wg_in (lt_3 (List.mem_of_getElem? (i := 40) rfl)) rfl
theorem kw_3_42 : Cond.fieldLink RX11 21 RX11 "reader" "LFallTrials$Reader;" ∈ WG := wg_in (lt_3 (List.mem_of_getElem? (i := 42) rfl)) rfl
theorem kw_3_43 : Cond.fieldLink RX11 28 RX11 "works" "LFallTrials$Works;" ∈ WG := wg_in (lt_3 (List.mem_of_getElem? (i := 43) rfl)) rfl
theorem kw_3_44 : Cond.fieldLink RX11 35 RX11 "guess" "LFallTrials$Works;" ∈ WG := wg_in (lt_3 (List.mem_of_getElem? (i := 44) rfl)) rfl
theorem kw_3_45 : Cond.fieldLink RX11 43 RX11 "falls" "LFallTrials$Numbers;" ∈ WG := wg_in (lt_3 (List.mem_of_getElem? (i := 45) rfl)) rfl
theorem kw_3_46 : Cond.fieldLink RX11 47 RX11 "nothing" "LFallTrials$Numbers;" ∈ WG := wg_in (lt_3 (List.mem_of_getElem? (i := 46) rfl)) rfl
theorem kw_3_47 : Cond.fieldLink RX11 50 RX11 "fewer" "LFallTrials$Numbers;" ∈ WG := wg_in (lt_3 (List.mem_of_getElem? (i := 47) rfl)) rfl
theorem kw_3_48 : Cond.fieldLink RX11 53 RX11 "toldMends" "LFallTrials$Numbers;" ∈ WG := wg_in (lt_3 (List.mem_of_getElem? (i := 48) rfl)) rfl
theorem kw_3_49 : Cond.fieldLink RX11 56 RX11 "keptSets" "[LFallTrials$Numbers;" ∈ WG := wg_in (lt_3 (List.mem_of_getElem? (i := 49) rfl)) rfl
theorem kw_3_50 : Cond.fieldLink RX11 65 RX11 "trials" "LFallTrials$Trials;" ∈ WG := wg_in (lt_3 (List.mem_of_getElem? (i := 50) rfl)) rfl
theorem kw_3_51 : Cond.fieldLink RX11 72 RX11 "with" "LFallTrials$Trace;" ∈ WG := wg_in (lt_3 (List.mem_of_getElem? (i := 51) rfl)) rfl
theorem kw_3_52 : Cond.fieldLink RX11 76 RX11 "without" "LFallTrials$Trace;" ∈ WG := wg_in (lt_3 (List.mem_of_getElem? (i := 52) rfl)) rfl
theorem kw_3_53 : Cond.fieldLink RX11 79 RX11 "chain" "[I" ∈ WG := wg_in (lt_3 (List.mem_of_getElem? (i := 53) rfl)) rfl
theorem kw_3_54 : Cond.fieldLink RX11 12 RX11 "draft" "LFallTrials$Book;" ∈ WG := wg_in (lt_3 (List.mem_of_getElem? (i := 54) rfl)) rfl
theorem kw_3_55 : Cond.fieldLink RX11 111 RX11 "hasBook" "Z" ∈ WG := wg_in (lt_3 (List.mem_of_getElem? (i := 55) rfl)) rfl
theorem kw_3_56 : Cond.fieldLink RX11 118 RX11 "keptCount" "I" ∈ WG := wg_in (lt_3 (List.mem_of_getElem? (i := 56) rfl)) rfl
theorem kw_3_57 : Cond.fieldLink RX11 133 RX11 "refusal" "I" ∈ WG := wg_in (lt_3 (List.mem_of_getElem? (i := 57) rfl)) rfl
theorem kw_3_58 : Cond.fieldLink RX11 101 RX11 "flaw" "I" ∈ WG := wg_in (lt_3 (List.mem_of_getElem? (i := 58) rfl)) rfl
theorem kw_3_59 : Cond.fieldLink RX11 105 RX11 "flawPlace" "I" ∈ WG := wg_in (lt_3 (List.mem_of_getElem? (i := 59) rfl)) rfl
theorem kw_3_97 : Cond.methodLink RL 23 yX11_feed ∈ WG := wg_in (lt_3 (List.mem_of_getElem? (i := 97) rfl)) rfl
theorem kw_3_98 : Cond.instanceMethod yX11_feed ∈ WG := wg_in (lt_3 (List.mem_of_getElem? (i := 98) rfl)) rfl
theorem kw_3_99 : Cond.selects RX11 yX11_feed yX11_feed ∈ WG := wg_in (lt_3 (List.mem_of_getElem? (i := 99) rfl)) rfl
theorem kw_3_100 : Cond.code yX11_feed cX11_feed 6 (some .int) ∈ WG := wg_in (lt_3 (List.mem_of_getElem? (i := 100) rfl)) rfl
theorem kw_3_101 : Cond.methodLink RX11 87 yX6_takeNumber ∈ WG := wg_in (lt_3 (List.mem_of_getElem? (i := 101) rfl)) rfl
theorem kw_3_102 : Cond.instanceMethod yX6_takeNumber ∈ WG := wg_in (lt_3 (List.mem_of_getElem? (i := 102) rfl)) rfl
theorem kw_3_103 : Cond.selects RX6 yX6_takeNumber yX6_takeNumber ∈ WG := wg_in (lt_3 (List.mem_of_getElem? (i := 103) rfl)) rfl
theorem kw_3_104 : Cond.code yX6_takeNumber cX6_takeNumber 3 none ∈ WG := wg_in (lt_3 (List.mem_of_getElem? (i := 104) rfl)) rfl
theorem kw_3_105 : Cond.methodLink RL 28 yX11_book ∈ WG := wg_in (lt_3 (List.mem_of_getElem? (i := 105) rfl)) rfl
theorem kw_3_106 : Cond.instanceMethod yX11_book ∈ WG := wg_in (lt_3 (List.mem_of_getElem? (i := 106) rfl)) rfl
theorem kw_3_107 : Cond.selects RX11 yX11_book yX11_book ∈ WG := wg_in (lt_3 (List.mem_of_getElem? (i := 107) rfl)) rfl
theorem kw_3_108 : Cond.code yX11_book cX11_book 4 (some .int) ∈ WG := wg_in (lt_3 (List.mem_of_getElem? (i := 108) rfl)) rfl
theorem kw_3_109 : Cond.methodLink RX11 90 yX11_refuse ∈ WG := wg_in (lt_3 (List.mem_of_getElem? (i := 109) rfl)) rfl
theorem kw_3_111 : Cond.instanceMethod yX11_refuse ∈ WG := wg_in (lt_3 (List.mem_of_getElem? (i := 111) rfl)) rfl
theorem kw_3_112 : Cond.code yX11_refuse cX11_refuse 2 (some .int) ∈ WG := wg_in (lt_3 (List.mem_of_getElem? (i := 112) rfl)) rfl
theorem kw_3_113 : Cond.methodLink RX11 94 yX6_read ∈ WG := wg_in (lt_3 (List.mem_of_getElem? (i := 113) rfl)) rfl
theorem kw_3_114 : Cond.instanceMethod yX6_read ∈ WG := wg_in (lt_3 (List.mem_of_getElem? (i := 114) rfl)) rfl
theorem kw_3_115 : Cond.selects RX6 yX6_read yX6_read ∈ WG := wg_in (lt_3 (List.mem_of_getElem? (i := 115) rfl)) rfl
theorem kw_3_116 : Cond.code yX6_read cX6_read 5 (some .boolean) ∈ WG := wg_in (lt_3 (List.mem_of_getElem? (i := 116) rfl)) rfl
theorem kw_3_117 : Cond.methodLink RX6 31 yJ9_min_7cf53 ∈ WG := wg_in (lt_3 (List.mem_of_getElem? (i := 117) rfl)) rfl
theorem kw_3_118 : Cond.static yJ9_min_7cf53 ∈ WG := wg_in (lt_3 (List.mem_of_getElem? (i := 118) rfl)) rfl
theorem kw_3_119 : Cond.code yJ9_min_7cf53 cJ9_min_7cf53 2 (some .int) ∈ WG := wg_in (lt_3 (List.mem_of_getElem? (i := 119) rfl)) rfl
theorem kw_3_120 : Cond.methodLink RX6 37 yJ9_max_7cf53 ∈ WG := wg_in (lt_3 (List.mem_of_getElem? (i := 120) rfl)) rfl
theorem kw_3_121 : Cond.static yJ9_max_7cf53 ∈ WG := wg_in (lt_3 (List.mem_of_getElem? (i := 121) rfl)) rfl
theorem kw_3_122 : Cond.code yJ9_max_7cf53 cJ9_max_7cf53 2 (some .int) ∈ WG := wg_in (lt_3 (List.mem_of_getElem? (i := 122) rfl)) rfl
theorem kw_3_123 : Cond.methodLink RX6 52 yX0_wipe ∈ WG := wg_in (lt_3 (List.mem_of_getElem? (i := 123) rfl)) rfl
theorem kw_3_124 : Cond.instanceMethod yX0_wipe ∈ WG := wg_in (lt_3 (List.mem_of_getElem? (i := 124) rfl)) rfl
theorem kw_3_125 : Cond.selects RX0 yX0_wipe yX0_wipe ∈ WG := wg_in (lt_3 (List.mem_of_getElem? (i := 125) rfl)) rfl
theorem kw_3_126 : Cond.code yX0_wipe cX0_wipe 1 none ∈ WG := wg_in (lt_3 (List.mem_of_getElem? (i := 126) rfl)) rfl
theorem kw_3_127 : Cond.methodLink RX6 57 yX6_step ∈ WG := wg_in (lt_3 (List.mem_of_getElem? (i := 127) rfl)) rfl
theorem kw_3_128 : Cond.instanceMethod yX6_step ∈ WG := wg_in (lt_3 (List.mem_of_getElem? (i := 128) rfl)) rfl
theorem kw_3_129 : Cond.selects RX6 yX6_step yX6_step ∈ WG := wg_in (lt_3 (List.mem_of_getElem? (i := 129) rfl)) rfl
theorem kw_3_130 : Cond.code yX6_step cX6_step 2 none ∈ WG := wg_in (lt_3 (List.mem_of_getElem? (i := 130) rfl)) rfl
theorem kw_3_132 : Cond.methodLink RX6 62 yX6_spells ∈ WG := wg_in (lt_3 (List.mem_of_getElem? (i := 132) rfl)) rfl
theorem kw_3_133 : Cond.instanceMethod yX6_spells ∈ WG := wg_in (lt_3 (List.mem_of_getElem? (i := 133) rfl)) rfl
theorem kw_3_134 : Cond.selects RX6 yX6_spells yX6_spells ∈ WG := wg_in (lt_3 (List.mem_of_getElem? (i := 134) rfl)) rfl
theorem kw_3_135 : Cond.code yX6_spells cX6_spells 3 (some .boolean) ∈ WG := wg_in (lt_3 (List.mem_of_getElem? (i := 135) rfl)) rfl
theorem kw_3_136 : Cond.methodLink RX6 105 yJ0_length_8abf5 ∈ WG := wg_in (lt_3 (List.mem_of_getElem? (i := 136) rfl)) rfl
theorem kw_3_137 : Cond.instanceMethod yJ0_length_8abf5 ∈ WG := wg_in (lt_3 (List.mem_of_getElem? (i := 137) rfl)) rfl
theorem kw_3_138 : Cond.selects RJ0 yJ0_length_8abf5 yJ0_length_8abf5 ∈ WG := wg_in (lt_3 (List.mem_of_getElem? (i := 138) rfl)) rfl
theorem kw_3_139 : Cond.code yJ0_length_8abf5 cJ0_length_8abf5 1 (some .int) ∈ WG := wg_in (lt_3 (List.mem_of_getElem? (i := 139) rfl)) rfl
theorem kw_3_140 : Cond.methodLink RJ0 335 yJ0_coder_7d493 ∈ WG := wg_in (lt_3 (List.mem_of_getElem? (i := 140) rfl)) rfl
theorem kw_3_141 : Cond.instanceMethod yJ0_coder_7d493 ∈ WG := wg_in (lt_3 (List.mem_of_getElem? (i := 141) rfl)) rfl
theorem kw_3_142 : Cond.selects RJ0 yJ0_coder_7d493 yJ0_coder_7d493 ∈ WG := wg_in (lt_3 (List.mem_of_getElem? (i := 142) rfl)) rfl
theorem kw_3_143 : Cond.code yJ0_coder_7d493 cJ0_coder_7d493 1 (some .byte) ∈ WG := wg_in (lt_3 (List.mem_of_getElem? (i := 143) rfl)) rfl
theorem kw_3_144 : Cond.fieldLink RJ0 38 RJ0 "COMPACT_STRINGS" "Z" ∈ WG := wg_in (lt_3 (List.mem_of_getElem? (i := 144) rfl)) rfl
theorem kw_3_146 : Cond.methodLink RX6 111 yJ0_charAt_5068e ∈ WG := wg_in (lt_3 (List.mem_of_getElem? (i := 146) rfl)) rfl
theorem kw_3_147 : Cond.instanceMethod yJ0_charAt_5068e ∈ WG := wg_in (lt_3 (List.mem_of_getElem? (i := 147) rfl)) rfl
theorem kw_3_148 : Cond.selects RJ0 yJ0_charAt_5068e yJ0_charAt_5068e ∈ WG := wg_in (lt_3 (List.mem_of_getElem? (i := 148) rfl)) rfl
theorem kw_3_149 : Cond.code yJ0_charAt_5068e cJ0_charAt_5068e 2 (some .char) ∈ WG := wg_in (lt_3 (List.mem_of_getElem? (i := 149) rfl)) rfl
theorem kw_3_150 : Cond.methodLink RJ0 492 yJ0_isLatin1_aae02 ∈ WG := wg_in (lt_3 (List.mem_of_getElem? (i := 150) rfl)) rfl
theorem kw_3_151 : Cond.instanceMethod yJ0_isLatin1_aae02 ∈ WG := wg_in (lt_3 (List.mem_of_getElem? (i := 151) rfl)) rfl
theorem kw_3_152 : Cond.selects RJ0 yJ0_isLatin1_aae02 yJ0_isLatin1_aae02 ∈ WG := wg_in (lt_3 (List.mem_of_getElem? (i := 152) rfl)) rfl
theorem kw_3_153 : Cond.code yJ0_isLatin1_aae02 cJ0_isLatin1_aae02 1 (some .boolean) ∈ WG := wg_in (lt_3 (List.mem_of_getElem? (i := 153) rfl)) rfl
theorem kw_3_154 : Cond.methodLink RJ0 495 yJ1_charAt_3b067 ∈ WG := wg_in (lt_3 (List.mem_of_getElem? (i := 154) rfl)) rfl
theorem kw_3_155 : Cond.static yJ1_charAt_3b067 ∈ WG := wg_in (lt_3 (List.mem_of_getElem? (i := 155) rfl)) rfl
theorem kw_3_156 : Cond.code yJ1_charAt_3b067 cJ1_charAt_3b067 2 (some .char) ∈ WG := wg_in (lt_3 (List.mem_of_getElem? (i := 156) rfl)) rfl
theorem kw_3_157 : Cond.methodLink RJ1 9 yJ0_checkIndex_df160 ∈ WG := wg_in (lt_3 (List.mem_of_getElem? (i := 157) rfl)) rfl
theorem kw_3_158 : Cond.static yJ0_checkIndex_df160 ∈ WG := wg_in (lt_3 (List.mem_of_getElem? (i := 158) rfl)) rfl
theorem kw_3_159 : Cond.code yJ0_checkIndex_df160 cJ0_checkIndex_df160 2 none ∈ WG := wg_in (lt_3 (List.mem_of_getElem? (i := 159) rfl)) rfl
theorem kw_3_160 : Cond.fieldLink RJ0 1053 RJ3 "SIOOBE_FORMATTER" "Ljava/util/function/BiFunction;" ∈ WG := wg_in (lt_3 (List.mem_of_getElem? (i := 160) rfl)) rfl
theorem kw_3_162 : Cond.methodLink RJ0 1059 yJ3_checkIndex_8e157 ∈ WG := wg_in (lt_3 (List.mem_of_getElem? (i := 162) rfl)) rfl
theorem kw_3_163 : Cond.static yJ3_checkIndex_8e157 ∈ WG := wg_in (lt_3 (List.mem_of_getElem? (i := 163) rfl)) rfl
theorem kw_3_164 : Cond.code yJ3_checkIndex_8e157 cJ3_checkIndex_8e157 3 (some .int) ∈ WG := wg_in (lt_3 (List.mem_of_getElem? (i := 164) rfl)) rfl
theorem kw_3_165 : Cond.methodLink RJ0 498 yJ2_charAt_3b067 ∈ WG := wg_in (lt_3 (List.mem_of_getElem? (i := 165) rfl)) rfl
theorem kw_3_166 : Cond.static yJ2_charAt_3b067 ∈ WG := wg_in (lt_3 (List.mem_of_getElem? (i := 166) rfl)) rfl
theorem kw_3_167 : Cond.code yJ2_charAt_3b067 cJ2_charAt_3b067 2 (some .char) ∈ WG := wg_in (lt_3 (List.mem_of_getElem? (i := 167) rfl)) rfl
theorem kw_3_168 : Cond.methodLink RJ2 67 yJ2_checkIndex_2214a ∈ WG := wg_in (lt_3 (List.mem_of_getElem? (i := 168) rfl)) rfl
theorem kw_3_169 : Cond.static yJ2_checkIndex_2214a ∈ WG := wg_in (lt_3 (List.mem_of_getElem? (i := 169) rfl)) rfl
theorem kw_3_170 : Cond.code yJ2_checkIndex_2214a cJ2_checkIndex_2214a 2 none ∈ WG := wg_in (lt_3 (List.mem_of_getElem? (i := 170) rfl)) rfl
theorem kw_3_171 : Cond.methodLink RJ2 48 yJ2_length_9d52b ∈ WG := wg_in (lt_3 (List.mem_of_getElem? (i := 171) rfl)) rfl
theorem kw_3_172 : Cond.static yJ2_length_9d52b ∈ WG := wg_in (lt_3 (List.mem_of_getElem? (i := 172) rfl)) rfl
theorem kw_3_173 : Cond.code yJ2_length_9d52b cJ2_length_9d52b 1 (some .int) ∈ WG := wg_in (lt_3 (List.mem_of_getElem? (i := 173) rfl)) rfl
theorem kw_3_174 : Cond.methodLink RJ2 414 yJ0_checkIndex_df160 ∈ WG := wg_in (lt_3 (List.mem_of_getElem? (i := 174) rfl)) rfl
theorem kw_3_175 : Cond.methodLink RJ2 71 yJ2_getChar_3b067 ∈ WG := wg_in (lt_3 (List.mem_of_getElem? (i := 175) rfl)) rfl
theorem kw_3_176 : Cond.static yJ2_getChar_3b067 ∈ WG := wg_in (lt_3 (List.mem_of_getElem? (i := 176) rfl)) rfl
theorem kw_3_177 : Cond.code yJ2_getChar_3b067 cJ2_getChar_3b067 2 (some .char) ∈ WG := wg_in (lt_3 (List.mem_of_getElem? (i := 177) rfl)) rfl
theorem kw_3_178 : Cond.fieldLink RJ2 44 RJ2 "$assertionsDisabled" "Z" ∈ WG := wg_in (lt_3 (List.mem_of_getElem? (i := 178) rfl)) rfl
theorem kw_3_180 : Cond.fieldLink RJ2 59 RJ2 "HI_BYTE_SHIFT" "I" ∈ WG := wg_in (lt_3 (List.mem_of_getElem? (i := 180) rfl)) rfl
theorem kw_3_182 : Cond.fieldLink RJ2 63 RJ2 "LO_BYTE_SHIFT" "I" ∈ WG := wg_in (lt_3 (List.mem_of_getElem? (i := 182) rfl)) rfl
theorem kw_3_184 : Cond.methodLink RX6 66 yX6_readPromise ∈ WG := wg_in (lt_3 (List.mem_of_getElem? (i := 184) rfl)) rfl
theorem kw_3_185 : Cond.instanceMethod yX6_readPromise ∈ WG := wg_in (lt_3 (List.mem_of_getElem? (i := 185) rfl)) rfl
theorem kw_3_186 : Cond.selects RX6 yX6_readPromise yX6_readPromise ∈ WG := wg_in (lt_3 (List.mem_of_getElem? (i := 186) rfl)) rfl
theorem kw_3_187 : Cond.code yX6_readPromise cX6_readPromise 1 (some .boolean) ∈ WG := wg_in (lt_3 (List.mem_of_getElem? (i := 187) rfl)) rfl
theorem kw_3_189 : Cond.methodLink RX6 215 yX6_readPlaces ∈ WG := wg_in (lt_3 (List.mem_of_getElem? (i := 189) rfl)) rfl
theorem kw_3_190 : Cond.instanceMethod yX6_readPlaces ∈ WG := wg_in (lt_3 (List.mem_of_getElem? (i := 190) rfl)) rfl
theorem kw_3_191 : Cond.selects RX6 yX6_readPlaces yX6_readPlaces ∈ WG := wg_in (lt_3 (List.mem_of_getElem? (i := 191) rfl)) rfl
theorem kw_3_192 : Cond.code yX6_readPlaces cX6_readPlaces 6 (some .int) ∈ WG := wg_in (lt_3 (List.mem_of_getElem? (i := 192) rfl)) rfl
theorem kw_3_193 : Cond.methodLink RX6 136 yX6_rowHere ∈ WG := wg_in (lt_3 (List.mem_of_getElem? (i := 193) rfl)) rfl
theorem kw_3_194 : Cond.instanceMethod yX6_rowHere ∈ WG := wg_in (lt_3 (List.mem_of_getElem? (i := 194) rfl)) rfl
theorem kw_3_195 : Cond.selects RX6 yX6_rowHere yX6_rowHere ∈ WG := wg_in (lt_3 (List.mem_of_getElem? (i := 195) rfl)) rfl
theorem kw_3_196 : Cond.code yX6_rowHere cX6_rowHere 2 (some .int) ∈ WG := wg_in (lt_3 (List.mem_of_getElem? (i := 196) rfl)) rfl
theorem kw_3_197 : Cond.methodLink RX6 130 yX6_isName ∈ WG := wg_in (lt_3 (List.mem_of_getElem? (i := 197) rfl)) rfl
theorem kw_3_198 : Cond.instanceMethod yX6_isName ∈ WG := wg_in (lt_3 (List.mem_of_getElem? (i := 198) rfl)) rfl
theorem kw_3_199 : Cond.selects RX6 yX6_isName yX6_isName ∈ WG := wg_in (lt_3 (List.mem_of_getElem? (i := 199) rfl)) rfl
theorem kw_3_200 : Cond.code yX6_isName cX6_isName 1 (some .boolean) ∈ WG := wg_in (lt_3 (List.mem_of_getElem? (i := 200) rfl)) rfl
theorem kw_3_210 : Cond.methodLink RX6 95 yX6_flawed ∈ WG := wg_in (lt_3 (List.mem_of_getElem? (i := 210) rfl)) rfl
theorem kw_3_211 : Cond.instanceMethod yX6_flawed ∈ WG := wg_in (lt_3 (List.mem_of_getElem? (i := 211) rfl)) rfl
theorem kw_3_212 : Cond.selects RX6 yX6_flawed yX6_flawed ∈ WG := wg_in (lt_3 (List.mem_of_getElem? (i := 212) rfl)) rfl
theorem kw_3_213 : Cond.code yX6_flawed cX6_flawed 2 (some .boolean) ∈ WG := wg_in (lt_3 (List.mem_of_getElem? (i := 213) rfl)) rfl
theorem kw_3_214 : Cond.methodLink RX6 133 yX6_meaning ∈ WG := wg_in (lt_3 (List.mem_of_getElem? (i := 214) rfl)) rfl
theorem kw_3_215 : Cond.instanceMethod yX6_meaning ∈ WG := wg_in (lt_3 (List.mem_of_getElem? (i := 215) rfl)) rfl
theorem kw_3_216 : Cond.selects RX6 yX6_meaning yX6_meaning ∈ WG := wg_in (lt_3 (List.mem_of_getElem? (i := 216) rfl)) rfl
theorem kw_3_217 : Cond.code yX6_meaning cX6_meaning 4 (some .int) ∈ WG := wg_in (lt_3 (List.mem_of_getElem? (i := 217) rfl)) rfl
theorem kw_3_218 : Cond.methodLink RX6 126 yX6_spelling ∈ WG := wg_in (lt_3 (List.mem_of_getElem? (i := 218) rfl)) rfl
theorem kw_3_219 : Cond.instanceMethod yX6_spelling ∈ WG := wg_in (lt_3 (List.mem_of_getElem? (i := 219) rfl)) rfl
theorem kw_3_220 : Cond.selects RX6 yX6_spelling yX6_spelling ∈ WG := wg_in (lt_3 (List.mem_of_getElem? (i := 220) rfl)) rfl
theorem kw_3_221 : Cond.code yX6_spelling cX6_spelling 4 (some .long) ∈ WG := wg_in (lt_3 (List.mem_of_getElem? (i := 221) rfl)) rfl
theorem kw_3_222 : Cond.constantLong RX6 124 (32) ∈ WG := wg_in (lt_3 (List.mem_of_getElem? (i := 222) rfl)) rfl
theorem kw_3_223 : Cond.methodLink RX6 161 yX6_stepTo ∈ WG := wg_in (lt_3 (List.mem_of_getElem? (i := 223) rfl)) rfl
theorem kw_3_224 : Cond.instanceMethod yX6_stepTo ∈ WG := wg_in (lt_3 (List.mem_of_getElem? (i := 224) rfl)) rfl
theorem kw_3_225 : Cond.selects RX6 yX6_stepTo yX6_stepTo ∈ WG := wg_in (lt_3 (List.mem_of_getElem? (i := 225) rfl)) rfl
theorem kw_3_226 : Cond.code yX6_stepTo cX6_stepTo 2 (some .boolean) ∈ WG := wg_in (lt_3 (List.mem_of_getElem? (i := 226) rfl)) rfl
theorem kw_3_227 : Cond.methodLink RX6 164 yX6_stepToMachine ∈ WG := wg_in (lt_3 (List.mem_of_getElem? (i := 227) rfl)) rfl
theorem kw_3_228 : Cond.instanceMethod yX6_stepToMachine ∈ WG := wg_in (lt_3 (List.mem_of_getElem? (i := 228) rfl)) rfl
theorem kw_3_229 : Cond.selects RX6 yX6_stepToMachine yX6_stepToMachine ∈ WG := wg_in (lt_3 (List.mem_of_getElem? (i := 229) rfl)) rfl
theorem kw_3_230 : Cond.code yX6_stepToMachine cX6_stepToMachine 2 (some .int) ∈ WG := wg_in (lt_3 (List.mem_of_getElem? (i := 230) rfl)) rfl
theorem kw_3_232 : Cond.methodLink RX6 72 yX6_readMachine ∈ WG := wg_in (lt_3 (List.mem_of_getElem? (i := 232) rfl)) rfl
theorem kw_3_233 : Cond.instanceMethod yX6_readMachine ∈ WG := wg_in (lt_3 (List.mem_of_getElem? (i := 233) rfl)) rfl
theorem kw_3_234 : Cond.selects RX6 yX6_readMachine yX6_readMachine ∈ WG := wg_in (lt_3 (List.mem_of_getElem? (i := 234) rfl)) rfl
theorem kw_3_235 : Cond.code yX6_readMachine cX6_readMachine 1 (some .boolean) ∈ WG := wg_in (lt_3 (List.mem_of_getElem? (i := 235) rfl)) rfl
theorem kw_3_236 : Cond.methodLink RX6 142 yX6_stepToNewName ∈ WG := wg_in (lt_3 (List.mem_of_getElem? (i := 236) rfl)) rfl
theorem kw_3_237 : Cond.instanceMethod yX6_stepToNewName ∈ WG := wg_in (lt_3 (List.mem_of_getElem? (i := 237) rfl)) rfl
theorem kw_3_238 : Cond.selects RX6 yX6_stepToNewName yX6_stepToNewName ∈ WG := wg_in (lt_3 (List.mem_of_getElem? (i := 238) rfl)) rfl
theorem kw_3_239 : Cond.code yX6_stepToNewName cX6_stepToNewName 2 (some .boolean) ∈ WG := wg_in (lt_3 (List.mem_of_getElem? (i := 239) rfl)) rfl
theorem kw_4_0 : Cond.methodLink RX6 145 yX6_endsLine ∈ WG := wg_in (lt_4 (List.mem_of_getElem? (i := 0) rfl)) rfl
theorem kw_4_1 : Cond.instanceMethod yX6_endsLine ∈ WG := wg_in (lt_4 (List.mem_of_getElem? (i := 1) rfl)) rfl
theorem kw_4_2 : Cond.selects RX6 yX6_endsLine yX6_endsLine ∈ WG := wg_in (lt_4 (List.mem_of_getElem? (i := 2) rfl)) rfl
theorem kw_4_3 : Cond.code yX6_endsLine cX6_endsLine 1 (some .boolean) ∈ WG := wg_in (lt_4 (List.mem_of_getElem? (i := 3) rfl)) rfl
theorem kw_4_4 : Cond.methodLink RX6 77 yX6_readRow ∈ WG := wg_in (lt_4 (List.mem_of_getElem? (i := 4) rfl)) rfl
theorem kw_4_5 : Cond.instanceMethod yX6_readRow ∈ WG := wg_in (lt_4 (List.mem_of_getElem? (i := 5) rfl)) rfl
theorem kw_4_6 : Cond.selects RX6 yX6_readRow yX6_readRow ∈ WG := wg_in (lt_4 (List.mem_of_getElem? (i := 6) rfl)) rfl
theorem kw_4_7 : Cond.code yX6_readRow cX6_readRow 1 (some .boolean) ∈ WG := wg_in (lt_4 (List.mem_of_getElem? (i := 7) rfl)) rfl
theorem kw_4_9 : Cond.methodLink RX6 82 yX6_readFact ∈ WG := wg_in (lt_4 (List.mem_of_getElem? (i := 9) rfl)) rfl
theorem kw_4_10 : Cond.instanceMethod yX6_readFact ∈ WG := wg_in (lt_4 (List.mem_of_getElem? (i := 10) rfl)) rfl
theorem kw_4_11 : Cond.selects RX6 yX6_readFact yX6_readFact ∈ WG := wg_in (lt_4 (List.mem_of_getElem? (i := 11) rfl)) rfl
theorem kw_4_12 : Cond.code yX6_readFact cX6_readFact 4 (some .boolean) ∈ WG := wg_in (lt_4 (List.mem_of_getElem? (i := 12) rfl)) rfl
theorem kw_4_13 : Cond.methodLink RX6 158 yX6_stepToRow ∈ WG := wg_in (lt_4 (List.mem_of_getElem? (i := 13) rfl)) rfl
theorem kw_4_14 : Cond.instanceMethod yX6_stepToRow ∈ WG := wg_in (lt_4 (List.mem_of_getElem? (i := 14) rfl)) rfl
theorem kw_4_15 : Cond.selects RX6 yX6_stepToRow yX6_stepToRow ∈ WG := wg_in (lt_4 (List.mem_of_getElem? (i := 15) rfl)) rfl
theorem kw_4_16 : Cond.code yX6_stepToRow cX6_stepToRow 1 (some .int) ∈ WG := wg_in (lt_4 (List.mem_of_getElem? (i := 16) rfl)) rfl
theorem kw_4_18 : Cond.methodLink RX6 169 yX0_addFact ∈ WG := wg_in (lt_4 (List.mem_of_getElem? (i := 18) rfl)) rfl
theorem kw_4_19 : Cond.instanceMethod yX0_addFact ∈ WG := wg_in (lt_4 (List.mem_of_getElem? (i := 19) rfl)) rfl
theorem kw_4_20 : Cond.selects RX0 yX0_addFact yX0_addFact ∈ WG := wg_in (lt_4 (List.mem_of_getElem? (i := 20) rfl)) rfl
theorem kw_4_21 : Cond.code yX0_addFact cX0_addFact 4 none ∈ WG := wg_in (lt_4 (List.mem_of_getElem? (i := 21) rfl)) rfl
theorem kw_4_22 : Cond.methodLink RX6 87 yX6_readRule ∈ WG := wg_in (lt_4 (List.mem_of_getElem? (i := 22) rfl)) rfl
theorem kw_4_23 : Cond.instanceMethod yX6_readRule ∈ WG := wg_in (lt_4 (List.mem_of_getElem? (i := 23) rfl)) rfl
theorem kw_4_24 : Cond.selects RX6 yX6_readRule yX6_readRule ∈ WG := wg_in (lt_4 (List.mem_of_getElem? (i := 24) rfl)) rfl
theorem kw_4_25 : Cond.code yX6_readRule cX6_readRule 2 (some .boolean) ∈ WG := wg_in (lt_4 (List.mem_of_getElem? (i := 25) rfl)) rfl
theorem kw_4_26 : Cond.methodLink RX6 179 yX1_wipe ∈ WG := wg_in (lt_4 (List.mem_of_getElem? (i := 26) rfl)) rfl
theorem kw_4_27 : Cond.instanceMethod yX1_wipe ∈ WG := wg_in (lt_4 (List.mem_of_getElem? (i := 27) rfl)) rfl
theorem kw_4_28 : Cond.selects RX1 yX1_wipe yX1_wipe ∈ WG := wg_in (lt_4 (List.mem_of_getElem? (i := 28) rfl)) rfl
theorem kw_4_29 : Cond.code yX1_wipe cX1_wipe 1 none ∈ WG := wg_in (lt_4 (List.mem_of_getElem? (i := 29) rfl)) rfl
theorem kw_4_32 : Cond.methodLink RX6 191 yX6_readCases ∈ WG := wg_in (lt_4 (List.mem_of_getElem? (i := 32) rfl)) rfl
theorem kw_4_33 : Cond.instanceMethod yX6_readCases ∈ WG := wg_in (lt_4 (List.mem_of_getElem? (i := 33) rfl)) rfl
theorem kw_4_34 : Cond.selects RX6 yX6_readCases yX6_readCases ∈ WG := wg_in (lt_4 (List.mem_of_getElem? (i := 34) rfl)) rfl
theorem kw_4_35 : Cond.code yX6_readCases cX6_readCases 6 (some .boolean) ∈ WG := wg_in (lt_4 (List.mem_of_getElem? (i := 35) rfl)) rfl
theorem kw_4_36 : Cond.methodLink RX6 208 yX1_addCase ∈ WG := wg_in (lt_4 (List.mem_of_getElem? (i := 36) rfl)) rfl
theorem kw_4_37 : Cond.instanceMethod yX1_addCase ∈ WG := wg_in (lt_4 (List.mem_of_getElem? (i := 37) rfl)) rfl
theorem kw_4_38 : Cond.selects RX1 yX1_addCase yX1_addCase ∈ WG := wg_in (lt_4 (List.mem_of_getElem? (i := 38) rfl)) rfl
theorem kw_4_39 : Cond.code yX1_addCase cX1_addCase 3 none ∈ WG := wg_in (lt_4 (List.mem_of_getElem? (i := 39) rfl)) rfl
theorem kw_4_40 : Cond.methodLink RX6 92 yX6_readSend ∈ WG := wg_in (lt_4 (List.mem_of_getElem? (i := 40) rfl)) rfl
theorem kw_4_41 : Cond.instanceMethod yX6_readSend ∈ WG := wg_in (lt_4 (List.mem_of_getElem? (i := 41) rfl)) rfl
theorem kw_4_42 : Cond.selects RX6 yX6_readSend yX6_readSend ∈ WG := wg_in (lt_4 (List.mem_of_getElem? (i := 42) rfl)) rfl
theorem kw_4_43 : Cond.code yX6_readSend cX6_readSend 2 (some .boolean) ∈ WG := wg_in (lt_4 (List.mem_of_getElem? (i := 43) rfl)) rfl
theorem kw_4_45 : Cond.methodLink RX11 108 yX10_begin ∈ WG := wg_in (lt_4 (List.mem_of_getElem? (i := 45) rfl)) rfl
theorem kw_4_46 : Cond.instanceMethod yX10_begin ∈ WG := wg_in (lt_4 (List.mem_of_getElem? (i := 46) rfl)) rfl
theorem kw_4_47 : Cond.selects RX10 yX10_begin yX10_begin ∈ WG := wg_in (lt_4 (List.mem_of_getElem? (i := 47) rfl)) rfl
theorem kw_4_48 : Cond.code yX10_begin cX10_begin 2 none ∈ WG := wg_in (lt_4 (List.mem_of_getElem? (i := 48) rfl)) rfl
theorem kw_4_49 : Cond.methodLink RX11 115 yX4_wipe ∈ WG := wg_in (lt_4 (List.mem_of_getElem? (i := 49) rfl)) rfl
theorem kw_4_50 : Cond.instanceMethod yX4_wipe ∈ WG := wg_in (lt_4 (List.mem_of_getElem? (i := 50) rfl)) rfl
theorem kw_4_51 : Cond.selects RX4 yX4_wipe yX4_wipe ∈ WG := wg_in (lt_4 (List.mem_of_getElem? (i := 51) rfl)) rfl
theorem kw_4_52 : Cond.code yX4_wipe cX4_wipe 1 none ∈ WG := wg_in (lt_4 (List.mem_of_getElem? (i := 52) rfl)) rfl
theorem kw_4_53 : Cond.methodLink RX11 121 yX9_forget ∈ WG := wg_in (lt_4 (List.mem_of_getElem? (i := 53) rfl)) rfl
theorem kw_4_54 : Cond.instanceMethod yX9_forget ∈ WG := wg_in (lt_4 (List.mem_of_getElem? (i := 54) rfl)) rfl
theorem kw_4_55 : Cond.selects RX9 yX9_forget yX9_forget ∈ WG := wg_in (lt_4 (List.mem_of_getElem? (i := 55) rfl)) rfl
theorem kw_4_56 : Cond.code yX9_forget cX9_forget 1 none ∈ WG := wg_in (lt_4 (List.mem_of_getElem? (i := 56) rfl)) rfl
theorem kw_4_57 : Cond.methodLink RX9 81 yX5_beginAnew ∈ WG := wg_in (lt_4 (List.mem_of_getElem? (i := 57) rfl)) rfl
theorem kw_4_58 : Cond.instanceMethod yX5_beginAnew ∈ WG := wg_in (lt_4 (List.mem_of_getElem? (i := 58) rfl)) rfl
theorem kw_4_59 : Cond.selects RX5 yX5_beginAnew yX5_beginAnew ∈ WG := wg_in (lt_4 (List.mem_of_getElem? (i := 59) rfl)) rfl
theorem kw_4_60 : Cond.code yX5_beginAnew cX5_beginAnew 1 none ∈ WG := wg_in (lt_4 (List.mem_of_getElem? (i := 60) rfl)) rfl
theorem kw_4_61 : Cond.methodLink RX9 84 yX4_wipe ∈ WG := wg_in (lt_4 (List.mem_of_getElem? (i := 61) rfl)) rfl
theorem kw_4_62 : Cond.methodLink RX11 130 yX11_grant ∈ WG := wg_in (lt_4 (List.mem_of_getElem? (i := 62) rfl)) rfl
theorem kw_4_64 : Cond.instanceMethod yX11_grant ∈ WG := wg_in (lt_4 (List.mem_of_getElem? (i := 64) rfl)) rfl
theorem kw_4_65 : Cond.code yX11_grant cX11_grant 2 (some .int) ∈ WG := wg_in (lt_4 (List.mem_of_getElem? (i := 65) rfl)) rfl
theorem kw_4_66 : Cond.methodLink RL 32 yX11_fault ∈ WG := wg_in (lt_4 (List.mem_of_getElem? (i := 66) rfl)) rfl
theorem kw_4_67 : Cond.instanceMethod yX11_fault ∈ WG := wg_in (lt_4 (List.mem_of_getElem? (i := 67) rfl)) rfl
theorem kw_4_68 : Cond.selects RX11 yX11_fault yX11_fault ∈ WG := wg_in (lt_4 (List.mem_of_getElem? (i := 68) rfl)) rfl
theorem kw_4_69 : Cond.code yX11_fault cX11_fault 1 (some .int) ∈ WG := wg_in (lt_4 (List.mem_of_getElem? (i := 69) rfl)) rfl
theorem kw_4_70 : Cond.methodLink RL 37 yX11_where ∈ WG := wg_in (lt_4 (List.mem_of_getElem? (i := 70) rfl)) rfl
theorem kw_4_71 : Cond.instanceMethod yX11_where ∈ WG := wg_in (lt_4 (List.mem_of_getElem? (i := 71) rfl)) rfl
theorem kw_4_72 : Cond.selects RX11 yX11_where yX11_where ∈ WG := wg_in (lt_4 (List.mem_of_getElem? (i := 72) rfl)) rfl
theorem kw_4_73 : Cond.code yX11_where cX11_where 1 (some .int) ∈ WG := wg_in (lt_4 (List.mem_of_getElem? (i := 73) rfl)) rfl
theorem kw_4_74 : Cond.methodLink RL 41 yX11_last ∈ WG := wg_in (lt_4 (List.mem_of_getElem? (i := 74) rfl)) rfl
theorem kw_4_75 : Cond.instanceMethod yX11_last ∈ WG := wg_in (lt_4 (List.mem_of_getElem? (i := 75) rfl)) rfl
theorem kw_4_76 : Cond.selects RX11 yX11_last yX11_last ∈ WG := wg_in (lt_4 (List.mem_of_getElem? (i := 76) rfl)) rfl
theorem kw_4_77 : Cond.code yX11_last cX11_last 2 (some .boolean) ∈ WG := wg_in (lt_4 (List.mem_of_getElem? (i := 77) rfl)) rfl
theorem kw_4_78 : Cond.methodLink RL 46 yX11_purse ∈ WG := wg_in (lt_4 (List.mem_of_getElem? (i := 78) rfl)) rfl
theorem kw_4_79 : Cond.instanceMethod yX11_purse ∈ WG := wg_in (lt_4 (List.mem_of_getElem? (i := 79) rfl)) rfl
theorem kw_4_80 : Cond.selects RX11 yX11_purse yX11_purse ∈ WG := wg_in (lt_4 (List.mem_of_getElem? (i := 80) rfl)) rfl
theorem kw_4_81 : Cond.code yX11_purse cX11_purse 3 (some .boolean) ∈ WG := wg_in (lt_4 (List.mem_of_getElem? (i := 81) rfl)) rfl
theorem kw_4_82 : Cond.methodLink RX11 143 yX5_total ∈ WG := wg_in (lt_4 (List.mem_of_getElem? (i := 82) rfl)) rfl
theorem kw_4_83 : Cond.instanceMethod yX5_total ∈ WG := wg_in (lt_4 (List.mem_of_getElem? (i := 83) rfl)) rfl
theorem kw_4_84 : Cond.selects RX5 yX5_total yX5_total ∈ WG := wg_in (lt_4 (List.mem_of_getElem? (i := 84) rfl)) rfl
theorem kw_4_85 : Cond.code yX5_total cX5_total 1 (some .int) ∈ WG := wg_in (lt_4 (List.mem_of_getElem? (i := 85) rfl)) rfl
theorem kw_4_86 : Cond.methodLink RL 51 yX11_fall ∈ WG := wg_in (lt_4 (List.mem_of_getElem? (i := 86) rfl)) rfl
theorem kw_4_87 : Cond.instanceMethod yX11_fall ∈ WG := wg_in (lt_4 (List.mem_of_getElem? (i := 87) rfl)) rfl
theorem kw_4_88 : Cond.selects RX11 yX11_fall yX11_fall ∈ WG := wg_in (lt_4 (List.mem_of_getElem? (i := 88) rfl)) rfl
theorem kw_4_89 : Cond.code yX11_fall cX11_fall 5 (some .int) ∈ WG := wg_in (lt_4 (List.mem_of_getElem? (i := 89) rfl)) rfl
theorem kw_4_90 : Cond.methodLink RX11 152 yX0_hitBy ∈ WG := wg_in (lt_4 (List.mem_of_getElem? (i := 90) rfl)) rfl
theorem kw_4_91 : Cond.instanceMethod yX0_hitBy ∈ WG := wg_in (lt_4 (List.mem_of_getElem? (i := 91) rfl)) rfl
theorem kw_4_92 : Cond.selects RX0 yX0_hitBy yX0_hitBy ∈ WG := wg_in (lt_4 (List.mem_of_getElem? (i := 92) rfl)) rfl
theorem kw_4_93 : Cond.code yX0_hitBy cX0_hitBy 2 (some .int) ∈ WG := wg_in (lt_4 (List.mem_of_getElem? (i := 93) rfl)) rfl
theorem kw_4_94 : Cond.methodLink RX11 155 yX11_numberOf ∈ WG := wg_in (lt_4 (List.mem_of_getElem? (i := 94) rfl)) rfl
theorem kw_4_95 : Cond.static yX11_numberOf ∈ WG := wg_in (lt_4 (List.mem_of_getElem? (i := 95) rfl)) rfl
theorem kw_4_96 : Cond.code yX11_numberOf cX11_numberOf 3 (some .int) ∈ WG := wg_in (lt_4 (List.mem_of_getElem? (i := 96) rfl)) rfl
theorem kw_4_97 : Cond.methodLink RX11 159 yX4_has ∈ WG := wg_in (lt_4 (List.mem_of_getElem? (i := 97) rfl)) rfl
theorem kw_4_98 : Cond.instanceMethod yX4_has ∈ WG := wg_in (lt_4 (List.mem_of_getElem? (i := 98) rfl)) rfl
theorem kw_4_99 : Cond.selects RX4 yX4_has yX4_has ∈ WG := wg_in (lt_4 (List.mem_of_getElem? (i := 99) rfl)) rfl
theorem kw_4_100 : Cond.code yX4_has cX4_has 3 (some .boolean) ∈ WG := wg_in (lt_4 (List.mem_of_getElem? (i := 100) rfl)) rfl
theorem kw_4_101 : Cond.methodLink RX11 166 yX4_insert ∈ WG := wg_in (lt_4 (List.mem_of_getElem? (i := 101) rfl)) rfl
theorem kw_4_102 : Cond.instanceMethod yX4_insert ∈ WG := wg_in (lt_4 (List.mem_of_getElem? (i := 102) rfl)) rfl
theorem kw_4_103 : Cond.selects RX4 yX4_insert yX4_insert ∈ WG := wg_in (lt_4 (List.mem_of_getElem? (i := 103) rfl)) rfl
theorem kw_4_104 : Cond.code yX4_insert cX4_insert 3 none ∈ WG := wg_in (lt_4 (List.mem_of_getElem? (i := 104) rfl)) rfl
theorem kw_4_105 : Cond.methodLink RL 56 yX11_clear ∈ WG := wg_in (lt_4 (List.mem_of_getElem? (i := 105) rfl)) rfl
theorem kw_4_106 : Cond.instanceMethod yX11_clear ∈ WG := wg_in (lt_4 (List.mem_of_getElem? (i := 106) rfl)) rfl
theorem kw_4_107 : Cond.selects RX11 yX11_clear yX11_clear ∈ WG := wg_in (lt_4 (List.mem_of_getElem? (i := 107) rfl)) rfl
theorem kw_4_108 : Cond.code yX11_clear cX11_clear 2 (some .int) ∈ WG := wg_in (lt_4 (List.mem_of_getElem? (i := 108) rfl)) rfl
theorem kw_4_109 : Cond.methodLink RL 60 yX11_run ∈ WG := wg_in (lt_4 (List.mem_of_getElem? (i := 109) rfl)) rfl
theorem kw_4_110 : Cond.instanceMethod yX11_run ∈ WG := wg_in (lt_4 (List.mem_of_getElem? (i := 110) rfl)) rfl
theorem kw_4_111 : Cond.selects RX11 yX11_run yX11_run ∈ WG := wg_in (lt_4 (List.mem_of_getElem? (i := 111) rfl)) rfl
theorem kw_4_112 : Cond.code yX11_run cX11_run 1 (some .int) ∈ WG := wg_in (lt_4 (List.mem_of_getElem? (i := 112) rfl)) rfl
theorem kw_4_113 : Cond.methodLink RX11 169 yX9_play ∈ WG := wg_in (lt_4 (List.mem_of_getElem? (i := 113) rfl)) rfl
theorem kw_4_114 : Cond.instanceMethod yX9_play ∈ WG := wg_in (lt_4 (List.mem_of_getElem? (i := 114) rfl)) rfl
theorem kw_4_115 : Cond.selects RX9 yX9_play yX9_play ∈ WG := wg_in (lt_4 (List.mem_of_getElem? (i := 115) rfl)) rfl
theorem kw_4_116 : Cond.code yX9_play cX9_play 4 none ∈ WG := wg_in (lt_4 (List.mem_of_getElem? (i := 116) rfl)) rfl
theorem kw_4_117 : Cond.methodLink RX9 87 yX3_putAll ∈ WG := wg_in (lt_4 (List.mem_of_getElem? (i := 117) rfl)) rfl
theorem kw_4_118 : Cond.instanceMethod yX3_putAll ∈ WG := wg_in (lt_4 (List.mem_of_getElem? (i := 118) rfl)) rfl
theorem kw_4_119 : Cond.selects RX3 yX3_putAll yX3_putAll ∈ WG := wg_in (lt_4 (List.mem_of_getElem? (i := 119) rfl)) rfl
theorem kw_4_120 : Cond.code yX3_putAll cX3_putAll 3 none ∈ WG := wg_in (lt_4 (List.mem_of_getElem? (i := 120) rfl)) rfl
theorem kw_4_121 : Cond.methodLink RX3 31 yX3_wipe ∈ WG := wg_in (lt_4 (List.mem_of_getElem? (i := 121) rfl)) rfl
theorem kw_4_122 : Cond.instanceMethod yX3_wipe ∈ WG := wg_in (lt_4 (List.mem_of_getElem? (i := 122) rfl)) rfl
theorem kw_4_123 : Cond.selects RX3 yX3_wipe yX3_wipe ∈ WG := wg_in (lt_4 (List.mem_of_getElem? (i := 123) rfl)) rfl
theorem kw_4_124 : Cond.code yX3_wipe cX3_wipe 1 none ∈ WG := wg_in (lt_4 (List.mem_of_getElem? (i := 124) rfl)) rfl
theorem kw_4_125 : Cond.methodLink RX3 21 yJ7_fill_d0a16 ∈ WG := wg_in (lt_4 (List.mem_of_getElem? (i := 125) rfl)) rfl
theorem kw_4_126 : Cond.static yJ7_fill_d0a16 ∈ WG := wg_in (lt_4 (List.mem_of_getElem? (i := 126) rfl)) rfl
theorem kw_4_127 : Cond.code yJ7_fill_d0a16 cJ7_fill_d0a16 5 none ∈ WG := wg_in (lt_4 (List.mem_of_getElem? (i := 127) rfl)) rfl
theorem kw_4_128 : Cond.constantLong RX3 44 (-1) ∈ WG := wg_in (lt_4 (List.mem_of_getElem? (i := 128) rfl)) rfl
theorem kw_4_129 : Cond.methodLink RX3 46 yX3_put ∈ WG := wg_in (lt_4 (List.mem_of_getElem? (i := 129) rfl)) rfl
theorem kw_4_130 : Cond.instanceMethod yX3_put ∈ WG := wg_in (lt_4 (List.mem_of_getElem? (i := 130) rfl)) rfl
theorem kw_4_131 : Cond.selects RX3 yX3_put yX3_put ∈ WG := wg_in (lt_4 (List.mem_of_getElem? (i := 131) rfl)) rfl
theorem kw_4_132 : Cond.code yX3_put cX3_put 6 none ∈ WG := wg_in (lt_4 (List.mem_of_getElem? (i := 132) rfl)) rfl
theorem kw_4_133 : Cond.methodLink RX3 27 yX3_putDown ∈ WG := wg_in (lt_4 (List.mem_of_getElem? (i := 133) rfl)) rfl
theorem kw_4_134 : Cond.instanceMethod yX3_putDown ∈ WG := wg_in (lt_4 (List.mem_of_getElem? (i := 134) rfl)) rfl
theorem kw_4_135 : Cond.selects RX3 yX3_putDown yX3_putDown ∈ WG := wg_in (lt_4 (List.mem_of_getElem? (i := 135) rfl)) rfl
theorem kw_4_136 : Cond.code yX3_putDown cX3_putDown 7 none ∈ WG := wg_in (lt_4 (List.mem_of_getElem? (i := 136) rfl)) rfl
theorem kw_4_137 : Cond.methodLink RX9 91 yX2_go ∈ WG := wg_in (lt_4 (List.mem_of_getElem? (i := 137) rfl)) rfl
theorem kw_4_138 : Cond.instanceMethod yX2_go ∈ WG := wg_in (lt_4 (List.mem_of_getElem? (i := 138) rfl)) rfl
theorem kw_4_139 : Cond.selects RX2 yX2_go yX2_go ∈ WG := wg_in (lt_4 (List.mem_of_getElem? (i := 139) rfl)) rfl
theorem kw_4_140 : Cond.code yX2_go cX2_go 5 none ∈ WG := wg_in (lt_4 (List.mem_of_getElem? (i := 140) rfl)) rfl
theorem kw_4_141 : Cond.methodLink RX2 42 yJ7_fill_d0a16 ∈ WG := wg_in (lt_4 (List.mem_of_getElem? (i := 141) rfl)) rfl
theorem kw_4_142 : Cond.methodLink RX2 57 yX2_fill ∈ WG := wg_in (lt_4 (List.mem_of_getElem? (i := 142) rfl)) rfl
theorem kw_4_143 : Cond.instanceMethod yX2_fill ∈ WG := wg_in (lt_4 (List.mem_of_getElem? (i := 143) rfl)) rfl
theorem kw_4_144 : Cond.selects RX2 yX2_fill yX2_fill ∈ WG := wg_in (lt_4 (List.mem_of_getElem? (i := 144) rfl)) rfl
theorem kw_4_145 : Cond.code yX2_fill cX2_fill 10 none ∈ WG := wg_in (lt_4 (List.mem_of_getElem? (i := 145) rfl)) rfl
theorem kw_4_146 : Cond.constantLong RX2 74 (-1) ∈ WG := wg_in (lt_4 (List.mem_of_getElem? (i := 146) rfl)) rfl
theorem kw_4_148 : Cond.static yX11_cell ∈ WG := wg_in (lt_4 (List.mem_of_getElem? (i := 148) rfl)) rfl
theorem kw_4_149 : Cond.code yX11_cell cX11_cell 2 (some .int) ∈ WG := wg_in (lt_4 (List.mem_of_getElem? (i := 149) rfl)) rfl
theorem kw_4_150 : Cond.methodLink RX2 83 yX0_factsAt ∈ WG := wg_in (lt_4 (List.mem_of_getElem? (i := 150) rfl)) rfl
theorem kw_4_151 : Cond.instanceMethod yX0_factsAt ∈ WG := wg_in (lt_4 (List.mem_of_getElem? (i := 151) rfl)) rfl
theorem kw_4_152 : Cond.selects RX0 yX0_factsAt yX0_factsAt ∈ WG := wg_in (lt_4 (List.mem_of_getElem? (i := 152) rfl)) rfl
theorem kw_4_153 : Cond.code yX0_factsAt cX0_factsAt 5 (some .int) ∈ WG := wg_in (lt_4 (List.mem_of_getElem? (i := 153) rfl)) rfl
theorem kw_4_154 : Cond.methodLink RX2 92 yX2_addNext ∈ WG := wg_in (lt_4 (List.mem_of_getElem? (i := 154) rfl)) rfl
theorem kw_4_155 : Cond.instanceMethod yX2_addNext ∈ WG := wg_in (lt_4 (List.mem_of_getElem? (i := 155) rfl)) rfl
theorem kw_4_156 : Cond.selects RX2 yX2_addNext yX2_addNext ∈ WG := wg_in (lt_4 (List.mem_of_getElem? (i := 156) rfl)) rfl
theorem kw_4_157 : Cond.code yX2_addNext cX2_addNext 8 none ∈ WG := wg_in (lt_4 (List.mem_of_getElem? (i := 157) rfl)) rfl
theorem kw_4_158 : Cond.methodLink RX2 112 yX1_isFor ∈ WG := wg_in (lt_4 (List.mem_of_getElem? (i := 158) rfl)) rfl
theorem kw_4_159 : Cond.instanceMethod yX1_isFor ∈ WG := wg_in (lt_4 (List.mem_of_getElem? (i := 159) rfl)) rfl
theorem kw_4_160 : Cond.selects RX1 yX1_isFor yX1_isFor ∈ WG := wg_in (lt_4 (List.mem_of_getElem? (i := 160) rfl)) rfl
theorem kw_4_161 : Cond.code yX1_isFor cX1_isFor 2 (some .boolean) ∈ WG := wg_in (lt_4 (List.mem_of_getElem? (i := 161) rfl)) rfl
theorem kw_4_162 : Cond.methodLink RX2 119 yX2_held ∈ WG := wg_in (lt_4 (List.mem_of_getElem? (i := 162) rfl)) rfl
theorem kw_4_163 : Cond.instanceMethod yX2_held ∈ WG := wg_in (lt_4 (List.mem_of_getElem? (i := 163) rfl)) rfl
theorem kw_4_164 : Cond.selects RX2 yX2_held yX2_held ∈ WG := wg_in (lt_4 (List.mem_of_getElem? (i := 164) rfl)) rfl
theorem kw_4_165 : Cond.code yX2_held cX2_held 11 (some .long) ∈ WG := wg_in (lt_4 (List.mem_of_getElem? (i := 165) rfl)) rfl
theorem kw_4_166 : Cond.methodLink RX2 96 yX2_addNow ∈ WG := wg_in (lt_4 (List.mem_of_getElem? (i := 166) rfl)) rfl
theorem kw_4_167 : Cond.instanceMethod yX2_addNow ∈ WG := wg_in (lt_4 (List.mem_of_getElem? (i := 167) rfl)) rfl
theorem kw_4_168 : Cond.selects RX2 yX2_addNow yX2_addNow ∈ WG := wg_in (lt_4 (List.mem_of_getElem? (i := 168) rfl)) rfl
theorem kw_4_169 : Cond.code yX2_addNow cX2_addNow 10 none ∈ WG := wg_in (lt_4 (List.mem_of_getElem? (i := 169) rfl)) rfl
theorem kw_4_170 : Cond.methodLink RX2 63 yX2_sendWords ∈ WG := wg_in (lt_4 (List.mem_of_getElem? (i := 170) rfl)) rfl
theorem kw_4_171 : Cond.instanceMethod yX2_sendWords ∈ WG := wg_in (lt_4 (List.mem_of_getElem? (i := 171) rfl)) rfl
theorem kw_4_172 : Cond.selects RX2 yX2_sendWords yX2_sendWords ∈ WG := wg_in (lt_4 (List.mem_of_getElem? (i := 172) rfl)) rfl
theorem kw_4_173 : Cond.code yX2_sendWords cX2_sendWords 11 none ∈ WG := wg_in (lt_4 (List.mem_of_getElem? (i := 173) rfl)) rfl
theorem kw_4_174 : Cond.methodLink RX2 140 yX10_isBare ∈ WG := wg_in (lt_4 (List.mem_of_getElem? (i := 174) rfl)) rfl
theorem kw_4_175 : Cond.instanceMethod yX10_isBare ∈ WG := wg_in (lt_4 (List.mem_of_getElem? (i := 175) rfl)) rfl
theorem kw_4_176 : Cond.selects RX10 yX10_isBare yX10_isBare ∈ WG := wg_in (lt_4 (List.mem_of_getElem? (i := 176) rfl)) rfl
theorem kw_4_177 : Cond.code yX10_isBare cX10_isBare 2 (some .boolean) ∈ WG := wg_in (lt_4 (List.mem_of_getElem? (i := 177) rfl)) rfl
theorem kw_4_178 : Cond.methodLink RX2 143 yX10_isAgain ∈ WG := wg_in (lt_4 (List.mem_of_getElem? (i := 178) rfl)) rfl
theorem kw_4_179 : Cond.instanceMethod yX10_isAgain ∈ WG := wg_in (lt_4 (List.mem_of_getElem? (i := 179) rfl)) rfl
theorem kw_4_180 : Cond.selects RX10 yX10_isAgain yX10_isAgain ∈ WG := wg_in (lt_4 (List.mem_of_getElem? (i := 180) rfl)) rfl
theorem kw_4_181 : Cond.code yX10_isAgain cX10_isAgain 2 (some .boolean) ∈ WG := wg_in (lt_4 (List.mem_of_getElem? (i := 181) rfl)) rfl
theorem kw_4_182 : Cond.methodLink RX2 152 yX2_arrive ∈ WG := wg_in (lt_4 (List.mem_of_getElem? (i := 182) rfl)) rfl
theorem kw_4_183 : Cond.instanceMethod yX2_arrive ∈ WG := wg_in (lt_4 (List.mem_of_getElem? (i := 183) rfl)) rfl
theorem kw_4_184 : Cond.selects RX2 yX2_arrive yX2_arrive ∈ WG := wg_in (lt_4 (List.mem_of_getElem? (i := 184) rfl)) rfl
theorem kw_4_185 : Cond.code yX2_arrive cX2_arrive 5 none ∈ WG := wg_in (lt_4 (List.mem_of_getElem? (i := 185) rfl)) rfl
theorem kw_4_186 : Cond.methodLink RX2 66 yX2_judge ∈ WG := wg_in (lt_4 (List.mem_of_getElem? (i := 186) rfl)) rfl
theorem kw_4_187 : Cond.instanceMethod yX2_judge ∈ WG := wg_in (lt_4 (List.mem_of_getElem? (i := 187) rfl)) rfl
theorem kw_4_188 : Cond.selects RX2 yX2_judge yX2_judge ∈ WG := wg_in (lt_4 (List.mem_of_getElem? (i := 188) rfl)) rfl
theorem kw_4_189 : Cond.code yX2_judge cX2_judge 7 none ∈ WG := wg_in (lt_4 (List.mem_of_getElem? (i := 189) rfl)) rfl
theorem kw_4_190 : Cond.methodLink RX9 94 yX8_take ∈ WG := wg_in (lt_4 (List.mem_of_getElem? (i := 190) rfl)) rfl
theorem kw_4_191 : Cond.instanceMethod yX8_take ∈ WG := wg_in (lt_4 (List.mem_of_getElem? (i := 191) rfl)) rfl
theorem kw_4_192 : Cond.selects RX8 yX8_take yX8_take ∈ WG := wg_in (lt_4 (List.mem_of_getElem? (i := 192) rfl)) rfl
theorem kw_4_193 : Cond.code yX8_take cX8_take 7 none ∈ WG := wg_in (lt_4 (List.mem_of_getElem? (i := 193) rfl)) rfl
theorem kw_4_195 : Cond.methodLink RX8 55 yX8_takeRows ∈ WG := wg_in (lt_4 (List.mem_of_getElem? (i := 195) rfl)) rfl
theorem kw_4_196 : Cond.instanceMethod yX8_takeRows ∈ WG := wg_in (lt_4 (List.mem_of_getElem? (i := 196) rfl)) rfl
theorem kw_4_197 : Cond.selects RX8 yX8_takeRows yX8_takeRows ∈ WG := wg_in (lt_4 (List.mem_of_getElem? (i := 197) rfl)) rfl
theorem kw_4_198 : Cond.code yX8_takeRows cX8_takeRows 6 none ∈ WG := wg_in (lt_4 (List.mem_of_getElem? (i := 198) rfl)) rfl
theorem kw_4_199 : Cond.methodLink RX8 62 yX8_takeWord ∈ WG := wg_in (lt_4 (List.mem_of_getElem? (i := 199) rfl)) rfl
theorem kw_4_200 : Cond.instanceMethod yX8_takeWord ∈ WG := wg_in (lt_4 (List.mem_of_getElem? (i := 200) rfl)) rfl
theorem kw_4_201 : Cond.selects RX8 yX8_takeWord yX8_takeWord ∈ WG := wg_in (lt_4 (List.mem_of_getElem? (i := 201) rfl)) rfl
theorem kw_4_202 : Cond.code yX8_takeWord cX8_takeWord 10 none ∈ WG := wg_in (lt_4 (List.mem_of_getElem? (i := 202) rfl)) rfl
theorem kw_4_203 : Cond.methodLink RX8 92 yX10_isBare ∈ WG := wg_in (lt_4 (List.mem_of_getElem? (i := 203) rfl)) rfl
theorem kw_4_204 : Cond.methodLink RX8 96 yX1_holdsAmong ∈ WG := wg_in (lt_4 (List.mem_of_getElem? (i := 204) rfl)) rfl
theorem kw_4_205 : Cond.instanceMethod yX1_holdsAmong ∈ WG := wg_in (lt_4 (List.mem_of_getElem? (i := 205) rfl)) rfl
theorem kw_4_206 : Cond.selects RX1 yX1_holdsAmong yX1_holdsAmong ∈ WG := wg_in (lt_4 (List.mem_of_getElem? (i := 206) rfl)) rfl
theorem kw_4_207 : Cond.code yX1_holdsAmong cX1_holdsAmong 3 (some .boolean) ∈ WG := wg_in (lt_4 (List.mem_of_getElem? (i := 207) rfl)) rfl
theorem kw_4_208 : Cond.methodLink RX8 109 yX8_isDown ∈ WG := wg_in (lt_4 (List.mem_of_getElem? (i := 208) rfl)) rfl
theorem kw_4_209 : Cond.instanceMethod yX8_isDown ∈ WG := wg_in (lt_4 (List.mem_of_getElem? (i := 209) rfl)) rfl
theorem kw_4_210 : Cond.selects RX8 yX8_isDown yX8_isDown ∈ WG := wg_in (lt_4 (List.mem_of_getElem? (i := 210) rfl)) rfl
theorem kw_4_211 : Cond.code yX8_isDown cX8_isDown 3 (some .boolean) ∈ WG := wg_in (lt_4 (List.mem_of_getElem? (i := 211) rfl)) rfl
theorem kw_4_212 : Cond.methodLink RL 64 yX11_there ∈ WG := wg_in (lt_4 (List.mem_of_getElem? (i := 212) rfl)) rfl
theorem kw_4_213 : Cond.instanceMethod yX11_there ∈ WG := wg_in (lt_4 (List.mem_of_getElem? (i := 213) rfl)) rfl
theorem kw_4_214 : Cond.selects RX11 yX11_there yX11_there ∈ WG := wg_in (lt_4 (List.mem_of_getElem? (i := 214) rfl)) rfl
theorem kw_4_215 : Cond.code yX11_there cX11_there 5 (some .int) ∈ WG := wg_in (lt_4 (List.mem_of_getElem? (i := 215) rfl)) rfl
theorem kw_4_216 : Cond.methodLink RX11 176 yX11_wrongPlace ∈ WG := wg_in (lt_4 (List.mem_of_getElem? (i := 216) rfl)) rfl
theorem kw_4_218 : Cond.instanceMethod yX11_wrongPlace ∈ WG := wg_in (lt_4 (List.mem_of_getElem? (i := 218) rfl)) rfl
theorem kw_4_219 : Cond.code yX11_wrongPlace cX11_wrongPlace 4 (some .int) ∈ WG := wg_in (lt_4 (List.mem_of_getElem? (i := 219) rfl)) rfl
theorem kw_4_220 : Cond.methodLink RX11 179 yX8_isThere ∈ WG := wg_in (lt_4 (List.mem_of_getElem? (i := 220) rfl)) rfl
theorem kw_4_221 : Cond.instanceMethod yX8_isThere ∈ WG := wg_in (lt_4 (List.mem_of_getElem? (i := 221) rfl)) rfl
theorem kw_4_222 : Cond.selects RX8 yX8_isThere yX8_isThere ∈ WG := wg_in (lt_4 (List.mem_of_getElem? (i := 222) rfl)) rfl
theorem kw_4_223 : Cond.code yX8_isThere cX8_isThere 4 (some .boolean) ∈ WG := wg_in (lt_4 (List.mem_of_getElem? (i := 223) rfl)) rfl
theorem kw_4_224 : Cond.methodLink RL 68 yX11_reasons ∈ WG := wg_in (lt_4 (List.mem_of_getElem? (i := 224) rfl)) rfl
theorem kw_4_225 : Cond.instanceMethod yX11_reasons ∈ WG := wg_in (lt_4 (List.mem_of_getElem? (i := 225) rfl)) rfl
theorem kw_4_226 : Cond.selects RX11 yX11_reasons yX11_reasons ∈ WG := wg_in (lt_4 (List.mem_of_getElem? (i := 226) rfl)) rfl
theorem kw_4_227 : Cond.code yX11_reasons cX11_reasons 5 (some .int) ∈ WG := wg_in (lt_4 (List.mem_of_getElem? (i := 227) rfl)) rfl
theorem kw_4_228 : Cond.methodLink RX11 183 yX8_listReasons ∈ WG := wg_in (lt_4 (List.mem_of_getElem? (i := 228) rfl)) rfl
theorem kw_4_229 : Cond.instanceMethod yX8_listReasons ∈ WG := wg_in (lt_4 (List.mem_of_getElem? (i := 229) rfl)) rfl
theorem kw_4_230 : Cond.selects RX8 yX8_listReasons yX8_listReasons ∈ WG := wg_in (lt_4 (List.mem_of_getElem? (i := 230) rfl)) rfl
theorem kw_4_231 : Cond.code yX8_listReasons cX8_listReasons 8 none ∈ WG := wg_in (lt_4 (List.mem_of_getElem? (i := 231) rfl)) rfl
theorem kw_4_232 : Cond.methodLink RX8 126 yX0_factsAt ∈ WG := wg_in (lt_4 (List.mem_of_getElem? (i := 232) rfl)) rfl
theorem kw_4_233 : Cond.methodLink RX8 129 yX8_addReason ∈ WG := wg_in (lt_4 (List.mem_of_getElem? (i := 233) rfl)) rfl
theorem kw_4_234 : Cond.instanceMethod yX8_addReason ∈ WG := wg_in (lt_4 (List.mem_of_getElem? (i := 234) rfl)) rfl
theorem kw_4_235 : Cond.selects RX8 yX8_addReason yX8_addReason ∈ WG := wg_in (lt_4 (List.mem_of_getElem? (i := 235) rfl)) rfl
theorem kw_4_236 : Cond.code yX8_addReason cX8_addReason 2 none ∈ WG := wg_in (lt_4 (List.mem_of_getElem? (i := 236) rfl)) rfl
theorem kw_4_237 : Cond.methodLink RX8 133 yX8_listWords ∈ WG := wg_in (lt_4 (List.mem_of_getElem? (i := 237) rfl)) rfl
theorem kw_4_238 : Cond.instanceMethod yX8_listWords ∈ WG := wg_in (lt_4 (List.mem_of_getElem? (i := 238) rfl)) rfl
theorem kw_4_239 : Cond.selects RX8 yX8_listWords yX8_listWords ∈ WG := wg_in (lt_4 (List.mem_of_getElem? (i := 239) rfl)) rfl
theorem kw_5_0 : Cond.code yX8_listWords cX8_listWords 8 none ∈ WG := wg_in (lt_5 (List.mem_of_getElem? (i := 0) rfl)) rfl
theorem kw_5_1 : Cond.methodLink RX8 163 yX8_comesIn ∈ WG := wg_in (lt_5 (List.mem_of_getElem? (i := 1) rfl)) rfl
theorem kw_5_2 : Cond.instanceMethod yX8_comesIn ∈ WG := wg_in (lt_5 (List.mem_of_getElem? (i := 2) rfl)) rfl
theorem kw_5_3 : Cond.selects RX8 yX8_comesIn yX8_comesIn ∈ WG := wg_in (lt_5 (List.mem_of_getElem? (i := 3) rfl)) rfl
theorem kw_5_4 : Cond.code yX8_comesIn cX8_comesIn 5 (some .boolean) ∈ WG := wg_in (lt_5 (List.mem_of_getElem? (i := 4) rfl)) rfl
theorem kw_5_5 : Cond.methodLink RX8 137 yX8_tickAhead ∈ WG := wg_in (lt_5 (List.mem_of_getElem? (i := 5) rfl)) rfl
theorem kw_5_6 : Cond.instanceMethod yX8_tickAhead ∈ WG := wg_in (lt_5 (List.mem_of_getElem? (i := 6) rfl)) rfl
theorem kw_5_7 : Cond.selects RX8 yX8_tickAhead yX8_tickAhead ∈ WG := wg_in (lt_5 (List.mem_of_getElem? (i := 7) rfl)) rfl
theorem kw_5_8 : Cond.code yX8_tickAhead cX8_tickAhead 4 (some .int) ∈ WG := wg_in (lt_5 (List.mem_of_getElem? (i := 8) rfl)) rfl
theorem kw_5_9 : Cond.methodLink RX8 143 yX8_isThere ∈ WG := wg_in (lt_5 (List.mem_of_getElem? (i := 9) rfl)) rfl
theorem kw_5_10 : Cond.methodLink RX8 156 yX8_bringsNext ∈ WG := wg_in (lt_5 (List.mem_of_getElem? (i := 10) rfl)) rfl
theorem kw_5_11 : Cond.instanceMethod yX8_bringsNext ∈ WG := wg_in (lt_5 (List.mem_of_getElem? (i := 11) rfl)) rfl
theorem kw_5_12 : Cond.selects RX8 yX8_bringsNext yX8_bringsNext ∈ WG := wg_in (lt_5 (List.mem_of_getElem? (i := 12) rfl)) rfl
theorem kw_5_13 : Cond.code yX8_bringsNext cX8_bringsNext 4 (some .boolean) ∈ WG := wg_in (lt_5 (List.mem_of_getElem? (i := 13) rfl)) rfl
theorem kw_5_14 : Cond.methodLink RX8 117 yX1_isFor ∈ WG := wg_in (lt_5 (List.mem_of_getElem? (i := 14) rfl)) rfl
theorem kw_5_15 : Cond.methodLink RX8 160 yX8_bringsNow ∈ WG := wg_in (lt_5 (List.mem_of_getElem? (i := 15) rfl)) rfl
theorem kw_5_16 : Cond.instanceMethod yX8_bringsNow ∈ WG := wg_in (lt_5 (List.mem_of_getElem? (i := 16) rfl)) rfl
theorem kw_5_17 : Cond.selects RX8 yX8_bringsNow yX8_bringsNow ∈ WG := wg_in (lt_5 (List.mem_of_getElem? (i := 17) rfl)) rfl
theorem kw_5_18 : Cond.code yX8_bringsNow cX8_bringsNow 4 (some .boolean) ∈ WG := wg_in (lt_5 (List.mem_of_getElem? (i := 18) rfl)) rfl
theorem kw_5_19 : Cond.methodLink RL 81 yX11_word ∈ WG := wg_in (lt_5 (List.mem_of_getElem? (i := 19) rfl)) rfl
theorem kw_5_20 : Cond.instanceMethod yX11_word ∈ WG := wg_in (lt_5 (List.mem_of_getElem? (i := 20) rfl)) rfl
theorem kw_5_21 : Cond.selects RX11 yX11_word yX11_word ∈ WG := wg_in (lt_5 (List.mem_of_getElem? (i := 21) rfl)) rfl
theorem kw_5_22 : Cond.code yX11_word cX11_word 3 (some .int) ∈ WG := wg_in (lt_5 (List.mem_of_getElem? (i := 22) rfl)) rfl
theorem kw_5_23 : Cond.methodLink RL 86 yX11_differs ∈ WG := wg_in (lt_5 (List.mem_of_getElem? (i := 23) rfl)) rfl
theorem kw_5_24 : Cond.instanceMethod yX11_differs ∈ WG := wg_in (lt_5 (List.mem_of_getElem? (i := 24) rfl)) rfl
theorem kw_5_25 : Cond.selects RX11 yX11_differs yX11_differs ∈ WG := wg_in (lt_5 (List.mem_of_getElem? (i := 25) rfl)) rfl
theorem kw_5_26 : Cond.code yX11_differs cX11_differs 7 (some .int) ∈ WG := wg_in (lt_5 (List.mem_of_getElem? (i := 26) rfl)) rfl
theorem kw_5_27 : Cond.methodLink RX11 205 yX11_cell ∈ WG := wg_in (lt_5 (List.mem_of_getElem? (i := 27) rfl)) rfl
theorem kw_5_28 : Cond.methodLink RX11 209 yJ6_numberOfTrailingZeros_0f7a4 ∈ WG := wg_in (lt_5 (List.mem_of_getElem? (i := 28) rfl)) rfl
theorem kw_5_29 : Cond.static yJ6_numberOfTrailingZeros_0f7a4 ∈ WG := wg_in (lt_5 (List.mem_of_getElem? (i := 29) rfl)) rfl
theorem kw_5_30 : Cond.code yJ6_numberOfTrailingZeros_0f7a4 cJ6_numberOfTrailingZeros_0f7a4 2 (some .int) ∈ WG := wg_in (lt_5 (List.mem_of_getElem? (i := 30) rfl)) rfl
theorem kw_5_31 : Cond.constant RJ6 264 (65536) ∈ WG := wg_in (lt_5 (List.mem_of_getElem? (i := 31) rfl)) rfl
theorem kw_5_32 : Cond.methodLink RX11 214 yX11_partOf ∈ WG := wg_in (lt_5 (List.mem_of_getElem? (i := 32) rfl)) rfl
theorem kw_5_33 : Cond.static yX11_partOf ∈ WG := wg_in (lt_5 (List.mem_of_getElem? (i := 33) rfl)) rfl
theorem kw_5_34 : Cond.code yX11_partOf cX11_partOf 5 (some .int) ∈ WG := wg_in (lt_5 (List.mem_of_getElem? (i := 34) rfl)) rfl
theorem kw_5_35 : Cond.methodLink RL 90 yX11_spoils ∈ WG := wg_in (lt_5 (List.mem_of_getElem? (i := 35) rfl)) rfl
theorem kw_5_36 : Cond.instanceMethod yX11_spoils ∈ WG := wg_in (lt_5 (List.mem_of_getElem? (i := 36) rfl)) rfl
theorem kw_5_37 : Cond.selects RX11 yX11_spoils yX11_spoils ∈ WG := wg_in (lt_5 (List.mem_of_getElem? (i := 37) rfl)) rfl
theorem kw_5_38 : Cond.code yX11_spoils cX11_spoils 3 (some .int) ∈ WG := wg_in (lt_5 (List.mem_of_getElem? (i := 38) rfl)) rfl
theorem kw_5_39 : Cond.methodLink RX11 218 yX9_spoiledBy ∈ WG := wg_in (lt_5 (List.mem_of_getElem? (i := 39) rfl)) rfl
theorem kw_5_40 : Cond.instanceMethod yX9_spoiledBy ∈ WG := wg_in (lt_5 (List.mem_of_getElem? (i := 40) rfl)) rfl
theorem kw_5_41 : Cond.selects RX9 yX9_spoiledBy yX9_spoiledBy ∈ WG := wg_in (lt_5 (List.mem_of_getElem? (i := 41) rfl)) rfl
theorem kw_5_42 : Cond.code yX9_spoiledBy cX9_spoiledBy 4 (some .long) ∈ WG := wg_in (lt_5 (List.mem_of_getElem? (i := 42) rfl)) rfl
theorem kw_5_43 : Cond.methodLink RX9 98 yX7_spoiledLanes ∈ WG := wg_in (lt_5 (List.mem_of_getElem? (i := 43) rfl)) rfl
theorem kw_5_44 : Cond.instanceMethod yX7_spoiledLanes ∈ WG := wg_in (lt_5 (List.mem_of_getElem? (i := 44) rfl)) rfl
theorem kw_5_45 : Cond.selects RX7 yX7_spoiledLanes yX7_spoiledLanes ∈ WG := wg_in (lt_5 (List.mem_of_getElem? (i := 45) rfl)) rfl
theorem kw_5_46 : Cond.code yX7_spoiledLanes cX7_spoiledLanes 8 (some .long) ∈ WG := wg_in (lt_5 (List.mem_of_getElem? (i := 46) rfl)) rfl
theorem kw_5_47 : Cond.methodLink RX7 43 yX7_settle ∈ WG := wg_in (lt_5 (List.mem_of_getElem? (i := 47) rfl)) rfl
theorem kw_5_48 : Cond.instanceMethod yX7_settle ∈ WG := wg_in (lt_5 (List.mem_of_getElem? (i := 48) rfl)) rfl
theorem kw_5_49 : Cond.selects RX7 yX7_settle yX7_settle ∈ WG := wg_in (lt_5 (List.mem_of_getElem? (i := 49) rfl)) rfl
theorem kw_5_50 : Cond.code yX7_settle cX7_settle 6 none ∈ WG := wg_in (lt_5 (List.mem_of_getElem? (i := 50) rfl)) rfl
theorem kw_5_52 : Cond.constantLong RX7 58 (-1) ∈ WG := wg_in (lt_5 (List.mem_of_getElem? (i := 52) rfl)) rfl
theorem kw_5_53 : Cond.methodLink RX7 73 yX7_addFacts ∈ WG := wg_in (lt_5 (List.mem_of_getElem? (i := 53) rfl)) rfl
theorem kw_5_54 : Cond.instanceMethod yX7_addFacts ∈ WG := wg_in (lt_5 (List.mem_of_getElem? (i := 54) rfl)) rfl
theorem kw_5_55 : Cond.selects RX7 yX7_addFacts yX7_addFacts ∈ WG := wg_in (lt_5 (List.mem_of_getElem? (i := 55) rfl)) rfl
theorem kw_5_56 : Cond.code yX7_addFacts cX7_addFacts 7 none ∈ WG := wg_in (lt_5 (List.mem_of_getElem? (i := 56) rfl)) rfl
theorem kw_5_57 : Cond.methodLink RX7 93 yX0_factsAt ∈ WG := wg_in (lt_5 (List.mem_of_getElem? (i := 57) rfl)) rfl
theorem kw_5_58 : Cond.methodLink RX7 77 yX7_addWords ∈ WG := wg_in (lt_5 (List.mem_of_getElem? (i := 58) rfl)) rfl
theorem kw_5_59 : Cond.instanceMethod yX7_addWords ∈ WG := wg_in (lt_5 (List.mem_of_getElem? (i := 59) rfl)) rfl
theorem kw_5_60 : Cond.selects RX7 yX7_addWords yX7_addWords ∈ WG := wg_in (lt_5 (List.mem_of_getElem? (i := 60) rfl)) rfl
theorem kw_5_61 : Cond.code yX7_addWords cX7_addWords 6 none ∈ WG := wg_in (lt_5 (List.mem_of_getElem? (i := 61) rfl)) rfl
theorem kw_5_62 : Cond.methodLink RX7 108 yX7_addWord ∈ WG := wg_in (lt_5 (List.mem_of_getElem? (i := 62) rfl)) rfl
theorem kw_5_63 : Cond.instanceMethod yX7_addWord ∈ WG := wg_in (lt_5 (List.mem_of_getElem? (i := 63) rfl)) rfl
theorem kw_5_64 : Cond.selects RX7 yX7_addWord yX7_addWord ∈ WG := wg_in (lt_5 (List.mem_of_getElem? (i := 64) rfl)) rfl
theorem kw_5_65 : Cond.code yX7_addWord cX7_addWord 10 none ∈ WG := wg_in (lt_5 (List.mem_of_getElem? (i := 65) rfl)) rfl
theorem kw_5_66 : Cond.methodLink RX7 112 yX8_comesIn ∈ WG := wg_in (lt_5 (List.mem_of_getElem? (i := 66) rfl)) rfl
theorem kw_5_67 : Cond.methodLink RX7 125 yX8_caseTick ∈ WG := wg_in (lt_5 (List.mem_of_getElem? (i := 67) rfl)) rfl
theorem kw_5_68 : Cond.instanceMethod yX8_caseTick ∈ WG := wg_in (lt_5 (List.mem_of_getElem? (i := 68) rfl)) rfl
theorem kw_5_69 : Cond.selects RX8 yX8_caseTick yX8_caseTick ∈ WG := wg_in (lt_5 (List.mem_of_getElem? (i := 69) rfl)) rfl
theorem kw_5_70 : Cond.code yX8_caseTick cX8_caseTick 3 (some .int) ∈ WG := wg_in (lt_5 (List.mem_of_getElem? (i := 70) rfl)) rfl
theorem kw_5_71 : Cond.methodLink RX7 128 yX7_casesStand ∈ WG := wg_in (lt_5 (List.mem_of_getElem? (i := 71) rfl)) rfl
theorem kw_5_72 : Cond.instanceMethod yX7_casesStand ∈ WG := wg_in (lt_5 (List.mem_of_getElem? (i := 72) rfl)) rfl
theorem kw_5_73 : Cond.selects RX7 yX7_casesStand yX7_casesStand ∈ WG := wg_in (lt_5 (List.mem_of_getElem? (i := 73) rfl)) rfl
theorem kw_5_74 : Cond.code yX7_casesStand cX7_casesStand 8 (some .long) ∈ WG := wg_in (lt_5 (List.mem_of_getElem? (i := 74) rfl)) rfl
theorem kw_5_75 : Cond.methodLink RX7 81 yX7_addKept ∈ WG := wg_in (lt_5 (List.mem_of_getElem? (i := 75) rfl)) rfl
theorem kw_5_76 : Cond.instanceMethod yX7_addKept ∈ WG := wg_in (lt_5 (List.mem_of_getElem? (i := 76) rfl)) rfl
theorem kw_5_77 : Cond.selects RX7 yX7_addKept yX7_addKept ∈ WG := wg_in (lt_5 (List.mem_of_getElem? (i := 77) rfl)) rfl
theorem kw_5_78 : Cond.code yX7_addKept cX7_addKept 9 none ∈ WG := wg_in (lt_5 (List.mem_of_getElem? (i := 78) rfl)) rfl
theorem kw_5_79 : Cond.methodLink RX7 135 yX8_tickAhead ∈ WG := wg_in (lt_5 (List.mem_of_getElem? (i := 79) rfl)) rfl
theorem kw_5_80 : Cond.methodLink RX7 84 yX7_addNext ∈ WG := wg_in (lt_5 (List.mem_of_getElem? (i := 80) rfl)) rfl
theorem kw_5_81 : Cond.instanceMethod yX7_addNext ∈ WG := wg_in (lt_5 (List.mem_of_getElem? (i := 81) rfl)) rfl
theorem kw_5_82 : Cond.selects RX7 yX7_addNext yX7_addNext ∈ WG := wg_in (lt_5 (List.mem_of_getElem? (i := 82) rfl)) rfl
theorem kw_5_83 : Cond.code yX7_addNext cX7_addNext 10 none ∈ WG := wg_in (lt_5 (List.mem_of_getElem? (i := 83) rfl)) rfl
theorem kw_5_84 : Cond.methodLink RX7 147 yX8_bringsNext ∈ WG := wg_in (lt_5 (List.mem_of_getElem? (i := 84) rfl)) rfl
theorem kw_5_85 : Cond.methodLink RX7 87 yX7_addNow ∈ WG := wg_in (lt_5 (List.mem_of_getElem? (i := 85) rfl)) rfl
theorem kw_5_86 : Cond.instanceMethod yX7_addNow ∈ WG := wg_in (lt_5 (List.mem_of_getElem? (i := 86) rfl)) rfl
theorem kw_5_87 : Cond.selects RX7 yX7_addNow yX7_addNow ∈ WG := wg_in (lt_5 (List.mem_of_getElem? (i := 87) rfl)) rfl
theorem kw_5_88 : Cond.code yX7_addNow cX7_addNow 10 none ∈ WG := wg_in (lt_5 (List.mem_of_getElem? (i := 88) rfl)) rfl
theorem kw_5_89 : Cond.methodLink RX7 155 yX1_isFor ∈ WG := wg_in (lt_5 (List.mem_of_getElem? (i := 89) rfl)) rfl
theorem kw_5_90 : Cond.methodLink RL 94 yX11_stands ∈ WG := wg_in (lt_5 (List.mem_of_getElem? (i := 90) rfl)) rfl
theorem kw_5_91 : Cond.instanceMethod yX11_stands ∈ WG := wg_in (lt_5 (List.mem_of_getElem? (i := 91) rfl)) rfl
theorem kw_5_92 : Cond.selects RX11 yX11_stands yX11_stands ∈ WG := wg_in (lt_5 (List.mem_of_getElem? (i := 92) rfl)) rfl
theorem kw_5_93 : Cond.code yX11_stands cX11_stands 5 (some .int) ∈ WG := wg_in (lt_5 (List.mem_of_getElem? (i := 93) rfl)) rfl
theorem kw_5_94 : Cond.methodLink RL 98 yX11_trial ∈ WG := wg_in (lt_5 (List.mem_of_getElem? (i := 94) rfl)) rfl
theorem kw_5_95 : Cond.instanceMethod yX11_trial ∈ WG := wg_in (lt_5 (List.mem_of_getElem? (i := 95) rfl)) rfl
theorem kw_5_96 : Cond.selects RX11 yX11_trial yX11_trial ∈ WG := wg_in (lt_5 (List.mem_of_getElem? (i := 96) rfl)) rfl
theorem kw_5_97 : Cond.code yX11_trial cX11_trial 2 (some .int) ∈ WG := wg_in (lt_5 (List.mem_of_getElem? (i := 97) rfl)) rfl
theorem kw_5_98 : Cond.methodLink RX11 232 yX5_isTooMuch ∈ WG := wg_in (lt_5 (List.mem_of_getElem? (i := 98) rfl)) rfl
theorem kw_5_99 : Cond.instanceMethod yX5_isTooMuch ∈ WG := wg_in (lt_5 (List.mem_of_getElem? (i := 99) rfl)) rfl
theorem kw_5_100 : Cond.selects RX5 yX5_isTooMuch yX5_isTooMuch ∈ WG := wg_in (lt_5 (List.mem_of_getElem? (i := 100) rfl)) rfl
theorem kw_5_101 : Cond.code yX5_isTooMuch cX5_isTooMuch 2 (some .boolean) ∈ WG := wg_in (lt_5 (List.mem_of_getElem? (i := 101) rfl)) rfl
theorem kw_5_102 : Cond.methodLink RX5 44 yX5_total ∈ WG := wg_in (lt_5 (List.mem_of_getElem? (i := 102) rfl)) rfl
theorem kw_5_103 : Cond.methodLink RX5 48 yX5_fallCount ∈ WG := wg_in (lt_5 (List.mem_of_getElem? (i := 103) rfl)) rfl
theorem kw_5_104 : Cond.instanceMethod yX5_fallCount ∈ WG := wg_in (lt_5 (List.mem_of_getElem? (i := 104) rfl)) rfl
theorem kw_5_105 : Cond.selects RX5 yX5_fallCount yX5_fallCount ∈ WG := wg_in (lt_5 (List.mem_of_getElem? (i := 105) rfl)) rfl
theorem kw_5_106 : Cond.code yX5_fallCount cX5_fallCount 4 (some .int) ∈ WG := wg_in (lt_5 (List.mem_of_getElem? (i := 106) rfl)) rfl
theorem kw_5_107 : Cond.methodLink RX5 40 yX5_fallsOf ∈ WG := wg_in (lt_5 (List.mem_of_getElem? (i := 107) rfl)) rfl
theorem kw_5_108 : Cond.instanceMethod yX5_fallsOf ∈ WG := wg_in (lt_5 (List.mem_of_getElem? (i := 108) rfl)) rfl
theorem kw_5_109 : Cond.selects RX5 yX5_fallsOf yX5_fallsOf ∈ WG := wg_in (lt_5 (List.mem_of_getElem? (i := 109) rfl)) rfl
theorem kw_5_110 : Cond.code yX5_fallsOf cX5_fallsOf 3 (some .int) ∈ WG := wg_in (lt_5 (List.mem_of_getElem? (i := 110) rfl)) rfl
theorem kw_5_111 : Cond.methodLink RX5 30 yX0_hitBy ∈ WG := wg_in (lt_5 (List.mem_of_getElem? (i := 111) rfl)) rfl
theorem kw_5_112 : Cond.methodLink RX11 236 yX9_search ∈ WG := wg_in (lt_5 (List.mem_of_getElem? (i := 112) rfl)) rfl
theorem kw_5_113 : Cond.instanceMethod yX9_search ∈ WG := wg_in (lt_5 (List.mem_of_getElem? (i := 113) rfl)) rfl
theorem kw_5_114 : Cond.selects RX9 yX9_search yX9_search ∈ WG := wg_in (lt_5 (List.mem_of_getElem? (i := 114) rfl)) rfl
theorem kw_5_115 : Cond.code yX9_search cX9_search 5 (some .int) ∈ WG := wg_in (lt_5 (List.mem_of_getElem? (i := 115) rfl)) rfl
theorem kw_5_116 : Cond.methodLink RX9 102 yX9_formula ∈ WG := wg_in (lt_5 (List.mem_of_getElem? (i := 116) rfl)) rfl
theorem kw_5_117 : Cond.instanceMethod yX9_formula ∈ WG := wg_in (lt_5 (List.mem_of_getElem? (i := 117) rfl)) rfl
theorem kw_5_118 : Cond.selects RX9 yX9_formula yX9_formula ∈ WG := wg_in (lt_5 (List.mem_of_getElem? (i := 118) rfl)) rfl
theorem kw_5_119 : Cond.code yX9_formula cX9_formula 2 (some (.object "FallTrials$Trace")) ∈ WG := wg_in (lt_5 (List.mem_of_getElem? (i := 119) rfl)) rfl
theorem kw_5_120 : Cond.methodLink RX9 106 yX9_play ∈ WG := wg_in (lt_5 (List.mem_of_getElem? (i := 120) rfl)) rfl
theorem kw_5_121 : Cond.methodLink RX9 110 yX5_begin ∈ WG := wg_in (lt_5 (List.mem_of_getElem? (i := 121) rfl)) rfl
theorem kw_5_122 : Cond.instanceMethod yX5_begin ∈ WG := wg_in (lt_5 (List.mem_of_getElem? (i := 122) rfl)) rfl
theorem kw_5_123 : Cond.selects RX5 yX5_begin yX5_begin ∈ WG := wg_in (lt_5 (List.mem_of_getElem? (i := 123) rfl)) rfl
theorem kw_5_124 : Cond.code yX5_begin cX5_begin 6 none ∈ WG := wg_in (lt_5 (List.mem_of_getElem? (i := 124) rfl)) rfl
theorem kw_5_126 : Cond.constant RX9 114 (1000000) ∈ WG := wg_in (lt_5 (List.mem_of_getElem? (i := 126) rfl)) rfl
theorem kw_5_127 : Cond.methodLink RX9 115 yX5_advance ∈ WG := wg_in (lt_5 (List.mem_of_getElem? (i := 127) rfl)) rfl
theorem kw_5_128 : Cond.instanceMethod yX5_advance ∈ WG := wg_in (lt_5 (List.mem_of_getElem? (i := 128) rfl)) rfl
theorem kw_5_129 : Cond.selects RX5 yX5_advance yX5_advance ∈ WG := wg_in (lt_5 (List.mem_of_getElem? (i := 129) rfl)) rfl
theorem kw_5_130 : Cond.code yX5_advance cX5_advance 2 (some .boolean) ∈ WG := wg_in (lt_5 (List.mem_of_getElem? (i := 130) rfl)) rfl
theorem kw_5_131 : Cond.methodLink RX5 65 yX5_advanceStem ∈ WG := wg_in (lt_5 (List.mem_of_getElem? (i := 131) rfl)) rfl
theorem kw_5_132 : Cond.instanceMethod yX5_advanceStem ∈ WG := wg_in (lt_5 (List.mem_of_getElem? (i := 132) rfl)) rfl
theorem kw_5_133 : Cond.selects RX5 yX5_advanceStem yX5_advanceStem ∈ WG := wg_in (lt_5 (List.mem_of_getElem? (i := 133) rfl)) rfl
theorem kw_5_134 : Cond.code yX5_advanceStem cX5_advanceStem 4 (some .boolean) ∈ WG := wg_in (lt_5 (List.mem_of_getElem? (i := 134) rfl)) rfl
theorem kw_5_135 : Cond.methodLink RX5 69 yJ9_min_7cf53 ∈ WG := wg_in (lt_5 (List.mem_of_getElem? (i := 135) rfl)) rfl
theorem kw_5_136 : Cond.methodLink RX9 119 yX9_searchBundle ∈ WG := wg_in (lt_5 (List.mem_of_getElem? (i := 136) rfl)) rfl
theorem kw_5_137 : Cond.instanceMethod yX9_searchBundle ∈ WG := wg_in (lt_5 (List.mem_of_getElem? (i := 137) rfl)) rfl
theorem kw_5_138 : Cond.selects RX9 yX9_searchBundle yX9_searchBundle ∈ WG := wg_in (lt_5 (List.mem_of_getElem? (i := 138) rfl)) rfl
theorem kw_5_139 : Cond.code yX9_searchBundle cX9_searchBundle 7 (some .int) ∈ WG := wg_in (lt_5 (List.mem_of_getElem? (i := 139) rfl)) rfl
theorem kw_5_140 : Cond.methodLink RX9 123 yX5_spread ∈ WG := wg_in (lt_5 (List.mem_of_getElem? (i := 140) rfl)) rfl
theorem kw_5_141 : Cond.instanceMethod yX5_spread ∈ WG := wg_in (lt_5 (List.mem_of_getElem? (i := 141) rfl)) rfl
theorem kw_5_142 : Cond.selects RX5 yX5_spread yX5_spread ∈ WG := wg_in (lt_5 (List.mem_of_getElem? (i := 142) rfl)) rfl
theorem kw_5_143 : Cond.code yX5_spread cX5_spread 5 none ∈ WG := wg_in (lt_5 (List.mem_of_getElem? (i := 143) rfl)) rfl
theorem kw_5_144 : Cond.methodLink RX5 75 yX3_wipe ∈ WG := wg_in (lt_5 (List.mem_of_getElem? (i := 144) rfl)) rfl
theorem kw_5_145 : Cond.constantLong RX5 84 (-1) ∈ WG := wg_in (lt_5 (List.mem_of_getElem? (i := 145) rfl)) rfl
theorem kw_5_146 : Cond.methodLink RX5 86 yX3_put ∈ WG := wg_in (lt_5 (List.mem_of_getElem? (i := 146) rfl)) rfl
theorem kw_5_147 : Cond.methodLink RX5 90 yJ9_max_7cf53 ∈ WG := wg_in (lt_5 (List.mem_of_getElem? (i := 147) rfl)) rfl
theorem kw_5_148 : Cond.methodLink RX9 131 yX5_writeSet ∈ WG := wg_in (lt_5 (List.mem_of_getElem? (i := 148) rfl)) rfl
theorem kw_5_149 : Cond.instanceMethod yX5_writeSet ∈ WG := wg_in (lt_5 (List.mem_of_getElem? (i := 149) rfl)) rfl
theorem kw_5_150 : Cond.selects RX5 yX5_writeSet yX5_writeSet ∈ WG := wg_in (lt_5 (List.mem_of_getElem? (i := 150) rfl)) rfl
theorem kw_5_151 : Cond.code yX5_writeSet cX5_writeSet 4 none ∈ WG := wg_in (lt_5 (List.mem_of_getElem? (i := 151) rfl)) rfl
theorem kw_5_152 : Cond.methodLink RX5 93 yX4_wipe ∈ WG := wg_in (lt_5 (List.mem_of_getElem? (i := 152) rfl)) rfl
theorem kw_5_153 : Cond.methodLink RX5 96 yX4_append ∈ WG := wg_in (lt_5 (List.mem_of_getElem? (i := 153) rfl)) rfl
theorem kw_5_154 : Cond.instanceMethod yX4_append ∈ WG := wg_in (lt_5 (List.mem_of_getElem? (i := 154) rfl)) rfl
theorem kw_5_155 : Cond.selects RX4 yX4_append yX4_append ∈ WG := wg_in (lt_5 (List.mem_of_getElem? (i := 155) rfl)) rfl
theorem kw_5_156 : Cond.code yX4_append cX4_append 2 none ∈ WG := wg_in (lt_5 (List.mem_of_getElem? (i := 156) rfl)) rfl
theorem kw_5_157 : Cond.methodLink RX9 138 yX4_take ∈ WG := wg_in (lt_5 (List.mem_of_getElem? (i := 157) rfl)) rfl
theorem kw_5_158 : Cond.instanceMethod yX4_take ∈ WG := wg_in (lt_5 (List.mem_of_getElem? (i := 158) rfl)) rfl
theorem kw_5_159 : Cond.selects RX4 yX4_take yX4_take ∈ WG := wg_in (lt_5 (List.mem_of_getElem? (i := 159) rfl)) rfl
theorem kw_5_160 : Cond.code yX4_take cX4_take 3 none ∈ WG := wg_in (lt_5 (List.mem_of_getElem? (i := 160) rfl)) rfl
theorem kw_5_161 : Cond.methodLink RX4 19 yX4_append ∈ WG := wg_in (lt_5 (List.mem_of_getElem? (i := 161) rfl)) rfl
theorem kw_5_162 : Cond.methodLink RL 102 yX11_tried ∈ WG := wg_in (lt_5 (List.mem_of_getElem? (i := 162) rfl)) rfl
theorem kw_5_163 : Cond.instanceMethod yX11_tried ∈ WG := wg_in (lt_5 (List.mem_of_getElem? (i := 163) rfl)) rfl
theorem kw_5_164 : Cond.selects RX11 yX11_tried yX11_tried ∈ WG := wg_in (lt_5 (List.mem_of_getElem? (i := 164) rfl)) rfl
theorem kw_5_165 : Cond.code yX11_tried cX11_tried 1 (some .int) ∈ WG := wg_in (lt_5 (List.mem_of_getElem? (i := 165) rfl)) rfl
theorem kw_5_166 : Cond.methodLink RL 106 yX11_known ∈ WG := wg_in (lt_5 (List.mem_of_getElem? (i := 166) rfl)) rfl
theorem kw_5_167 : Cond.instanceMethod yX11_known ∈ WG := wg_in (lt_5 (List.mem_of_getElem? (i := 167) rfl)) rfl
theorem kw_5_168 : Cond.selects RX11 yX11_known yX11_known ∈ WG := wg_in (lt_5 (List.mem_of_getElem? (i := 168) rfl)) rfl
theorem kw_5_169 : Cond.code yX11_known cX11_known 1 (some .int) ∈ WG := wg_in (lt_5 (List.mem_of_getElem? (i := 169) rfl)) rfl
theorem kw_5_170 : Cond.methodLink RL 110 yX11_found ∈ WG := wg_in (lt_5 (List.mem_of_getElem? (i := 170) rfl)) rfl
theorem kw_5_171 : Cond.instanceMethod yX11_found ∈ WG := wg_in (lt_5 (List.mem_of_getElem? (i := 171) rfl)) rfl
theorem kw_5_172 : Cond.selects RX11 yX11_found yX11_found ∈ WG := wg_in (lt_5 (List.mem_of_getElem? (i := 172) rfl)) rfl
theorem kw_5_173 : Cond.code yX11_found cX11_found 2 (some .int) ∈ WG := wg_in (lt_5 (List.mem_of_getElem? (i := 173) rfl)) rfl
theorem kw_5_174 : Cond.methodLink RX11 249 yX4_at ∈ WG := wg_in (lt_5 (List.mem_of_getElem? (i := 174) rfl)) rfl
theorem kw_5_175 : Cond.instanceMethod yX4_at ∈ WG := wg_in (lt_5 (List.mem_of_getElem? (i := 175) rfl)) rfl
theorem kw_5_176 : Cond.selects RX4 yX4_at yX4_at ∈ WG := wg_in (lt_5 (List.mem_of_getElem? (i := 176) rfl)) rfl
theorem kw_5_177 : Cond.code yX4_at cX4_at 2 (some .int) ∈ WG := wg_in (lt_5 (List.mem_of_getElem? (i := 177) rfl)) rfl
theorem kw_5_178 : Cond.methodLink RL 114 yX11_exact ∈ WG := wg_in (lt_5 (List.mem_of_getElem? (i := 178) rfl)) rfl
theorem kw_5_179 : Cond.instanceMethod yX11_exact ∈ WG := wg_in (lt_5 (List.mem_of_getElem? (i := 179) rfl)) rfl
theorem kw_5_180 : Cond.selects RX11 yX11_exact yX11_exact ∈ WG := wg_in (lt_5 (List.mem_of_getElem? (i := 180) rfl)) rfl
theorem kw_5_181 : Cond.code yX11_exact cX11_exact 1 (some .int) ∈ WG := wg_in (lt_5 (List.mem_of_getElem? (i := 181) rfl)) rfl
theorem kw_5_182 : Cond.methodLink RX11 251 yX9_runAll ∈ WG := wg_in (lt_5 (List.mem_of_getElem? (i := 182) rfl)) rfl
theorem kw_5_183 : Cond.instanceMethod yX9_runAll ∈ WG := wg_in (lt_5 (List.mem_of_getElem? (i := 183) rfl)) rfl
theorem kw_5_184 : Cond.selects RX9 yX9_runAll yX9_runAll ∈ WG := wg_in (lt_5 (List.mem_of_getElem? (i := 184) rfl)) rfl
theorem kw_5_185 : Cond.code yX9_runAll cX9_runAll 6 (some .int) ∈ WG := wg_in (lt_5 (List.mem_of_getElem? (i := 185) rfl)) rfl
theorem kw_5_186 : Cond.methodLink RX9 143 yJ13_numberOfTrailingZeros_95d88 ∈ WG := wg_in (lt_5 (List.mem_of_getElem? (i := 186) rfl)) rfl
theorem kw_5_187 : Cond.static yJ13_numberOfTrailingZeros_95d88 ∈ WG := wg_in (lt_5 (List.mem_of_getElem? (i := 187) rfl)) rfl
theorem kw_5_188 : Cond.code yJ13_numberOfTrailingZeros_95d88 cJ13_numberOfTrailingZeros_95d88 3 (some .int) ∈ WG := wg_in (lt_5 (List.mem_of_getElem? (i := 188) rfl)) rfl
theorem kw_5_189 : Cond.methodLink RJ13 311 yJ6_numberOfTrailingZeros_0f7a4 ∈ WG := wg_in (lt_5 (List.mem_of_getElem? (i := 189) rfl)) rfl
theorem kw_5_190 : Cond.methodLink RX9 149 yJ13_bitCount_95d88 ∈ WG := wg_in (lt_5 (List.mem_of_getElem? (i := 190) rfl)) rfl
theorem kw_5_191 : Cond.static yJ13_bitCount_95d88 ∈ WG := wg_in (lt_5 (List.mem_of_getElem? (i := 191) rfl)) rfl
theorem kw_5_192 : Cond.code yJ13_bitCount_95d88 cJ13_bitCount_95d88 2 (some .int) ∈ WG := wg_in (lt_5 (List.mem_of_getElem? (i := 192) rfl)) rfl
theorem kw_5_193 : Cond.constantLong RJ13 314 (6148914691236517205) ∈ WG := wg_in (lt_5 (List.mem_of_getElem? (i := 193) rfl)) rfl
theorem kw_5_194 : Cond.constantLong RJ13 316 (3689348814741910323) ∈ WG := wg_in (lt_5 (List.mem_of_getElem? (i := 194) rfl)) rfl
theorem kw_5_195 : Cond.constantLong RJ13 318 (1085102592571150095) ∈ WG := wg_in (lt_5 (List.mem_of_getElem? (i := 195) rfl)) rfl
theorem kw_5_196 : Cond.methodLink RL 118 yX11_exactly ∈ WG := wg_in (lt_5 (List.mem_of_getElem? (i := 196) rfl)) rfl
theorem kw_5_197 : Cond.instanceMethod yX11_exactly ∈ WG := wg_in (lt_5 (List.mem_of_getElem? (i := 197) rfl)) rfl
theorem kw_5_198 : Cond.selects RX11 yX11_exactly yX11_exactly ∈ WG := wg_in (lt_5 (List.mem_of_getElem? (i := 198) rfl)) rfl
theorem kw_5_199 : Cond.code yX11_exactly cX11_exactly 2 (some .int) ∈ WG := wg_in (lt_5 (List.mem_of_getElem? (i := 199) rfl)) rfl
theorem kw_5_200 : Cond.methodLink RL 122 yX11_cut ∈ WG := wg_in (lt_5 (List.mem_of_getElem? (i := 200) rfl)) rfl
theorem kw_5_201 : Cond.instanceMethod yX11_cut ∈ WG := wg_in (lt_5 (List.mem_of_getElem? (i := 201) rfl)) rfl
theorem kw_5_202 : Cond.selects RX11 yX11_cut yX11_cut ∈ WG := wg_in (lt_5 (List.mem_of_getElem? (i := 202) rfl)) rfl
theorem kw_5_203 : Cond.code yX11_cut cX11_cut 2 (some .int) ∈ WG := wg_in (lt_5 (List.mem_of_getElem? (i := 203) rfl)) rfl
theorem kw_5_204 : Cond.methodLink RX11 258 yX11_isBroken ∈ WG := wg_in (lt_5 (List.mem_of_getElem? (i := 204) rfl)) rfl
theorem kw_5_206 : Cond.instanceMethod yX11_isBroken ∈ WG := wg_in (lt_5 (List.mem_of_getElem? (i := 206) rfl)) rfl
theorem kw_5_207 : Cond.code yX11_isBroken cX11_isBroken 3 (some .boolean) ∈ WG := wg_in (lt_5 (List.mem_of_getElem? (i := 207) rfl)) rfl
theorem kw_5_208 : Cond.methodLink RX11 262 yX4_take ∈ WG := wg_in (lt_5 (List.mem_of_getElem? (i := 208) rfl)) rfl
theorem kw_5_209 : Cond.methodLink RX11 266 yX4_dropAt ∈ WG := wg_in (lt_5 (List.mem_of_getElem? (i := 209) rfl)) rfl
theorem kw_5_210 : Cond.instanceMethod yX4_dropAt ∈ WG := wg_in (lt_5 (List.mem_of_getElem? (i := 210) rfl)) rfl
theorem kw_5_211 : Cond.selects RX4 yX4_dropAt yX4_dropAt ∈ WG := wg_in (lt_5 (List.mem_of_getElem? (i := 211) rfl)) rfl
theorem kw_5_212 : Cond.code yX4_dropAt cX4_dropAt 3 none ∈ WG := wg_in (lt_5 (List.mem_of_getElem? (i := 212) rfl)) rfl
theorem kw_5_213 : Cond.methodLink RL 126 yX11_told ∈ WG := wg_in (lt_5 (List.mem_of_getElem? (i := 213) rfl)) rfl
theorem kw_5_214 : Cond.instanceMethod yX11_told ∈ WG := wg_in (lt_5 (List.mem_of_getElem? (i := 214) rfl)) rfl
theorem kw_5_215 : Cond.selects RX11 yX11_told yX11_told ∈ WG := wg_in (lt_5 (List.mem_of_getElem? (i := 215) rfl)) rfl
theorem kw_5_216 : Cond.code yX11_told cX11_told 2 (some .int) ∈ WG := wg_in (lt_5 (List.mem_of_getElem? (i := 216) rfl)) rfl
theorem kw_5_217 : Cond.methodLink RL 130 yX11_start ∈ WG := wg_in (lt_5 (List.mem_of_getElem? (i := 217) rfl)) rfl
theorem kw_5_218 : Cond.instanceMethod yX11_start ∈ WG := wg_in (lt_5 (List.mem_of_getElem? (i := 218) rfl)) rfl
theorem kw_5_219 : Cond.selects RX11 yX11_start yX11_start ∈ WG := wg_in (lt_5 (List.mem_of_getElem? (i := 219) rfl)) rfl
theorem kw_5_220 : Cond.code yX11_start cX11_start 2 (some .boolean) ∈ WG := wg_in (lt_5 (List.mem_of_getElem? (i := 220) rfl)) rfl
theorem kw_5_221 : Cond.methodLink RL 134 yX11_thin ∈ WG := wg_in (lt_5 (List.mem_of_getElem? (i := 221) rfl)) rfl
theorem kw_5_222 : Cond.instanceMethod yX11_thin ∈ WG := wg_in (lt_5 (List.mem_of_getElem? (i := 222) rfl)) rfl
theorem kw_5_223 : Cond.selects RX11 yX11_thin yX11_thin ∈ WG := wg_in (lt_5 (List.mem_of_getElem? (i := 223) rfl)) rfl
theorem kw_5_224 : Cond.code yX11_thin cX11_thin 2 (some .int) ∈ WG := wg_in (lt_5 (List.mem_of_getElem? (i := 224) rfl)) rfl
theorem kw_5_225 : Cond.methodLink RX11 275 yX10_copy ∈ WG := wg_in (lt_5 (List.mem_of_getElem? (i := 225) rfl)) rfl
theorem kw_5_226 : Cond.instanceMethod yX10_copy ∈ WG := wg_in (lt_5 (List.mem_of_getElem? (i := 226) rfl)) rfl
theorem kw_5_227 : Cond.selects RX10 yX10_copy yX10_copy ∈ WG := wg_in (lt_5 (List.mem_of_getElem? (i := 227) rfl)) rfl
theorem kw_5_228 : Cond.code yX10_copy cX10_copy 2 none ∈ WG := wg_in (lt_5 (List.mem_of_getElem? (i := 228) rfl)) rfl
theorem kw_5_229 : Cond.methodLink RX11 278 yX9_thinnest ∈ WG := wg_in (lt_5 (List.mem_of_getElem? (i := 229) rfl)) rfl
theorem kw_5_230 : Cond.instanceMethod yX9_thinnest ∈ WG := wg_in (lt_5 (List.mem_of_getElem? (i := 230) rfl)) rfl
theorem kw_5_231 : Cond.selects RX9 yX9_thinnest yX9_thinnest ∈ WG := wg_in (lt_5 (List.mem_of_getElem? (i := 231) rfl)) rfl
theorem kw_5_232 : Cond.code yX9_thinnest cX9_thinnest 7 (some .int) ∈ WG := wg_in (lt_5 (List.mem_of_getElem? (i := 232) rfl)) rfl
theorem kw_5_233 : Cond.methodLink RX9 166 yX9_spoilSize ∈ WG := wg_in (lt_5 (List.mem_of_getElem? (i := 233) rfl)) rfl
theorem kw_5_234 : Cond.instanceMethod yX9_spoilSize ∈ WG := wg_in (lt_5 (List.mem_of_getElem? (i := 234) rfl)) rfl
theorem kw_5_235 : Cond.selects RX9 yX9_spoilSize yX9_spoilSize ∈ WG := wg_in (lt_5 (List.mem_of_getElem? (i := 235) rfl)) rfl
theorem kw_5_236 : Cond.code yX9_spoilSize cX9_spoilSize 5 (some .int) ∈ WG := wg_in (lt_5 (List.mem_of_getElem? (i := 236) rfl)) rfl
theorem kw_5_237 : Cond.methodLink RL 138 yX11_thinness ∈ WG := wg_in (lt_5 (List.mem_of_getElem? (i := 237) rfl)) rfl
theorem kw_5_238 : Cond.instanceMethod yX11_thinness ∈ WG := wg_in (lt_5 (List.mem_of_getElem? (i := 238) rfl)) rfl
theorem kw_5_239 : Cond.selects RX11 yX11_thinness yX11_thinness ∈ WG := wg_in (lt_5 (List.mem_of_getElem? (i := 239) rfl)) rfl
theorem kw_6_0 : Cond.code yX11_thinness cX11_thinness 1 (some .int) ∈ WG := wg_in (lt_6 (List.mem_of_getElem? (i := 0) rfl)) rfl
theorem kw_6_1 : Cond.methodLink RL 146 yX11_mend ∈ WG := wg_in (lt_6 (List.mem_of_getElem? (i := 1) rfl)) rfl
theorem kw_6_2 : Cond.instanceMethod yX11_mend ∈ WG := wg_in (lt_6 (List.mem_of_getElem? (i := 2) rfl)) rfl
theorem kw_6_3 : Cond.selects RX11 yX11_mend yX11_mend ∈ WG := wg_in (lt_6 (List.mem_of_getElem? (i := 3) rfl)) rfl
theorem kw_6_4 : Cond.code yX11_mend cX11_mend 5 (some .int) ∈ WG := wg_in (lt_6 (List.mem_of_getElem? (i := 4) rfl)) rfl
theorem kw_6_5 : Cond.methodLink RX11 291 yX4_append ∈ WG := wg_in (lt_6 (List.mem_of_getElem? (i := 5) rfl)) rfl
theorem kw_6_6 : Cond.methodLink RL 150 yX11_keep ∈ WG := wg_in (lt_6 (List.mem_of_getElem? (i := 6) rfl)) rfl
theorem kw_6_7 : Cond.instanceMethod yX11_keep ∈ WG := wg_in (lt_6 (List.mem_of_getElem? (i := 7) rfl)) rfl
theorem kw_6_8 : Cond.selects RX11 yX11_keep yX11_keep ∈ WG := wg_in (lt_6 (List.mem_of_getElem? (i := 8) rfl)) rfl
theorem kw_6_9 : Cond.code yX11_keep cX11_keep 1 (some .int) ∈ WG := wg_in (lt_6 (List.mem_of_getElem? (i := 9) rfl)) rfl
theorem kw_6_10 : Cond.methodLink RL 154 yX11_fit ∈ WG := wg_in (lt_6 (List.mem_of_getElem? (i := 10) rfl)) rfl
theorem kw_6_11 : Cond.instanceMethod yX11_fit ∈ WG := wg_in (lt_6 (List.mem_of_getElem? (i := 11) rfl)) rfl
theorem kw_6_12 : Cond.selects RX11 yX11_fit yX11_fit ∈ WG := wg_in (lt_6 (List.mem_of_getElem? (i := 12) rfl)) rfl
theorem kw_6_13 : Cond.code yX11_fit cX11_fit 2 (some .int) ∈ WG := wg_in (lt_6 (List.mem_of_getElem? (i := 13) rfl)) rfl
theorem kw_6_14 : Cond.methodLink RX11 294 yX11_areMends ∈ WG := wg_in (lt_6 (List.mem_of_getElem? (i := 14) rfl)) rfl
theorem kw_6_16 : Cond.instanceMethod yX11_areMends ∈ WG := wg_in (lt_6 (List.mem_of_getElem? (i := 16) rfl)) rfl
theorem kw_6_17 : Cond.code yX11_areMends cX11_areMends 2 (some .boolean) ∈ WG := wg_in (lt_6 (List.mem_of_getElem? (i := 17) rfl)) rfl
theorem kw_6_18 : Cond.methodLink RX11 297 yX11_isFit ∈ WG := wg_in (lt_6 (List.mem_of_getElem? (i := 18) rfl)) rfl
theorem kw_6_20 : Cond.instanceMethod yX11_isFit ∈ WG := wg_in (lt_6 (List.mem_of_getElem? (i := 20) rfl)) rfl
theorem kw_6_21 : Cond.code yX11_isFit cX11_isFit 3 (some .boolean) ∈ WG := wg_in (lt_6 (List.mem_of_getElem? (i := 21) rfl)) rfl
theorem kw_6_22 : Cond.methodLink RX11 303 yX11_mendAll ∈ WG := wg_in (lt_6 (List.mem_of_getElem? (i := 22) rfl)) rfl
theorem kw_6_24 : Cond.instanceMethod yX11_mendAll ∈ WG := wg_in (lt_6 (List.mem_of_getElem? (i := 24) rfl)) rfl
theorem kw_6_25 : Cond.code yX11_mendAll cX11_mendAll 4 none ∈ WG := wg_in (lt_6 (List.mem_of_getElem? (i := 25) rfl)) rfl
theorem kw_6_26 : Cond.methodLink RX11 316 yX10_change ∈ WG := wg_in (lt_6 (List.mem_of_getElem? (i := 26) rfl)) rfl
theorem kw_6_27 : Cond.instanceMethod yX10_change ∈ WG := wg_in (lt_6 (List.mem_of_getElem? (i := 27) rfl)) rfl
theorem kw_6_28 : Cond.selects RX10 yX10_change yX10_change ∈ WG := wg_in (lt_6 (List.mem_of_getElem? (i := 28) rfl)) rfl
theorem kw_6_29 : Cond.code yX10_change cX10_change 3 none ∈ WG := wg_in (lt_6 (List.mem_of_getElem? (i := 29) rfl)) rfl
theorem kw_6_30 : Cond.methodLink RL 158 yX11_least ∈ WG := wg_in (lt_6 (List.mem_of_getElem? (i := 30) rfl)) rfl
theorem kw_6_31 : Cond.instanceMethod yX11_least ∈ WG := wg_in (lt_6 (List.mem_of_getElem? (i := 31) rfl)) rfl
theorem kw_6_32 : Cond.selects RX11 yX11_least yX11_least ∈ WG := wg_in (lt_6 (List.mem_of_getElem? (i := 32) rfl)) rfl
theorem kw_6_33 : Cond.code yX11_least cX11_least 3 (some .int) ∈ WG := wg_in (lt_6 (List.mem_of_getElem? (i := 33) rfl)) rfl
theorem kw_6_34 : Cond.methodLink RX11 300 yJ6_bitCount_0f7a4 ∈ WG := wg_in (lt_6 (List.mem_of_getElem? (i := 34) rfl)) rfl
theorem kw_6_35 : Cond.static yJ6_bitCount_0f7a4 ∈ WG := wg_in (lt_6 (List.mem_of_getElem? (i := 35) rfl)) rfl
theorem kw_6_36 : Cond.code yJ6_bitCount_0f7a4 cJ6_bitCount_0f7a4 1 (some .int) ∈ WG := wg_in (lt_6 (List.mem_of_getElem? (i := 36) rfl)) rfl
theorem kw_6_37 : Cond.constant RJ6 265 (1431655765) ∈ WG := wg_in (lt_6 (List.mem_of_getElem? (i := 37) rfl)) rfl
theorem kw_6_38 : Cond.constant RJ6 266 (858993459) ∈ WG := wg_in (lt_6 (List.mem_of_getElem? (i := 38) rfl)) rfl
theorem kw_6_39 : Cond.constant RJ6 267 (252645135) ∈ WG := wg_in (lt_6 (List.mem_of_getElem? (i := 39) rfl)) rfl
theorem kw_6_40 : Cond.methodLink RL 162 yX11_make ∈ WG := wg_in (lt_6 (List.mem_of_getElem? (i := 40) rfl)) rfl
theorem kw_6_41 : Cond.instanceMethod yX11_make ∈ WG := wg_in (lt_6 (List.mem_of_getElem? (i := 41) rfl)) rfl
theorem kw_6_42 : Cond.selects RX11 yX11_make yX11_make ∈ WG := wg_in (lt_6 (List.mem_of_getElem? (i := 42) rfl)) rfl
theorem kw_6_43 : Cond.code yX11_make cX11_make 2 (some .int) ∈ WG := wg_in (lt_6 (List.mem_of_getElem? (i := 43) rfl)) rfl
theorem kw_6_44 : Cond.methodLink RL 166 yX11_count ∈ WG := wg_in (lt_6 (List.mem_of_getElem? (i := 44) rfl)) rfl
theorem kw_6_45 : Cond.instanceMethod yX11_count ∈ WG := wg_in (lt_6 (List.mem_of_getElem? (i := 45) rfl)) rfl
theorem kw_6_46 : Cond.selects RX11 yX11_count yX11_count ∈ WG := wg_in (lt_6 (List.mem_of_getElem? (i := 46) rfl)) rfl
theorem kw_6_47 : Cond.code yX11_count cX11_count 3 (some .int) ∈ WG := wg_in (lt_6 (List.mem_of_getElem? (i := 47) rfl)) rfl
theorem kw_6_48 : Cond.methodLink RX11 310 yX5_fallCount ∈ WG := wg_in (lt_6 (List.mem_of_getElem? (i := 48) rfl)) rfl
theorem kw_6_49 : Cond.methodLink RX11 313 yX5_setCount ∈ WG := wg_in (lt_6 (List.mem_of_getElem? (i := 49) rfl)) rfl
theorem kw_6_50 : Cond.instanceMethod yX5_setCount ∈ WG := wg_in (lt_6 (List.mem_of_getElem? (i := 50) rfl)) rfl
theorem kw_6_51 : Cond.selects RX5 yX5_setCount yX5_setCount ∈ WG := wg_in (lt_6 (List.mem_of_getElem? (i := 51) rfl)) rfl
theorem kw_6_52 : Cond.code yX5_setCount cX5_setCount 8 (some .int) ∈ WG := wg_in (lt_6 (List.mem_of_getElem? (i := 52) rfl)) rfl
theorem kw_6_53 : Cond.methodLink RL 170 yX11_trouble ∈ WG := wg_in (lt_6 (List.mem_of_getElem? (i := 53) rfl)) rfl
theorem kw_6_54 : Cond.instanceMethod yX11_trouble ∈ WG := wg_in (lt_6 (List.mem_of_getElem? (i := 54) rfl)) rfl
theorem kw_6_55 : Cond.selects RX11 yX11_trouble yX11_trouble ∈ WG := wg_in (lt_6 (List.mem_of_getElem? (i := 55) rfl)) rfl
theorem kw_6_56 : Cond.code yX11_trouble cX11_trouble 1 (some .int) ∈ WG := wg_in (lt_6 (List.mem_of_getElem? (i := 56) rfl)) rfl
theorem kw_6_57 : Cond.methodLink RL 72 yL_reason ∈ WG := wg_in (lt_6 (List.mem_of_getElem? (i := 57) rfl)) rfl
theorem kw_6_58 : Cond.static yL_reason ∈ WG := wg_in (lt_6 (List.mem_of_getElem? (i := 58) rfl)) rfl
theorem kw_6_59 : Cond.codeWith yL_reason cL_reason 7 (some .int) [((0), (14), (17), (13))] ∈ WG := wg_in (lt_6 (List.mem_of_getElem? (i := 59) rfl)) rfl
theorem kw_6_60 : Cond.classLink RL 13 "java/util/NoSuchElementException" ∈ WG := wg_in (lt_6 (List.mem_of_getElem? (i := 60) rfl)) rfl
theorem kw_6_61 : Cond.methodLink RL 7 yX11_reason ∈ WG := wg_in (lt_6 (List.mem_of_getElem? (i := 61) rfl)) rfl
theorem kw_6_62 : Cond.instanceMethod yX11_reason ∈ WG := wg_in (lt_6 (List.mem_of_getElem? (i := 62) rfl)) rfl
theorem kw_6_63 : Cond.selects RX11 yX11_reason yX11_reason ∈ WG := wg_in (lt_6 (List.mem_of_getElem? (i := 63) rfl)) rfl
theorem kw_6_64 : Cond.code yX11_reason cX11_reason 5 (some .int) ∈ WG := wg_in (lt_6 (List.mem_of_getElem? (i := 64) rfl)) rfl
theorem kw_6_65 : Cond.classLink RX11 190 "java/util/NoSuchElementException" ∈ WG := wg_in (lt_6 (List.mem_of_getElem? (i := 65) rfl)) rfl
theorem kw_6_66 : Cond.instantiable "java/util/NoSuchElementException" 6 ∈ WG := wg_in (lt_6 (List.mem_of_getElem? (i := 66) rfl)) rfl
theorem kw_6_74 : Cond.selects "java/util/NoSuchElementException" (⟨"java/lang/Throwable", "fillInStackTrace", "(I)Ljava/lang/Throwable;"⟩ : MethodName) (⟨"java/lang/Throwable", "fillInStackTrace", "(I)Ljava/lang/Throwable;"⟩ : MethodName) ∈ WG := wg_in (lt_6 (List.mem_of_getElem? (i := 74) rfl)) rfl
theorem kw_6_75 : Cond.selects "java/util/NoSuchElementException" (⟨"java/lang/Throwable", "fillInStackTrace", "()Ljava/lang/Throwable;"⟩ : MethodName) (⟨"java/lang/Throwable", "fillInStackTrace", "()Ljava/lang/Throwable;"⟩ : MethodName) ∈ WG := wg_in (lt_6 (List.mem_of_getElem? (i := 75) rfl)) rfl
theorem kw_6_86 : Cond.fieldLink "java/lang/Throwable" 198 "java/lang/Throwable" "backtrace" "Ljava/lang/Object;" ∈ WG := wg_in (lt_6 (List.mem_of_getElem? (i := 86) rfl)) rfl
theorem kw_6_88 : Cond.instanceMethod (⟨"java/lang/Throwable", "<init>", "()V"⟩ : MethodName) ∈ WG := wg_in (lt_6 (List.mem_of_getElem? (i := 88) rfl)) rfl
theorem kw_6_89 : Cond.code (⟨"java/lang/Throwable", "<init>", "()V"⟩ : MethodName) prog_26_method_1_code 1 none ∈ WG := wg_in (lt_6 (List.mem_of_getElem? (i := 89) rfl)) rfl
theorem kw_6_90 : Cond.methodLink "java/lang/Throwable" 1 (⟨"java/lang/Object", "<init>", "()V"⟩ : MethodName) ∈ WG := wg_in (lt_6 (List.mem_of_getElem? (i := 90) rfl)) rfl
theorem kw_6_91 : Cond.fieldLink "java/lang/Throwable" 13 "java/lang/Throwable" "UNASSIGNED_STACK" "[Ljava/lang/StackTraceElement;" ∈ WG := wg_in (lt_6 (List.mem_of_getElem? (i := 91) rfl)) rfl
theorem kw_6_93 : Cond.fieldLink "java/lang/Throwable" 20 "java/lang/Throwable" "SUPPRESSED_SENTINEL" "Ljava/util/List;" ∈ WG := wg_in (lt_6 (List.mem_of_getElem? (i := 93) rfl)) rfl
theorem kw_6_95 : Cond.methodLink "java/lang/Throwable" 27 (⟨"java/lang/Throwable", "fillInStackTrace", "()Ljava/lang/Throwable;"⟩ : MethodName) ∈ WG := wg_in (lt_6 (List.mem_of_getElem? (i := 95) rfl)) rfl
theorem kw_6_96 : Cond.instanceMethod (⟨"java/lang/Throwable", "fillInStackTrace", "()Ljava/lang/Throwable;"⟩ : MethodName) ∈ WG := wg_in (lt_6 (List.mem_of_getElem? (i := 96) rfl)) rfl
theorem kw_6_100 : Cond.methodLink "java/lang/Throwable" 202 (⟨"java/lang/Throwable", "fillInStackTrace", "(I)Ljava/lang/Throwable;"⟩ : MethodName) ∈ WG := wg_in (lt_6 (List.mem_of_getElem? (i := 100) rfl)) rfl
theorem kw_6_102 : Cond.instanceMethod (⟨"java/lang/Throwable", "fillInStackTrace", "(I)Ljava/lang/Throwable;"⟩ : MethodName) ∈ WG := wg_in (lt_6 (List.mem_of_getElem? (i := 102) rfl)) rfl
theorem kw_6_103 : Cond.instantiable "java/lang/Throwable" 6 ∈ WG := wg_in (lt_6 (List.mem_of_getElem? (i := 103) rfl)) rfl
theorem kw_6_105 : Cond.methodLink RX11 192 (⟨"java/util/NoSuchElementException", "<init>", "()V"⟩ : MethodName) ∈ WG := wg_in (lt_6 (List.mem_of_getElem? (i := 105) rfl)) rfl
theorem kw_6_106 : Cond.instanceMethod (⟨"java/util/NoSuchElementException", "<init>", "()V"⟩ : MethodName) ∈ WG := wg_in (lt_6 (List.mem_of_getElem? (i := 106) rfl)) rfl
theorem kw_6_107 : Cond.code (⟨"java/util/NoSuchElementException", "<init>", "()V"⟩ : MethodName) prog_28_method_1_code 1 none ∈ WG := wg_in (lt_6 (List.mem_of_getElem? (i := 107) rfl)) rfl
theorem kw_6_108 : Cond.methodLink "java/util/NoSuchElementException" 1 (⟨"java/lang/RuntimeException", "<init>", "()V"⟩ : MethodName) ∈ WG := wg_in (lt_6 (List.mem_of_getElem? (i := 108) rfl)) rfl
theorem kw_6_109 : Cond.instanceMethod (⟨"java/lang/RuntimeException", "<init>", "()V"⟩ : MethodName) ∈ WG := wg_in (lt_6 (List.mem_of_getElem? (i := 109) rfl)) rfl
theorem kw_6_110 : Cond.code (⟨"java/lang/RuntimeException", "<init>", "()V"⟩ : MethodName) prog_22_method_1_code 1 none ∈ WG := wg_in (lt_6 (List.mem_of_getElem? (i := 110) rfl)) rfl
theorem kw_6_111 : Cond.methodLink "java/lang/RuntimeException" 1 (⟨"java/lang/Exception", "<init>", "()V"⟩ : MethodName) ∈ WG := wg_in (lt_6 (List.mem_of_getElem? (i := 111) rfl)) rfl
theorem kw_6_112 : Cond.instanceMethod (⟨"java/lang/Exception", "<init>", "()V"⟩ : MethodName) ∈ WG := wg_in (lt_6 (List.mem_of_getElem? (i := 112) rfl)) rfl
theorem kw_6_113 : Cond.code (⟨"java/lang/Exception", "<init>", "()V"⟩ : MethodName) prog_18_method_1_code 1 none ∈ WG := wg_in (lt_6 (List.mem_of_getElem? (i := 113) rfl)) rfl
theorem kw_6_114 : Cond.methodLink "java/lang/Exception" 1 (⟨"java/lang/Throwable", "<init>", "()V"⟩ : MethodName) ∈ WG := wg_in (lt_6 (List.mem_of_getElem? (i := 114) rfl)) rfl
theorem kw_6_116 : Cond.fieldLink "java/lang/Throwable" 31 "java/lang/Throwable" "detailMessage" "Ljava/lang/String;" ∈ WG := wg_in (lt_6 (List.mem_of_getElem? (i := 116) rfl)) rfl
theorem kw_6_117 : Cond.fieldLink "java/lang/Throwable" 7 "java/lang/Throwable" "cause" "Ljava/lang/Throwable;" ∈ WG := wg_in (lt_6 (List.mem_of_getElem? (i := 117) rfl)) rfl
theorem kw_6_118 : Cond.fieldLink "java/lang/Throwable" 17 "java/lang/Throwable" "stackTrace" "[Ljava/lang/StackTraceElement;" ∈ WG := wg_in (lt_6 (List.mem_of_getElem? (i := 118) rfl)) rfl
theorem kw_6_119 : Cond.fieldLink "java/lang/Throwable" 24 "java/lang/Throwable" "suppressedExceptions" "Ljava/util/List;" ∈ WG := wg_in (lt_6 (List.mem_of_getElem? (i := 119) rfl)) rfl
theorem kw_6_128 : Cond.methodLink RL 142 yL_led ∈ WG := wg_in (lt_6 (List.mem_of_getElem? (i := 128) rfl)) rfl
theorem kw_6_129 : Cond.static yL_led ∈ WG := wg_in (lt_6 (List.mem_of_getElem? (i := 129) rfl)) rfl
theorem kw_6_130 : Cond.codeWith yL_led cL_led 4 (some .int) [((0), (9), (12), (13))] ∈ WG := wg_in (lt_6 (List.mem_of_getElem? (i := 130) rfl)) rfl
theorem kw_6_131 : Cond.methodLink RL 15 yX11_led ∈ WG := wg_in (lt_6 (List.mem_of_getElem? (i := 131) rfl)) rfl
theorem kw_6_132 : Cond.instanceMethod yX11_led ∈ WG := wg_in (lt_6 (List.mem_of_getElem? (i := 132) rfl)) rfl
theorem kw_6_133 : Cond.selects RX11 yX11_led yX11_led ∈ WG := wg_in (lt_6 (List.mem_of_getElem? (i := 133) rfl)) rfl
theorem kw_6_134 : Cond.code yX11_led cX11_led 2 (some .int) ∈ WG := wg_in (lt_6 (List.mem_of_getElem? (i := 134) rfl)) rfl
theorem kw_6_135 : Cond.methodLink RX11 284 yX8_followChain ∈ WG := wg_in (lt_6 (List.mem_of_getElem? (i := 135) rfl)) rfl
theorem kw_6_136 : Cond.instanceMethod yX8_followChain ∈ WG := wg_in (lt_6 (List.mem_of_getElem? (i := 136) rfl)) rfl
theorem kw_6_137 : Cond.selects RX8 yX8_followChain yX8_followChain ∈ WG := wg_in (lt_6 (List.mem_of_getElem? (i := 137) rfl)) rfl
theorem kw_6_138 : Cond.code yX8_followChain cX8_followChain 7 (some .int) ∈ WG := wg_in (lt_6 (List.mem_of_getElem? (i := 138) rfl)) rfl
theorem kw_6_139 : Cond.methodLink RX8 166 yX8_firstLink ∈ WG := wg_in (lt_6 (List.mem_of_getElem? (i := 139) rfl)) rfl
theorem kw_6_140 : Cond.instanceMethod yX8_firstLink ∈ WG := wg_in (lt_6 (List.mem_of_getElem? (i := 140) rfl)) rfl
theorem kw_6_141 : Cond.selects RX8 yX8_firstLink yX8_firstLink ∈ WG := wg_in (lt_6 (List.mem_of_getElem? (i := 141) rfl)) rfl
theorem kw_6_142 : Cond.code yX8_firstLink cX8_firstLink 5 (some .int) ∈ WG := wg_in (lt_6 (List.mem_of_getElem? (i := 142) rfl)) rfl
theorem kw_6_143 : Cond.methodLink RX8 180 yX8_linkOf ∈ WG := wg_in (lt_6 (List.mem_of_getElem? (i := 143) rfl)) rfl
theorem kw_6_144 : Cond.static yX8_linkOf ∈ WG := wg_in (lt_6 (List.mem_of_getElem? (i := 144) rfl)) rfl
theorem kw_6_145 : Cond.code yX8_linkOf cX8_linkOf 3 (some .int) ∈ WG := wg_in (lt_6 (List.mem_of_getElem? (i := 145) rfl)) rfl
theorem kw_6_146 : Cond.methodLink RX8 170 yX8_linkBehind ∈ WG := wg_in (lt_6 (List.mem_of_getElem? (i := 146) rfl)) rfl
theorem kw_6_147 : Cond.instanceMethod yX8_linkBehind ∈ WG := wg_in (lt_6 (List.mem_of_getElem? (i := 147) rfl)) rfl
theorem kw_6_148 : Cond.selects RX8 yX8_linkBehind yX8_linkBehind ∈ WG := wg_in (lt_6 (List.mem_of_getElem? (i := 148) rfl)) rfl
theorem kw_6_149 : Cond.code yX8_linkBehind cX8_linkBehind 8 (some .int) ∈ WG := wg_in (lt_6 (List.mem_of_getElem? (i := 149) rfl)) rfl
theorem kw_6_150 : Cond.methodLink RX8 184 yX8_listReasons ∈ WG := wg_in (lt_6 (List.mem_of_getElem? (i := 150) rfl)) rfl
theorem kw_6_151 : Cond.methodLink RX8 188 yX8_caseTick ∈ WG := wg_in (lt_6 (List.mem_of_getElem? (i := 151) rfl)) rfl
theorem kw_6_152 : Cond.methodLink RX8 194 yX8_leastLink ∈ WG := wg_in (lt_6 (List.mem_of_getElem? (i := 152) rfl)) rfl
theorem kw_6_153 : Cond.static yX8_leastLink ∈ WG := wg_in (lt_6 (List.mem_of_getElem? (i := 153) rfl)) rfl
theorem kw_6_154 : Cond.code yX8_leastLink cX8_leastLink 3 (some .int) ∈ WG := wg_in (lt_6 (List.mem_of_getElem? (i := 154) rfl)) rfl
theorem kw_6_155 : Cond.methodLink RX8 197 yJ6_numberOfTrailingZeros_0f7a4 ∈ WG := wg_in (lt_6 (List.mem_of_getElem? (i := 155) rfl)) rfl
theorem kw_6_156 : Cond.classLink RL 20 RX15 ∈ WG := wg_in (lt_6 (List.mem_of_getElem? (i := 156) rfl)) rfl
theorem kw_6_157 : Cond.instantiable RX15 51 ∈ WG := wg_in (lt_6 (List.mem_of_getElem? (i := 157) rfl)) rfl
theorem kw_6_158 : Cond.methodLink RL 22 yX15_init ∈ WG := wg_in (lt_6 (List.mem_of_getElem? (i := 158) rfl)) rfl
theorem kw_6_159 : Cond.instanceMethod yX15_init ∈ WG := wg_in (lt_6 (List.mem_of_getElem? (i := 159) rfl)) rfl
theorem kw_6_160 : Cond.code yX15_init cX15_init 1 none ∈ WG := wg_in (lt_6 (List.mem_of_getElem? (i := 160) rfl)) rfl
theorem kw_6_161 : Cond.methodLink RX15 3 (⟨"java/lang/Object", "<init>", "()V"⟩ : MethodName) ∈ WG := wg_in (lt_6 (List.mem_of_getElem? (i := 161) rfl)) rfl
theorem kw_6_162 : Cond.classLink RX15 13 RX14 ∈ WG := wg_in (lt_6 (List.mem_of_getElem? (i := 162) rfl)) rfl
theorem kw_6_163 : Cond.instantiable RX14 8 ∈ WG := wg_in (lt_6 (List.mem_of_getElem? (i := 163) rfl)) rfl
theorem kw_6_171 : Cond.methodLink RX15 15 yX14_init ∈ WG := wg_in (lt_6 (List.mem_of_getElem? (i := 171) rfl)) rfl
theorem kw_6_172 : Cond.instanceMethod yX14_init ∈ WG := wg_in (lt_6 (List.mem_of_getElem? (i := 172) rfl)) rfl
theorem kw_6_173 : Cond.code yX14_init cX14_init 1 none ∈ WG := wg_in (lt_6 (List.mem_of_getElem? (i := 173) rfl)) rfl
theorem kw_6_174 : Cond.methodLink RX14 1 (⟨"java/lang/RuntimeException", "<init>", "(Ljava/lang/String;Ljava/lang/Throwable;ZZ)V"⟩ : MethodName) ∈ WG := wg_in (lt_6 (List.mem_of_getElem? (i := 174) rfl)) rfl
theorem kw_6_175 : Cond.instanceMethod (⟨"java/lang/RuntimeException", "<init>", "(Ljava/lang/String;Ljava/lang/Throwable;ZZ)V"⟩ : MethodName) ∈ WG := wg_in (lt_6 (List.mem_of_getElem? (i := 175) rfl)) rfl
theorem kw_6_176 : Cond.code (⟨"java/lang/RuntimeException", "<init>", "(Ljava/lang/String;Ljava/lang/Throwable;ZZ)V"⟩ : MethodName) prog_22_method_5_code 5 none ∈ WG := wg_in (lt_6 (List.mem_of_getElem? (i := 176) rfl)) rfl
theorem kw_6_177 : Cond.methodLink "java/lang/RuntimeException" 16 (⟨"java/lang/Exception", "<init>", "(Ljava/lang/String;Ljava/lang/Throwable;ZZ)V"⟩ : MethodName) ∈ WG := wg_in (lt_6 (List.mem_of_getElem? (i := 177) rfl)) rfl
theorem kw_6_178 : Cond.instanceMethod (⟨"java/lang/Exception", "<init>", "(Ljava/lang/String;Ljava/lang/Throwable;ZZ)V"⟩ : MethodName) ∈ WG := wg_in (lt_6 (List.mem_of_getElem? (i := 178) rfl)) rfl
theorem kw_6_179 : Cond.code (⟨"java/lang/Exception", "<init>", "(Ljava/lang/String;Ljava/lang/Throwable;ZZ)V"⟩ : MethodName) prog_18_method_5_code 5 none ∈ WG := wg_in (lt_6 (List.mem_of_getElem? (i := 179) rfl)) rfl
theorem kw_6_180 : Cond.methodLink "java/lang/Exception" 16 (⟨"java/lang/Throwable", "<init>", "(Ljava/lang/String;Ljava/lang/Throwable;ZZ)V"⟩ : MethodName) ∈ WG := wg_in (lt_6 (List.mem_of_getElem? (i := 180) rfl)) rfl
theorem kw_6_181 : Cond.instanceMethod (⟨"java/lang/Throwable", "<init>", "(Ljava/lang/String;Ljava/lang/Throwable;ZZ)V"⟩ : MethodName) ∈ WG := wg_in (lt_6 (List.mem_of_getElem? (i := 181) rfl)) rfl
theorem kw_6_182 : Cond.code (⟨"java/lang/Throwable", "<init>", "(Ljava/lang/String;Ljava/lang/Throwable;ZZ)V"⟩ : MethodName) prog_26_method_5_code 5 none ∈ WG := wg_in (lt_6 (List.mem_of_getElem? (i := 182) rfl)) rfl
theorem kw_6_191 : Cond.classLink RX15 40 RX13 ∈ WG := wg_in (lt_6 (List.mem_of_getElem? (i := 191) rfl)) rfl
theorem kw_6_192 : Cond.instantiable RX13 3 ∈ WG := wg_in (lt_6 (List.mem_of_getElem? (i := 192) rfl)) rfl
theorem kw_6_194 : Cond.instanceMethod yX13_init ∈ WG := wg_in (lt_6 (List.mem_of_getElem? (i := 194) rfl)) rfl
theorem kw_6_195 : Cond.code yX13_init cX13_init 1 none ∈ WG := wg_in (lt_6 (List.mem_of_getElem? (i := 195) rfl)) rfl
theorem kw_6_196 : Cond.methodLink RX13 3 (⟨"java/lang/Object", "<init>", "()V"⟩ : MethodName) ∈ WG := wg_in (lt_6 (List.mem_of_getElem? (i := 196) rfl)) rfl
theorem kw_6_197 : Cond.fieldLink RX13 9 RX13 "lost" "[Z" ∈ WG := wg_in (lt_6 (List.mem_of_getElem? (i := 197) rfl)) rfl
theorem kw_6_199 : Cond.fieldLink RX13 15 RX13 "late" "[Z" ∈ WG := wg_in (lt_6 (List.mem_of_getElem? (i := 199) rfl)) rfl
theorem kw_6_201 : Cond.fieldLink RX13 18 RX13 "down" "[I" ∈ WG := wg_in (lt_6 (List.mem_of_getElem? (i := 201) rfl)) rfl
theorem kw_6_210 : Cond.fieldLink RX15 108 RX15 "thrown" "I" ∈ WG := wg_in (lt_6 (List.mem_of_getElem? (i := 210) rfl)) rfl
theorem kw_6_211 : Cond.fieldLink RX15 111 RX15 "trouble" "I" ∈ WG := wg_in (lt_6 (List.mem_of_getElem? (i := 211) rfl)) rfl
theorem kw_6_212 : Cond.fieldLink RX15 9 RX15 "where" "I" ∈ WG := wg_in (lt_6 (List.mem_of_getElem? (i := 212) rfl)) rfl
theorem kw_6_213 : Cond.fieldLink RX15 336 RX15 "fault" "I" ∈ WG := wg_in (lt_6 (List.mem_of_getElem? (i := 213) rfl)) rfl
theorem kw_6_214 : Cond.fieldLink RX15 343 RX15 "book" "LFallTrialsModel$Book;" ∈ WG := wg_in (lt_6 (List.mem_of_getElem? (i := 214) rfl)) rfl
theorem kw_6_215 : Cond.fieldLink RX15 193 RX15 "fresh" "LFallTrialsModel$Book;" ∈ WG := wg_in (lt_6 (List.mem_of_getElem? (i := 215) rfl)) rfl
theorem kw_6_216 : Cond.fieldLink RX15 16 RX15 "stop" "LFallTrialsModel$Stop;" ∈ WG := wg_in (lt_6 (List.mem_of_getElem? (i := 216) rfl)) rfl
theorem kw_6_217 : Cond.fieldLink RX15 20 RX15 "tape" "[B" ∈ WG := wg_in (lt_6 (List.mem_of_getElem? (i := 217) rfl)) rfl
theorem kw_6_218 : Cond.fieldLink RX15 330 RX15 "taped" "I" ∈ WG := wg_in (lt_6 (List.mem_of_getElem? (i := 218) rfl)) rfl
theorem kw_6_219 : Cond.fieldLink RX15 121 RX15 "size" "I" ∈ WG := wg_in (lt_6 (List.mem_of_getElem? (i := 219) rfl)) rfl
theorem kw_6_220 : Cond.fieldLink RX15 136 RX15 "at" "I" ∈ WG := wg_in (lt_6 (List.mem_of_getElem? (i := 220) rfl)) rfl
theorem kw_6_221 : Cond.fieldLink RX15 143 RX15 "sort" "I" ∈ WG := wg_in (lt_6 (List.mem_of_getElem? (i := 221) rfl)) rfl
theorem kw_6_222 : Cond.fieldLink RX15 117 RX15 "place" "I" ∈ WG := wg_in (lt_6 (List.mem_of_getElem? (i := 222) rfl)) rfl
theorem kw_6_223 : Cond.fieldLink RX15 150 RX15 "word" "J" ∈ WG := wg_in (lt_6 (List.mem_of_getElem? (i := 223) rfl)) rfl
theorem kw_6_224 : Cond.fieldLink RX15 24 RX15 "last" "I" ∈ WG := wg_in (lt_6 (List.mem_of_getElem? (i := 224) rfl)) rfl
theorem kw_6_225 : Cond.fieldLink RX15 346 RX15 "start" "I" ∈ WG := wg_in (lt_6 (List.mem_of_getElem? (i := 225) rfl)) rfl
theorem kw_6_226 : Cond.fieldLink RX15 349 RX15 "falls" "I" ∈ WG := wg_in (lt_6 (List.mem_of_getElem? (i := 226) rfl)) rfl
theorem kw_6_227 : Cond.fieldLink RX15 352 RX15 "mends" "I" ∈ WG := wg_in (lt_6 (List.mem_of_getElem? (i := 227) rfl)) rfl
theorem kw_6_228 : Cond.fieldLink RX15 355 RX15 "keptSets" "I" ∈ WG := wg_in (lt_6 (List.mem_of_getElem? (i := 228) rfl)) rfl
theorem kw_6_229 : Cond.fieldLink RX15 27 RX15 "purse" "[I" ∈ WG := wg_in (lt_6 (List.mem_of_getElem? (i := 229) rfl)) rfl
theorem kw_6_230 : Cond.fieldLink RX15 31 RX15 "fall" "[I" ∈ WG := wg_in (lt_6 (List.mem_of_getElem? (i := 230) rfl)) rfl
theorem kw_6_231 : Cond.fieldLink RX15 34 RX15 "keptMany" "[I" ∈ WG := wg_in (lt_6 (List.mem_of_getElem? (i := 231) rfl)) rfl
theorem kw_6_232 : Cond.fieldLink RX15 37 RX15 "keptFall" "[I" ∈ WG := wg_in (lt_6 (List.mem_of_getElem? (i := 232) rfl)) rfl
theorem kw_6_233 : Cond.fieldLink RX15 364 RX15 "keptRows" "I" ∈ WG := wg_in (lt_6 (List.mem_of_getElem? (i := 233) rfl)) rfl
theorem kw_6_234 : Cond.fieldLink RX15 365 RX15 "again" "I" ∈ WG := wg_in (lt_6 (List.mem_of_getElem? (i := 234) rfl)) rfl
theorem kw_6_235 : Cond.fieldLink RX15 368 RX15 "bare" "I" ∈ WG := wg_in (lt_6 (List.mem_of_getElem? (i := 235) rfl)) rfl
theorem kw_6_236 : Cond.fieldLink RX15 43 RX15 "harm" "LFallTrialsModel$Harm;" ∈ WG := wg_in (lt_6 (List.mem_of_getElem? (i := 236) rfl)) rfl
theorem kw_6_237 : Cond.fieldLink RX15 47 RX15 "put" "LFallTrialsModel$Harm;" ∈ WG := wg_in (lt_6 (List.mem_of_getElem? (i := 237) rfl)) rfl
theorem kw_6_238 : Cond.fieldLink RX15 50 RX15 "there" "[I" ∈ WG := wg_in (lt_6 (List.mem_of_getElem? (i := 238) rfl)) rfl
theorem kw_6_239 : Cond.fieldLink RX15 53 RX15 "downs" "[I" ∈ WG := wg_in (lt_6 (List.mem_of_getElem? (i := 239) rfl)) rfl
theorem kw_7_0 : Cond.fieldLink RX15 56 RX15 "comes" "[I" ∈ WG := wg_in (lt_7 (List.mem_of_getElem? (i := 0) rfl)) rfl
theorem kw_7_1 : Cond.fieldLink RX15 59 RX15 "state" "[I" ∈ WG := wg_in (lt_7 (List.mem_of_getElem? (i := 1) rfl)) rfl
theorem kw_7_2 : Cond.fieldLink RX15 62 RX15 "isAgain" "[Z" ∈ WG := wg_in (lt_7 (List.mem_of_getElem? (i := 2) rfl)) rfl
theorem kw_7_3 : Cond.fieldLink RX15 459 RX15 "reasonsMany" "I" ∈ WG := wg_in (lt_7 (List.mem_of_getElem? (i := 3) rfl)) rfl
theorem kw_7_4 : Cond.fieldLink RX15 66 RX15 "reason" "[I" ∈ WG := wg_in (lt_7 (List.mem_of_getElem? (i := 4) rfl)) rfl
theorem kw_7_5 : Cond.fieldLink RX15 69 RX15 "stand" "[I" ∈ WG := wg_in (lt_7 (List.mem_of_getElem? (i := 5) rfl)) rfl
theorem kw_7_6 : Cond.fieldLink RX15 486 RX15 "alls" "I" ∈ WG := wg_in (lt_7 (List.mem_of_getElem? (i := 6) rfl)) rfl
theorem kw_7_7 : Cond.fieldLink RX15 72 RX15 "all" "[I" ∈ WG := wg_in (lt_7 (List.mem_of_getElem? (i := 7) rfl)) rfl
theorem kw_7_8 : Cond.fieldLink RX15 75 RX15 "pick" "[I" ∈ WG := wg_in (lt_7 (List.mem_of_getElem? (i := 8) rfl)) rfl
theorem kw_7_9 : Cond.fieldLink RX15 78 RX15 "set" "[I" ∈ WG := wg_in (lt_7 (List.mem_of_getElem? (i := 9) rfl)) rfl
theorem kw_7_10 : Cond.fieldLink RX15 81 RX15 "tried" "I" ∈ WG := wg_in (lt_7 (List.mem_of_getElem? (i := 10) rfl)) rfl
theorem kw_7_11 : Cond.fieldLink RX15 84 RX15 "known" "I" ∈ WG := wg_in (lt_7 (List.mem_of_getElem? (i := 11) rfl)) rfl
theorem kw_7_12 : Cond.fieldLink RX15 358 RX15 "foundMany" "I" ∈ WG := wg_in (lt_7 (List.mem_of_getElem? (i := 12) rfl)) rfl
theorem kw_7_13 : Cond.fieldLink RX15 361 RX15 "exactMany" "I" ∈ WG := wg_in (lt_7 (List.mem_of_getElem? (i := 13) rfl)) rfl
theorem kw_7_14 : Cond.fieldLink RX15 87 RX15 "found" "[I" ∈ WG := wg_in (lt_7 (List.mem_of_getElem? (i := 14) rfl)) rfl
theorem kw_7_15 : Cond.fieldLink RX15 90 RX15 "exactly" "[I" ∈ WG := wg_in (lt_7 (List.mem_of_getElem? (i := 15) rfl)) rfl
theorem kw_7_16 : Cond.fieldLink RX15 93 RX15 "left" "[I" ∈ WG := wg_in (lt_7 (List.mem_of_getElem? (i := 16) rfl)) rfl
theorem kw_7_17 : Cond.fieldLink RX15 96 RX15 "thinness" "I" ∈ WG := wg_in (lt_7 (List.mem_of_getElem? (i := 17) rfl)) rfl
theorem kw_7_18 : Cond.fieldLink RX15 99 RX15 "chain" "[I" ∈ WG := wg_in (lt_7 (List.mem_of_getElem? (i := 18) rfl)) rfl
theorem kw_7_19 : Cond.fieldLink RX15 102 RX15 "mendForm" "[I" ∈ WG := wg_in (lt_7 (List.mem_of_getElem? (i := 19) rfl)) rfl
theorem kw_7_20 : Cond.fieldLink RX15 105 RX15 "mendOf" "[I" ∈ WG := wg_in (lt_7 (List.mem_of_getElem? (i := 20) rfl)) rfl
theorem kw_7_124 : Cond.methodLink RL 78 yX15_thrown ∈ WG := wg_in (lt_7 (List.mem_of_getElem? (i := 124) rfl)) rfl
theorem kw_7_125 : Cond.instanceMethod yX15_thrown ∈ WG := wg_in (lt_7 (List.mem_of_getElem? (i := 125) rfl)) rfl
theorem kw_7_126 : Cond.selects RX15 yX15_thrown yX15_thrown ∈ WG := wg_in (lt_7 (List.mem_of_getElem? (i := 126) rfl)) rfl
theorem kw_7_127 : Cond.code yX15_thrown cX15_thrown 1 (some .int) ∈ WG := wg_in (lt_7 (List.mem_of_getElem? (i := 127) rfl)) rfl
theorem kw_7_128 : Cond.methodLink RL 27 yX15_feed ∈ WG := wg_in (lt_7 (List.mem_of_getElem? (i := 128) rfl)) rfl
theorem kw_7_129 : Cond.instanceMethod yX15_feed ∈ WG := wg_in (lt_7 (List.mem_of_getElem? (i := 129) rfl)) rfl
theorem kw_7_130 : Cond.selects RX15 yX15_feed yX15_feed ∈ WG := wg_in (lt_7 (List.mem_of_getElem? (i := 130) rfl)) rfl
theorem kw_7_131 : Cond.code yX15_feed cX15_feed 8 (some .int) ∈ WG := wg_in (lt_7 (List.mem_of_getElem? (i := 131) rfl)) rfl
theorem kw_7_132 : Cond.methodLink RL 31 yX15_book ∈ WG := wg_in (lt_7 (List.mem_of_getElem? (i := 132) rfl)) rfl
theorem kw_7_133 : Cond.instanceMethod yX15_book ∈ WG := wg_in (lt_7 (List.mem_of_getElem? (i := 133) rfl)) rfl
theorem kw_7_134 : Cond.selects RX15 yX15_book yX15_book ∈ WG := wg_in (lt_7 (List.mem_of_getElem? (i := 134) rfl)) rfl
theorem kw_7_135 : Cond.codeWith yX15_book cX15_book 3 (some .int) [((54), (62), (65), (13))] ∈ WG := wg_in (lt_7 (List.mem_of_getElem? (i := 135) rfl)) rfl
theorem kw_7_136 : Cond.methodLink RX15 333 yX15_refused ∈ WG := wg_in (lt_7 (List.mem_of_getElem? (i := 136) rfl)) rfl
theorem kw_7_138 : Cond.instanceMethod yX15_refused ∈ WG := wg_in (lt_7 (List.mem_of_getElem? (i := 138) rfl)) rfl
theorem kw_7_139 : Cond.code yX15_refused cX15_refused 2 (some .int) ∈ WG := wg_in (lt_7 (List.mem_of_getElem? (i := 139) rfl)) rfl
theorem kw_7_140 : Cond.classLink RX15 198 RX12 ∈ WG := wg_in (lt_7 (List.mem_of_getElem? (i := 140) rfl)) rfl
theorem kw_7_141 : Cond.instantiable RX12 28 ∈ WG := wg_in (lt_7 (List.mem_of_getElem? (i := 141) rfl)) rfl
theorem kw_7_143 : Cond.instanceMethod yX12_init ∈ WG := wg_in (lt_7 (List.mem_of_getElem? (i := 143) rfl)) rfl
theorem kw_7_144 : Cond.code yX12_init cX12_init 1 none ∈ WG := wg_in (lt_7 (List.mem_of_getElem? (i := 144) rfl)) rfl
theorem kw_7_145 : Cond.methodLink RX12 3 (⟨"java/lang/Object", "<init>", "()V"⟩ : MethodName) ∈ WG := wg_in (lt_7 (List.mem_of_getElem? (i := 145) rfl)) rfl
theorem kw_7_146 : Cond.fieldLink RX12 68 RX12 "names" "I" ∈ WG := wg_in (lt_7 (List.mem_of_getElem? (i := 146) rfl)) rfl
theorem kw_7_155 : Cond.fieldLink RX12 9 RX12 "name" "[J" ∈ WG := wg_in (lt_7 (List.mem_of_getElem? (i := 155) rfl)) rfl
theorem kw_7_157 : Cond.fieldLink RX12 15 RX12 "isRow" "[Z" ∈ WG := wg_in (lt_7 (List.mem_of_getElem? (i := 157) rfl)) rfl
theorem kw_7_159 : Cond.fieldLink RX12 19 RX12 "number" "[I" ∈ WG := wg_in (lt_7 (List.mem_of_getElem? (i := 159) rfl)) rfl
theorem kw_7_161 : Cond.fieldLink RX12 23 RX12 "factRow" "[I" ∈ WG := wg_in (lt_7 (List.mem_of_getElem? (i := 161) rfl)) rfl
theorem kw_7_163 : Cond.fieldLink RX12 26 RX12 "factAt" "[I" ∈ WG := wg_in (lt_7 (List.mem_of_getElem? (i := 163) rfl)) rfl
theorem kw_7_165 : Cond.fieldLink RX12 29 RX12 "maybe" "[I" ∈ WG := wg_in (lt_7 (List.mem_of_getElem? (i := 165) rfl)) rfl
theorem kw_7_167 : Cond.fieldLink RX12 32 RX12 "ruleRow" "[I" ∈ WG := wg_in (lt_7 (List.mem_of_getElem? (i := 167) rfl)) rfl
theorem kw_7_169 : Cond.fieldLink RX12 35 RX12 "ruleAt" "[I" ∈ WG := wg_in (lt_7 (List.mem_of_getElem? (i := 169) rfl)) rfl
theorem kw_7_171 : Cond.fieldLink RX12 38 RX12 "isNow" "[Z" ∈ WG := wg_in (lt_7 (List.mem_of_getElem? (i := 171) rfl)) rfl
theorem kw_7_173 : Cond.fieldLink RX12 41 RX12 "sendRow" "[I" ∈ WG := wg_in (lt_7 (List.mem_of_getElem? (i := 173) rfl)) rfl
theorem kw_7_175 : Cond.fieldLink RX12 44 RX12 "sendTo" "[I" ∈ WG := wg_in (lt_7 (List.mem_of_getElem? (i := 175) rfl)) rfl
theorem kw_7_177 : Cond.fieldLink RX12 47 RX12 "sendAt" "[I" ∈ WG := wg_in (lt_7 (List.mem_of_getElem? (i := 177) rfl)) rfl
theorem kw_7_179 : Cond.fieldLink RX12 50 RX12 "asks" "[I" ∈ WG := wg_in (lt_7 (List.mem_of_getElem? (i := 179) rfl)) rfl
theorem kw_7_181 : Cond.fieldLink RX12 53 RX12 "nots" "[I" ∈ WG := wg_in (lt_7 (List.mem_of_getElem? (i := 181) rfl)) rfl
theorem kw_7_185 : Cond.fieldLink RX12 56 RX12 "preRow" "[I" ∈ WG := wg_in (lt_7 (List.mem_of_getElem? (i := 185) rfl)) rfl
theorem kw_7_187 : Cond.fieldLink RX12 59 RX12 "preAt" "[I" ∈ WG := wg_in (lt_7 (List.mem_of_getElem? (i := 187) rfl)) rfl
theorem kw_7_189 : Cond.fieldLink RX12 62 RX12 "postRow" "[I" ∈ WG := wg_in (lt_7 (List.mem_of_getElem? (i := 189) rfl)) rfl
theorem kw_7_191 : Cond.fieldLink RX12 65 RX12 "postAt" "[I" ∈ WG := wg_in (lt_7 (List.mem_of_getElem? (i := 191) rfl)) rfl
theorem kw_8_10 : Cond.methodLink RX15 186 yX15_next ∈ WG := wg_in (lt_8 (List.mem_of_getElem? (i := 10) rfl)) rfl
theorem kw_8_12 : Cond.instanceMethod yX15_next ∈ WG := wg_in (lt_8 (List.mem_of_getElem? (i := 12) rfl)) rfl
theorem kw_8_13 : Cond.code yX15_next cX15_next 3 none ∈ WG := wg_in (lt_8 (List.mem_of_getElem? (i := 13) rfl)) rfl
theorem kw_8_14 : Cond.methodLink RX15 139 yX15_byteAt ∈ WG := wg_in (lt_8 (List.mem_of_getElem? (i := 14) rfl)) rfl
theorem kw_8_16 : Cond.instanceMethod yX15_byteAt ∈ WG := wg_in (lt_8 (List.mem_of_getElem? (i := 16) rfl)) rfl
theorem kw_8_17 : Cond.code yX15_byteAt cX15_byteAt 2 (some .int) ∈ WG := wg_in (lt_8 (List.mem_of_getElem? (i := 17) rfl)) rfl
theorem kw_8_18 : Cond.methodLink RX15 146 yX15_isLetter ∈ WG := wg_in (lt_8 (List.mem_of_getElem? (i := 18) rfl)) rfl
theorem kw_8_19 : Cond.static yX15_isLetter ∈ WG := wg_in (lt_8 (List.mem_of_getElem? (i := 19) rfl)) rfl
theorem kw_8_20 : Cond.code yX15_isLetter cX15_isLetter 1 (some .boolean) ∈ WG := wg_in (lt_8 (List.mem_of_getElem? (i := 20) rfl)) rfl
theorem kw_8_21 : Cond.constantLong RX15 130 (32) ∈ WG := wg_in (lt_8 (List.mem_of_getElem? (i := 21) rfl)) rfl
theorem kw_8_22 : Cond.methodLink RX15 340 yX15_readBook ∈ WG := wg_in (lt_8 (List.mem_of_getElem? (i := 22) rfl)) rfl
theorem kw_8_24 : Cond.instanceMethod yX15_readBook ∈ WG := wg_in (lt_8 (List.mem_of_getElem? (i := 24) rfl)) rfl
theorem kw_8_25 : Cond.code yX15_readBook cX15_readBook 1 none ∈ WG := wg_in (lt_8 (List.mem_of_getElem? (i := 25) rfl)) rfl
theorem kw_8_27 : Cond.methodLink RX15 160 yX15_isWord ∈ WG := wg_in (lt_8 (List.mem_of_getElem? (i := 27) rfl)) rfl
theorem kw_8_29 : Cond.instanceMethod yX15_isWord ∈ WG := wg_in (lt_8 (List.mem_of_getElem? (i := 29) rfl)) rfl
theorem kw_8_30 : Cond.code yX15_isWord cX15_isWord 2 (some .boolean) ∈ WG := wg_in (lt_8 (List.mem_of_getElem? (i := 30) rfl)) rfl
theorem kw_8_31 : Cond.methodLink RX15 154 yX15_wordOf ∈ WG := wg_in (lt_8 (List.mem_of_getElem? (i := 31) rfl)) rfl
theorem kw_8_32 : Cond.static yX15_wordOf ∈ WG := wg_in (lt_8 (List.mem_of_getElem? (i := 32) rfl)) rfl
theorem kw_8_33 : Cond.code yX15_wordOf cX15_wordOf 4 (some .long) ∈ WG := wg_in (lt_8 (List.mem_of_getElem? (i := 33) rfl)) rfl
theorem kw_8_34 : Cond.methodLink RX15 124 yJ0_length_8abf5 ∈ WG := wg_in (lt_8 (List.mem_of_getElem? (i := 34) rfl)) rfl
theorem kw_8_35 : Cond.methodLink RX15 132 yJ0_charAt_5068e ∈ WG := wg_in (lt_8 (List.mem_of_getElem? (i := 35) rfl)) rfl
theorem kw_8_37 : Cond.methodLink RX15 212 yX15_readName ∈ WG := wg_in (lt_8 (List.mem_of_getElem? (i := 37) rfl)) rfl
theorem kw_8_39 : Cond.instanceMethod yX15_readName ∈ WG := wg_in (lt_8 (List.mem_of_getElem? (i := 39) rfl)) rfl
theorem kw_8_40 : Cond.code yX15_readName cX15_readName 4 none ∈ WG := wg_in (lt_8 (List.mem_of_getElem? (i := 40) rfl)) rfl
theorem kw_8_41 : Cond.methodLink RX15 183 yX15_stop ∈ WG := wg_in (lt_8 (List.mem_of_getElem? (i := 41) rfl)) rfl
theorem kw_8_43 : Cond.instanceMethod yX15_stop ∈ WG := wg_in (lt_8 (List.mem_of_getElem? (i := 43) rfl)) rfl
theorem kw_8_44 : Cond.code yX15_stop cX15_stop 2 (some (.object "FallTrialsModel$Stop")) ∈ WG := wg_in (lt_8 (List.mem_of_getElem? (i := 44) rfl)) rfl
theorem kw_8_45 : Cond.methodLink RX15 189 yX15_isName ∈ WG := wg_in (lt_8 (List.mem_of_getElem? (i := 45) rfl)) rfl
theorem kw_8_47 : Cond.instanceMethod yX15_isName ∈ WG := wg_in (lt_8 (List.mem_of_getElem? (i := 47) rfl)) rfl
theorem kw_8_48 : Cond.code yX15_isName cX15_isName 1 (some .boolean) ∈ WG := wg_in (lt_8 (List.mem_of_getElem? (i := 48) rfl)) rfl
theorem kw_8_58 : Cond.methodLink RX15 197 yX12_find ∈ WG := wg_in (lt_8 (List.mem_of_getElem? (i := 58) rfl)) rfl
theorem kw_8_59 : Cond.instanceMethod yX12_find ∈ WG := wg_in (lt_8 (List.mem_of_getElem? (i := 59) rfl)) rfl
theorem kw_8_60 : Cond.selects RX12 yX12_find yX12_find ∈ WG := wg_in (lt_8 (List.mem_of_getElem? (i := 60) rfl)) rfl
theorem kw_8_61 : Cond.code yX12_find cX12_find 4 (some .int) ∈ WG := wg_in (lt_8 (List.mem_of_getElem? (i := 61) rfl)) rfl
theorem kw_8_63 : Cond.methodLink RX15 219 yX15_readFact ∈ WG := wg_in (lt_8 (List.mem_of_getElem? (i := 63) rfl)) rfl
theorem kw_8_65 : Cond.instanceMethod yX15_readFact ∈ WG := wg_in (lt_8 (List.mem_of_getElem? (i := 65) rfl)) rfl
theorem kw_8_66 : Cond.code yX15_readFact cX15_readFact 2 none ∈ WG := wg_in (lt_8 (List.mem_of_getElem? (i := 66) rfl)) rfl
theorem kw_8_67 : Cond.methodLink RX15 249 yX15_readTold ∈ WG := wg_in (lt_8 (List.mem_of_getElem? (i := 67) rfl)) rfl
theorem kw_8_69 : Cond.instanceMethod yX15_readTold ∈ WG := wg_in (lt_8 (List.mem_of_getElem? (i := 69) rfl)) rfl
theorem kw_8_70 : Cond.code yX15_readTold cX15_readTold 3 (some .int) ∈ WG := wg_in (lt_8 (List.mem_of_getElem? (i := 70) rfl)) rfl
theorem kw_8_71 : Cond.methodLink RX15 253 yX15_needWord ∈ WG := wg_in (lt_8 (List.mem_of_getElem? (i := 71) rfl)) rfl
theorem kw_8_73 : Cond.instanceMethod yX15_needWord ∈ WG := wg_in (lt_8 (List.mem_of_getElem? (i := 73) rfl)) rfl
theorem kw_8_74 : Cond.code yX15_needWord cX15_needWord 2 none ∈ WG := wg_in (lt_8 (List.mem_of_getElem? (i := 74) rfl)) rfl
theorem kw_8_76 : Cond.methodLink RX15 222 yX15_readRule ∈ WG := wg_in (lt_8 (List.mem_of_getElem? (i := 76) rfl)) rfl
theorem kw_8_78 : Cond.instanceMethod yX15_readRule ∈ WG := wg_in (lt_8 (List.mem_of_getElem? (i := 78) rfl)) rfl
theorem kw_8_79 : Cond.code yX15_readRule cX15_readRule 2 none ∈ WG := wg_in (lt_8 (List.mem_of_getElem? (i := 79) rfl)) rfl
theorem kw_8_82 : Cond.methodLink RX15 285 yX15_readCases ∈ WG := wg_in (lt_8 (List.mem_of_getElem? (i := 82) rfl)) rfl
theorem kw_8_84 : Cond.instanceMethod yX15_readCases ∈ WG := wg_in (lt_8 (List.mem_of_getElem? (i := 84) rfl)) rfl
theorem kw_8_85 : Cond.code yX15_readCases cX15_readCases 7 none ∈ WG := wg_in (lt_8 (List.mem_of_getElem? (i := 85) rfl)) rfl
theorem kw_8_86 : Cond.methodLink RX15 225 yX15_readSend ∈ WG := wg_in (lt_8 (List.mem_of_getElem? (i := 86) rfl)) rfl
theorem kw_8_88 : Cond.instanceMethod yX15_readSend ∈ WG := wg_in (lt_8 (List.mem_of_getElem? (i := 88) rfl)) rfl
theorem kw_8_89 : Cond.code yX15_readSend cX15_readSend 3 none ∈ WG := wg_in (lt_8 (List.mem_of_getElem? (i := 89) rfl)) rfl
theorem kw_8_91 : Cond.methodLink RX15 228 yX15_readPromise ∈ WG := wg_in (lt_8 (List.mem_of_getElem? (i := 91) rfl)) rfl
theorem kw_8_93 : Cond.instanceMethod yX15_readPromise ∈ WG := wg_in (lt_8 (List.mem_of_getElem? (i := 93) rfl)) rfl
theorem kw_8_94 : Cond.code yX15_readPromise cX15_readPromise 1 none ∈ WG := wg_in (lt_8 (List.mem_of_getElem? (i := 94) rfl)) rfl
theorem kw_8_95 : Cond.methodLink RX15 312 yX15_readPlaces ∈ WG := wg_in (lt_8 (List.mem_of_getElem? (i := 95) rfl)) rfl
theorem kw_8_97 : Cond.instanceMethod yX15_readPlaces ∈ WG := wg_in (lt_8 (List.mem_of_getElem? (i := 97) rfl)) rfl
theorem kw_8_98 : Cond.code yX15_readPlaces cX15_readPlaces 7 (some .int) ∈ WG := wg_in (lt_8 (List.mem_of_getElem? (i := 98) rfl)) rfl
theorem kw_8_100 : Cond.methodLink RX15 371 yX15_done ∈ WG := wg_in (lt_8 (List.mem_of_getElem? (i := 100) rfl)) rfl
theorem kw_8_102 : Cond.instanceMethod yX15_done ∈ WG := wg_in (lt_8 (List.mem_of_getElem? (i := 102) rfl)) rfl
theorem kw_8_103 : Cond.code yX15_done cX15_done 2 (some .int) ∈ WG := wg_in (lt_8 (List.mem_of_getElem? (i := 103) rfl)) rfl
theorem kw_8_104 : Cond.methodLink RL 36 yX15_fault ∈ WG := wg_in (lt_8 (List.mem_of_getElem? (i := 104) rfl)) rfl
theorem kw_8_105 : Cond.instanceMethod yX15_fault ∈ WG := wg_in (lt_8 (List.mem_of_getElem? (i := 105) rfl)) rfl
theorem kw_8_106 : Cond.selects RX15 yX15_fault yX15_fault ∈ WG := wg_in (lt_8 (List.mem_of_getElem? (i := 106) rfl)) rfl
theorem kw_8_107 : Cond.code yX15_fault cX15_fault 1 (some .int) ∈ WG := wg_in (lt_8 (List.mem_of_getElem? (i := 107) rfl)) rfl
theorem kw_8_108 : Cond.methodLink RL 40 yX15_where ∈ WG := wg_in (lt_8 (List.mem_of_getElem? (i := 108) rfl)) rfl
theorem kw_8_109 : Cond.instanceMethod yX15_where ∈ WG := wg_in (lt_8 (List.mem_of_getElem? (i := 109) rfl)) rfl
theorem kw_8_110 : Cond.selects RX15 yX15_where yX15_where ∈ WG := wg_in (lt_8 (List.mem_of_getElem? (i := 110) rfl)) rfl
theorem kw_8_111 : Cond.code yX15_where cX15_where 1 (some .int) ∈ WG := wg_in (lt_8 (List.mem_of_getElem? (i := 111) rfl)) rfl
theorem kw_8_112 : Cond.methodLink RL 45 yX15_last ∈ WG := wg_in (lt_8 (List.mem_of_getElem? (i := 112) rfl)) rfl
theorem kw_8_113 : Cond.instanceMethod yX15_last ∈ WG := wg_in (lt_8 (List.mem_of_getElem? (i := 113) rfl)) rfl
theorem kw_8_114 : Cond.selects RX15 yX15_last yX15_last ∈ WG := wg_in (lt_8 (List.mem_of_getElem? (i := 114) rfl)) rfl
theorem kw_8_115 : Cond.code yX15_last cX15_last 2 (some .boolean) ∈ WG := wg_in (lt_8 (List.mem_of_getElem? (i := 115) rfl)) rfl
theorem kw_8_116 : Cond.methodLink RX15 374 yX15_denied ∈ WG := wg_in (lt_8 (List.mem_of_getElem? (i := 116) rfl)) rfl
theorem kw_8_118 : Cond.instanceMethod yX15_denied ∈ WG := wg_in (lt_8 (List.mem_of_getElem? (i := 118) rfl)) rfl
theorem kw_8_119 : Cond.code yX15_denied cX15_denied 2 (some .boolean) ∈ WG := wg_in (lt_8 (List.mem_of_getElem? (i := 119) rfl)) rfl
theorem kw_8_120 : Cond.methodLink RX15 377 yX15_in ∈ WG := wg_in (lt_8 (List.mem_of_getElem? (i := 120) rfl)) rfl
theorem kw_8_121 : Cond.static yX15_in ∈ WG := wg_in (lt_8 (List.mem_of_getElem? (i := 121) rfl)) rfl
theorem kw_8_122 : Cond.code yX15_in cX15_in 3 (some .boolean) ∈ WG := wg_in (lt_8 (List.mem_of_getElem? (i := 122) rfl)) rfl
theorem kw_8_123 : Cond.methodLink RX15 381 yX15_granted ∈ WG := wg_in (lt_8 (List.mem_of_getElem? (i := 123) rfl)) rfl
theorem kw_8_125 : Cond.instanceMethod yX15_granted ∈ WG := wg_in (lt_8 (List.mem_of_getElem? (i := 125) rfl)) rfl
theorem kw_8_126 : Cond.code yX15_granted cX15_granted 1 (some .boolean) ∈ WG := wg_in (lt_8 (List.mem_of_getElem? (i := 126) rfl)) rfl
theorem kw_8_127 : Cond.methodLink RL 50 yX15_purse ∈ WG := wg_in (lt_8 (List.mem_of_getElem? (i := 127) rfl)) rfl
theorem kw_8_128 : Cond.instanceMethod yX15_purse ∈ WG := wg_in (lt_8 (List.mem_of_getElem? (i := 128) rfl)) rfl
theorem kw_8_129 : Cond.selects RX15 yX15_purse yX15_purse ∈ WG := wg_in (lt_8 (List.mem_of_getElem? (i := 129) rfl)) rfl
theorem kw_8_130 : Cond.code yX15_purse cX15_purse 3 (some .boolean) ∈ WG := wg_in (lt_8 (List.mem_of_getElem? (i := 130) rfl)) rfl
theorem kw_8_131 : Cond.methodLink RX15 384 yX15_inPurse ∈ WG := wg_in (lt_8 (List.mem_of_getElem? (i := 131) rfl)) rfl
theorem kw_8_133 : Cond.instanceMethod yX15_inPurse ∈ WG := wg_in (lt_8 (List.mem_of_getElem? (i := 133) rfl)) rfl
theorem kw_8_134 : Cond.code yX15_inPurse cX15_inPurse 1 (some .int) ∈ WG := wg_in (lt_8 (List.mem_of_getElem? (i := 134) rfl)) rfl
theorem kw_8_135 : Cond.methodLink RL 55 yX15_fall ∈ WG := wg_in (lt_8 (List.mem_of_getElem? (i := 135) rfl)) rfl
theorem kw_8_136 : Cond.instanceMethod yX15_fall ∈ WG := wg_in (lt_8 (List.mem_of_getElem? (i := 136) rfl)) rfl
theorem kw_8_137 : Cond.selects RX15 yX15_fall yX15_fall ∈ WG := wg_in (lt_8 (List.mem_of_getElem? (i := 137) rfl)) rfl
theorem kw_8_138 : Cond.code yX15_fall cX15_fall 6 (some .int) ∈ WG := wg_in (lt_8 (List.mem_of_getElem? (i := 138) rfl)) rfl
theorem kw_8_139 : Cond.methodLink RX15 387 yX15_things ∈ WG := wg_in (lt_8 (List.mem_of_getElem? (i := 139) rfl)) rfl
theorem kw_8_141 : Cond.instanceMethod yX15_things ∈ WG := wg_in (lt_8 (List.mem_of_getElem? (i := 141) rfl)) rfl
theorem kw_8_142 : Cond.code yX15_things cX15_things 2 (some .int) ∈ WG := wg_in (lt_8 (List.mem_of_getElem? (i := 142) rfl)) rfl
theorem kw_8_143 : Cond.methodLink RL 59 yX15_clear ∈ WG := wg_in (lt_8 (List.mem_of_getElem? (i := 143) rfl)) rfl
theorem kw_8_144 : Cond.instanceMethod yX15_clear ∈ WG := wg_in (lt_8 (List.mem_of_getElem? (i := 144) rfl)) rfl
theorem kw_8_145 : Cond.selects RX15 yX15_clear yX15_clear ∈ WG := wg_in (lt_8 (List.mem_of_getElem? (i := 145) rfl)) rfl
theorem kw_8_146 : Cond.code yX15_clear cX15_clear 2 (some .int) ∈ WG := wg_in (lt_8 (List.mem_of_getElem? (i := 146) rfl)) rfl
theorem kw_8_147 : Cond.methodLink RL 63 yX15_run ∈ WG := wg_in (lt_8 (List.mem_of_getElem? (i := 147) rfl)) rfl
theorem kw_8_148 : Cond.instanceMethod yX15_run ∈ WG := wg_in (lt_8 (List.mem_of_getElem? (i := 148) rfl)) rfl
theorem kw_8_149 : Cond.selects RX15 yX15_run yX15_run ∈ WG := wg_in (lt_8 (List.mem_of_getElem? (i := 149) rfl)) rfl
theorem kw_8_150 : Cond.code yX15_run cX15_run 1 (some .int) ∈ WG := wg_in (lt_8 (List.mem_of_getElem? (i := 150) rfl)) rfl
theorem kw_8_151 : Cond.methodLink RX15 450 yX15_runs ∈ WG := wg_in (lt_8 (List.mem_of_getElem? (i := 151) rfl)) rfl
theorem kw_8_153 : Cond.instanceMethod yX15_runs ∈ WG := wg_in (lt_8 (List.mem_of_getElem? (i := 153) rfl)) rfl
theorem kw_8_154 : Cond.code yX15_runs cX15_runs 5 (some .int) ∈ WG := wg_in (lt_8 (List.mem_of_getElem? (i := 154) rfl)) rfl
theorem kw_8_155 : Cond.methodLink RX15 439 yX13_lay ∈ WG := wg_in (lt_8 (List.mem_of_getElem? (i := 155) rfl)) rfl
theorem kw_8_156 : Cond.instanceMethod yX13_lay ∈ WG := wg_in (lt_8 (List.mem_of_getElem? (i := 156) rfl)) rfl
theorem kw_8_157 : Cond.selects RX13 yX13_lay yX13_lay ∈ WG := wg_in (lt_8 (List.mem_of_getElem? (i := 157) rfl)) rfl
theorem kw_8_158 : Cond.code yX13_lay cX13_lay 9 none ∈ WG := wg_in (lt_8 (List.mem_of_getElem? (i := 158) rfl)) rfl
theorem kw_8_159 : Cond.methodLink RX15 443 yX15_goes ∈ WG := wg_in (lt_8 (List.mem_of_getElem? (i := 159) rfl)) rfl
theorem kw_8_161 : Cond.instanceMethod yX15_goes ∈ WG := wg_in (lt_8 (List.mem_of_getElem? (i := 161) rfl)) rfl
theorem kw_8_162 : Cond.code yX15_goes cX15_goes 4 none ∈ WG := wg_in (lt_8 (List.mem_of_getElem? (i := 162) rfl)) rfl
theorem kw_8_163 : Cond.methodLink RX15 398 yX15_isDown ∈ WG := wg_in (lt_8 (List.mem_of_getElem? (i := 163) rfl)) rfl
theorem kw_8_165 : Cond.instanceMethod yX15_isDown ∈ WG := wg_in (lt_8 (List.mem_of_getElem? (i := 165) rfl)) rfl
theorem kw_8_166 : Cond.code yX15_isDown cX15_isDown 4 (some .boolean) ∈ WG := wg_in (lt_8 (List.mem_of_getElem? (i := 166) rfl)) rfl
theorem kw_8_167 : Cond.methodLink RX15 420 yX15_comesAt ∈ WG := wg_in (lt_8 (List.mem_of_getElem? (i := 167) rfl)) rfl
theorem kw_8_169 : Cond.instanceMethod yX15_comesAt ∈ WG := wg_in (lt_8 (List.mem_of_getElem? (i := 169) rfl)) rfl
theorem kw_8_170 : Cond.code yX15_comesAt cX15_comesAt 7 (some .int) ∈ WG := wg_in (lt_8 (List.mem_of_getElem? (i := 170) rfl)) rfl
theorem kw_8_171 : Cond.methodLink RX15 404 yX15_isFact ∈ WG := wg_in (lt_8 (List.mem_of_getElem? (i := 171) rfl)) rfl
theorem kw_8_173 : Cond.instanceMethod yX15_isFact ∈ WG := wg_in (lt_8 (List.mem_of_getElem? (i := 173) rfl)) rfl
theorem kw_8_174 : Cond.code yX15_isFact cX15_isFact 4 (some .boolean) ∈ WG := wg_in (lt_8 (List.mem_of_getElem? (i := 174) rfl)) rfl
theorem kw_8_175 : Cond.methodLink RX15 390 yX15_has ∈ WG := wg_in (lt_8 (List.mem_of_getElem? (i := 175) rfl)) rfl
theorem kw_8_176 : Cond.static yX15_has ∈ WG := wg_in (lt_8 (List.mem_of_getElem? (i := 176) rfl)) rfl
theorem kw_8_177 : Cond.code yX15_has cX15_has 2 (some .boolean) ∈ WG := wg_in (lt_8 (List.mem_of_getElem? (i := 177) rfl)) rfl
theorem kw_8_178 : Cond.methodLink RX15 407 yX15_keptFrom ∈ WG := wg_in (lt_8 (List.mem_of_getElem? (i := 178) rfl)) rfl
theorem kw_8_180 : Cond.instanceMethod yX15_keptFrom ∈ WG := wg_in (lt_8 (List.mem_of_getElem? (i := 180) rfl)) rfl
theorem kw_8_181 : Cond.code yX15_keptFrom cX15_keptFrom 5 (some .int) ∈ WG := wg_in (lt_8 (List.mem_of_getElem? (i := 181) rfl)) rfl
theorem kw_8_182 : Cond.methodLink RX15 394 yX15_rowsAt ∈ WG := wg_in (lt_8 (List.mem_of_getElem? (i := 182) rfl)) rfl
theorem kw_8_184 : Cond.instanceMethod yX15_rowsAt ∈ WG := wg_in (lt_8 (List.mem_of_getElem? (i := 184) rfl)) rfl
theorem kw_8_185 : Cond.code yX15_rowsAt cX15_rowsAt 4 (some .int) ∈ WG := wg_in (lt_8 (List.mem_of_getElem? (i := 185) rfl)) rfl
theorem kw_8_186 : Cond.methodLink RX15 410 yX15_isOf ∈ WG := wg_in (lt_8 (List.mem_of_getElem? (i := 186) rfl)) rfl
theorem kw_8_188 : Cond.instanceMethod yX15_isOf ∈ WG := wg_in (lt_8 (List.mem_of_getElem? (i := 188) rfl)) rfl
theorem kw_8_189 : Cond.code yX15_isOf cX15_isOf 3 (some .boolean) ∈ WG := wg_in (lt_8 (List.mem_of_getElem? (i := 189) rfl)) rfl
theorem kw_8_190 : Cond.methodLink RX15 413 yX15_holds ∈ WG := wg_in (lt_8 (List.mem_of_getElem? (i := 190) rfl)) rfl
theorem kw_8_192 : Cond.instanceMethod yX15_holds ∈ WG := wg_in (lt_8 (List.mem_of_getElem? (i := 192) rfl)) rfl
theorem kw_8_193 : Cond.code yX15_holds cX15_holds 6 (some .boolean) ∈ WG := wg_in (lt_8 (List.mem_of_getElem? (i := 193) rfl)) rfl
theorem kw_8_194 : Cond.methodLink RX15 401 yX15_notsOf ∈ WG := wg_in (lt_8 (List.mem_of_getElem? (i := 194) rfl)) rfl
theorem kw_8_196 : Cond.instanceMethod yX15_notsOf ∈ WG := wg_in (lt_8 (List.mem_of_getElem? (i := 196) rfl)) rfl
theorem kw_8_197 : Cond.code yX15_notsOf cX15_notsOf 2 (some .int) ∈ WG := wg_in (lt_8 (List.mem_of_getElem? (i := 197) rfl)) rfl
theorem kw_8_198 : Cond.methodLink RX15 423 yX15_closed ∈ WG := wg_in (lt_8 (List.mem_of_getElem? (i := 198) rfl)) rfl
theorem kw_8_200 : Cond.instanceMethod yX15_closed ∈ WG := wg_in (lt_8 (List.mem_of_getElem? (i := 200) rfl)) rfl
theorem kw_8_201 : Cond.code yX15_closed cX15_closed 6 (some .int) ∈ WG := wg_in (lt_8 (List.mem_of_getElem? (i := 201) rfl)) rfl
theorem kw_8_202 : Cond.methodLink RX15 427 yX15_sends ∈ WG := wg_in (lt_8 (List.mem_of_getElem? (i := 202) rfl)) rfl
theorem kw_8_204 : Cond.instanceMethod yX15_sends ∈ WG := wg_in (lt_8 (List.mem_of_getElem? (i := 204) rfl)) rfl
theorem kw_8_205 : Cond.code yX15_sends cX15_sends 10 none ∈ WG := wg_in (lt_8 (List.mem_of_getElem? (i := 205) rfl)) rfl
theorem kw_8_206 : Cond.methodLink RX15 447 yX15_outcome ∈ WG := wg_in (lt_8 (List.mem_of_getElem? (i := 206) rfl)) rfl
theorem kw_8_208 : Cond.instanceMethod yX15_outcome ∈ WG := wg_in (lt_8 (List.mem_of_getElem? (i := 208) rfl)) rfl
theorem kw_8_209 : Cond.code yX15_outcome cX15_outcome 3 (some .int) ∈ WG := wg_in (lt_8 (List.mem_of_getElem? (i := 209) rfl)) rfl
theorem kw_8_210 : Cond.methodLink RX15 436 yX15_isThere ∈ WG := wg_in (lt_8 (List.mem_of_getElem? (i := 210) rfl)) rfl
theorem kw_8_212 : Cond.instanceMethod yX15_isThere ∈ WG := wg_in (lt_8 (List.mem_of_getElem? (i := 212) rfl)) rfl
theorem kw_8_213 : Cond.code yX15_isThere cX15_isThere 5 (some .boolean) ∈ WG := wg_in (lt_8 (List.mem_of_getElem? (i := 213) rfl)) rfl
theorem kw_8_214 : Cond.methodLink RL 67 yX15_there ∈ WG := wg_in (lt_8 (List.mem_of_getElem? (i := 214) rfl)) rfl
theorem kw_8_215 : Cond.instanceMethod yX15_there ∈ WG := wg_in (lt_8 (List.mem_of_getElem? (i := 215) rfl)) rfl
theorem kw_8_216 : Cond.selects RX15 yX15_there yX15_there ∈ WG := wg_in (lt_8 (List.mem_of_getElem? (i := 216) rfl)) rfl
theorem kw_8_217 : Cond.code yX15_there cX15_there 5 (some .int) ∈ WG := wg_in (lt_8 (List.mem_of_getElem? (i := 217) rfl)) rfl
theorem kw_8_218 : Cond.methodLink RX15 454 yX15_isRow ∈ WG := wg_in (lt_8 (List.mem_of_getElem? (i := 218) rfl)) rfl
theorem kw_8_220 : Cond.instanceMethod yX15_isRow ∈ WG := wg_in (lt_8 (List.mem_of_getElem? (i := 220) rfl)) rfl
theorem kw_8_221 : Cond.code yX15_isRow cX15_isRow 2 (some .boolean) ∈ WG := wg_in (lt_8 (List.mem_of_getElem? (i := 221) rfl)) rfl
theorem kw_8_222 : Cond.methodLink RX15 456 yX15_isMachine ∈ WG := wg_in (lt_8 (List.mem_of_getElem? (i := 222) rfl)) rfl
theorem kw_8_224 : Cond.instanceMethod yX15_isMachine ∈ WG := wg_in (lt_8 (List.mem_of_getElem? (i := 224) rfl)) rfl
theorem kw_8_225 : Cond.code yX15_isMachine cX15_isMachine 2 (some .boolean) ∈ WG := wg_in (lt_8 (List.mem_of_getElem? (i := 225) rfl)) rfl
theorem kw_8_226 : Cond.methodLink RL 71 yX15_reasons ∈ WG := wg_in (lt_8 (List.mem_of_getElem? (i := 226) rfl)) rfl
theorem kw_8_227 : Cond.instanceMethod yX15_reasons ∈ WG := wg_in (lt_8 (List.mem_of_getElem? (i := 227) rfl)) rfl
theorem kw_8_228 : Cond.selects RX15 yX15_reasons yX15_reasons ∈ WG := wg_in (lt_8 (List.mem_of_getElem? (i := 228) rfl)) rfl
theorem kw_8_229 : Cond.code yX15_reasons cX15_reasons 5 (some .int) ∈ WG := wg_in (lt_8 (List.mem_of_getElem? (i := 229) rfl)) rfl
theorem kw_8_230 : Cond.methodLink RX15 465 yX15_reasonsOf ∈ WG := wg_in (lt_8 (List.mem_of_getElem? (i := 230) rfl)) rfl
theorem kw_8_232 : Cond.instanceMethod yX15_reasonsOf ∈ WG := wg_in (lt_8 (List.mem_of_getElem? (i := 232) rfl)) rfl
theorem kw_8_233 : Cond.code yX15_reasonsOf cX15_reasonsOf 7 none ∈ WG := wg_in (lt_8 (List.mem_of_getElem? (i := 233) rfl)) rfl
theorem kw_8_234 : Cond.methodLink RX15 462 yX15_tells ∈ WG := wg_in (lt_8 (List.mem_of_getElem? (i := 234) rfl)) rfl
theorem kw_8_236 : Cond.instanceMethod yX15_tells ∈ WG := wg_in (lt_8 (List.mem_of_getElem? (i := 236) rfl)) rfl
theorem kw_8_237 : Cond.code yX15_tells cX15_tells 2 none ∈ WG := wg_in (lt_8 (List.mem_of_getElem? (i := 237) rfl)) rfl
theorem kw_8_238 : Cond.methodLink RL 77 yX15_reason ∈ WG := wg_in (lt_8 (List.mem_of_getElem? (i := 238) rfl)) rfl
theorem kw_8_239 : Cond.instanceMethod yX15_reason ∈ WG := wg_in (lt_8 (List.mem_of_getElem? (i := 239) rfl)) rfl
theorem kw_9_0 : Cond.selects RX15 yX15_reason yX15_reason ∈ WG := wg_in (lt_9 (List.mem_of_getElem? (i := 0) rfl)) rfl
theorem kw_9_1 : Cond.code yX15_reason cX15_reason 6 (some .int) ∈ WG := wg_in (lt_9 (List.mem_of_getElem? (i := 1) rfl)) rfl
theorem kw_9_2 : Cond.methodLink RL 85 yX15_word ∈ WG := wg_in (lt_9 (List.mem_of_getElem? (i := 2) rfl)) rfl
theorem kw_9_3 : Cond.instanceMethod yX15_word ∈ WG := wg_in (lt_9 (List.mem_of_getElem? (i := 3) rfl)) rfl
theorem kw_9_4 : Cond.selects RX15 yX15_word yX15_word ∈ WG := wg_in (lt_9 (List.mem_of_getElem? (i := 4) rfl)) rfl
theorem kw_9_5 : Cond.code yX15_word cX15_word 4 (some .int) ∈ WG := wg_in (lt_9 (List.mem_of_getElem? (i := 5) rfl)) rfl
theorem kw_9_6 : Cond.methodLink RX15 469 yX15_isSend ∈ WG := wg_in (lt_9 (List.mem_of_getElem? (i := 6) rfl)) rfl
theorem kw_9_8 : Cond.instanceMethod yX15_isSend ∈ WG := wg_in (lt_9 (List.mem_of_getElem? (i := 8) rfl)) rfl
theorem kw_9_9 : Cond.code yX15_isSend cX15_isSend 2 (some .boolean) ∈ WG := wg_in (lt_9 (List.mem_of_getElem? (i := 9) rfl)) rfl
theorem kw_9_10 : Cond.methodLink RL 89 yX15_differs ∈ WG := wg_in (lt_9 (List.mem_of_getElem? (i := 10) rfl)) rfl
theorem kw_9_11 : Cond.instanceMethod yX15_differs ∈ WG := wg_in (lt_9 (List.mem_of_getElem? (i := 11) rfl)) rfl
theorem kw_9_12 : Cond.selects RX15 yX15_differs yX15_differs ∈ WG := wg_in (lt_9 (List.mem_of_getElem? (i := 12) rfl)) rfl
theorem kw_9_13 : Cond.code yX15_differs cX15_differs 7 (some .int) ∈ WG := wg_in (lt_9 (List.mem_of_getElem? (i := 13) rfl)) rfl
theorem kw_9_14 : Cond.methodLink RL 93 yX15_spoils ∈ WG := wg_in (lt_9 (List.mem_of_getElem? (i := 14) rfl)) rfl
theorem kw_9_15 : Cond.instanceMethod yX15_spoils ∈ WG := wg_in (lt_9 (List.mem_of_getElem? (i := 15) rfl)) rfl
theorem kw_9_16 : Cond.selects RX15 yX15_spoils yX15_spoils ∈ WG := wg_in (lt_9 (List.mem_of_getElem? (i := 16) rfl)) rfl
theorem kw_9_17 : Cond.code yX15_spoils cX15_spoils 1 (some .int) ∈ WG := wg_in (lt_9 (List.mem_of_getElem? (i := 17) rfl)) rfl
theorem kw_9_18 : Cond.methodLink RX15 483 yX15_isSpoilt ∈ WG := wg_in (lt_9 (List.mem_of_getElem? (i := 18) rfl)) rfl
theorem kw_9_20 : Cond.instanceMethod yX15_isSpoilt ∈ WG := wg_in (lt_9 (List.mem_of_getElem? (i := 20) rfl)) rfl
theorem kw_9_21 : Cond.code yX15_isSpoilt cX15_isSpoilt 3 (some .boolean) ∈ WG := wg_in (lt_9 (List.mem_of_getElem? (i := 21) rfl)) rfl
theorem kw_9_22 : Cond.methodLink RX15 480 yX15_puts ∈ WG := wg_in (lt_9 (List.mem_of_getElem? (i := 22) rfl)) rfl
theorem kw_9_24 : Cond.instanceMethod yX15_puts ∈ WG := wg_in (lt_9 (List.mem_of_getElem? (i := 24) rfl)) rfl
theorem kw_9_25 : Cond.code yX15_puts cX15_puts 9 none ∈ WG := wg_in (lt_9 (List.mem_of_getElem? (i := 25) rfl)) rfl
theorem kw_9_26 : Cond.methodLink RX15 472 yX13_isDown ∈ WG := wg_in (lt_9 (List.mem_of_getElem? (i := 26) rfl)) rfl
theorem kw_9_27 : Cond.instanceMethod yX13_isDown ∈ WG := wg_in (lt_9 (List.mem_of_getElem? (i := 27) rfl)) rfl
theorem kw_9_28 : Cond.selects RX13 yX13_isDown yX13_isDown ∈ WG := wg_in (lt_9 (List.mem_of_getElem? (i := 28) rfl)) rfl
theorem kw_9_29 : Cond.code yX13_isDown cX13_isDown 3 (some .boolean) ∈ WG := wg_in (lt_9 (List.mem_of_getElem? (i := 29) rfl)) rfl
theorem kw_9_30 : Cond.methodLink RX15 477 yX15_isWordStanding ∈ WG := wg_in (lt_9 (List.mem_of_getElem? (i := 30) rfl)) rfl
theorem kw_9_32 : Cond.instanceMethod yX15_isWordStanding ∈ WG := wg_in (lt_9 (List.mem_of_getElem? (i := 32) rfl)) rfl
theorem kw_9_33 : Cond.code yX15_isWordStanding cX15_isWordStanding 6 (some .boolean) ∈ WG := wg_in (lt_9 (List.mem_of_getElem? (i := 33) rfl)) rfl
theorem kw_9_34 : Cond.methodLink RX15 474 yX15_isStanding ∈ WG := wg_in (lt_9 (List.mem_of_getElem? (i := 34) rfl)) rfl
theorem kw_9_36 : Cond.instanceMethod yX15_isStanding ∈ WG := wg_in (lt_9 (List.mem_of_getElem? (i := 36) rfl)) rfl
theorem kw_9_37 : Cond.code yX15_isStanding cX15_isStanding 4 (some .boolean) ∈ WG := wg_in (lt_9 (List.mem_of_getElem? (i := 37) rfl)) rfl
theorem kw_9_38 : Cond.methodLink RL 97 yX15_stands ∈ WG := wg_in (lt_9 (List.mem_of_getElem? (i := 38) rfl)) rfl
theorem kw_9_39 : Cond.instanceMethod yX15_stands ∈ WG := wg_in (lt_9 (List.mem_of_getElem? (i := 39) rfl)) rfl
theorem kw_9_40 : Cond.selects RX15 yX15_stands yX15_stands ∈ WG := wg_in (lt_9 (List.mem_of_getElem? (i := 40) rfl)) rfl
theorem kw_9_41 : Cond.code yX15_stands cX15_stands 5 (some .int) ∈ WG := wg_in (lt_9 (List.mem_of_getElem? (i := 41) rfl)) rfl
theorem kw_9_42 : Cond.methodLink RL 101 yX15_trial ∈ WG := wg_in (lt_9 (List.mem_of_getElem? (i := 42) rfl)) rfl
theorem kw_9_43 : Cond.instanceMethod yX15_trial ∈ WG := wg_in (lt_9 (List.mem_of_getElem? (i := 43) rfl)) rfl
theorem kw_9_44 : Cond.selects RX15 yX15_trial yX15_trial ∈ WG := wg_in (lt_9 (List.mem_of_getElem? (i := 44) rfl)) rfl
theorem kw_9_45 : Cond.code yX15_trial cX15_trial 10 (some .int) ∈ WG := wg_in (lt_9 (List.mem_of_getElem? (i := 45) rfl)) rfl
theorem kw_9_46 : Cond.methodLink RX15 498 yX15_isTooMany ∈ WG := wg_in (lt_9 (List.mem_of_getElem? (i := 46) rfl)) rfl
theorem kw_9_48 : Cond.instanceMethod yX15_isTooMany ∈ WG := wg_in (lt_9 (List.mem_of_getElem? (i := 48) rfl)) rfl
theorem kw_9_49 : Cond.code yX15_isTooMany cX15_isTooMany 1 (some .boolean) ∈ WG := wg_in (lt_9 (List.mem_of_getElem? (i := 49) rfl)) rfl
theorem kw_9_50 : Cond.methodLink RX15 489 yX15_allFalls ∈ WG := wg_in (lt_9 (List.mem_of_getElem? (i := 50) rfl)) rfl
theorem kw_9_52 : Cond.instanceMethod yX15_allFalls ∈ WG := wg_in (lt_9 (List.mem_of_getElem? (i := 52) rfl)) rfl
theorem kw_9_53 : Cond.code yX15_allFalls cX15_allFalls 4 none ∈ WG := wg_in (lt_9 (List.mem_of_getElem? (i := 53) rfl)) rfl
theorem kw_9_54 : Cond.methodLink RX15 501 yX15_begins ∈ WG := wg_in (lt_9 (List.mem_of_getElem? (i := 54) rfl)) rfl
theorem kw_9_56 : Cond.instanceMethod yX15_begins ∈ WG := wg_in (lt_9 (List.mem_of_getElem? (i := 56) rfl)) rfl
theorem kw_9_57 : Cond.code yX15_begins cX15_begins 3 (some .boolean) ∈ WG := wg_in (lt_9 (List.mem_of_getElem? (i := 57) rfl)) rfl
theorem kw_9_58 : Cond.methodLink RX15 492 yX15_isMeant ∈ WG := wg_in (lt_9 (List.mem_of_getElem? (i := 58) rfl)) rfl
theorem kw_9_60 : Cond.instanceMethod yX15_isMeant ∈ WG := wg_in (lt_9 (List.mem_of_getElem? (i := 60) rfl)) rfl
theorem kw_9_61 : Cond.code yX15_isMeant cX15_isMeant 5 (some .boolean) ∈ WG := wg_in (lt_9 (List.mem_of_getElem? (i := 61) rfl)) rfl
theorem kw_9_62 : Cond.methodLink RX15 495 yX15_goesOn ∈ WG := wg_in (lt_9 (List.mem_of_getElem? (i := 62) rfl)) rfl
theorem kw_9_64 : Cond.instanceMethod yX15_goesOn ∈ WG := wg_in (lt_9 (List.mem_of_getElem? (i := 64) rfl)) rfl
theorem kw_9_65 : Cond.code yX15_goesOn cX15_goesOn 5 (some .boolean) ∈ WG := wg_in (lt_9 (List.mem_of_getElem? (i := 65) rfl)) rfl
theorem kw_9_66 : Cond.methodLink RL 105 yX15_tried ∈ WG := wg_in (lt_9 (List.mem_of_getElem? (i := 66) rfl)) rfl
theorem kw_9_67 : Cond.instanceMethod yX15_tried ∈ WG := wg_in (lt_9 (List.mem_of_getElem? (i := 67) rfl)) rfl
theorem kw_9_68 : Cond.selects RX15 yX15_tried yX15_tried ∈ WG := wg_in (lt_9 (List.mem_of_getElem? (i := 68) rfl)) rfl
theorem kw_9_69 : Cond.code yX15_tried cX15_tried 1 (some .int) ∈ WG := wg_in (lt_9 (List.mem_of_getElem? (i := 69) rfl)) rfl
theorem kw_9_70 : Cond.methodLink RL 109 yX15_known ∈ WG := wg_in (lt_9 (List.mem_of_getElem? (i := 70) rfl)) rfl
theorem kw_9_71 : Cond.instanceMethod yX15_known ∈ WG := wg_in (lt_9 (List.mem_of_getElem? (i := 71) rfl)) rfl
theorem kw_9_72 : Cond.selects RX15 yX15_known yX15_known ∈ WG := wg_in (lt_9 (List.mem_of_getElem? (i := 72) rfl)) rfl
theorem kw_9_73 : Cond.code yX15_known cX15_known 1 (some .int) ∈ WG := wg_in (lt_9 (List.mem_of_getElem? (i := 73) rfl)) rfl
theorem kw_9_74 : Cond.methodLink RL 113 yX15_found ∈ WG := wg_in (lt_9 (List.mem_of_getElem? (i := 74) rfl)) rfl
theorem kw_9_75 : Cond.instanceMethod yX15_found ∈ WG := wg_in (lt_9 (List.mem_of_getElem? (i := 75) rfl)) rfl
theorem kw_9_76 : Cond.selects RX15 yX15_found yX15_found ∈ WG := wg_in (lt_9 (List.mem_of_getElem? (i := 76) rfl)) rfl
theorem kw_9_77 : Cond.code yX15_found cX15_found 2 (some .int) ∈ WG := wg_in (lt_9 (List.mem_of_getElem? (i := 77) rfl)) rfl
theorem kw_9_78 : Cond.methodLink RL 117 yX15_exact ∈ WG := wg_in (lt_9 (List.mem_of_getElem? (i := 78) rfl)) rfl
theorem kw_9_79 : Cond.instanceMethod yX15_exact ∈ WG := wg_in (lt_9 (List.mem_of_getElem? (i := 79) rfl)) rfl
theorem kw_9_80 : Cond.selects RX15 yX15_exact yX15_exact ∈ WG := wg_in (lt_9 (List.mem_of_getElem? (i := 80) rfl)) rfl
theorem kw_9_81 : Cond.code yX15_exact cX15_exact 5 (some .int) ∈ WG := wg_in (lt_9 (List.mem_of_getElem? (i := 81) rfl)) rfl
theorem kw_9_82 : Cond.methodLink RL 121 yX15_exactly ∈ WG := wg_in (lt_9 (List.mem_of_getElem? (i := 82) rfl)) rfl
theorem kw_9_83 : Cond.instanceMethod yX15_exactly ∈ WG := wg_in (lt_9 (List.mem_of_getElem? (i := 83) rfl)) rfl
theorem kw_9_84 : Cond.selects RX15 yX15_exactly yX15_exactly ∈ WG := wg_in (lt_9 (List.mem_of_getElem? (i := 84) rfl)) rfl
theorem kw_9_85 : Cond.code yX15_exactly cX15_exactly 2 (some .int) ∈ WG := wg_in (lt_9 (List.mem_of_getElem? (i := 85) rfl)) rfl
theorem kw_9_86 : Cond.methodLink RL 125 yX15_cut ∈ WG := wg_in (lt_9 (List.mem_of_getElem? (i := 86) rfl)) rfl
theorem kw_9_87 : Cond.instanceMethod yX15_cut ∈ WG := wg_in (lt_9 (List.mem_of_getElem? (i := 87) rfl)) rfl
theorem kw_9_88 : Cond.selects RX15 yX15_cut yX15_cut ∈ WG := wg_in (lt_9 (List.mem_of_getElem? (i := 88) rfl)) rfl
theorem kw_9_89 : Cond.code yX15_cut cX15_cut 4 (some .int) ∈ WG := wg_in (lt_9 (List.mem_of_getElem? (i := 89) rfl)) rfl
theorem kw_9_90 : Cond.methodLink RL 129 yX15_told ∈ WG := wg_in (lt_9 (List.mem_of_getElem? (i := 90) rfl)) rfl
theorem kw_9_91 : Cond.instanceMethod yX15_told ∈ WG := wg_in (lt_9 (List.mem_of_getElem? (i := 91) rfl)) rfl
theorem kw_9_92 : Cond.selects RX15 yX15_told yX15_told ∈ WG := wg_in (lt_9 (List.mem_of_getElem? (i := 92) rfl)) rfl
theorem kw_9_93 : Cond.code yX15_told cX15_told 2 (some .int) ∈ WG := wg_in (lt_9 (List.mem_of_getElem? (i := 93) rfl)) rfl
theorem kw_9_94 : Cond.methodLink RL 133 yX15_start ∈ WG := wg_in (lt_9 (List.mem_of_getElem? (i := 94) rfl)) rfl
theorem kw_9_95 : Cond.instanceMethod yX15_start ∈ WG := wg_in (lt_9 (List.mem_of_getElem? (i := 95) rfl)) rfl
theorem kw_9_96 : Cond.selects RX15 yX15_start yX15_start ∈ WG := wg_in (lt_9 (List.mem_of_getElem? (i := 96) rfl)) rfl
theorem kw_9_97 : Cond.code yX15_start cX15_start 2 (some .boolean) ∈ WG := wg_in (lt_9 (List.mem_of_getElem? (i := 97) rfl)) rfl
theorem kw_9_98 : Cond.methodLink RL 137 yX15_thin ∈ WG := wg_in (lt_9 (List.mem_of_getElem? (i := 98) rfl)) rfl
theorem kw_9_99 : Cond.instanceMethod yX15_thin ∈ WG := wg_in (lt_9 (List.mem_of_getElem? (i := 99) rfl)) rfl
theorem kw_9_100 : Cond.selects RX15 yX15_thin yX15_thin ∈ WG := wg_in (lt_9 (List.mem_of_getElem? (i := 100) rfl)) rfl
theorem kw_9_101 : Cond.code yX15_thin cX15_thin 6 (some .int) ∈ WG := wg_in (lt_9 (List.mem_of_getElem? (i := 101) rfl)) rfl
theorem kw_9_102 : Cond.methodLink RX15 504 yX15_thinOf ∈ WG := wg_in (lt_9 (List.mem_of_getElem? (i := 102) rfl)) rfl
theorem kw_9_104 : Cond.instanceMethod yX15_thinOf ∈ WG := wg_in (lt_9 (List.mem_of_getElem? (i := 104) rfl)) rfl
theorem kw_9_105 : Cond.code yX15_thinOf cX15_thinOf 4 (some .int) ∈ WG := wg_in (lt_9 (List.mem_of_getElem? (i := 105) rfl)) rfl
theorem kw_9_106 : Cond.methodLink RL 141 yX15_thinness ∈ WG := wg_in (lt_9 (List.mem_of_getElem? (i := 106) rfl)) rfl
theorem kw_9_107 : Cond.instanceMethod yX15_thinness ∈ WG := wg_in (lt_9 (List.mem_of_getElem? (i := 107) rfl)) rfl
theorem kw_9_108 : Cond.selects RX15 yX15_thinness yX15_thinness ∈ WG := wg_in (lt_9 (List.mem_of_getElem? (i := 108) rfl)) rfl
theorem kw_9_109 : Cond.code yX15_thinness cX15_thinness 1 (some .int) ∈ WG := wg_in (lt_9 (List.mem_of_getElem? (i := 109) rfl)) rfl
theorem kw_9_110 : Cond.methodLink RL 145 yX15_led ∈ WG := wg_in (lt_9 (List.mem_of_getElem? (i := 110) rfl)) rfl
theorem kw_9_111 : Cond.instanceMethod yX15_led ∈ WG := wg_in (lt_9 (List.mem_of_getElem? (i := 111) rfl)) rfl
theorem kw_9_112 : Cond.selects RX15 yX15_led yX15_led ∈ WG := wg_in (lt_9 (List.mem_of_getElem? (i := 112) rfl)) rfl
theorem kw_9_113 : Cond.code yX15_led cX15_led 6 (some .int) ∈ WG := wg_in (lt_9 (List.mem_of_getElem? (i := 113) rfl)) rfl
theorem kw_9_114 : Cond.methodLink RX15 513 yX15_leadsTo ∈ WG := wg_in (lt_9 (List.mem_of_getElem? (i := 114) rfl)) rfl
theorem kw_9_116 : Cond.instanceMethod yX15_leadsTo ∈ WG := wg_in (lt_9 (List.mem_of_getElem? (i := 116) rfl)) rfl
theorem kw_9_117 : Cond.code yX15_leadsTo cX15_leadsTo 7 (some .int) ∈ WG := wg_in (lt_9 (List.mem_of_getElem? (i := 117) rfl)) rfl
theorem kw_9_118 : Cond.methodLink RX15 507 yX15_linked ∈ WG := wg_in (lt_9 (List.mem_of_getElem? (i := 118) rfl)) rfl
theorem kw_9_119 : Cond.static yX15_linked ∈ WG := wg_in (lt_9 (List.mem_of_getElem? (i := 119) rfl)) rfl
theorem kw_9_120 : Cond.code yX15_linked cX15_linked 4 (some .int) ∈ WG := wg_in (lt_9 (List.mem_of_getElem? (i := 120) rfl)) rfl
theorem kw_9_121 : Cond.methodLink RX15 510 yX15_leastRow ∈ WG := wg_in (lt_9 (List.mem_of_getElem? (i := 121) rfl)) rfl
theorem kw_9_122 : Cond.static yX15_leastRow ∈ WG := wg_in (lt_9 (List.mem_of_getElem? (i := 122) rfl)) rfl
theorem kw_9_123 : Cond.code yX15_leastRow cX15_leastRow 2 (some .int) ∈ WG := wg_in (lt_9 (List.mem_of_getElem? (i := 123) rfl)) rfl
theorem kw_9_124 : Cond.methodLink RL 149 yX15_mend ∈ WG := wg_in (lt_9 (List.mem_of_getElem? (i := 124) rfl)) rfl
theorem kw_9_125 : Cond.instanceMethod yX15_mend ∈ WG := wg_in (lt_9 (List.mem_of_getElem? (i := 125) rfl)) rfl
theorem kw_9_126 : Cond.selects RX15 yX15_mend yX15_mend ∈ WG := wg_in (lt_9 (List.mem_of_getElem? (i := 126) rfl)) rfl
theorem kw_9_127 : Cond.code yX15_mend cX15_mend 5 (some .int) ∈ WG := wg_in (lt_9 (List.mem_of_getElem? (i := 127) rfl)) rfl
theorem kw_9_128 : Cond.methodLink RL 153 yX15_keep ∈ WG := wg_in (lt_9 (List.mem_of_getElem? (i := 128) rfl)) rfl
theorem kw_9_129 : Cond.instanceMethod yX15_keep ∈ WG := wg_in (lt_9 (List.mem_of_getElem? (i := 129) rfl)) rfl
theorem kw_9_130 : Cond.selects RX15 yX15_keep yX15_keep ∈ WG := wg_in (lt_9 (List.mem_of_getElem? (i := 130) rfl)) rfl
theorem kw_9_131 : Cond.code yX15_keep cX15_keep 2 (some .int) ∈ WG := wg_in (lt_9 (List.mem_of_getElem? (i := 131) rfl)) rfl
theorem kw_9_132 : Cond.methodLink RL 157 yX15_fit ∈ WG := wg_in (lt_9 (List.mem_of_getElem? (i := 132) rfl)) rfl
theorem kw_9_133 : Cond.instanceMethod yX15_fit ∈ WG := wg_in (lt_9 (List.mem_of_getElem? (i := 133) rfl)) rfl
theorem kw_9_134 : Cond.selects RX15 yX15_fit yX15_fit ∈ WG := wg_in (lt_9 (List.mem_of_getElem? (i := 134) rfl)) rfl
theorem kw_9_135 : Cond.code yX15_fit cX15_fit 2 (some .int) ∈ WG := wg_in (lt_9 (List.mem_of_getElem? (i := 135) rfl)) rfl
theorem kw_9_136 : Cond.methodLink RX15 519 yX15_isFit ∈ WG := wg_in (lt_9 (List.mem_of_getElem? (i := 136) rfl)) rfl
theorem kw_9_138 : Cond.instanceMethod yX15_isFit ∈ WG := wg_in (lt_9 (List.mem_of_getElem? (i := 138) rfl)) rfl
theorem kw_9_139 : Cond.code yX15_isFit cX15_isFit 7 (some .boolean) ∈ WG := wg_in (lt_9 (List.mem_of_getElem? (i := 139) rfl)) rfl
theorem kw_9_140 : Cond.methodLink RX15 516 yX15_makes ∈ WG := wg_in (lt_9 (List.mem_of_getElem? (i := 140) rfl)) rfl
theorem kw_9_142 : Cond.instanceMethod yX15_makes ∈ WG := wg_in (lt_9 (List.mem_of_getElem? (i := 142) rfl)) rfl
theorem kw_9_143 : Cond.code yX15_makes cX15_makes 3 none ∈ WG := wg_in (lt_9 (List.mem_of_getElem? (i := 143) rfl)) rfl
theorem kw_9_144 : Cond.methodLink RL 161 yX15_least ∈ WG := wg_in (lt_9 (List.mem_of_getElem? (i := 144) rfl)) rfl
theorem kw_9_145 : Cond.instanceMethod yX15_least ∈ WG := wg_in (lt_9 (List.mem_of_getElem? (i := 145) rfl)) rfl
theorem kw_9_146 : Cond.selects RX15 yX15_least yX15_least ∈ WG := wg_in (lt_9 (List.mem_of_getElem? (i := 146) rfl)) rfl
theorem kw_9_147 : Cond.code yX15_least cX15_least 3 (some .int) ∈ WG := wg_in (lt_9 (List.mem_of_getElem? (i := 147) rfl)) rfl
theorem kw_9_148 : Cond.methodLink RX15 522 yX15_bits ∈ WG := wg_in (lt_9 (List.mem_of_getElem? (i := 148) rfl)) rfl
theorem kw_9_149 : Cond.static yX15_bits ∈ WG := wg_in (lt_9 (List.mem_of_getElem? (i := 149) rfl)) rfl
theorem kw_9_150 : Cond.code yX15_bits cX15_bits 3 (some .int) ∈ WG := wg_in (lt_9 (List.mem_of_getElem? (i := 150) rfl)) rfl
theorem kw_9_151 : Cond.methodLink RL 165 yX15_make ∈ WG := wg_in (lt_9 (List.mem_of_getElem? (i := 151) rfl)) rfl
theorem kw_9_152 : Cond.instanceMethod yX15_make ∈ WG := wg_in (lt_9 (List.mem_of_getElem? (i := 152) rfl)) rfl
theorem kw_9_153 : Cond.selects RX15 yX15_make yX15_make ∈ WG := wg_in (lt_9 (List.mem_of_getElem? (i := 153) rfl)) rfl
theorem kw_9_154 : Cond.code yX15_make cX15_make 2 (some .int) ∈ WG := wg_in (lt_9 (List.mem_of_getElem? (i := 154) rfl)) rfl
theorem kw_9_155 : Cond.methodLink RL 169 yX15_count ∈ WG := wg_in (lt_9 (List.mem_of_getElem? (i := 155) rfl)) rfl
theorem kw_9_156 : Cond.instanceMethod yX15_count ∈ WG := wg_in (lt_9 (List.mem_of_getElem? (i := 156) rfl)) rfl
theorem kw_9_157 : Cond.selects RX15 yX15_count yX15_count ∈ WG := wg_in (lt_9 (List.mem_of_getElem? (i := 157) rfl)) rfl
theorem kw_9_158 : Cond.code yX15_count cX15_count 2 (some .int) ∈ WG := wg_in (lt_9 (List.mem_of_getElem? (i := 158) rfl)) rfl
theorem kw_9_159 : Cond.methodLink RX15 525 yX15_sets ∈ WG := wg_in (lt_9 (List.mem_of_getElem? (i := 159) rfl)) rfl
theorem kw_9_161 : Cond.instanceMethod yX15_sets ∈ WG := wg_in (lt_9 (List.mem_of_getElem? (i := 161) rfl)) rfl
theorem kw_9_162 : Cond.code yX15_sets cX15_sets 4 (some .int) ∈ WG := wg_in (lt_9 (List.mem_of_getElem? (i := 162) rfl)) rfl
theorem kw_9_163 : Cond.methodLink RL 173 yX15_trouble ∈ WG := wg_in (lt_9 (List.mem_of_getElem? (i := 163) rfl)) rfl
theorem kw_9_164 : Cond.instanceMethod yX15_trouble ∈ WG := wg_in (lt_9 (List.mem_of_getElem? (i := 164) rfl)) rfl
theorem kw_9_165 : Cond.selects RX15 yX15_trouble yX15_trouble ∈ WG := wg_in (lt_9 (List.mem_of_getElem? (i := 165) rfl)) rfl
theorem kw_9_166 : Cond.code yX15_trouble cX15_trouble 1 (some .int) ∈ WG := wg_in (lt_9 (List.mem_of_getElem? (i := 166) rfl)) rfl
theorem kw_9_187 : Cond.fieldLink RJ0 9 RJ0 "value" "[B" ∈ WG := wg_in (lt_9 (List.mem_of_getElem? (i := 187) rfl)) rfl
theorem kw_9_188 : Cond.fieldLink RJ0 15 RJ0 "coder" "B" ∈ WG := wg_in (lt_9 (List.mem_of_getElem? (i := 188) rfl)) rfl
theorem kp_0 : Cond.selects RX11 yX11_refuse yX11_refuse ∈ WG := wg_in (List.mem_append_left _ (List.mem_of_getElem? (i := 0) rfl)) rfl
theorem kp_1 : Cond.selects RX11 yX11_grant yX11_grant ∈ WG := wg_in (List.mem_append_left _ (List.mem_of_getElem? (i := 1) rfl)) rfl
theorem kp_2 : Cond.selects RX11 yX11_wrongPlace yX11_wrongPlace ∈ WG := wg_in (List.mem_append_left _ (List.mem_of_getElem? (i := 2) rfl)) rfl
theorem kp_3 : Cond.selects RX11 yX11_isBroken yX11_isBroken ∈ WG := wg_in (List.mem_append_left _ (List.mem_of_getElem? (i := 3) rfl)) rfl
theorem kp_4 : Cond.selects RX11 yX11_areMends yX11_areMends ∈ WG := wg_in (List.mem_append_left _ (List.mem_of_getElem? (i := 4) rfl)) rfl
theorem kp_5 : Cond.selects RX11 yX11_isFit yX11_isFit ∈ WG := wg_in (List.mem_append_left _ (List.mem_of_getElem? (i := 5) rfl)) rfl
theorem kp_6 : Cond.selects RX11 yX11_mendAll yX11_mendAll ∈ WG := wg_in (List.mem_append_left _ (List.mem_of_getElem? (i := 6) rfl)) rfl
theorem kp_7 : Cond.selects "java/lang/Throwable" (⟨"java/lang/Throwable", "fillInStackTrace", "(I)Ljava/lang/Throwable;"⟩ : MethodName) (⟨"java/lang/Throwable", "fillInStackTrace", "(I)Ljava/lang/Throwable;"⟩ : MethodName) ∈ WG := wg_in (List.mem_append_left _ (List.mem_of_getElem? (i := 7) rfl)) rfl
theorem kp_8 : Cond.selects RX15 yX15_refused yX15_refused ∈ WG := wg_in (List.mem_append_left _ (List.mem_of_getElem? (i := 8) rfl)) rfl
theorem kp_9 : Cond.selects RX15 yX15_next yX15_next ∈ WG := wg_in (List.mem_append_left _ (List.mem_of_getElem? (i := 9) rfl)) rfl
theorem kp_10 : Cond.selects RX15 yX15_byteAt yX15_byteAt ∈ WG := wg_in (List.mem_append_left _ (List.mem_of_getElem? (i := 10) rfl)) rfl
theorem kp_11 : Cond.selects RX15 yX15_readBook yX15_readBook ∈ WG := wg_in (List.mem_append_left _ (List.mem_of_getElem? (i := 11) rfl)) rfl
theorem kp_12 : Cond.selects RX15 yX15_isWord yX15_isWord ∈ WG := wg_in (List.mem_append_left _ (List.mem_of_getElem? (i := 12) rfl)) rfl
theorem kp_13 : Cond.selects RX15 yX15_readName yX15_readName ∈ WG := wg_in (List.mem_append_left _ (List.mem_of_getElem? (i := 13) rfl)) rfl
theorem kp_14 : Cond.selects RX15 yX15_stop yX15_stop ∈ WG := wg_in (List.mem_append_left _ (List.mem_of_getElem? (i := 14) rfl)) rfl
theorem kp_15 : Cond.selects RX15 yX15_isName yX15_isName ∈ WG := wg_in (List.mem_append_left _ (List.mem_of_getElem? (i := 15) rfl)) rfl
theorem kp_16 : Cond.selects RX15 yX15_readFact yX15_readFact ∈ WG := wg_in (List.mem_append_left _ (List.mem_of_getElem? (i := 16) rfl)) rfl
theorem kp_17 : Cond.selects RX15 yX15_readTold yX15_readTold ∈ WG := wg_in (List.mem_append_left _ (List.mem_of_getElem? (i := 17) rfl)) rfl
theorem kp_18 : Cond.selects RX15 yX15_needWord yX15_needWord ∈ WG := wg_in (List.mem_append_left _ (List.mem_of_getElem? (i := 18) rfl)) rfl
theorem kp_19 : Cond.selects RX15 yX15_readRule yX15_readRule ∈ WG := wg_in (List.mem_append_left _ (List.mem_of_getElem? (i := 19) rfl)) rfl
theorem kp_20 : Cond.selects RX15 yX15_readCases yX15_readCases ∈ WG := wg_in (List.mem_append_left _ (List.mem_of_getElem? (i := 20) rfl)) rfl
theorem kp_21 : Cond.selects RX15 yX15_readSend yX15_readSend ∈ WG := wg_in (List.mem_append_left _ (List.mem_of_getElem? (i := 21) rfl)) rfl
theorem kp_22 : Cond.selects RX15 yX15_readPromise yX15_readPromise ∈ WG := wg_in (List.mem_append_left _ (List.mem_of_getElem? (i := 22) rfl)) rfl
theorem kp_23 : Cond.selects RX15 yX15_readPlaces yX15_readPlaces ∈ WG := wg_in (List.mem_append_left _ (List.mem_of_getElem? (i := 23) rfl)) rfl
theorem kp_24 : Cond.selects RX15 yX15_done yX15_done ∈ WG := wg_in (List.mem_append_left _ (List.mem_of_getElem? (i := 24) rfl)) rfl
theorem kp_25 : Cond.selects RX15 yX15_denied yX15_denied ∈ WG := wg_in (List.mem_append_left _ (List.mem_of_getElem? (i := 25) rfl)) rfl
theorem kp_26 : Cond.selects RX15 yX15_granted yX15_granted ∈ WG := wg_in (List.mem_append_left _ (List.mem_of_getElem? (i := 26) rfl)) rfl
theorem kp_27 : Cond.selects RX15 yX15_inPurse yX15_inPurse ∈ WG := wg_in (List.mem_append_left _ (List.mem_of_getElem? (i := 27) rfl)) rfl
theorem kp_28 : Cond.selects RX15 yX15_things yX15_things ∈ WG := wg_in (List.mem_append_left _ (List.mem_of_getElem? (i := 28) rfl)) rfl
theorem kp_29 : Cond.selects RX15 yX15_runs yX15_runs ∈ WG := wg_in (List.mem_append_left _ (List.mem_of_getElem? (i := 29) rfl)) rfl
theorem kp_30 : Cond.selects RX15 yX15_goes yX15_goes ∈ WG := wg_in (List.mem_append_left _ (List.mem_of_getElem? (i := 30) rfl)) rfl
theorem kp_31 : Cond.selects RX15 yX15_isDown yX15_isDown ∈ WG := wg_in (List.mem_append_left _ (List.mem_of_getElem? (i := 31) rfl)) rfl
theorem kp_32 : Cond.selects RX15 yX15_comesAt yX15_comesAt ∈ WG := wg_in (List.mem_append_left _ (List.mem_of_getElem? (i := 32) rfl)) rfl
theorem kp_33 : Cond.selects RX15 yX15_isFact yX15_isFact ∈ WG := wg_in (List.mem_append_left _ (List.mem_of_getElem? (i := 33) rfl)) rfl
theorem kp_34 : Cond.selects RX15 yX15_keptFrom yX15_keptFrom ∈ WG := wg_in (List.mem_append_left _ (List.mem_of_getElem? (i := 34) rfl)) rfl
theorem kp_35 : Cond.selects RX15 yX15_rowsAt yX15_rowsAt ∈ WG := wg_in (List.mem_append_left _ (List.mem_of_getElem? (i := 35) rfl)) rfl
theorem kp_36 : Cond.selects RX15 yX15_isOf yX15_isOf ∈ WG := wg_in (List.mem_append_left _ (List.mem_of_getElem? (i := 36) rfl)) rfl
theorem kp_37 : Cond.selects RX15 yX15_holds yX15_holds ∈ WG := wg_in (List.mem_append_left _ (List.mem_of_getElem? (i := 37) rfl)) rfl
theorem kp_38 : Cond.selects RX15 yX15_notsOf yX15_notsOf ∈ WG := wg_in (List.mem_append_left _ (List.mem_of_getElem? (i := 38) rfl)) rfl
theorem kp_39 : Cond.selects RX15 yX15_closed yX15_closed ∈ WG := wg_in (List.mem_append_left _ (List.mem_of_getElem? (i := 39) rfl)) rfl
theorem kp_40 : Cond.selects RX15 yX15_sends yX15_sends ∈ WG := wg_in (List.mem_append_left _ (List.mem_of_getElem? (i := 40) rfl)) rfl
theorem kp_41 : Cond.selects RX15 yX15_outcome yX15_outcome ∈ WG := wg_in (List.mem_append_left _ (List.mem_of_getElem? (i := 41) rfl)) rfl
theorem kp_42 : Cond.selects RX15 yX15_isThere yX15_isThere ∈ WG := wg_in (List.mem_append_left _ (List.mem_of_getElem? (i := 42) rfl)) rfl
theorem kp_43 : Cond.selects RX15 yX15_isRow yX15_isRow ∈ WG := wg_in (List.mem_append_left _ (List.mem_of_getElem? (i := 43) rfl)) rfl
theorem kp_44 : Cond.selects RX15 yX15_isMachine yX15_isMachine ∈ WG := wg_in (List.mem_append_left _ (List.mem_of_getElem? (i := 44) rfl)) rfl
theorem kp_45 : Cond.selects RX15 yX15_reasonsOf yX15_reasonsOf ∈ WG := wg_in (List.mem_append_left _ (List.mem_of_getElem? (i := 45) rfl)) rfl
theorem kp_46 : Cond.selects RX15 yX15_tells yX15_tells ∈ WG := wg_in (List.mem_append_left _ (List.mem_of_getElem? (i := 46) rfl)) rfl
theorem kp_47 : Cond.selects RX15 yX15_isSend yX15_isSend ∈ WG := wg_in (List.mem_append_left _ (List.mem_of_getElem? (i := 47) rfl)) rfl
theorem kp_48 : Cond.selects RX15 yX15_isSpoilt yX15_isSpoilt ∈ WG := wg_in (List.mem_append_left _ (List.mem_of_getElem? (i := 48) rfl)) rfl
theorem kp_49 : Cond.selects RX15 yX15_puts yX15_puts ∈ WG := wg_in (List.mem_append_left _ (List.mem_of_getElem? (i := 49) rfl)) rfl
theorem kp_50 : Cond.selects RX15 yX15_isWordStanding yX15_isWordStanding ∈ WG := wg_in (List.mem_append_left _ (List.mem_of_getElem? (i := 50) rfl)) rfl
theorem kp_51 : Cond.selects RX15 yX15_isStanding yX15_isStanding ∈ WG := wg_in (List.mem_append_left _ (List.mem_of_getElem? (i := 51) rfl)) rfl
theorem kp_52 : Cond.selects RX15 yX15_isTooMany yX15_isTooMany ∈ WG := wg_in (List.mem_append_left _ (List.mem_of_getElem? (i := 52) rfl)) rfl
theorem kp_53 : Cond.selects RX15 yX15_allFalls yX15_allFalls ∈ WG := wg_in (List.mem_append_left _ (List.mem_of_getElem? (i := 53) rfl)) rfl
theorem kp_54 : Cond.selects RX15 yX15_begins yX15_begins ∈ WG := wg_in (List.mem_append_left _ (List.mem_of_getElem? (i := 54) rfl)) rfl
theorem kp_55 : Cond.selects RX15 yX15_isMeant yX15_isMeant ∈ WG := wg_in (List.mem_append_left _ (List.mem_of_getElem? (i := 55) rfl)) rfl
theorem kp_56 : Cond.selects RX15 yX15_goesOn yX15_goesOn ∈ WG := wg_in (List.mem_append_left _ (List.mem_of_getElem? (i := 56) rfl)) rfl
theorem kp_57 : Cond.selects RX15 yX15_thinOf yX15_thinOf ∈ WG := wg_in (List.mem_append_left _ (List.mem_of_getElem? (i := 57) rfl)) rfl
theorem kp_58 : Cond.selects RX15 yX15_leadsTo yX15_leadsTo ∈ WG := wg_in (List.mem_append_left _ (List.mem_of_getElem? (i := 58) rfl)) rfl
theorem kp_59 : Cond.selects RX15 yX15_isFit yX15_isFit ∈ WG := wg_in (List.mem_append_left _ (List.mem_of_getElem? (i := 59) rfl)) rfl
theorem kp_60 : Cond.selects RX15 yX15_makes yX15_makes ∈ WG := wg_in (List.mem_append_left _ (List.mem_of_getElem? (i := 60) rfl)) rfl
theorem kp_61 : Cond.selects RX15 yX15_sets yX15_sets ∈ WG := wg_in (List.mem_append_left _ (List.mem_of_getElem? (i := 61) rfl)) rfl
theorem kn_0 : Cond.methodLinkNest RX0 36 yX1_init RX11 ∈ nestW := List.mem_of_getElem? (i := 0) rfl
theorem kn_1 : Cond.methodLinkNest RX9 11 yX5_init RX11 ∈ nestW := List.mem_of_getElem? (i := 1) rfl
theorem kn_2 : Cond.methodLinkNest RX9 20 yX3_init RX11 ∈ nestW := List.mem_of_getElem? (i := 2) rfl
theorem kn_3 : Cond.methodLinkNest RX9 62 yX8_init RX11 ∈ nestW := List.mem_of_getElem? (i := 3) rfl
theorem kn_4 : Cond.methodLinkNest RX11 71 yX8_init RX11 ∈ nestW := List.mem_of_getElem? (i := 4) rfl
theorem kn_5 : Cond.methodLinkNest RX2 76 yX11_cell RX11 ∈ nestW := List.mem_of_getElem? (i := 5) rfl
theorem kn_6 : Cond.methodLinkNest RX8 51 yX11_cell RX11 ∈ nestW := List.mem_of_getElem? (i := 6) rfl
theorem kn_7 : Cond.methodLinkNest RX7 47 yX11_cell RX11 ∈ nestW := List.mem_of_getElem? (i := 7) rfl
theorem kn_8 : Cond.methodLinkNest RX5 55 yX11_numberOf RX11 ∈ nestW := List.mem_of_getElem? (i := 8) rfl
theorem kn_17 : Cond.fieldLinkNest RX15 114 RX14 "kind" "I" RX15 ∈ nestW := List.mem_of_getElem? (i := 17) rfl
theorem kn_18 : Cond.fieldLinkNest RX15 120 RX14 "place" "I" RX15 ∈ nestW := List.mem_of_getElem? (i := 18) rfl
theorem kn_19 : Cond.methodLinkNest RX15 42 yX13_init RX15 ∈ nestW := List.mem_of_getElem? (i := 19) rfl
theorem kn_20 : Cond.fieldLinkNest RX15 433 RX13 "lost" "[Z" RX15 ∈ nestW := List.mem_of_getElem? (i := 20) rfl
theorem kn_21 : Cond.fieldLinkNest RX15 430 RX13 "late" "[Z" RX15 ∈ nestW := List.mem_of_getElem? (i := 21) rfl
theorem kn_22 : Cond.fieldLinkNest RX15 417 RX13 "down" "[I" RX15 ∈ nestW := List.mem_of_getElem? (i := 22) rfl
theorem kn_23 : Cond.methodLinkNest RX15 339 yX12_init RX15 ∈ nestW := List.mem_of_getElem? (i := 23) rfl
theorem kn_24 : Cond.fieldLinkNest RX15 235 RX12 "names" "I" RX15 ∈ nestW := List.mem_of_getElem? (i := 24) rfl
theorem kn_25 : Cond.fieldLinkNest RX15 209 RX12 "machines" "I" RX15 ∈ nestW := List.mem_of_getElem? (i := 25) rfl
theorem kn_26 : Cond.fieldLinkNest RX15 216 RX12 "rows" "I" RX15 ∈ nestW := List.mem_of_getElem? (i := 26) rfl
theorem kn_27 : Cond.fieldLinkNest RX15 243 RX12 "facts" "I" RX15 ∈ nestW := List.mem_of_getElem? (i := 27) rfl
theorem kn_28 : Cond.fieldLinkNest RX15 264 RX12 "maybes" "I" RX15 ∈ nestW := List.mem_of_getElem? (i := 28) rfl
theorem kn_29 : Cond.fieldLinkNest RX15 273 RX12 "rules" "I" RX15 ∈ nestW := List.mem_of_getElem? (i := 29) rfl
theorem kn_30 : Cond.fieldLinkNest RX15 292 RX12 "sends" "I" RX15 ∈ nestW := List.mem_of_getElem? (i := 30) rfl
theorem kn_31 : Cond.fieldLinkNest RX15 240 RX12 "keptRows" "I" RX15 ∈ nestW := List.mem_of_getElem? (i := 31) rfl
theorem kn_32 : Cond.fieldLinkNest RX15 231 RX12 "name" "[J" RX15 ∈ nestW := List.mem_of_getElem? (i := 32) rfl
theorem kn_33 : Cond.fieldLinkNest RX15 203 RX12 "isRow" "[Z" RX15 ∈ nestW := List.mem_of_getElem? (i := 33) rfl
theorem kn_34 : Cond.fieldLinkNest RX15 206 RX12 "number" "[I" RX15 ∈ nestW := List.mem_of_getElem? (i := 34) rfl
theorem kn_35 : Cond.fieldLinkNest RX15 246 RX12 "factRow" "[I" RX15 ∈ nestW := List.mem_of_getElem? (i := 35) rfl
theorem kn_36 : Cond.fieldLinkNest RX15 257 RX12 "factAt" "[I" RX15 ∈ nestW := List.mem_of_getElem? (i := 36) rfl
theorem kn_37 : Cond.fieldLinkNest RX15 260 RX12 "maybe" "[I" RX15 ∈ nestW := List.mem_of_getElem? (i := 37) rfl
theorem kn_38 : Cond.fieldLinkNest RX15 276 RX12 "ruleRow" "[I" RX15 ∈ nestW := List.mem_of_getElem? (i := 38) rfl
theorem kn_39 : Cond.fieldLinkNest RX15 289 RX12 "ruleAt" "[I" RX15 ∈ nestW := List.mem_of_getElem? (i := 39) rfl
theorem kn_40 : Cond.fieldLinkNest RX15 279 RX12 "isNow" "[Z" RX15 ∈ nestW := List.mem_of_getElem? (i := 40) rfl
theorem kn_41 : Cond.fieldLinkNest RX15 295 RX12 "sendRow" "[I" RX15 ∈ nestW := List.mem_of_getElem? (i := 41) rfl
theorem kn_42 : Cond.fieldLinkNest RX15 300 RX12 "sendTo" "[I" RX15 ∈ nestW := List.mem_of_getElem? (i := 42) rfl
theorem kn_43 : Cond.fieldLinkNest RX15 303 RX12 "sendAt" "[I" RX15 ∈ nestW := List.mem_of_getElem? (i := 43) rfl
theorem kn_44 : Cond.fieldLinkNest RX15 270 RX12 "asks" "[I" RX15 ∈ nestW := List.mem_of_getElem? (i := 44) rfl
theorem kn_45 : Cond.fieldLinkNest RX15 267 RX12 "nots" "[I" RX15 ∈ nestW := List.mem_of_getElem? (i := 45) rfl
theorem kn_46 : Cond.fieldLinkNest RX15 316 RX12 "pres" "I" RX15 ∈ nestW := List.mem_of_getElem? (i := 46) rfl
theorem kn_47 : Cond.fieldLinkNest RX15 327 RX12 "posts" "I" RX15 ∈ nestW := List.mem_of_getElem? (i := 47) rfl
theorem kn_48 : Cond.fieldLinkNest RX15 306 RX12 "preRow" "[I" RX15 ∈ nestW := List.mem_of_getElem? (i := 48) rfl
theorem kn_49 : Cond.fieldLinkNest RX15 309 RX12 "preAt" "[I" RX15 ∈ nestW := List.mem_of_getElem? (i := 49) rfl
theorem kn_50 : Cond.fieldLinkNest RX15 321 RX12 "postRow" "[I" RX15 ∈ nestW := List.mem_of_getElem? (i := 50) rfl
theorem kn_51 : Cond.fieldLinkNest RX15 324 RX12 "postAt" "[I" RX15 ∈ nestW := List.mem_of_getElem? (i := 51) rfl
theorem kt_0 : ∀ w ∈ wsX00, w ∈ WG := fun w h => by
  have h1 : (wsX00.all fun w => decide (w ∈ lw_tbl) && goodWord w) = true := by decide +kernel
  have h2 := List.all_eq_true.mp h1 w h
  simp only [Bool.and_eq_true, decide_eq_true_eq] at h2
  exact wg_in h2.1 h2.2
theorem kc_0 : KC 0 RX0 TX0 16 tyX0 := ⟨by decide, rfl, rfl, kt_0, tyX0_ok, nmX0, by decide +kernel⟩
theorem kt_1 : ∀ w ∈ wsX10, w ∈ WG := fun w h => by
  have h1 : (wsX10.all fun w => decide (w ∈ lw_tbl) && goodWord w) = true := by decide +kernel
  have h2 := List.all_eq_true.mp h1 w h
  simp only [Bool.and_eq_true, decide_eq_true_eq] at h2
  exact wg_in h2.1 h2.2
theorem kc_1 : KC 1 RX1 TX1 9 tyX1 := ⟨by decide, rfl, rfl, kt_1, tyX1_ok, nmX1, by decide +kernel⟩
theorem kt_2 : ∀ w ∈ wsX20, w ∈ WG := fun w h => by
  have h1 : (wsX20.all fun w => decide (w ∈ lw_tbl) && goodWord w) = true := by decide +kernel
  have h2 := List.all_eq_true.mp h1 w h
  simp only [Bool.and_eq_true, decide_eq_true_eq] at h2
  exact wg_in h2.1 h2.2
theorem kc_2 : KC 2 RX2 TX2 10 tyX2 := ⟨by decide, rfl, rfl, kt_2, tyX2_ok, nmX2, by decide +kernel⟩
theorem kt_3 : ∀ w ∈ wsX30, w ∈ WG := fun w h => by
  have h1 : (wsX30.all fun w => decide (w ∈ lw_tbl) && goodWord w) = true := by decide +kernel
  have h2 := List.all_eq_true.mp h1 w h
  simp only [Bool.and_eq_true, decide_eq_true_eq] at h2
  exact wg_in h2.1 h2.2
theorem kc_3 : KC 3 RX3 TX3 3 tyX3 := ⟨by decide, rfl, rfl, kt_3, tyX3_ok, nmX3, by decide +kernel⟩
theorem kt_4 : ∀ w ∈ wsX40, w ∈ WG := fun w h => by
  have h1 : (wsX40.all fun w => decide (w ∈ lw_tbl) && goodWord w) = true := by decide +kernel
  have h2 := List.all_eq_true.mp h1 w h
  simp only [Bool.and_eq_true, decide_eq_true_eq] at h2
  exact wg_in h2.1 h2.2
theorem kc_4 : KC 4 RX4 TX4 2 tyX4 := ⟨by decide, rfl, rfl, kt_4, tyX4_ok, nmX4, by decide +kernel⟩
theorem kt_5 : ∀ w ∈ wsX50, w ∈ WG := fun w h => by
  have h1 : (wsX50.all fun w => decide (w ∈ lw_tbl) && goodWord w) = true := by decide +kernel
  have h2 := List.all_eq_true.mp h1 w h
  simp only [Bool.and_eq_true, decide_eq_true_eq] at h2
  exact wg_in h2.1 h2.2
theorem kc_5 : KC 5 RX5 TX5 8 tyX5 := ⟨by decide, rfl, rfl, kt_5, tyX5_ok, nmX5, by decide +kernel⟩
theorem kt_6 : ∀ w ∈ wsX60, w ∈ WG := fun w h => by
  have h1 : (wsX60.all fun w => decide (w ∈ lw_tbl) && goodWord w) = true := by decide +kernel
  have h2 := List.all_eq_true.mp h1 w h
  simp only [Bool.and_eq_true, decide_eq_true_eq] at h2
  exact wg_in h2.1 h2.2
theorem kc_6 : KC 6 RX6 TX6 11 tyX6 := ⟨by decide, rfl, rfl, kt_6, tyX6_ok, nmX6, by decide +kernel⟩
theorem kt_7 : ∀ w ∈ wsX70, w ∈ WG := fun w h => by
  have h1 : (wsX70.all fun w => decide (w ∈ lw_tbl) && goodWord w) = true := by decide +kernel
  have h2 := List.all_eq_true.mp h1 w h
  simp only [Bool.and_eq_true, decide_eq_true_eq] at h2
  exact wg_in h2.1 h2.2
theorem kc_7 : KC 7 RX7 TX7 5 tyX7 := ⟨by decide, rfl, rfl, kt_7, tyX7_ok, nmX7, by decide +kernel⟩
theorem kt_8 : ∀ w ∈ wsX80, w ∈ WG := fun w h => by
  have h1 : (wsX80.all fun w => decide (w ∈ lw_tbl) && goodWord w) = true := by decide +kernel
  have h2 := List.all_eq_true.mp h1 w h
  simp only [Bool.and_eq_true, decide_eq_true_eq] at h2
  exact wg_in h2.1 h2.2
theorem kc_8 : KC 8 RX8 TX8 7 tyX8 := ⟨by decide, rfl, rfl, kt_8, tyX8_ok, nmX8, by decide +kernel⟩
theorem kt_9 : ∀ w ∈ wsX90, w ∈ WG := fun w h => by
  have h1 : (wsX90.all fun w => decide (w ∈ lw_tbl) && goodWord w) = true := by decide +kernel
  have h2 := List.all_eq_true.mp h1 w h
  simp only [Bool.and_eq_true, decide_eq_true_eq] at h2
  exact wg_in h2.1 h2.2
theorem kc_9 : KC 9 RX9 TX9 13 tyX9 := ⟨by decide, rfl, rfl, kt_9, tyX9_ok, nmX9, by decide +kernel⟩
theorem kt_10 : ∀ w ∈ wsX100, w ∈ WG := fun w h => by
  have h1 : (wsX100.all fun w => decide (w ∈ lw_tbl) && goodWord w) = true := by decide +kernel
  have h2 := List.all_eq_true.mp h1 w h
  simp only [Bool.and_eq_true, decide_eq_true_eq] at h2
  exact wg_in h2.1 h2.2
theorem kc_10 : KC 10 RX10 TX10 6 tyX10 := ⟨by decide, rfl, rfl, kt_10, tyX10_ok, nmX10, by decide +kernel⟩
theorem kt_11 : ∀ w ∈ wsX110, w ∈ WG := fun w h => by
  have h1 : (wsX110.all fun w => decide (w ∈ lw_tbl) && goodWord w) = true := by decide +kernel
  have h2 := List.all_eq_true.mp h1 w h
  simp only [Bool.and_eq_true, decide_eq_true_eq] at h2
  exact wg_in h2.1 h2.2
theorem kc_11 : KC 11 RX11 TX11 18 tyX11 := ⟨by decide, rfl, rfl, kt_11, tyX11_ok, nmX11, by decide +kernel⟩
theorem kt_12 : ∀ w ∈ wsX120, w ∈ WG := fun w h => by
  have h1 : (wsX120.all fun w => decide (w ∈ lw_tbl) && goodWord w) = true := by decide +kernel
  have h2 := List.all_eq_true.mp h1 w h
  simp only [Bool.and_eq_true, decide_eq_true_eq] at h2
  exact wg_in h2.1 h2.2
theorem kc_12 : KC 12 RX12 TX12 28 tyX12 := ⟨by decide, rfl, rfl, kt_12, tyX12_ok, nmX12, by decide +kernel⟩
theorem kt_13 : ∀ w ∈ wsX130, w ∈ WG := fun w h => by
  have h1 : (wsX130.all fun w => decide (w ∈ lw_tbl) && goodWord w) = true := by decide +kernel
  have h2 := List.all_eq_true.mp h1 w h
  simp only [Bool.and_eq_true, decide_eq_true_eq] at h2
  exact wg_in h2.1 h2.2
theorem kc_13 : KC 13 RX13 TX13 3 tyX13 := ⟨by decide, rfl, rfl, kt_13, tyX13_ok, nmX13, by decide +kernel⟩
theorem kt_14 : ∀ w ∈ wsX140, w ∈ WG := fun w h => by
  have h1 : (wsX140.all fun w => decide (w ∈ lw_tbl) && goodWord w) = true := by decide +kernel
  have h2 := List.all_eq_true.mp h1 w h
  simp only [Bool.and_eq_true, decide_eq_true_eq] at h2
  exact wg_in h2.1 h2.2
theorem kc_14 : KC 14 RX14 TX14 8 tyX14 := ⟨by decide, rfl, rfl, kt_14, tyX14_ok, nmX14, by decide +kernel⟩
theorem kt_15 : ∀ w ∈ wsX150, w ∈ WG := fun w h => by
  have h1 : (wsX150.all fun w => decide (w ∈ lw_tbl) && goodWord w) = true := by decide +kernel
  have h2 := List.all_eq_true.mp h1 w h
  simp only [Bool.and_eq_true, decide_eq_true_eq] at h2
  exact wg_in h2.1 h2.2
theorem kc_15 : KC 15 RX15 TX15 51 tyX15 := ⟨by decide, rfl, rfl, kt_15, tyX15_ok, nmX15, by decide +kernel⟩
