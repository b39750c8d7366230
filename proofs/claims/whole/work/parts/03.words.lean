theorem q_1_0 : Cond.initialized R_LW ∈ fm_T := fm_inT (List.mem_append_right _ (List.mem_append_left _ (List.mem_of_getElem? (i := 0) rfl))) rfl
theorem q_1_1 : Cond.initialized R_FM ∈ fm_T := fm_inT (List.mem_append_right _ (List.mem_append_left _ (List.mem_of_getElem? (i := 1) rfl))) rfl
theorem q_1_2 : Cond.initialized R_BF ∈ fm_T := fm_inT (List.mem_append_right _ (List.mem_append_left _ (List.mem_of_getElem? (i := 2) rfl))) rfl
theorem q_1_3 : Cond.initialized R_LI ∈ fm_T := fm_inT (List.mem_append_right _ (List.mem_append_left _ (List.mem_of_getElem? (i := 3) rfl))) rfl
theorem q_1_4 : Cond.initialized R_FO ∈ fm_T := fm_inT (List.mem_append_right _ (List.mem_append_left _ (List.mem_of_getElem? (i := 4) rfl))) rfl
theorem q_1_5 : Cond.initialized R_MO ∈ fm_T := fm_inT (List.mem_append_right _ (List.mem_append_left _ (List.mem_of_getElem? (i := 5) rfl))) rfl
theorem q_1_6 : Cond.initialized "java/lang/Throwable" ∈ fm_T := fm_inT (List.mem_append_right _ (List.mem_append_left _ (List.mem_of_getElem? (i := 6) rfl))) rfl
theorem q_1_7 : Cond.initialized "java/lang/Exception" ∈ fm_T := fm_inT (List.mem_append_right _ (List.mem_append_left _ (List.mem_of_getElem? (i := 7) rfl))) rfl
theorem q_1_8 : Cond.initialized "java/lang/RuntimeException" ∈ fm_T := fm_inT (List.mem_append_right _ (List.mem_append_left _ (List.mem_of_getElem? (i := 8) rfl))) rfl
theorem q_1_9 : Cond.initialized "java/lang/IllegalArgumentException" ∈ fm_T := fm_inT (List.mem_append_right _ (List.mem_append_left _ (List.mem_of_getElem? (i := 9) rfl))) rfl
theorem q_1_10 : Cond.initialized "java/lang/Math" ∈ fm_T := fm_inT (List.mem_append_right _ (List.mem_append_left _ (List.mem_of_getElem? (i := 10) rfl))) rfl
theorem q_1_11 : Cond.initialized "java/lang/System" ∈ fm_T := fm_inT (List.mem_append_right _ (List.mem_append_left _ (List.mem_of_getElem? (i := 11) rfl))) rfl
theorem q_1_12 : Cond.initialized R_FA ∈ fm_T := fm_inT (List.mem_append_right _ (List.mem_append_left _ (List.mem_of_getElem? (i := 12) rfl))) rfl
theorem q_1_13 : Cond.initialized "java/lang/IllegalStateException" ∈ fm_T := fm_inT (List.mem_append_right _ (List.mem_append_left _ (List.mem_of_getElem? (i := 13) rfl))) rfl
theorem q_1_14 : Cond.initialized "java/lang/IndexOutOfBoundsException" ∈ fm_T := fm_inT (List.mem_append_right _ (List.mem_append_left _ (List.mem_of_getElem? (i := 14) rfl))) rfl
theorem q_1_15 : Cond.classLink R_LW 8 "FontMetrics" ∈ fm_T := fm_inT (List.mem_append_right _ (List.mem_append_left _ (List.mem_of_getElem? (i := 15) rfl))) rfl
theorem q_1_16 : Cond.instantiable R_FM 7 ∈ fm_T := fm_inT (List.mem_append_right _ (List.mem_append_left _ (List.mem_of_getElem? (i := 16) rfl))) rfl
theorem q_1_17 : Cond.methodLink R_LW 46 y_FM_init ∈ fm_T := fm_inT (List.mem_append_right _ (List.mem_append_left _ (List.mem_of_getElem? (i := 17) rfl))) rfl
theorem q_1_18 : Cond.instanceMethod y_FM_init ∈ fm_T := fm_inT (List.mem_append_right _ (List.mem_append_left _ (List.mem_of_getElem? (i := 18) rfl))) rfl
theorem q_1_19 : Cond.code y_FM_init prog_1_method_1_code 1 none ∈ fm_T := fm_inT (List.mem_append_right _ (List.mem_append_left _ (List.mem_of_getElem? (i := 19) rfl))) rfl
theorem q_1_20 : Cond.methodLink R_FM 1 (⟨"java/lang/Object", "<init>", "()V"⟩ : MethodName) ∈ fm_T := fm_inT (List.mem_append_right _ (List.mem_append_left _ (List.mem_of_getElem? (i := 20) rfl))) rfl
theorem q_1_21 : Cond.instanceMethod (⟨"java/lang/Object", "<init>", "()V"⟩ : MethodName) ∈ fm_T := fm_inT (List.mem_append_right _ (List.mem_append_left _ (List.mem_of_getElem? (i := 21) rfl))) rfl
theorem q_1_22 : Cond.code (⟨"java/lang/Object", "<init>", "()V"⟩ : MethodName) object_method_1_code 1 none ∈ fm_T := fm_inT (List.mem_append_right _ (List.mem_append_left _ (List.mem_of_getElem? (i := 22) rfl))) rfl
theorem q_1_23 : Cond.classLink R_FM 7 "FontMetrics$ByteFile" ∈ fm_T := fm_inT (List.mem_append_right _ (List.mem_append_left _ (List.mem_of_getElem? (i := 23) rfl))) rfl
theorem q_1_24 : Cond.instantiable R_BF 2 ∈ fm_T := fm_inT (List.mem_append_right _ (List.mem_append_left _ (List.mem_of_getElem? (i := 24) rfl))) rfl
theorem q_1_25 : Cond.methodLink R_FM 9 y_BF_init ∈ fm_T := fm_inT (List.mem_append_right _ (List.mem_append_left _ (List.mem_of_getElem? (i := 25) rfl))) rfl
theorem q_1_26 : Cond.instanceMethod y_BF_init ∈ fm_T := fm_inT (List.mem_append_right _ (List.mem_append_left _ (List.mem_of_getElem? (i := 26) rfl))) rfl
theorem q_1_27 : Cond.code y_BF_init prog_2_method_1_code 1 none ∈ fm_T := fm_inT (List.mem_append_right _ (List.mem_append_left _ (List.mem_of_getElem? (i := 27) rfl))) rfl
theorem q_1_28 : Cond.methodLink R_BF 3 (⟨"java/lang/Object", "<init>", "()V"⟩ : MethodName) ∈ fm_T := fm_inT (List.mem_append_right _ (List.mem_append_left _ (List.mem_of_getElem? (i := 28) rfl))) rfl
theorem q_1_29 : Cond.fieldLink R_BF 9 "FontMetrics$ByteFile" "words" "[I" ∈ fm_T := fm_inT (List.mem_append_right _ (List.mem_append_left _ (List.mem_of_getElem? (i := 29) rfl))) rfl
theorem q_1_30 : Cond.fieldLink R_FM 61 "FontMetrics$ByteFile" "words" "[I" ∈ fm_T := fm_inT (List.mem_append_right _ (List.mem_append_left _ (List.mem_of_getElem? (i := 30) rfl))) rfl
theorem q_1_31 : Cond.fieldLink R_BF 13 "FontMetrics$ByteFile" "length" "I" ∈ fm_T := fm_inT (List.mem_append_right _ (List.mem_append_left _ (List.mem_of_getElem? (i := 31) rfl))) rfl
theorem q_1_32 : Cond.fieldLink R_FM 68 "FontMetrics$ByteFile" "length" "I" ∈ fm_T := fm_inT (List.mem_append_right _ (List.mem_append_left _ (List.mem_of_getElem? (i := 32) rfl))) rfl
theorem q_1_33 : Cond.laysFinal R_BF "FontMetrics$ByteFile" "words" "[I" ∈ fm_T := fm_inT (List.mem_append_right _ (List.mem_append_left _ (List.mem_of_getElem? (i := 33) rfl))) rfl
theorem q_1_35 : Cond.lays R_BF "FontMetrics$ByteFile" "length" "I" ∈ fm_T := fm_inT (List.mem_append_right _ (List.mem_append_left _ (List.mem_of_getElem? (i := 35) rfl))) rfl
theorem q_1_38 : Cond.arrayClass FieldType.int ∈ fm_T := fm_inT (List.mem_append_right _ (List.mem_append_left _ (List.mem_of_getElem? (i := 38) rfl))) rfl
theorem q_1_39 : Cond.classLink R_FM 16 "FontMetrics$Line" ∈ fm_T := fm_inT (List.mem_append_right _ (List.mem_append_left _ (List.mem_of_getElem? (i := 39) rfl))) rfl
theorem q_1_40 : Cond.instantiable R_LI 5 ∈ fm_T := fm_inT (List.mem_append_right _ (List.mem_append_left _ (List.mem_of_getElem? (i := 40) rfl))) rfl
theorem q_1_41 : Cond.methodLink R_FM 18 y_LI_init ∈ fm_T := fm_inT (List.mem_append_right _ (List.mem_append_left _ (List.mem_of_getElem? (i := 41) rfl))) rfl
theorem q_1_42 : Cond.instanceMethod y_LI_init ∈ fm_T := fm_inT (List.mem_append_right _ (List.mem_append_left _ (List.mem_of_getElem? (i := 42) rfl))) rfl
theorem q_1_43 : Cond.code y_LI_init prog_5_method_1_code 1 none ∈ fm_T := fm_inT (List.mem_append_right _ (List.mem_append_left _ (List.mem_of_getElem? (i := 43) rfl))) rfl
theorem q_1_44 : Cond.methodLink R_LI 5 (⟨"java/lang/Object", "<init>", "()V"⟩ : MethodName) ∈ fm_T := fm_inT (List.mem_append_right _ (List.mem_append_left _ (List.mem_of_getElem? (i := 44) rfl))) rfl
theorem q_1_45 : Cond.fieldLink R_LI 11 "FontMetrics$Line" "pending" "[I" ∈ fm_T := fm_inT (List.mem_append_right _ (List.mem_append_left _ (List.mem_of_getElem? (i := 45) rfl))) rfl
theorem q_1_46 : Cond.fieldLink R_LI 15 "FontMetrics$Line" "values" "[I" ∈ fm_T := fm_inT (List.mem_append_right _ (List.mem_append_left _ (List.mem_of_getElem? (i := 46) rfl))) rfl
theorem q_1_47 : Cond.fieldLink R_LI 18 "FontMetrics$Line" "kerns" "[Z" ∈ fm_T := fm_inT (List.mem_append_right _ (List.mem_append_left _ (List.mem_of_getElem? (i := 47) rfl))) rfl
theorem q_1_48 : Cond.fieldLink R_LI 22 "FontMetrics$Line" "left" "I" ∈ fm_T := fm_inT (List.mem_append_right _ (List.mem_append_left _ (List.mem_of_getElem? (i := 48) rfl))) rfl
theorem q_1_49 : Cond.fieldLink R_LI 26 "FontMetrics$Line" "count" "I" ∈ fm_T := fm_inT (List.mem_append_right _ (List.mem_append_left _ (List.mem_of_getElem? (i := 49) rfl))) rfl
theorem q_1_50 : Cond.fieldLink R_FM 178 "FontMetrics$Line" "count" "I" ∈ fm_T := fm_inT (List.mem_append_right _ (List.mem_append_left _ (List.mem_of_getElem? (i := 50) rfl))) rfl
theorem q_1_51 : Cond.laysFinal R_LI "FontMetrics$Line" "pending" "[I" ∈ fm_T := fm_inT (List.mem_append_right _ (List.mem_append_left _ (List.mem_of_getElem? (i := 51) rfl))) rfl
theorem q_1_53 : Cond.laysFinal R_LI "FontMetrics$Line" "values" "[I" ∈ fm_T := fm_inT (List.mem_append_right _ (List.mem_append_left _ (List.mem_of_getElem? (i := 53) rfl))) rfl
theorem q_1_55 : Cond.laysFinal R_LI "FontMetrics$Line" "kerns" "[Z" ∈ fm_T := fm_inT (List.mem_append_right _ (List.mem_append_left _ (List.mem_of_getElem? (i := 55) rfl))) rfl
theorem q_1_57 : Cond.lays R_LI "FontMetrics$Line" "left" "I" ∈ fm_T := fm_inT (List.mem_append_right _ (List.mem_append_left _ (List.mem_of_getElem? (i := 57) rfl))) rfl
theorem q_1_59 : Cond.lays R_LI "FontMetrics$Line" "count" "I" ∈ fm_T := fm_inT (List.mem_append_right _ (List.mem_append_left _ (List.mem_of_getElem? (i := 59) rfl))) rfl
theorem q_1_62 : Cond.arrayClass FieldType.boolean ∈ fm_T := fm_inT (List.mem_append_right _ (List.mem_append_left _ (List.mem_of_getElem? (i := 62) rfl))) rfl
theorem q_1_63 : Cond.classLink R_FM 31 "FontMetrics$Font" ∈ fm_T := fm_inT (List.mem_append_right _ (List.mem_append_left _ (List.mem_of_getElem? (i := 63) rfl))) rfl
theorem q_1_64 : Cond.instantiable R_FO 8 ∈ fm_T := fm_inT (List.mem_append_right _ (List.mem_append_left _ (List.mem_of_getElem? (i := 64) rfl))) rfl
theorem q_1_65 : Cond.methodLink R_FM 33 y_FO_init ∈ fm_T := fm_inT (List.mem_append_right _ (List.mem_append_left _ (List.mem_of_getElem? (i := 65) rfl))) rfl
theorem q_1_66 : Cond.instanceMethod y_FO_init ∈ fm_T := fm_inT (List.mem_append_right _ (List.mem_append_left _ (List.mem_of_getElem? (i := 66) rfl))) rfl
theorem q_1_67 : Cond.code y_FO_init prog_4_method_1_code 1 none ∈ fm_T := fm_inT (List.mem_append_right _ (List.mem_append_left _ (List.mem_of_getElem? (i := 67) rfl))) rfl
theorem q_1_68 : Cond.methodLink R_FO 3 (⟨"java/lang/Object", "<init>", "()V"⟩ : MethodName) ∈ fm_T := fm_inT (List.mem_append_right _ (List.mem_append_left _ (List.mem_of_getElem? (i := 68) rfl))) rfl
theorem q_1_69 : Cond.fieldLink R_FO 11 "FontMetrics$Font" "words" "[I" ∈ fm_T := fm_inT (List.mem_append_right _ (List.mem_append_left _ (List.mem_of_getElem? (i := 69) rfl))) rfl
theorem q_1_70 : Cond.fieldLink R_FO 17 "FontMetrics$Font" "starts" "[I" ∈ fm_T := fm_inT (List.mem_append_right _ (List.mem_append_left _ (List.mem_of_getElem? (i := 70) rfl))) rfl
theorem q_1_71 : Cond.fieldLink R_FO 20 "FontMetrics$Font" "lengths" "[I" ∈ fm_T := fm_inT (List.mem_append_right _ (List.mem_append_left _ (List.mem_of_getElem? (i := 71) rfl))) rfl
theorem q_1_72 : Cond.fieldLink R_FA 15 "FontMetrics$Font" "bc" "I" ∈ fm_T := fm_inT (List.mem_append_right _ (List.mem_append_left _ (List.mem_of_getElem? (i := 72) rfl))) rfl
theorem q_1_73 : Cond.fieldLink R_FO 39 "FontMetrics$Font" "bc" "I" ∈ fm_T := fm_inT (List.mem_append_right _ (List.mem_append_left _ (List.mem_of_getElem? (i := 73) rfl))) rfl
theorem q_1_74 : Cond.fieldLink R_FM 95 "FontMetrics$Font" "bc" "I" ∈ fm_T := fm_inT (List.mem_append_right _ (List.mem_append_left _ (List.mem_of_getElem? (i := 74) rfl))) rfl
theorem q_1_75 : Cond.fieldLink R_FA 19 "FontMetrics$Font" "ec" "I" ∈ fm_T := fm_inT (List.mem_append_right _ (List.mem_append_left _ (List.mem_of_getElem? (i := 75) rfl))) rfl
theorem q_1_76 : Cond.fieldLink R_FO 43 "FontMetrics$Font" "ec" "I" ∈ fm_T := fm_inT (List.mem_append_right _ (List.mem_append_left _ (List.mem_of_getElem? (i := 76) rfl))) rfl
theorem q_1_77 : Cond.fieldLink R_FM 98 "FontMetrics$Font" "ec" "I" ∈ fm_T := fm_inT (List.mem_append_right _ (List.mem_append_left _ (List.mem_of_getElem? (i := 77) rfl))) rfl
theorem q_1_78 : Cond.fieldLink R_FO 49 "FontMetrics$Font" "size" "I" ∈ fm_T := fm_inT (List.mem_append_right _ (List.mem_append_left _ (List.mem_of_getElem? (i := 78) rfl))) rfl
theorem q_1_79 : Cond.fieldLink R_FM 101 "FontMetrics$Font" "size" "I" ∈ fm_T := fm_inT (List.mem_append_right _ (List.mem_append_left _ (List.mem_of_getElem? (i := 79) rfl))) rfl
theorem q_1_80 : Cond.fieldLink R_FO 52 "FontMetrics$Font" "scale" "I" ∈ fm_T := fm_inT (List.mem_append_right _ (List.mem_append_left _ (List.mem_of_getElem? (i := 80) rfl))) rfl
theorem q_1_81 : Cond.fieldLink R_FO 55 "FontMetrics$Font" "halvings" "I" ∈ fm_T := fm_inT (List.mem_append_right _ (List.mem_append_left _ (List.mem_of_getElem? (i := 81) rfl))) rfl
theorem q_1_82 : Cond.laysFinal R_FO "FontMetrics$Font" "words" "[I" ∈ fm_T := fm_inT (List.mem_append_right _ (List.mem_append_left _ (List.mem_of_getElem? (i := 82) rfl))) rfl
theorem q_1_84 : Cond.laysFinal R_FO "FontMetrics$Font" "starts" "[I" ∈ fm_T := fm_inT (List.mem_append_right _ (List.mem_append_left _ (List.mem_of_getElem? (i := 84) rfl))) rfl
theorem q_1_86 : Cond.laysFinal R_FO "FontMetrics$Font" "lengths" "[I" ∈ fm_T := fm_inT (List.mem_append_right _ (List.mem_append_left _ (List.mem_of_getElem? (i := 86) rfl))) rfl
theorem q_1_88 : Cond.lays R_FO "FontMetrics$Font" "bc" "I" ∈ fm_T := fm_inT (List.mem_append_right _ (List.mem_append_left _ (List.mem_of_getElem? (i := 88) rfl))) rfl
theorem q_1_90 : Cond.lays R_FO "FontMetrics$Font" "ec" "I" ∈ fm_T := fm_inT (List.mem_append_right _ (List.mem_append_left _ (List.mem_of_getElem? (i := 90) rfl))) rfl
theorem q_1_92 : Cond.lays R_FO "FontMetrics$Font" "size" "I" ∈ fm_T := fm_inT (List.mem_append_right _ (List.mem_append_left _ (List.mem_of_getElem? (i := 92) rfl))) rfl
theorem q_1_94 : Cond.lays R_FO "FontMetrics$Font" "scale" "I" ∈ fm_T := fm_inT (List.mem_append_right _ (List.mem_append_left _ (List.mem_of_getElem? (i := 94) rfl))) rfl
theorem q_1_96 : Cond.lays R_FO "FontMetrics$Font" "halvings" "I" ∈ fm_T := fm_inT (List.mem_append_right _ (List.mem_append_left _ (List.mem_of_getElem? (i := 96) rfl))) rfl
theorem q_1_99 : Cond.fieldLink R_FM 10 "FontMetrics" "file" "LFontMetrics$ByteFile;" ∈ fm_T := fm_inT (List.mem_append_right _ (List.mem_append_left _ (List.mem_of_getElem? (i := 99) rfl))) rfl
theorem q_1_100 : Cond.fieldLink R_FM 19 "FontMetrics" "line" "LFontMetrics$Line;" ∈ fm_T := fm_inT (List.mem_append_right _ (List.mem_append_left _ (List.mem_of_getElem? (i := 100) rfl))) rfl
theorem q_1_101 : Cond.fieldLink R_FM 23 "FontMetrics" "row" "[I" ∈ fm_T := fm_inT (List.mem_append_right _ (List.mem_append_left _ (List.mem_of_getElem? (i := 101) rfl))) rfl
theorem q_1_102 : Cond.fieldLink R_FM 27 "FontMetrics" "rowLength" "I" ∈ fm_T := fm_inT (List.mem_append_right _ (List.mem_append_left _ (List.mem_of_getElem? (i := 102) rfl))) rfl
theorem q_1_103 : Cond.fieldLink R_FM 34 "FontMetrics" "font" "LFontMetrics$Font;" ∈ fm_T := fm_inT (List.mem_append_right _ (List.mem_append_left _ (List.mem_of_getElem? (i := 103) rfl))) rfl
theorem q_1_104 : Cond.fieldLink R_FM 38 "FontMetrics" "spare" "LFontMetrics$Font;" ∈ fm_T := fm_inT (List.mem_append_right _ (List.mem_append_left _ (List.mem_of_getElem? (i := 104) rfl))) rfl
theorem q_1_105 : Cond.fieldLink R_FM 41 "FontMetrics" "loaded" "Z" ∈ fm_T := fm_inT (List.mem_append_right _ (List.mem_append_left _ (List.mem_of_getElem? (i := 105) rfl))) rfl
theorem q_1_106 : Cond.laysFinal R_FM "FontMetrics" "file" "LFontMetrics$ByteFile;" ∈ fm_T := fm_inT (List.mem_append_right _ (List.mem_append_left _ (List.mem_of_getElem? (i := 106) rfl))) rfl
theorem q_1_108 : Cond.laysFinal R_FM "FontMetrics" "line" "LFontMetrics$Line;" ∈ fm_T := fm_inT (List.mem_append_right _ (List.mem_append_left _ (List.mem_of_getElem? (i := 108) rfl))) rfl
theorem q_1_110 : Cond.laysFinal R_FM "FontMetrics" "row" "[I" ∈ fm_T := fm_inT (List.mem_append_right _ (List.mem_append_left _ (List.mem_of_getElem? (i := 110) rfl))) rfl
theorem q_1_112 : Cond.lays R_FM "FontMetrics" "rowLength" "I" ∈ fm_T := fm_inT (List.mem_append_right _ (List.mem_append_left _ (List.mem_of_getElem? (i := 112) rfl))) rfl
theorem q_1_114 : Cond.lays R_FM "FontMetrics" "font" "LFontMetrics$Font;" ∈ fm_T := fm_inT (List.mem_append_right _ (List.mem_append_left _ (List.mem_of_getElem? (i := 114) rfl))) rfl
theorem q_1_116 : Cond.lays R_FM "FontMetrics" "spare" "LFontMetrics$Font;" ∈ fm_T := fm_inT (List.mem_append_right _ (List.mem_append_left _ (List.mem_of_getElem? (i := 116) rfl))) rfl
theorem q_1_118 : Cond.lays R_FM "FontMetrics" "loaded" "Z" ∈ fm_T := fm_inT (List.mem_append_right _ (List.mem_append_left _ (List.mem_of_getElem? (i := 118) rfl))) rfl
theorem q_1_121 : Cond.methodLink R_LW 52 y_FM_feed ∈ fm_T := fm_inT (List.mem_append_right _ (List.mem_append_left _ (List.mem_of_getElem? (i := 121) rfl))) rfl
theorem q_1_122 : Cond.instanceMethod y_FM_feed ∈ fm_T := fm_inT (List.mem_append_right _ (List.mem_append_left _ (List.mem_of_getElem? (i := 122) rfl))) rfl
theorem q_1_123 : Cond.selects R_FM y_FM_feed y_FM_feed ∈ fm_T := fm_inT (List.mem_append_right _ (List.mem_append_left _ (List.mem_of_getElem? (i := 123) rfl))) rfl
theorem q_1_124 : Cond.code y_FM_feed prog_1_method_2_code 4 (some .boolean) ∈ fm_T := fm_inT (List.mem_append_right _ (List.mem_append_left _ (List.mem_of_getElem? (i := 124) rfl))) rfl
theorem q_1_125 : Cond.methodLink R_FM 45 y_BF_append ∈ fm_T := fm_inT (List.mem_append_right _ (List.mem_append_left _ (List.mem_of_getElem? (i := 125) rfl))) rfl
theorem q_1_126 : Cond.instanceMethod y_BF_append ∈ fm_T := fm_inT (List.mem_append_right _ (List.mem_append_left _ (List.mem_of_getElem? (i := 126) rfl))) rfl
theorem q_1_127 : Cond.selects R_BF y_BF_append y_BF_append ∈ fm_T := fm_inT (List.mem_append_right _ (List.mem_append_left _ (List.mem_of_getElem? (i := 127) rfl))) rfl
theorem q_1_128 : Cond.code y_BF_append prog_2_method_2_code 5 (some .boolean) ∈ fm_T := fm_inT (List.mem_append_right _ (List.mem_append_left _ (List.mem_of_getElem? (i := 128) rfl))) rfl
theorem q_1_129 : Cond.methodLink R_BF 17 y_BF_put ∈ fm_T := fm_inT (List.mem_append_right _ (List.mem_append_left _ (List.mem_of_getElem? (i := 129) rfl))) rfl
theorem q_1_131 : Cond.instanceMethod y_BF_put ∈ fm_T := fm_inT (List.mem_append_right _ (List.mem_append_left _ (List.mem_of_getElem? (i := 131) rfl))) rfl
theorem q_1_132 : Cond.code y_BF_put prog_2_method_4_code 4 none ∈ fm_T := fm_inT (List.mem_append_right _ (List.mem_append_left _ (List.mem_of_getElem? (i := 132) rfl))) rfl
theorem q_1_133 : Cond.methodLink R_LW 57 y_FM_keep ∈ fm_T := fm_inT (List.mem_append_right _ (List.mem_append_left _ (List.mem_of_getElem? (i := 133) rfl))) rfl
theorem q_1_134 : Cond.instanceMethod y_FM_keep ∈ fm_T := fm_inT (List.mem_append_right _ (List.mem_append_left _ (List.mem_of_getElem? (i := 134) rfl))) rfl
theorem q_1_135 : Cond.selects R_FM y_FM_keep y_FM_keep ∈ fm_T := fm_inT (List.mem_append_right _ (List.mem_append_left _ (List.mem_of_getElem? (i := 135) rfl))) rfl
theorem q_1_136 : Cond.code y_FM_keep prog_1_method_3_code 2 (some .boolean) ∈ fm_T := fm_inT (List.mem_append_right _ (List.mem_append_left _ (List.mem_of_getElem? (i := 136) rfl))) rfl
theorem q_1_137 : Cond.methodLink R_FM 49 y_BF_cut ∈ fm_T := fm_inT (List.mem_append_right _ (List.mem_append_left _ (List.mem_of_getElem? (i := 137) rfl))) rfl
theorem q_1_138 : Cond.instanceMethod y_BF_cut ∈ fm_T := fm_inT (List.mem_append_right _ (List.mem_append_left _ (List.mem_of_getElem? (i := 138) rfl))) rfl
theorem q_1_139 : Cond.selects R_BF y_BF_cut y_BF_cut ∈ fm_T := fm_inT (List.mem_append_right _ (List.mem_append_left _ (List.mem_of_getElem? (i := 139) rfl))) rfl
theorem q_1_140 : Cond.code y_BF_cut prog_2_method_3_code 2 (some .boolean) ∈ fm_T := fm_inT (List.mem_append_right _ (List.mem_append_left _ (List.mem_of_getElem? (i := 140) rfl))) rfl
theorem q_1_141 : Cond.methodLink R_LW 73 y_FM_has ∈ fm_T := fm_inT (List.mem_append_right _ (List.mem_append_left _ (List.mem_of_getElem? (i := 141) rfl))) rfl
theorem q_1_142 : Cond.instanceMethod y_FM_has ∈ fm_T := fm_inT (List.mem_append_right _ (List.mem_append_left _ (List.mem_of_getElem? (i := 142) rfl))) rfl
theorem q_1_143 : Cond.selects R_FM y_FM_has y_FM_has ∈ fm_T := fm_inT (List.mem_append_right _ (List.mem_append_left _ (List.mem_of_getElem? (i := 143) rfl))) rfl
theorem q_1_144 : Cond.code y_FM_has prog_1_method_6_code 2 (some .boolean) ∈ fm_T := fm_inT (List.mem_append_right _ (List.mem_append_left _ (List.mem_of_getElem? (i := 144) rfl))) rfl
theorem q_1_145 : Cond.methodLink R_FM 119 y_FO_isThere ∈ fm_T := fm_inT (List.mem_append_right _ (List.mem_append_left _ (List.mem_of_getElem? (i := 145) rfl))) rfl
theorem q_1_146 : Cond.instanceMethod y_FO_isThere ∈ fm_T := fm_inT (List.mem_append_right _ (List.mem_append_left _ (List.mem_of_getElem? (i := 146) rfl))) rfl
theorem q_1_147 : Cond.selects R_FO y_FO_isThere y_FO_isThere ∈ fm_T := fm_inT (List.mem_append_right _ (List.mem_append_left _ (List.mem_of_getElem? (i := 147) rfl))) rfl
theorem q_1_148 : Cond.code y_FO_isThere prog_4_method_11_code 2 (some .boolean) ∈ fm_T := fm_inT (List.mem_append_right _ (List.mem_append_left _ (List.mem_of_getElem? (i := 148) rfl))) rfl
theorem q_1_149 : Cond.methodLink R_FO 67 y_FO_character ∈ fm_T := fm_inT (List.mem_append_right _ (List.mem_append_left _ (List.mem_of_getElem? (i := 149) rfl))) rfl
theorem q_1_150 : Cond.instanceMethod y_FO_character ∈ fm_T := fm_inT (List.mem_append_right _ (List.mem_append_left _ (List.mem_of_getElem? (i := 150) rfl))) rfl
theorem q_1_151 : Cond.selects R_FO y_FO_character y_FO_character ∈ fm_T := fm_inT (List.mem_append_right _ (List.mem_append_left _ (List.mem_of_getElem? (i := 151) rfl))) rfl
theorem q_1_152 : Cond.code y_FO_character prog_4_method_10_code 2 (some .int) ∈ fm_T := fm_inT (List.mem_append_right _ (List.mem_append_left _ (List.mem_of_getElem? (i := 152) rfl))) rfl
theorem q_1_153 : Cond.methodLink R_FO 60 y_FO_word ∈ fm_T := fm_inT (List.mem_append_right _ (List.mem_append_left _ (List.mem_of_getElem? (i := 153) rfl))) rfl
theorem q_1_154 : Cond.instanceMethod y_FO_word ∈ fm_T := fm_inT (List.mem_append_right _ (List.mem_append_left _ (List.mem_of_getElem? (i := 154) rfl))) rfl
theorem q_1_155 : Cond.selects R_FO y_FO_word y_FO_word ∈ fm_T := fm_inT (List.mem_append_right _ (List.mem_append_left _ (List.mem_of_getElem? (i := 155) rfl))) rfl
theorem q_1_156 : Cond.code y_FO_word prog_4_method_7_code 4 (some .int) ∈ fm_T := fm_inT (List.mem_append_right _ (List.mem_append_left _ (List.mem_of_getElem? (i := 156) rfl))) rfl
theorem q_1_157 : Cond.methodLink R_FO 70 y_FO_widthPlace ∈ fm_T := fm_inT (List.mem_append_right _ (List.mem_append_left _ (List.mem_of_getElem? (i := 157) rfl))) rfl
theorem q_1_158 : Cond.static y_FO_widthPlace ∈ fm_T := fm_inT (List.mem_append_right _ (List.mem_append_left _ (List.mem_of_getElem? (i := 158) rfl))) rfl
theorem q_1_159 : Cond.code y_FO_widthPlace prog_4_method_25_code 1 (some .int) ∈ fm_T := fm_inT (List.mem_append_right _ (List.mem_append_left _ (List.mem_of_getElem? (i := 159) rfl))) rfl
theorem q_1_160 : Cond.methodLink R_LW 90 y_FM_add ∈ fm_T := fm_inT (List.mem_append_right _ (List.mem_append_left _ (List.mem_of_getElem? (i := 160) rfl))) rfl
theorem q_1_161 : Cond.instanceMethod y_FM_add ∈ fm_T := fm_inT (List.mem_append_right _ (List.mem_append_left _ (List.mem_of_getElem? (i := 161) rfl))) rfl
theorem q_1_162 : Cond.selects R_FM y_FM_add y_FM_add ∈ fm_T := fm_inT (List.mem_append_right _ (List.mem_append_left _ (List.mem_of_getElem? (i := 162) rfl))) rfl
theorem q_1_163 : Cond.code y_FM_add prog_1_method_11_code 2 (some .boolean) ∈ fm_T := fm_inT (List.mem_append_right _ (List.mem_append_left _ (List.mem_of_getElem? (i := 163) rfl))) rfl
theorem q_1_164 : Cond.methodLink R_LW 104 y_FM_total ∈ fm_T := fm_inT (List.mem_append_right _ (List.mem_append_left _ (List.mem_of_getElem? (i := 164) rfl))) rfl
theorem q_1_165 : Cond.instanceMethod y_FM_total ∈ fm_T := fm_inT (List.mem_append_right _ (List.mem_append_left _ (List.mem_of_getElem? (i := 165) rfl))) rfl
theorem q_1_166 : Cond.selects R_FM y_FM_total y_FM_total ∈ fm_T := fm_inT (List.mem_append_right _ (List.mem_append_left _ (List.mem_of_getElem? (i := 166) rfl))) rfl
theorem q_1_167 : Cond.code y_FM_total prog_1_method_15_code 1 (some .long) ∈ fm_T := fm_inT (List.mem_append_right _ (List.mem_append_left _ (List.mem_of_getElem? (i := 167) rfl))) rfl
theorem q_1_168 : Cond.methodLink R_FM 190 y_LI_width ∈ fm_T := fm_inT (List.mem_append_right _ (List.mem_append_left _ (List.mem_of_getElem? (i := 168) rfl))) rfl
theorem q_1_169 : Cond.instanceMethod y_LI_width ∈ fm_T := fm_inT (List.mem_append_right _ (List.mem_append_left _ (List.mem_of_getElem? (i := 169) rfl))) rfl
theorem q_1_170 : Cond.selects R_LI y_LI_width y_LI_width ∈ fm_T := fm_inT (List.mem_append_right _ (List.mem_append_left _ (List.mem_of_getElem? (i := 170) rfl))) rfl
theorem q_1_171 : Cond.code y_LI_width prog_5_method_13_code 5 (some .long) ∈ fm_T := fm_inT (List.mem_append_right _ (List.mem_append_left _ (List.mem_of_getElem? (i := 171) rfl))) rfl
theorem q_1_172 : Cond.methodLink R_LI 77 y_LI_kernAt ∈ fm_T := fm_inT (List.mem_append_right _ (List.mem_append_left _ (List.mem_of_getElem? (i := 172) rfl))) rfl
theorem q_1_173 : Cond.instanceMethod y_LI_kernAt ∈ fm_T := fm_inT (List.mem_append_right _ (List.mem_append_left _ (List.mem_of_getElem? (i := 173) rfl))) rfl
theorem q_1_174 : Cond.selects R_LI y_LI_kernAt y_LI_kernAt ∈ fm_T := fm_inT (List.mem_append_right _ (List.mem_append_left _ (List.mem_of_getElem? (i := 174) rfl))) rfl
theorem q_1_175 : Cond.code y_LI_kernAt prog_5_method_11_code 2 (some .boolean) ∈ fm_T := fm_inT (List.mem_append_right _ (List.mem_append_left _ (List.mem_of_getElem? (i := 175) rfl))) rfl
theorem q_1_176 : Cond.methodLink R_LI 81 y_LI_valueAt ∈ fm_T := fm_inT (List.mem_append_right _ (List.mem_append_left _ (List.mem_of_getElem? (i := 176) rfl))) rfl
theorem q_1_177 : Cond.instanceMethod y_LI_valueAt ∈ fm_T := fm_inT (List.mem_append_right _ (List.mem_append_left _ (List.mem_of_getElem? (i := 177) rfl))) rfl
theorem q_1_178 : Cond.selects R_LI y_LI_valueAt y_LI_valueAt ∈ fm_T := fm_inT (List.mem_append_right _ (List.mem_append_left _ (List.mem_of_getElem? (i := 178) rfl))) rfl
theorem q_1_179 : Cond.code y_LI_valueAt prog_5_method_12_code 2 (some .int) ∈ fm_T := fm_inT (List.mem_append_right _ (List.mem_append_left _ (List.mem_of_getElem? (i := 179) rfl))) rfl
theorem q_1_180 : Cond.methodLink R_LI 84 y_FO_width ∈ fm_T := fm_inT (List.mem_append_right _ (List.mem_append_left _ (List.mem_of_getElem? (i := 180) rfl))) rfl
theorem q_1_181 : Cond.instanceMethod y_FO_width ∈ fm_T := fm_inT (List.mem_append_right _ (List.mem_append_left _ (List.mem_of_getElem? (i := 181) rfl))) rfl
theorem q_1_182 : Cond.selects R_FO y_FO_width y_FO_width ∈ fm_T := fm_inT (List.mem_append_right _ (List.mem_append_left _ (List.mem_of_getElem? (i := 182) rfl))) rfl
theorem q_1_183 : Cond.code y_FO_width prog_4_method_12_code 2 (some .int) ∈ fm_T := fm_inT (List.mem_append_right _ (List.mem_append_left _ (List.mem_of_getElem? (i := 183) rfl))) rfl
theorem q_1_184 : Cond.methodLink R_FO 73 y_FO_scaled ∈ fm_T := fm_inT (List.mem_append_right _ (List.mem_append_left _ (List.mem_of_getElem? (i := 184) rfl))) rfl
theorem q_1_185 : Cond.instanceMethod y_FO_scaled ∈ fm_T := fm_inT (List.mem_append_right _ (List.mem_append_left _ (List.mem_of_getElem? (i := 185) rfl))) rfl
theorem q_1_186 : Cond.selects R_FO y_FO_scaled y_FO_scaled ∈ fm_T := fm_inT (List.mem_append_right _ (List.mem_append_left _ (List.mem_of_getElem? (i := 186) rfl))) rfl
theorem q_1_187 : Cond.code y_FO_scaled prog_4_method_9_code 6 (some .int) ∈ fm_T := fm_inT (List.mem_append_right _ (List.mem_append_left _ (List.mem_of_getElem? (i := 187) rfl))) rfl
theorem q_1_188 : Cond.constant R_FO 63 16777215 ∈ fm_T := fm_inT (List.mem_append_right _ (List.mem_append_left _ (List.mem_of_getElem? (i := 188) rfl))) rfl
theorem q_1_189 : Cond.methodLink R_FO 64 y_FO_byteOf ∈ fm_T := fm_inT (List.mem_append_right _ (List.mem_append_left _ (List.mem_of_getElem? (i := 189) rfl))) rfl
theorem q_1_190 : Cond.static y_FO_byteOf ∈ fm_T := fm_inT (List.mem_append_right _ (List.mem_append_left _ (List.mem_of_getElem? (i := 190) rfl))) rfl
theorem q_1_191 : Cond.code y_FO_byteOf prog_4_method_22_code 2 (some .int) ∈ fm_T := fm_inT (List.mem_append_right _ (List.mem_append_left _ (List.mem_of_getElem? (i := 191) rfl))) rfl
theorem q_1_192 : Cond.methodLink R_LW 61 y_LW_load ∈ fm_T := fm_inT (List.mem_append_right _ (List.mem_append_left _ (List.mem_of_getElem? (i := 192) rfl))) rfl
theorem q_1_193 : Cond.static y_LW_load ∈ fm_T := fm_inT (List.mem_append_right _ (List.mem_append_left _ (List.mem_of_getElem? (i := 193) rfl))) rfl
theorem q_1_194 : Cond.codeWith y_LW_load method_3_code 4 (some .int) [(0, 9, 12, 13)] ∈ fm_T := fm_inT (List.mem_append_right _ (List.mem_append_left _ (List.mem_of_getElem? (i := 194) rfl))) rfl
theorem q_1_195 : Cond.classLink R_LW 13 "java/lang/IllegalArgumentException" ∈ fm_T := fm_inT (List.mem_append_right _ (List.mem_append_left _ (List.mem_of_getElem? (i := 195) rfl))) rfl
theorem q_1_196 : Cond.methodLink R_LW 7 y_FM_load ∈ fm_T := fm_inT (List.mem_append_right _ (List.mem_append_left _ (List.mem_of_getElem? (i := 196) rfl))) rfl
theorem q_1_197 : Cond.instanceMethod y_FM_load ∈ fm_T := fm_inT (List.mem_append_right _ (List.mem_append_left _ (List.mem_of_getElem? (i := 197) rfl))) rfl
theorem q_1_198 : Cond.selects R_FM y_FM_load y_FM_load ∈ fm_T := fm_inT (List.mem_append_right _ (List.mem_append_left _ (List.mem_of_getElem? (i := 198) rfl))) rfl
theorem q_1_199 : Cond.code y_FM_load prog_1_method_4_code 4 (some .int) ∈ fm_T := fm_inT (List.mem_append_right _ (List.mem_append_left _ (List.mem_of_getElem? (i := 199) rfl))) rfl
theorem q_1_200 : Cond.constant R_FM 53 134217727 ∈ fm_T := fm_inT (List.mem_append_right _ (List.mem_append_left _ (List.mem_of_getElem? (i := 200) rfl))) rfl
theorem q_1_201 : Cond.classLink R_FM 54 "java/lang/IllegalArgumentException" ∈ fm_T := fm_inT (List.mem_append_right _ (List.mem_append_left _ (List.mem_of_getElem? (i := 201) rfl))) rfl
theorem q_1_202 : Cond.instantiable "java/lang/IllegalArgumentException" 6 ∈ fm_T := fm_inT (List.mem_append_right _ (List.mem_append_left _ (List.mem_of_getElem? (i := 202) rfl))) rfl
theorem q_1_210 : Cond.selects "java/lang/IllegalArgumentException" (⟨"java/lang/Throwable", "fillInStackTrace", "(I)Ljava/lang/Throwable;"⟩ : MethodName) (⟨"java/lang/Throwable", "fillInStackTrace", "(I)Ljava/lang/Throwable;"⟩ : MethodName) ∈ fm_T := fm_inT (List.mem_append_right _ (List.mem_append_left _ (List.mem_of_getElem? (i := 210) rfl))) rfl
theorem q_1_211 : Cond.selects "java/lang/IllegalArgumentException" (⟨"java/lang/Throwable", "fillInStackTrace", "()Ljava/lang/Throwable;"⟩ : MethodName) (⟨"java/lang/Throwable", "fillInStackTrace", "()Ljava/lang/Throwable;"⟩ : MethodName) ∈ fm_T := fm_inT (List.mem_append_right _ (List.mem_append_left _ (List.mem_of_getElem? (i := 211) rfl))) rfl
theorem q_1_212 : Cond.lays "java/lang/IllegalArgumentException" "java/lang/Throwable" "cause" "Ljava/lang/Throwable;" ∈ fm_T := fm_inT (List.mem_append_right _ (List.mem_append_left _ (List.mem_of_getElem? (i := 212) rfl))) rfl
theorem q_1_213 : Cond.lays "java/lang/Throwable" "java/lang/Throwable" "cause" "Ljava/lang/Throwable;" ∈ fm_T := fm_inT (List.mem_append_right _ (List.mem_append_left _ (List.mem_of_getElem? (i := 213) rfl))) rfl
theorem q_1_214 : Cond.lays "java/lang/IllegalArgumentException" "java/lang/Throwable" "stackTrace" "[Ljava/lang/StackTraceElement;" ∈ fm_T := fm_inT (List.mem_append_right _ (List.mem_append_left _ (List.mem_of_getElem? (i := 214) rfl))) rfl
theorem q_1_215 : Cond.lays "java/lang/Throwable" "java/lang/Throwable" "stackTrace" "[Ljava/lang/StackTraceElement;" ∈ fm_T := fm_inT (List.mem_append_right _ (List.mem_append_left _ (List.mem_of_getElem? (i := 215) rfl))) rfl
theorem q_1_216 : Cond.lays "java/lang/IllegalArgumentException" "java/lang/Throwable" "suppressedExceptions" "Ljava/util/List;" ∈ fm_T := fm_inT (List.mem_append_right _ (List.mem_append_left _ (List.mem_of_getElem? (i := 216) rfl))) rfl
theorem q_1_217 : Cond.lays "java/lang/Throwable" "java/lang/Throwable" "suppressedExceptions" "Ljava/util/List;" ∈ fm_T := fm_inT (List.mem_append_right _ (List.mem_append_left _ (List.mem_of_getElem? (i := 217) rfl))) rfl
theorem q_1_218 : Cond.lays "java/lang/IllegalArgumentException" "java/lang/Throwable" "detailMessage" "Ljava/lang/String;" ∈ fm_T := fm_inT (List.mem_append_right _ (List.mem_append_left _ (List.mem_of_getElem? (i := 218) rfl))) rfl
theorem q_1_219 : Cond.lays "java/lang/Throwable" "java/lang/Throwable" "detailMessage" "Ljava/lang/String;" ∈ fm_T := fm_inT (List.mem_append_right _ (List.mem_append_left _ (List.mem_of_getElem? (i := 219) rfl))) rfl
theorem q_1_220 : Cond.lays "java/lang/IllegalArgumentException" "java/lang/Throwable" "backtrace" "Ljava/lang/Object;" ∈ fm_T := fm_inT (List.mem_append_right _ (List.mem_append_left _ (List.mem_of_getElem? (i := 220) rfl))) rfl
theorem q_1_221 : Cond.lays "java/lang/Throwable" "java/lang/Throwable" "backtrace" "Ljava/lang/Object;" ∈ fm_T := fm_inT (List.mem_append_right _ (List.mem_append_left _ (List.mem_of_getElem? (i := 221) rfl))) rfl
theorem q_1_222 : Cond.fieldLink "java/lang/Throwable" 198 "java/lang/Throwable" "backtrace" "Ljava/lang/Object;" ∈ fm_T := fm_inT (List.mem_append_right _ (List.mem_append_left _ (List.mem_of_getElem? (i := 222) rfl))) rfl
theorem q_1_224 : Cond.instanceMethod (⟨"java/lang/Throwable", "<init>", "()V"⟩ : MethodName) ∈ fm_T := fm_inT (List.mem_append_right _ (List.mem_append_left _ (List.mem_of_getElem? (i := 224) rfl))) rfl
theorem q_1_225 : Cond.code (⟨"java/lang/Throwable", "<init>", "()V"⟩ : MethodName) prog_16_method_1_code 1 none ∈ fm_T := fm_inT (List.mem_append_right _ (List.mem_append_left _ (List.mem_of_getElem? (i := 225) rfl))) rfl
theorem q_1_226 : Cond.methodLink "java/lang/Throwable" 1 (⟨"java/lang/Object", "<init>", "()V"⟩ : MethodName) ∈ fm_T := fm_inT (List.mem_append_right _ (List.mem_append_left _ (List.mem_of_getElem? (i := 226) rfl))) rfl
theorem q_1_227 : Cond.fieldLink "java/lang/Throwable" 13 "java/lang/Throwable" "UNASSIGNED_STACK" "[Ljava/lang/StackTraceElement;" ∈ fm_T := fm_inT (List.mem_append_right _ (List.mem_append_left _ (List.mem_of_getElem? (i := 227) rfl))) rfl
theorem q_1_229 : Cond.fieldLink "java/lang/Throwable" 20 "java/lang/Throwable" "SUPPRESSED_SENTINEL" "Ljava/util/List;" ∈ fm_T := fm_inT (List.mem_append_right _ (List.mem_append_left _ (List.mem_of_getElem? (i := 229) rfl))) rfl
theorem q_1_231 : Cond.methodLink "java/lang/Throwable" 27 (⟨"java/lang/Throwable", "fillInStackTrace", "()Ljava/lang/Throwable;"⟩ : MethodName) ∈ fm_T := fm_inT (List.mem_append_right _ (List.mem_append_left _ (List.mem_of_getElem? (i := 231) rfl))) rfl
theorem q_1_232 : Cond.instanceMethod (⟨"java/lang/Throwable", "fillInStackTrace", "()Ljava/lang/Throwable;"⟩ : MethodName) ∈ fm_T := fm_inT (List.mem_append_right _ (List.mem_append_left _ (List.mem_of_getElem? (i := 232) rfl))) rfl
theorem q_1_234 : Cond.selects "java/lang/IllegalStateException" (⟨"java/lang/Throwable", "fillInStackTrace", "()Ljava/lang/Throwable;"⟩ : MethodName) (⟨"java/lang/Throwable", "fillInStackTrace", "()Ljava/lang/Throwable;"⟩ : MethodName) ∈ fm_T := fm_inT (List.mem_append_right _ (List.mem_append_left _ (List.mem_of_getElem? (i := 234) rfl))) rfl
theorem q_1_235 : Cond.selects "java/lang/IndexOutOfBoundsException" (⟨"java/lang/Throwable", "fillInStackTrace", "()Ljava/lang/Throwable;"⟩ : MethodName) (⟨"java/lang/Throwable", "fillInStackTrace", "()Ljava/lang/Throwable;"⟩ : MethodName) ∈ fm_T := fm_inT (List.mem_append_right _ (List.mem_append_left _ (List.mem_of_getElem? (i := 235) rfl))) rfl
theorem q_1_237 : Cond.methodLink "java/lang/Throwable" 202 (⟨"java/lang/Throwable", "fillInStackTrace", "(I)Ljava/lang/Throwable;"⟩ : MethodName) ∈ fm_T := fm_inT (List.mem_append_right _ (List.mem_append_left _ (List.mem_of_getElem? (i := 237) rfl))) rfl
theorem q_1_239 : Cond.instanceMethod (⟨"java/lang/Throwable", "fillInStackTrace", "(I)Ljava/lang/Throwable;"⟩ : MethodName) ∈ fm_T := fm_inT (List.mem_append_right _ (List.mem_append_left _ (List.mem_of_getElem? (i := 239) rfl))) rfl
theorem q_2_0 : Cond.instantiable "java/lang/Throwable" 6 ∈ fm_T := fm_inT (List.mem_append_right _ (List.mem_append_right _ (List.mem_append_left _ (List.mem_of_getElem? (i := 0) rfl)))) rfl
theorem q_2_1 : Cond.native (⟨"java/lang/Throwable", "fillInStackTrace", "(I)Ljava/lang/Throwable;"⟩ : MethodName) ∈ fm_T := fm_inT (List.mem_append_right _ (List.mem_append_right _ (List.mem_append_left _ (List.mem_of_getElem? (i := 1) rfl)))) rfl
theorem q_2_3 : Cond.methodLink R_FM 58 (⟨"java/lang/IllegalArgumentException", "<init>", "(Ljava/lang/String;)V"⟩ : MethodName) ∈ fm_T := fm_inT (List.mem_append_right _ (List.mem_append_right _ (List.mem_append_left _ (List.mem_of_getElem? (i := 3) rfl)))) rfl
theorem q_2_4 : Cond.instanceMethod (⟨"java/lang/IllegalArgumentException", "<init>", "(Ljava/lang/String;)V"⟩ : MethodName) ∈ fm_T := fm_inT (List.mem_append_right _ (List.mem_append_right _ (List.mem_append_left _ (List.mem_of_getElem? (i := 4) rfl)))) rfl
theorem q_2_5 : Cond.code (⟨"java/lang/IllegalArgumentException", "<init>", "(Ljava/lang/String;)V"⟩ : MethodName) prog_9_method_2_code 2 none ∈ fm_T := fm_inT (List.mem_append_right _ (List.mem_append_right _ (List.mem_append_left _ (List.mem_of_getElem? (i := 5) rfl)))) rfl
theorem q_2_6 : Cond.methodLink "java/lang/IllegalArgumentException" 7 (⟨"java/lang/RuntimeException", "<init>", "(Ljava/lang/String;)V"⟩ : MethodName) ∈ fm_T := fm_inT (List.mem_append_right _ (List.mem_append_right _ (List.mem_append_left _ (List.mem_of_getElem? (i := 6) rfl)))) rfl
theorem q_2_7 : Cond.instanceMethod (⟨"java/lang/RuntimeException", "<init>", "(Ljava/lang/String;)V"⟩ : MethodName) ∈ fm_T := fm_inT (List.mem_append_right _ (List.mem_append_right _ (List.mem_append_left _ (List.mem_of_getElem? (i := 7) rfl)))) rfl
theorem q_2_8 : Cond.code (⟨"java/lang/RuntimeException", "<init>", "(Ljava/lang/String;)V"⟩ : MethodName) prog_13_method_2_code 2 none ∈ fm_T := fm_inT (List.mem_append_right _ (List.mem_append_right _ (List.mem_append_left _ (List.mem_of_getElem? (i := 8) rfl)))) rfl
theorem q_2_9 : Cond.methodLink "java/lang/RuntimeException" 7 (⟨"java/lang/Exception", "<init>", "(Ljava/lang/String;)V"⟩ : MethodName) ∈ fm_T := fm_inT (List.mem_append_right _ (List.mem_append_right _ (List.mem_append_left _ (List.mem_of_getElem? (i := 9) rfl)))) rfl
theorem q_2_10 : Cond.instanceMethod (⟨"java/lang/Exception", "<init>", "(Ljava/lang/String;)V"⟩ : MethodName) ∈ fm_T := fm_inT (List.mem_append_right _ (List.mem_append_right _ (List.mem_append_left _ (List.mem_of_getElem? (i := 10) rfl)))) rfl
theorem q_2_11 : Cond.code (⟨"java/lang/Exception", "<init>", "(Ljava/lang/String;)V"⟩ : MethodName) prog_8_method_2_code 2 none ∈ fm_T := fm_inT (List.mem_append_right _ (List.mem_append_right _ (List.mem_append_left _ (List.mem_of_getElem? (i := 11) rfl)))) rfl
theorem q_2_12 : Cond.methodLink "java/lang/Exception" 7 (⟨"java/lang/Throwable", "<init>", "(Ljava/lang/String;)V"⟩ : MethodName) ∈ fm_T := fm_inT (List.mem_append_right _ (List.mem_append_right _ (List.mem_append_left _ (List.mem_of_getElem? (i := 12) rfl)))) rfl
theorem q_2_13 : Cond.instanceMethod (⟨"java/lang/Throwable", "<init>", "(Ljava/lang/String;)V"⟩ : MethodName) ∈ fm_T := fm_inT (List.mem_append_right _ (List.mem_append_right _ (List.mem_append_left _ (List.mem_of_getElem? (i := 13) rfl)))) rfl
theorem q_2_14 : Cond.code (⟨"java/lang/Throwable", "<init>", "(Ljava/lang/String;)V"⟩ : MethodName) prog_16_method_2_code 2 none ∈ fm_T := fm_inT (List.mem_append_right _ (List.mem_append_right _ (List.mem_append_left _ (List.mem_of_getElem? (i := 14) rfl)))) rfl
theorem q_2_16 : Cond.fieldLink "java/lang/Throwable" 31 "java/lang/Throwable" "detailMessage" "Ljava/lang/String;" ∈ fm_T := fm_inT (List.mem_append_right _ (List.mem_append_right _ (List.mem_append_left _ (List.mem_of_getElem? (i := 16) rfl)))) rfl
theorem q_2_17 : Cond.fieldLink "java/lang/Throwable" 7 "java/lang/Throwable" "cause" "Ljava/lang/Throwable;" ∈ fm_T := fm_inT (List.mem_append_right _ (List.mem_append_right _ (List.mem_append_left _ (List.mem_of_getElem? (i := 17) rfl)))) rfl
theorem q_2_18 : Cond.fieldLink "java/lang/Throwable" 17 "java/lang/Throwable" "stackTrace" "[Ljava/lang/StackTraceElement;" ∈ fm_T := fm_inT (List.mem_append_right _ (List.mem_append_right _ (List.mem_append_left _ (List.mem_of_getElem? (i := 18) rfl)))) rfl
theorem q_2_19 : Cond.fieldLink "java/lang/Throwable" 24 "java/lang/Throwable" "suppressedExceptions" "Ljava/util/List;" ∈ fm_T := fm_inT (List.mem_append_right _ (List.mem_append_right _ (List.mem_append_left _ (List.mem_of_getElem? (i := 19) rfl)))) rfl
theorem q_2_24 : Cond.lays "java/lang/IllegalArgumentException" "java/lang/Throwable" "depth" "I" ∈ fm_T := fm_inT (List.mem_append_right _ (List.mem_append_right _ (List.mem_append_left _ (List.mem_of_getElem? (i := 24) rfl)))) rfl
theorem q_2_28 : Cond.arrayClass FieldType.byte ∈ fm_T := fm_inT (List.mem_append_right _ (List.mem_append_right _ (List.mem_append_left _ (List.mem_of_getElem? (i := 28) rfl)))) rfl
theorem q_2_29 : Cond.methodLink R_FM 64 y_FO_take ∈ fm_T := fm_inT (List.mem_append_right _ (List.mem_append_right _ (List.mem_append_left _ (List.mem_of_getElem? (i := 29) rfl)))) rfl
theorem q_2_30 : Cond.instanceMethod y_FO_take ∈ fm_T := fm_inT (List.mem_append_right _ (List.mem_append_right _ (List.mem_append_left _ (List.mem_of_getElem? (i := 30) rfl)))) rfl
theorem q_2_31 : Cond.selects R_FO y_FO_take y_FO_take ∈ fm_T := fm_inT (List.mem_append_right _ (List.mem_append_right _ (List.mem_append_left _ (List.mem_of_getElem? (i := 31) rfl)))) rfl
theorem q_2_32 : Cond.code y_FO_take prog_4_method_2_code 4 none ∈ fm_T := fm_inT (List.mem_append_right _ (List.mem_append_right _ (List.mem_append_left _ (List.mem_of_getElem? (i := 32) rfl)))) rfl
theorem q_2_33 : Cond.methodLink R_FO 23 (⟨"java/lang/Math", "min", "(II)I"⟩ : MethodName) ∈ fm_T := fm_inT (List.mem_append_right _ (List.mem_append_right _ (List.mem_append_left _ (List.mem_of_getElem? (i := 33) rfl)))) rfl
theorem q_2_34 : Cond.static (⟨"java/lang/Math", "min", "(II)I"⟩ : MethodName) ∈ fm_T := fm_inT (List.mem_append_right _ (List.mem_append_right _ (List.mem_append_left _ (List.mem_of_getElem? (i := 34) rfl)))) rfl
theorem q_2_35 : Cond.code (⟨"java/lang/Math", "min", "(II)I"⟩ : MethodName) prog_12_method_69_code 2 (some .int) ∈ fm_T := fm_inT (List.mem_append_right _ (List.mem_append_right _ (List.mem_append_left _ (List.mem_of_getElem? (i := 35) rfl)))) rfl
theorem q_2_36 : Cond.methodLink R_FO 29 (⟨"java/lang/System", "arraycopy", "(Ljava/lang/Object;ILjava/lang/Object;II)V"⟩ : MethodName) ∈ fm_T := fm_inT (List.mem_append_right _ (List.mem_append_right _ (List.mem_append_left _ (List.mem_of_getElem? (i := 36) rfl)))) rfl
theorem q_2_37 : Cond.static (⟨"java/lang/System", "arraycopy", "(Ljava/lang/Object;ILjava/lang/Object;II)V"⟩ : MethodName) ∈ fm_T := fm_inT (List.mem_append_right _ (List.mem_append_right _ (List.mem_append_left _ (List.mem_of_getElem? (i := 37) rfl)))) rfl
theorem q_2_38 : Cond.native (⟨"java/lang/System", "arraycopy", "(Ljava/lang/Object;ILjava/lang/Object;II)V"⟩ : MethodName) ∈ fm_T := fm_inT (List.mem_append_right _ (List.mem_append_right _ (List.mem_append_left _ (List.mem_of_getElem? (i := 38) rfl)))) rfl
theorem q_2_39 : Cond.methodLink R_FO 35 y_FO_number ∈ fm_T := fm_inT (List.mem_append_right _ (List.mem_append_right _ (List.mem_append_left _ (List.mem_of_getElem? (i := 39) rfl)))) rfl
theorem q_2_40 : Cond.instanceMethod y_FO_number ∈ fm_T := fm_inT (List.mem_append_right _ (List.mem_append_right _ (List.mem_append_left _ (List.mem_of_getElem? (i := 40) rfl)))) rfl
theorem q_2_41 : Cond.selects R_FO y_FO_number y_FO_number ∈ fm_T := fm_inT (List.mem_append_right _ (List.mem_append_right _ (List.mem_append_left _ (List.mem_of_getElem? (i := 41) rfl)))) rfl
theorem q_2_42 : Cond.code y_FO_number prog_4_method_5_code 4 (some .int) ∈ fm_T := fm_inT (List.mem_append_right _ (List.mem_append_right _ (List.mem_append_left _ (List.mem_of_getElem? (i := 42) rfl)))) rfl
theorem q_2_43 : Cond.constant R_FO 59 65535 ∈ fm_T := fm_inT (List.mem_append_right _ (List.mem_append_right _ (List.mem_append_left _ (List.mem_of_getElem? (i := 43) rfl)))) rfl
theorem q_2_44 : Cond.methodLink R_FO 46 y_FO_lengthByNumbers ∈ fm_T := fm_inT (List.mem_append_right _ (List.mem_append_right _ (List.mem_append_left _ (List.mem_of_getElem? (i := 44) rfl)))) rfl
theorem q_2_46 : Cond.instanceMethod y_FO_lengthByNumbers ∈ fm_T := fm_inT (List.mem_append_right _ (List.mem_append_right _ (List.mem_append_left _ (List.mem_of_getElem? (i := 46) rfl)))) rfl
theorem q_2_47 : Cond.code y_FO_lengthByNumbers prog_4_method_3_code 2 (some .int) ∈ fm_T := fm_inT (List.mem_append_right _ (List.mem_append_right _ (List.mem_append_left _ (List.mem_of_getElem? (i := 47) rfl)))) rfl
theorem q_2_48 : Cond.methodLink R_FM 71 y_FA_firstOfNumbers ∈ fm_T := fm_inT (List.mem_append_right _ (List.mem_append_right _ (List.mem_append_left _ (List.mem_of_getElem? (i := 48) rfl)))) rfl
theorem q_2_49 : Cond.static y_FA_firstOfNumbers ∈ fm_T := fm_inT (List.mem_append_right _ (List.mem_append_right _ (List.mem_append_left _ (List.mem_of_getElem? (i := 49) rfl)))) rfl
theorem q_2_50 : Cond.code y_FA_firstOfNumbers prog_3_method_2_code 2 (some .int) ∈ fm_T := fm_inT (List.mem_append_right _ (List.mem_append_right _ (List.mem_append_left _ (List.mem_of_getElem? (i := 50) rfl)))) rfl
theorem q_2_51 : Cond.methodLink R_FA 9 y_FA_numbersAreSmall ∈ fm_T := fm_inT (List.mem_append_right _ (List.mem_append_right _ (List.mem_append_left _ (List.mem_of_getElem? (i := 51) rfl)))) rfl
theorem q_2_52 : Cond.static y_FA_numbersAreSmall ∈ fm_T := fm_inT (List.mem_append_right _ (List.mem_append_right _ (List.mem_append_left _ (List.mem_of_getElem? (i := 52) rfl)))) rfl
theorem q_2_53 : Cond.code y_FA_numbersAreSmall prog_3_method_4_code 2 (some .boolean) ∈ fm_T := fm_inT (List.mem_append_right _ (List.mem_append_right _ (List.mem_append_left _ (List.mem_of_getElem? (i := 53) rfl)))) rfl
theorem q_2_54 : Cond.methodLink R_FA 53 y_FO_number ∈ fm_T := fm_inT (List.mem_append_right _ (List.mem_append_right _ (List.mem_append_left _ (List.mem_of_getElem? (i := 54) rfl)))) rfl
theorem q_2_55 : Cond.methodLink R_FA 22 y_FA_partsAreEnough ∈ fm_T := fm_inT (List.mem_append_right _ (List.mem_append_right _ (List.mem_append_left _ (List.mem_of_getElem? (i := 55) rfl)))) rfl
theorem q_2_56 : Cond.static y_FA_partsAreEnough ∈ fm_T := fm_inT (List.mem_append_right _ (List.mem_append_right _ (List.mem_append_left _ (List.mem_of_getElem? (i := 56) rfl)))) rfl
theorem q_2_57 : Cond.code y_FA_partsAreEnough prog_3_method_5_code 1 (some .boolean) ∈ fm_T := fm_inT (List.mem_append_right _ (List.mem_append_right _ (List.mem_append_left _ (List.mem_of_getElem? (i := 57) rfl)))) rfl
theorem q_2_58 : Cond.methodLink R_FA 57 y_FO_lengthOf ∈ fm_T := fm_inT (List.mem_append_right _ (List.mem_append_right _ (List.mem_append_left _ (List.mem_of_getElem? (i := 58) rfl)))) rfl
theorem q_2_59 : Cond.instanceMethod y_FO_lengthOf ∈ fm_T := fm_inT (List.mem_append_right _ (List.mem_append_right _ (List.mem_append_left _ (List.mem_of_getElem? (i := 59) rfl)))) rfl
theorem q_2_60 : Cond.selects R_FO y_FO_lengthOf y_FO_lengthOf ∈ fm_T := fm_inT (List.mem_append_right _ (List.mem_append_right _ (List.mem_append_left _ (List.mem_of_getElem? (i := 60) rfl)))) rfl
theorem q_2_61 : Cond.code y_FO_lengthOf prog_4_method_6_code 2 (some .int) ∈ fm_T := fm_inT (List.mem_append_right _ (List.mem_append_right _ (List.mem_append_left _ (List.mem_of_getElem? (i := 61) rfl)))) rfl
theorem q_2_62 : Cond.methodLink R_FA 25 y_FA_lengthsAgree ∈ fm_T := fm_inT (List.mem_append_right _ (List.mem_append_right _ (List.mem_append_left _ (List.mem_of_getElem? (i := 62) rfl)))) rfl
theorem q_2_63 : Cond.static y_FA_lengthsAgree ∈ fm_T := fm_inT (List.mem_append_right _ (List.mem_append_right _ (List.mem_append_left _ (List.mem_of_getElem? (i := 63) rfl)))) rfl
theorem q_2_64 : Cond.code y_FA_lengthsAgree prog_3_method_6_code 5 (some .boolean) ∈ fm_T := fm_inT (List.mem_append_right _ (List.mem_append_right _ (List.mem_append_left _ (List.mem_of_getElem? (i := 64) rfl)))) rfl
theorem q_2_65 : Cond.methodLink R_FM 77 y_FA_firstOfParts ∈ fm_T := fm_inT (List.mem_append_right _ (List.mem_append_right _ (List.mem_append_left _ (List.mem_of_getElem? (i := 65) rfl)))) rfl
theorem q_2_66 : Cond.static y_FA_firstOfParts ∈ fm_T := fm_inT (List.mem_append_right _ (List.mem_append_right _ (List.mem_append_left _ (List.mem_of_getElem? (i := 66) rfl)))) rfl
theorem q_2_67 : Cond.code y_FA_firstOfParts prog_3_method_3_code 1 (some .int) ∈ fm_T := fm_inT (List.mem_append_right _ (List.mem_append_right _ (List.mem_append_left _ (List.mem_of_getElem? (i := 67) rfl)))) rfl
theorem q_2_68 : Cond.methodLink R_FA 29 y_FO_word ∈ fm_T := fm_inT (List.mem_append_right _ (List.mem_append_right _ (List.mem_append_left _ (List.mem_of_getElem? (i := 68) rfl)))) rfl
theorem q_2_69 : Cond.constant R_FA 33 1048576 ∈ fm_T := fm_inT (List.mem_append_right _ (List.mem_append_right _ (List.mem_append_left _ (List.mem_of_getElem? (i := 69) rfl)))) rfl
theorem q_2_70 : Cond.methodLink R_FA 34 y_FA_measuresHavePlaces ∈ fm_T := fm_inT (List.mem_append_right _ (List.mem_append_right _ (List.mem_append_left _ (List.mem_of_getElem? (i := 70) rfl)))) rfl
theorem q_2_71 : Cond.static y_FA_measuresHavePlaces ∈ fm_T := fm_inT (List.mem_append_right _ (List.mem_append_right _ (List.mem_append_left _ (List.mem_of_getElem? (i := 71) rfl)))) rfl
theorem q_2_72 : Cond.code y_FA_measuresHavePlaces prog_3_method_7_code 3 (some .boolean) ∈ fm_T := fm_inT (List.mem_append_right _ (List.mem_append_right _ (List.mem_append_left _ (List.mem_of_getElem? (i := 72) rfl)))) rfl
theorem q_2_73 : Cond.methodLink R_FA 60 y_FO_widthPlace ∈ fm_T := fm_inT (List.mem_append_right _ (List.mem_append_right _ (List.mem_append_left _ (List.mem_of_getElem? (i := 73) rfl)))) rfl
theorem q_2_74 : Cond.methodLink R_FA 63 y_FO_heightPlace ∈ fm_T := fm_inT (List.mem_append_right _ (List.mem_append_right _ (List.mem_append_left _ (List.mem_of_getElem? (i := 74) rfl)))) rfl
theorem q_2_75 : Cond.static y_FO_heightPlace ∈ fm_T := fm_inT (List.mem_append_right _ (List.mem_append_right _ (List.mem_append_left _ (List.mem_of_getElem? (i := 75) rfl)))) rfl
theorem q_2_76 : Cond.code y_FO_heightPlace prog_4_method_26_code 1 (some .int) ∈ fm_T := fm_inT (List.mem_append_right _ (List.mem_append_right _ (List.mem_append_left _ (List.mem_of_getElem? (i := 76) rfl)))) rfl
theorem q_2_77 : Cond.methodLink R_FA 66 y_FO_depthPlace ∈ fm_T := fm_inT (List.mem_append_right _ (List.mem_append_right _ (List.mem_append_left _ (List.mem_of_getElem? (i := 77) rfl)))) rfl
theorem q_2_78 : Cond.static y_FO_depthPlace ∈ fm_T := fm_inT (List.mem_append_right _ (List.mem_append_right _ (List.mem_append_left _ (List.mem_of_getElem? (i := 78) rfl)))) rfl
theorem q_2_79 : Cond.code y_FO_depthPlace prog_4_method_27_code 1 (some .int) ∈ fm_T := fm_inT (List.mem_append_right _ (List.mem_append_right _ (List.mem_append_left _ (List.mem_of_getElem? (i := 79) rfl)))) rfl
theorem q_2_80 : Cond.methodLink R_FA 69 y_FO_italicPlace ∈ fm_T := fm_inT (List.mem_append_right _ (List.mem_append_right _ (List.mem_append_left _ (List.mem_of_getElem? (i := 80) rfl)))) rfl
theorem q_2_81 : Cond.static y_FO_italicPlace ∈ fm_T := fm_inT (List.mem_append_right _ (List.mem_append_right _ (List.mem_append_left _ (List.mem_of_getElem? (i := 81) rfl)))) rfl
theorem q_2_82 : Cond.code y_FO_italicPlace prog_4_method_28_code 1 (some .int) ∈ fm_T := fm_inT (List.mem_append_right _ (List.mem_append_right _ (List.mem_append_left _ (List.mem_of_getElem? (i := 82) rfl)))) rfl
theorem q_2_83 : Cond.methodLink R_FA 37 y_FA_tagsHold ∈ fm_T := fm_inT (List.mem_append_right _ (List.mem_append_right _ (List.mem_append_left _ (List.mem_of_getElem? (i := 83) rfl)))) rfl
theorem q_2_84 : Cond.static y_FA_tagsHold ∈ fm_T := fm_inT (List.mem_append_right _ (List.mem_append_right _ (List.mem_append_left _ (List.mem_of_getElem? (i := 84) rfl)))) rfl
theorem q_2_85 : Cond.code y_FA_tagsHold prog_3_method_8_code 3 (some .boolean) ∈ fm_T := fm_inT (List.mem_append_right _ (List.mem_append_right _ (List.mem_append_left _ (List.mem_of_getElem? (i := 85) rfl)))) rfl
theorem q_2_86 : Cond.methodLink R_FA 72 y_FO_isThere ∈ fm_T := fm_inT (List.mem_append_right _ (List.mem_append_right _ (List.mem_append_left _ (List.mem_of_getElem? (i := 86) rfl)))) rfl
theorem q_2_87 : Cond.methodLink R_FA 76 y_FA_tagHolds ∈ fm_T := fm_inT (List.mem_append_right _ (List.mem_append_right _ (List.mem_append_left _ (List.mem_of_getElem? (i := 87) rfl)))) rfl
theorem q_2_88 : Cond.static y_FA_tagHolds ∈ fm_T := fm_inT (List.mem_append_right _ (List.mem_append_right _ (List.mem_append_left _ (List.mem_of_getElem? (i := 88) rfl)))) rfl
theorem q_2_89 : Cond.code y_FA_tagHolds prog_3_method_9_code 4 (some .boolean) ∈ fm_T := fm_inT (List.mem_append_right _ (List.mem_append_right _ (List.mem_append_left _ (List.mem_of_getElem? (i := 89) rfl)))) rfl
theorem q_2_90 : Cond.methodLink R_FA 79 y_FO_character ∈ fm_T := fm_inT (List.mem_append_right _ (List.mem_append_right _ (List.mem_append_left _ (List.mem_of_getElem? (i := 90) rfl)))) rfl
theorem q_2_91 : Cond.methodLink R_FA 82 y_FO_rest ∈ fm_T := fm_inT (List.mem_append_right _ (List.mem_append_right _ (List.mem_append_left _ (List.mem_of_getElem? (i := 91) rfl)))) rfl
theorem q_2_92 : Cond.static y_FO_rest ∈ fm_T := fm_inT (List.mem_append_right _ (List.mem_append_right _ (List.mem_append_left _ (List.mem_of_getElem? (i := 92) rfl)))) rfl
theorem q_2_93 : Cond.code y_FO_rest prog_4_method_30_code 1 (some .int) ∈ fm_T := fm_inT (List.mem_append_right _ (List.mem_append_right _ (List.mem_append_left _ (List.mem_of_getElem? (i := 93) rfl)))) rfl
theorem q_2_94 : Cond.methodLink R_FA 85 y_FO_tag ∈ fm_T := fm_inT (List.mem_append_right _ (List.mem_append_right _ (List.mem_append_left _ (List.mem_of_getElem? (i := 94) rfl)))) rfl
theorem q_2_95 : Cond.static y_FO_tag ∈ fm_T := fm_inT (List.mem_append_right _ (List.mem_append_right _ (List.mem_append_left _ (List.mem_of_getElem? (i := 95) rfl)))) rfl
theorem q_2_96 : Cond.code y_FO_tag prog_4_method_29_code 1 (some .int) ∈ fm_T := fm_inT (List.mem_append_right _ (List.mem_append_right _ (List.mem_append_left _ (List.mem_of_getElem? (i := 96) rfl)))) rfl
theorem q_2_97 : Cond.methodLink R_FA 88 y_FA_leadsBack ∈ fm_T := fm_inT (List.mem_append_right _ (List.mem_append_right _ (List.mem_append_left _ (List.mem_of_getElem? (i := 97) rfl)))) rfl
theorem q_2_98 : Cond.static y_FA_leadsBack ∈ fm_T := fm_inT (List.mem_append_right _ (List.mem_append_right _ (List.mem_append_left _ (List.mem_of_getElem? (i := 98) rfl)))) rfl
theorem q_2_99 : Cond.code y_FA_leadsBack prog_3_method_10_code 5 (some .boolean) ∈ fm_T := fm_inT (List.mem_append_right _ (List.mem_append_right _ (List.mem_append_left _ (List.mem_of_getElem? (i := 99) rfl)))) rfl
theorem q_2_100 : Cond.methodLink R_FA 40 y_FA_fractionsHold ∈ fm_T := fm_inT (List.mem_append_right _ (List.mem_append_right _ (List.mem_append_left _ (List.mem_of_getElem? (i := 100) rfl)))) rfl
theorem q_2_101 : Cond.static y_FA_fractionsHold ∈ fm_T := fm_inT (List.mem_append_right _ (List.mem_append_right _ (List.mem_append_left _ (List.mem_of_getElem? (i := 101) rfl)))) rfl
theorem q_2_102 : Cond.code y_FA_fractionsHold prog_3_method_11_code 2 (some .boolean) ∈ fm_T := fm_inT (List.mem_append_right _ (List.mem_append_right _ (List.mem_append_left _ (List.mem_of_getElem? (i := 102) rfl)))) rfl
theorem q_2_103 : Cond.methodLink R_FA 49 y_FA_areFractions ∈ fm_T := fm_inT (List.mem_append_right _ (List.mem_append_right _ (List.mem_append_left _ (List.mem_of_getElem? (i := 103) rfl)))) rfl
theorem q_2_104 : Cond.static y_FA_areFractions ∈ fm_T := fm_inT (List.mem_append_right _ (List.mem_append_right _ (List.mem_append_left _ (List.mem_of_getElem? (i := 104) rfl)))) rfl
theorem q_2_105 : Cond.code y_FA_areFractions prog_3_method_12_code 5 (some .boolean) ∈ fm_T := fm_inT (List.mem_append_right _ (List.mem_append_right _ (List.mem_append_left _ (List.mem_of_getElem? (i := 105) rfl)))) rfl
theorem q_2_106 : Cond.methodLink R_FA 91 y_FO_byteOf ∈ fm_T := fm_inT (List.mem_append_right _ (List.mem_append_right _ (List.mem_append_left _ (List.mem_of_getElem? (i := 106) rfl)))) rfl
theorem q_2_107 : Cond.methodLink R_FA 43 y_FA_programHolds ∈ fm_T := fm_inT (List.mem_append_right _ (List.mem_append_right _ (List.mem_append_left _ (List.mem_of_getElem? (i := 107) rfl)))) rfl
theorem q_2_108 : Cond.static y_FA_programHolds ∈ fm_T := fm_inT (List.mem_append_right _ (List.mem_append_right _ (List.mem_append_left _ (List.mem_of_getElem? (i := 108) rfl)))) rfl
theorem q_2_109 : Cond.code y_FA_programHolds prog_3_method_13_code 3 (some .boolean) ∈ fm_T := fm_inT (List.mem_append_right _ (List.mem_append_right _ (List.mem_append_left _ (List.mem_of_getElem? (i := 109) rfl)))) rfl
theorem q_2_110 : Cond.methodLink R_FA 94 y_FA_wayHolds ∈ fm_T := fm_inT (List.mem_append_right _ (List.mem_append_right _ (List.mem_append_left _ (List.mem_of_getElem? (i := 110) rfl)))) rfl
theorem q_2_111 : Cond.static y_FA_wayHolds ∈ fm_T := fm_inT (List.mem_append_right _ (List.mem_append_right _ (List.mem_append_left _ (List.mem_of_getElem? (i := 111) rfl)))) rfl
theorem q_2_112 : Cond.code y_FA_wayHolds prog_3_method_14_code 5 (some .boolean) ∈ fm_T := fm_inT (List.mem_append_right _ (List.mem_append_right _ (List.mem_append_left _ (List.mem_of_getElem? (i := 112) rfl)))) rfl
theorem q_2_113 : Cond.methodLink R_FA 100 y_FO_target ∈ fm_T := fm_inT (List.mem_append_right _ (List.mem_append_right _ (List.mem_append_left _ (List.mem_of_getElem? (i := 113) rfl)))) rfl
theorem q_2_114 : Cond.static y_FO_target ∈ fm_T := fm_inT (List.mem_append_right _ (List.mem_append_right _ (List.mem_append_left _ (List.mem_of_getElem? (i := 114) rfl)))) rfl
theorem q_2_115 : Cond.code y_FO_target prog_4_method_23_code 1 (some .int) ∈ fm_T := fm_inT (List.mem_append_right _ (List.mem_append_right _ (List.mem_append_left _ (List.mem_of_getElem? (i := 115) rfl)))) rfl
theorem q_2_116 : Cond.methodLink R_FA 97 y_FA_sayingHolds ∈ fm_T := fm_inT (List.mem_append_right _ (List.mem_append_right _ (List.mem_append_left _ (List.mem_of_getElem? (i := 116) rfl)))) rfl
theorem q_2_117 : Cond.static y_FA_sayingHolds ∈ fm_T := fm_inT (List.mem_append_right _ (List.mem_append_right _ (List.mem_append_left _ (List.mem_of_getElem? (i := 117) rfl)))) rfl
theorem q_2_118 : Cond.code y_FA_sayingHolds prog_3_method_15_code 4 (some .boolean) ∈ fm_T := fm_inT (List.mem_append_right _ (List.mem_append_right _ (List.mem_append_left _ (List.mem_of_getElem? (i := 118) rfl)))) rfl
theorem q_2_119 : Cond.methodLink R_FA 103 y_FO_edge ∈ fm_T := fm_inT (List.mem_append_right _ (List.mem_append_right _ (List.mem_append_left _ (List.mem_of_getElem? (i := 119) rfl)))) rfl
theorem q_2_120 : Cond.instanceMethod y_FO_edge ∈ fm_T := fm_inT (List.mem_append_right _ (List.mem_append_right _ (List.mem_append_left _ (List.mem_of_getElem? (i := 120) rfl)))) rfl
theorem q_2_121 : Cond.selects R_FO y_FO_edge y_FO_edge ∈ fm_T := fm_inT (List.mem_append_right _ (List.mem_append_right _ (List.mem_append_left _ (List.mem_of_getElem? (i := 121) rfl)))) rfl
theorem q_2_122 : Cond.code y_FO_edge prog_4_method_16_code 2 (some .int) ∈ fm_T := fm_inT (List.mem_append_right _ (List.mem_append_right _ (List.mem_append_left _ (List.mem_of_getElem? (i := 122) rfl)))) rfl
theorem q_2_123 : Cond.methodLink R_FA 107 y_FO_saying ∈ fm_T := fm_inT (List.mem_append_right _ (List.mem_append_right _ (List.mem_append_left _ (List.mem_of_getElem? (i := 123) rfl)))) rfl
theorem q_2_124 : Cond.static y_FO_saying ∈ fm_T := fm_inT (List.mem_append_right _ (List.mem_append_right _ (List.mem_append_left _ (List.mem_of_getElem? (i := 124) rfl)))) rfl
theorem q_2_125 : Cond.code y_FO_saying prog_4_method_24_code 1 (some .int) ∈ fm_T := fm_inT (List.mem_append_right _ (List.mem_append_right _ (List.mem_append_left _ (List.mem_of_getElem? (i := 125) rfl)))) rfl
theorem q_2_126 : Cond.constant R_FA 110 32768 ∈ fm_T := fm_inT (List.mem_append_right _ (List.mem_append_right _ (List.mem_append_left _ (List.mem_of_getElem? (i := 126) rfl)))) rfl
theorem q_2_127 : Cond.methodLink R_FA 46 y_FA_recipesHold ∈ fm_T := fm_inT (List.mem_append_right _ (List.mem_append_right _ (List.mem_append_left _ (List.mem_of_getElem? (i := 127) rfl)))) rfl
theorem q_2_128 : Cond.static y_FA_recipesHold ∈ fm_T := fm_inT (List.mem_append_right _ (List.mem_append_right _ (List.mem_append_left _ (List.mem_of_getElem? (i := 128) rfl)))) rfl
theorem q_2_129 : Cond.code y_FA_recipesHold prog_3_method_16_code 5 (some .boolean) ∈ fm_T := fm_inT (List.mem_append_right _ (List.mem_append_right _ (List.mem_append_left _ (List.mem_of_getElem? (i := 129) rfl)))) rfl
theorem q_2_130 : Cond.methodLink R_FM 81 y_FO_designSize ∈ fm_T := fm_inT (List.mem_append_right _ (List.mem_append_right _ (List.mem_append_left _ (List.mem_of_getElem? (i := 130) rfl)))) rfl
theorem q_2_131 : Cond.instanceMethod y_FO_designSize ∈ fm_T := fm_inT (List.mem_append_right _ (List.mem_append_right _ (List.mem_append_left _ (List.mem_of_getElem? (i := 131) rfl)))) rfl
theorem q_2_132 : Cond.selects R_FO y_FO_designSize y_FO_designSize ∈ fm_T := fm_inT (List.mem_append_right _ (List.mem_append_right _ (List.mem_append_left _ (List.mem_of_getElem? (i := 132) rfl)))) rfl
theorem q_2_133 : Cond.code y_FO_designSize prog_4_method_8_code 1 (some .int) ∈ fm_T := fm_inT (List.mem_append_right _ (List.mem_append_right _ (List.mem_append_left _ (List.mem_of_getElem? (i := 133) rfl)))) rfl
theorem q_2_134 : Cond.methodLink R_FM 85 y_FO_resize ∈ fm_T := fm_inT (List.mem_append_right _ (List.mem_append_right _ (List.mem_append_left _ (List.mem_of_getElem? (i := 134) rfl)))) rfl
theorem q_2_135 : Cond.instanceMethod y_FO_resize ∈ fm_T := fm_inT (List.mem_append_right _ (List.mem_append_right _ (List.mem_append_left _ (List.mem_of_getElem? (i := 135) rfl)))) rfl
theorem q_2_136 : Cond.selects R_FO y_FO_resize y_FO_resize ∈ fm_T := fm_inT (List.mem_append_right _ (List.mem_append_right _ (List.mem_append_left _ (List.mem_of_getElem? (i := 136) rfl)))) rfl
theorem q_2_137 : Cond.code y_FO_resize prog_4_method_4_code 2 none ∈ fm_T := fm_inT (List.mem_append_right _ (List.mem_append_right _ (List.mem_append_left _ (List.mem_of_getElem? (i := 137) rfl)))) rfl
theorem q_2_138 : Cond.constant R_FO 58 8388608 ∈ fm_T := fm_inT (List.mem_append_right _ (List.mem_append_right _ (List.mem_append_left _ (List.mem_of_getElem? (i := 138) rfl)))) rfl
theorem q_2_139 : Cond.methodLink R_FM 89 y_LI_clear ∈ fm_T := fm_inT (List.mem_append_right _ (List.mem_append_right _ (List.mem_append_left _ (List.mem_of_getElem? (i := 139) rfl)))) rfl
theorem q_2_140 : Cond.instanceMethod y_LI_clear ∈ fm_T := fm_inT (List.mem_append_right _ (List.mem_append_right _ (List.mem_append_left _ (List.mem_of_getElem? (i := 140) rfl)))) rfl
theorem q_2_141 : Cond.selects R_LI y_LI_clear y_LI_clear ∈ fm_T := fm_inT (List.mem_append_right _ (List.mem_append_right _ (List.mem_append_left _ (List.mem_of_getElem? (i := 141) rfl)))) rfl
theorem q_2_142 : Cond.code y_LI_clear prog_5_method_2_code 1 none ∈ fm_T := fm_inT (List.mem_append_right _ (List.mem_append_right _ (List.mem_append_left _ (List.mem_of_getElem? (i := 142) rfl)))) rfl
theorem q_2_143 : Cond.methodLink R_LW 70 y_LW_about ∈ fm_T := fm_inT (List.mem_append_right _ (List.mem_append_right _ (List.mem_append_left _ (List.mem_of_getElem? (i := 143) rfl)))) rfl
theorem q_2_144 : Cond.static y_LW_about ∈ fm_T := fm_inT (List.mem_append_right _ (List.mem_append_right _ (List.mem_append_left _ (List.mem_of_getElem? (i := 144) rfl)))) rfl
theorem q_2_145 : Cond.codeWith y_LW_about method_4_code 4 (some .int) [(0, 9, 12, 18), (0, 9, 15, 20)] ∈ fm_T := fm_inT (List.mem_append_right _ (List.mem_append_right _ (List.mem_append_left _ (List.mem_of_getElem? (i := 145) rfl)))) rfl
theorem q_2_146 : Cond.classLink R_LW 18 "java/lang/IllegalStateException" ∈ fm_T := fm_inT (List.mem_append_right _ (List.mem_append_right _ (List.mem_append_left _ (List.mem_of_getElem? (i := 146) rfl)))) rfl
theorem q_2_147 : Cond.classLink R_LW 20 "java/lang/IndexOutOfBoundsException" ∈ fm_T := fm_inT (List.mem_append_right _ (List.mem_append_right _ (List.mem_append_left _ (List.mem_of_getElem? (i := 147) rfl)))) rfl
theorem q_2_148 : Cond.methodLink R_LW 15 y_FM_about ∈ fm_T := fm_inT (List.mem_append_right _ (List.mem_append_right _ (List.mem_append_left _ (List.mem_of_getElem? (i := 148) rfl)))) rfl
theorem q_2_149 : Cond.instanceMethod y_FM_about ∈ fm_T := fm_inT (List.mem_append_right _ (List.mem_append_right _ (List.mem_append_left _ (List.mem_of_getElem? (i := 149) rfl)))) rfl
theorem q_2_150 : Cond.selects R_FM y_FM_about y_FM_about ∈ fm_T := fm_inT (List.mem_append_right _ (List.mem_append_right _ (List.mem_append_left _ (List.mem_of_getElem? (i := 150) rfl)))) rfl
theorem q_2_151 : Cond.code y_FM_about prog_1_method_5_code 2 (some .int) ∈ fm_T := fm_inT (List.mem_append_right _ (List.mem_append_right _ (List.mem_append_left _ (List.mem_of_getElem? (i := 151) rfl)))) rfl
theorem q_2_152 : Cond.methodLink R_FM 92 y_FM_requireFont ∈ fm_T := fm_inT (List.mem_append_right _ (List.mem_append_right _ (List.mem_append_left _ (List.mem_of_getElem? (i := 152) rfl)))) rfl
theorem q_2_154 : Cond.instanceMethod y_FM_requireFont ∈ fm_T := fm_inT (List.mem_append_right _ (List.mem_append_right _ (List.mem_append_left _ (List.mem_of_getElem? (i := 154) rfl)))) rfl
theorem q_2_155 : Cond.code y_FM_requireFont prog_1_method_17_code 1 none ∈ fm_T := fm_inT (List.mem_append_right _ (List.mem_append_right _ (List.mem_append_left _ (List.mem_of_getElem? (i := 155) rfl)))) rfl
theorem q_2_156 : Cond.classLink R_FM 193 "java/lang/IllegalStateException" ∈ fm_T := fm_inT (List.mem_append_right _ (List.mem_append_right _ (List.mem_append_left _ (List.mem_of_getElem? (i := 156) rfl)))) rfl
theorem q_2_157 : Cond.instantiable "java/lang/IllegalStateException" 6 ∈ fm_T := fm_inT (List.mem_append_right _ (List.mem_append_right _ (List.mem_append_left _ (List.mem_of_getElem? (i := 157) rfl)))) rfl
theorem q_2_159 : Cond.selects "java/lang/IllegalStateException" (⟨"java/lang/Throwable", "fillInStackTrace", "(I)Ljava/lang/Throwable;"⟩ : MethodName) (⟨"java/lang/Throwable", "fillInStackTrace", "(I)Ljava/lang/Throwable;"⟩ : MethodName) ∈ fm_T := fm_inT (List.mem_append_right _ (List.mem_append_right _ (List.mem_append_left _ (List.mem_of_getElem? (i := 159) rfl)))) rfl
theorem q_2_160 : Cond.lays "java/lang/IllegalStateException" "java/lang/Throwable" "cause" "Ljava/lang/Throwable;" ∈ fm_T := fm_inT (List.mem_append_right _ (List.mem_append_right _ (List.mem_append_left _ (List.mem_of_getElem? (i := 160) rfl)))) rfl
theorem q_2_161 : Cond.lays "java/lang/IllegalStateException" "java/lang/Throwable" "stackTrace" "[Ljava/lang/StackTraceElement;" ∈ fm_T := fm_inT (List.mem_append_right _ (List.mem_append_right _ (List.mem_append_left _ (List.mem_of_getElem? (i := 161) rfl)))) rfl
theorem q_2_162 : Cond.lays "java/lang/IllegalStateException" "java/lang/Throwable" "suppressedExceptions" "Ljava/util/List;" ∈ fm_T := fm_inT (List.mem_append_right _ (List.mem_append_right _ (List.mem_append_left _ (List.mem_of_getElem? (i := 162) rfl)))) rfl
theorem q_2_163 : Cond.lays "java/lang/IllegalStateException" "java/lang/Throwable" "detailMessage" "Ljava/lang/String;" ∈ fm_T := fm_inT (List.mem_append_right _ (List.mem_append_right _ (List.mem_append_left _ (List.mem_of_getElem? (i := 163) rfl)))) rfl
theorem q_2_164 : Cond.lays "java/lang/IllegalStateException" "java/lang/Throwable" "backtrace" "Ljava/lang/Object;" ∈ fm_T := fm_inT (List.mem_append_right _ (List.mem_append_right _ (List.mem_append_left _ (List.mem_of_getElem? (i := 164) rfl)))) rfl
theorem q_2_166 : Cond.methodLink R_FM 197 (⟨"java/lang/IllegalStateException", "<init>", "(Ljava/lang/String;)V"⟩ : MethodName) ∈ fm_T := fm_inT (List.mem_append_right _ (List.mem_append_right _ (List.mem_append_left _ (List.mem_of_getElem? (i := 166) rfl)))) rfl
theorem q_2_167 : Cond.instanceMethod (⟨"java/lang/IllegalStateException", "<init>", "(Ljava/lang/String;)V"⟩ : MethodName) ∈ fm_T := fm_inT (List.mem_append_right _ (List.mem_append_right _ (List.mem_append_left _ (List.mem_of_getElem? (i := 167) rfl)))) rfl
theorem q_2_168 : Cond.code (⟨"java/lang/IllegalStateException", "<init>", "(Ljava/lang/String;)V"⟩ : MethodName) prog_10_method_2_code 2 none ∈ fm_T := fm_inT (List.mem_append_right _ (List.mem_append_right _ (List.mem_append_left _ (List.mem_of_getElem? (i := 168) rfl)))) rfl
theorem q_2_169 : Cond.methodLink "java/lang/IllegalStateException" 7 (⟨"java/lang/RuntimeException", "<init>", "(Ljava/lang/String;)V"⟩ : MethodName) ∈ fm_T := fm_inT (List.mem_append_right _ (List.mem_append_right _ (List.mem_append_left _ (List.mem_of_getElem? (i := 169) rfl)))) rfl
theorem q_2_170 : Cond.lays "java/lang/IllegalStateException" "java/lang/Throwable" "depth" "I" ∈ fm_T := fm_inT (List.mem_append_right _ (List.mem_append_right _ (List.mem_append_left _ (List.mem_of_getElem? (i := 170) rfl)))) rfl
theorem q_2_172 : Cond.methodLink R_FM 104 y_FO_lengthOf ∈ fm_T := fm_inT (List.mem_append_right _ (List.mem_append_right _ (List.mem_append_left _ (List.mem_of_getElem? (i := 172) rfl)))) rfl
theorem q_2_173 : Cond.methodLink R_FM 108 y_FO_edge ∈ fm_T := fm_inT (List.mem_append_right _ (List.mem_append_right _ (List.mem_append_left _ (List.mem_of_getElem? (i := 173) rfl)))) rfl
theorem q_2_174 : Cond.methodLink R_FM 111 y_FO_edgeStart ∈ fm_T := fm_inT (List.mem_append_right _ (List.mem_append_right _ (List.mem_append_left _ (List.mem_of_getElem? (i := 174) rfl)))) rfl
theorem q_2_175 : Cond.instanceMethod y_FO_edgeStart ∈ fm_T := fm_inT (List.mem_append_right _ (List.mem_append_right _ (List.mem_append_left _ (List.mem_of_getElem? (i := 175) rfl)))) rfl
theorem q_2_176 : Cond.selects R_FO y_FO_edgeStart y_FO_edgeStart ∈ fm_T := fm_inT (List.mem_append_right _ (List.mem_append_right _ (List.mem_append_left _ (List.mem_of_getElem? (i := 176) rfl)))) rfl
theorem q_2_177 : Cond.code y_FO_edgeStart prog_4_method_17_code 2 (some .int) ∈ fm_T := fm_inT (List.mem_append_right _ (List.mem_append_right _ (List.mem_append_left _ (List.mem_of_getElem? (i := 177) rfl)))) rfl
theorem q_2_178 : Cond.methodLink R_FO 85 y_FO_lengthOf ∈ fm_T := fm_inT (List.mem_append_right _ (List.mem_append_right _ (List.mem_append_left _ (List.mem_of_getElem? (i := 178) rfl)))) rfl
theorem q_2_179 : Cond.methodLink R_FO 88 y_FO_target ∈ fm_T := fm_inT (List.mem_append_right _ (List.mem_append_right _ (List.mem_append_left _ (List.mem_of_getElem? (i := 179) rfl)))) rfl
theorem q_2_180 : Cond.classLink R_FM 114 "java/lang/IndexOutOfBoundsException" ∈ fm_T := fm_inT (List.mem_append_right _ (List.mem_append_right _ (List.mem_append_left _ (List.mem_of_getElem? (i := 180) rfl)))) rfl
theorem q_2_181 : Cond.instantiable "java/lang/IndexOutOfBoundsException" 6 ∈ fm_T := fm_inT (List.mem_append_right _ (List.mem_append_right _ (List.mem_append_left _ (List.mem_of_getElem? (i := 181) rfl)))) rfl
theorem q_2_183 : Cond.selects "java/lang/IndexOutOfBoundsException" (⟨"java/lang/Throwable", "fillInStackTrace", "(I)Ljava/lang/Throwable;"⟩ : MethodName) (⟨"java/lang/Throwable", "fillInStackTrace", "(I)Ljava/lang/Throwable;"⟩ : MethodName) ∈ fm_T := fm_inT (List.mem_append_right _ (List.mem_append_right _ (List.mem_append_left _ (List.mem_of_getElem? (i := 183) rfl)))) rfl
theorem q_2_184 : Cond.lays "java/lang/IndexOutOfBoundsException" "java/lang/Throwable" "cause" "Ljava/lang/Throwable;" ∈ fm_T := fm_inT (List.mem_append_right _ (List.mem_append_right _ (List.mem_append_left _ (List.mem_of_getElem? (i := 184) rfl)))) rfl
theorem q_2_185 : Cond.lays "java/lang/IndexOutOfBoundsException" "java/lang/Throwable" "stackTrace" "[Ljava/lang/StackTraceElement;" ∈ fm_T := fm_inT (List.mem_append_right _ (List.mem_append_right _ (List.mem_append_left _ (List.mem_of_getElem? (i := 185) rfl)))) rfl
theorem q_2_186 : Cond.lays "java/lang/IndexOutOfBoundsException" "java/lang/Throwable" "suppressedExceptions" "Ljava/util/List;" ∈ fm_T := fm_inT (List.mem_append_right _ (List.mem_append_right _ (List.mem_append_left _ (List.mem_of_getElem? (i := 186) rfl)))) rfl
theorem q_2_187 : Cond.lays "java/lang/IndexOutOfBoundsException" "java/lang/Throwable" "detailMessage" "Ljava/lang/String;" ∈ fm_T := fm_inT (List.mem_append_right _ (List.mem_append_right _ (List.mem_append_left _ (List.mem_of_getElem? (i := 187) rfl)))) rfl
theorem q_2_188 : Cond.lays "java/lang/IndexOutOfBoundsException" "java/lang/Throwable" "backtrace" "Ljava/lang/Object;" ∈ fm_T := fm_inT (List.mem_append_right _ (List.mem_append_right _ (List.mem_append_left _ (List.mem_of_getElem? (i := 188) rfl)))) rfl
theorem q_2_190 : Cond.methodLink R_FM 118 (⟨"java/lang/IndexOutOfBoundsException", "<init>", "(Ljava/lang/String;)V"⟩ : MethodName) ∈ fm_T := fm_inT (List.mem_append_right _ (List.mem_append_right _ (List.mem_append_left _ (List.mem_of_getElem? (i := 190) rfl)))) rfl
theorem q_2_191 : Cond.instanceMethod (⟨"java/lang/IndexOutOfBoundsException", "<init>", "(Ljava/lang/String;)V"⟩ : MethodName) ∈ fm_T := fm_inT (List.mem_append_right _ (List.mem_append_right _ (List.mem_append_left _ (List.mem_of_getElem? (i := 191) rfl)))) rfl
theorem q_2_192 : Cond.code (⟨"java/lang/IndexOutOfBoundsException", "<init>", "(Ljava/lang/String;)V"⟩ : MethodName) prog_11_method_2_code 2 none ∈ fm_T := fm_inT (List.mem_append_right _ (List.mem_append_right _ (List.mem_append_left _ (List.mem_of_getElem? (i := 192) rfl)))) rfl
theorem q_2_193 : Cond.methodLink "java/lang/IndexOutOfBoundsException" 7 (⟨"java/lang/RuntimeException", "<init>", "(Ljava/lang/String;)V"⟩ : MethodName) ∈ fm_T := fm_inT (List.mem_append_right _ (List.mem_append_right _ (List.mem_append_left _ (List.mem_of_getElem? (i := 193) rfl)))) rfl
theorem q_2_194 : Cond.lays "java/lang/IndexOutOfBoundsException" "java/lang/Throwable" "depth" "I" ∈ fm_T := fm_inT (List.mem_append_right _ (List.mem_append_right _ (List.mem_append_left _ (List.mem_of_getElem? (i := 194) rfl)))) rfl
theorem q_2_196 : Cond.methodLink R_LW 77 y_LW_of ∈ fm_T := fm_inT (List.mem_append_right _ (List.mem_append_right _ (List.mem_append_left _ (List.mem_of_getElem? (i := 196) rfl)))) rfl
theorem q_2_197 : Cond.static y_LW_of ∈ fm_T := fm_inT (List.mem_append_right _ (List.mem_append_right _ (List.mem_append_left _ (List.mem_of_getElem? (i := 197) rfl)))) rfl
theorem q_2_198 : Cond.codeWith y_LW_of method_5_code 5 (some .int) [(0, 10, 13, 18), (0, 10, 17, 20)] ∈ fm_T := fm_inT (List.mem_append_right _ (List.mem_append_right _ (List.mem_append_left _ (List.mem_of_getElem? (i := 198) rfl)))) rfl
theorem q_2_199 : Cond.methodLink R_LW 22 y_FM_of ∈ fm_T := fm_inT (List.mem_append_right _ (List.mem_append_right _ (List.mem_append_left _ (List.mem_of_getElem? (i := 199) rfl)))) rfl
theorem q_2_200 : Cond.instanceMethod y_FM_of ∈ fm_T := fm_inT (List.mem_append_right _ (List.mem_append_right _ (List.mem_append_left _ (List.mem_of_getElem? (i := 200) rfl)))) rfl
theorem q_2_201 : Cond.selects R_FM y_FM_of y_FM_of ∈ fm_T := fm_inT (List.mem_append_right _ (List.mem_append_right _ (List.mem_append_left _ (List.mem_of_getElem? (i := 201) rfl)))) rfl
theorem q_2_202 : Cond.code y_FM_of prog_1_method_7_code 3 (some .int) ∈ fm_T := fm_inT (List.mem_append_right _ (List.mem_append_right _ (List.mem_append_left _ (List.mem_of_getElem? (i := 202) rfl)))) rfl
theorem q_2_203 : Cond.methodLink R_FM 122 y_FM_requireThere ∈ fm_T := fm_inT (List.mem_append_right _ (List.mem_append_right _ (List.mem_append_left _ (List.mem_of_getElem? (i := 203) rfl)))) rfl
theorem q_2_205 : Cond.instanceMethod y_FM_requireThere ∈ fm_T := fm_inT (List.mem_append_right _ (List.mem_append_right _ (List.mem_append_left _ (List.mem_of_getElem? (i := 205) rfl)))) rfl
theorem q_2_206 : Cond.code y_FM_requireThere prog_1_method_18_code 2 none ∈ fm_T := fm_inT (List.mem_append_right _ (List.mem_append_right _ (List.mem_append_left _ (List.mem_of_getElem? (i := 206) rfl)))) rfl
theorem q_2_208 : Cond.methodLink R_FM 125 y_FO_width ∈ fm_T := fm_inT (List.mem_append_right _ (List.mem_append_right _ (List.mem_append_left _ (List.mem_of_getElem? (i := 208) rfl)))) rfl
theorem q_2_209 : Cond.methodLink R_FM 128 y_FO_height ∈ fm_T := fm_inT (List.mem_append_right _ (List.mem_append_right _ (List.mem_append_left _ (List.mem_of_getElem? (i := 209) rfl)))) rfl
theorem q_2_210 : Cond.instanceMethod y_FO_height ∈ fm_T := fm_inT (List.mem_append_right _ (List.mem_append_right _ (List.mem_append_left _ (List.mem_of_getElem? (i := 210) rfl)))) rfl
theorem q_2_211 : Cond.selects R_FO y_FO_height y_FO_height ∈ fm_T := fm_inT (List.mem_append_right _ (List.mem_append_right _ (List.mem_append_left _ (List.mem_of_getElem? (i := 211) rfl)))) rfl
theorem q_2_212 : Cond.code y_FO_height prog_4_method_13_code 2 (some .int) ∈ fm_T := fm_inT (List.mem_append_right _ (List.mem_append_right _ (List.mem_append_left _ (List.mem_of_getElem? (i := 212) rfl)))) rfl
theorem q_2_213 : Cond.methodLink R_FO 76 y_FO_heightPlace ∈ fm_T := fm_inT (List.mem_append_right _ (List.mem_append_right _ (List.mem_append_left _ (List.mem_of_getElem? (i := 213) rfl)))) rfl
theorem q_2_214 : Cond.methodLink R_FM 131 y_FO_depth ∈ fm_T := fm_inT (List.mem_append_right _ (List.mem_append_right _ (List.mem_append_left _ (List.mem_of_getElem? (i := 214) rfl)))) rfl
theorem q_2_215 : Cond.instanceMethod y_FO_depth ∈ fm_T := fm_inT (List.mem_append_right _ (List.mem_append_right _ (List.mem_append_left _ (List.mem_of_getElem? (i := 215) rfl)))) rfl
theorem q_2_216 : Cond.selects R_FO y_FO_depth y_FO_depth ∈ fm_T := fm_inT (List.mem_append_right _ (List.mem_append_right _ (List.mem_append_left _ (List.mem_of_getElem? (i := 216) rfl)))) rfl
theorem q_2_217 : Cond.code y_FO_depth prog_4_method_14_code 2 (some .int) ∈ fm_T := fm_inT (List.mem_append_right _ (List.mem_append_right _ (List.mem_append_left _ (List.mem_of_getElem? (i := 217) rfl)))) rfl
theorem q_2_218 : Cond.methodLink R_FO 79 y_FO_depthPlace ∈ fm_T := fm_inT (List.mem_append_right _ (List.mem_append_right _ (List.mem_append_left _ (List.mem_of_getElem? (i := 218) rfl)))) rfl
theorem q_2_219 : Cond.methodLink R_FM 134 y_FO_italic ∈ fm_T := fm_inT (List.mem_append_right _ (List.mem_append_right _ (List.mem_append_left _ (List.mem_of_getElem? (i := 219) rfl)))) rfl
theorem q_2_220 : Cond.instanceMethod y_FO_italic ∈ fm_T := fm_inT (List.mem_append_right _ (List.mem_append_right _ (List.mem_append_left _ (List.mem_of_getElem? (i := 220) rfl)))) rfl
theorem q_2_221 : Cond.selects R_FO y_FO_italic y_FO_italic ∈ fm_T := fm_inT (List.mem_append_right _ (List.mem_append_right _ (List.mem_append_left _ (List.mem_of_getElem? (i := 221) rfl)))) rfl
theorem q_2_222 : Cond.code y_FO_italic prog_4_method_15_code 2 (some .int) ∈ fm_T := fm_inT (List.mem_append_right _ (List.mem_append_right _ (List.mem_append_left _ (List.mem_of_getElem? (i := 222) rfl)))) rfl
theorem q_2_223 : Cond.methodLink R_FO 82 y_FO_italicPlace ∈ fm_T := fm_inT (List.mem_append_right _ (List.mem_append_right _ (List.mem_append_left _ (List.mem_of_getElem? (i := 223) rfl)))) rfl
theorem q_2_224 : Cond.methodLink R_FM 137 y_FO_character ∈ fm_T := fm_inT (List.mem_append_right _ (List.mem_append_right _ (List.mem_append_left _ (List.mem_of_getElem? (i := 224) rfl)))) rfl
theorem q_2_225 : Cond.methodLink R_FM 140 y_FO_tag ∈ fm_T := fm_inT (List.mem_append_right _ (List.mem_append_right _ (List.mem_append_left _ (List.mem_of_getElem? (i := 225) rfl)))) rfl
theorem q_2_226 : Cond.methodLink R_FM 143 y_FO_rest ∈ fm_T := fm_inT (List.mem_append_right _ (List.mem_append_right _ (List.mem_append_left _ (List.mem_of_getElem? (i := 226) rfl)))) rfl
theorem q_2_227 : Cond.methodLink R_LW 81 y_LW_part ∈ fm_T := fm_inT (List.mem_append_right _ (List.mem_append_right _ (List.mem_append_left _ (List.mem_of_getElem? (i := 227) rfl)))) rfl
theorem q_2_228 : Cond.static y_LW_part ∈ fm_T := fm_inT (List.mem_append_right _ (List.mem_append_right _ (List.mem_append_left _ (List.mem_of_getElem? (i := 228) rfl)))) rfl
theorem q_2_229 : Cond.codeWith y_LW_part method_6_code 5 (some .int) [(0, 10, 13, 18), (0, 10, 17, 20)] ∈ fm_T := fm_inT (List.mem_append_right _ (List.mem_append_right _ (List.mem_append_left _ (List.mem_of_getElem? (i := 229) rfl)))) rfl
theorem q_2_230 : Cond.methodLink R_LW 26 y_FM_part ∈ fm_T := fm_inT (List.mem_append_right _ (List.mem_append_right _ (List.mem_append_left _ (List.mem_of_getElem? (i := 230) rfl)))) rfl
theorem q_2_231 : Cond.instanceMethod y_FM_part ∈ fm_T := fm_inT (List.mem_append_right _ (List.mem_append_right _ (List.mem_append_left _ (List.mem_of_getElem? (i := 231) rfl)))) rfl
theorem q_2_232 : Cond.selects R_FM y_FM_part y_FM_part ∈ fm_T := fm_inT (List.mem_append_right _ (List.mem_append_right _ (List.mem_append_left _ (List.mem_of_getElem? (i := 232) rfl)))) rfl
theorem q_2_233 : Cond.code y_FM_part prog_1_method_8_code 4 (some .int) ∈ fm_T := fm_inT (List.mem_append_right _ (List.mem_append_right _ (List.mem_append_left _ (List.mem_of_getElem? (i := 233) rfl)))) rfl
theorem q_2_235 : Cond.methodLink R_FM 148 y_FO_word ∈ fm_T := fm_inT (List.mem_append_right _ (List.mem_append_right _ (List.mem_append_left _ (List.mem_of_getElem? (i := 235) rfl)))) rfl
theorem q_2_236 : Cond.methodLink R_FM 152 y_FO_byteOf ∈ fm_T := fm_inT (List.mem_append_right _ (List.mem_append_right _ (List.mem_append_left _ (List.mem_of_getElem? (i := 236) rfl)))) rfl
theorem q_2_237 : Cond.methodLink R_LW 84 y_LW_parameter ∈ fm_T := fm_inT (List.mem_append_right _ (List.mem_append_right _ (List.mem_append_left _ (List.mem_of_getElem? (i := 237) rfl)))) rfl
theorem q_2_238 : Cond.static y_LW_parameter ∈ fm_T := fm_inT (List.mem_append_right _ (List.mem_append_right _ (List.mem_append_left _ (List.mem_of_getElem? (i := 238) rfl)))) rfl
theorem q_2_239 : Cond.codeWith y_LW_parameter method_7_code 4 (some .int) [(0, 9, 12, 18), (0, 9, 15, 20)] ∈ fm_T := fm_inT (List.mem_append_right _ (List.mem_append_right _ (List.mem_append_left _ (List.mem_of_getElem? (i := 239) rfl)))) rfl
theorem q_3_0 : Cond.methodLink R_LW 29 y_FM_parameter ∈ fm_T := fm_inT (List.mem_append_right _ (List.mem_append_right _ (List.mem_append_right _ (List.mem_append_left _ (List.mem_of_getElem? (i := 0) rfl))))) rfl
theorem q_3_1 : Cond.instanceMethod y_FM_parameter ∈ fm_T := fm_inT (List.mem_append_right _ (List.mem_append_right _ (List.mem_append_right _ (List.mem_append_left _ (List.mem_of_getElem? (i := 1) rfl))))) rfl
theorem q_3_2 : Cond.selects R_FM y_FM_parameter y_FM_parameter ∈ fm_T := fm_inT (List.mem_append_right _ (List.mem_append_right _ (List.mem_append_right _ (List.mem_append_left _ (List.mem_of_getElem? (i := 2) rfl))))) rfl
theorem q_3_3 : Cond.code y_FM_parameter prog_1_method_9_code 3 (some .int) ∈ fm_T := fm_inT (List.mem_append_right _ (List.mem_append_right _ (List.mem_append_right _ (List.mem_append_left _ (List.mem_of_getElem? (i := 3) rfl))))) rfl
theorem q_3_5 : Cond.methodLink R_FM 157 y_FO_scaled ∈ fm_T := fm_inT (List.mem_append_right _ (List.mem_append_right _ (List.mem_append_right _ (List.mem_append_left _ (List.mem_of_getElem? (i := 5) rfl))))) rfl
theorem q_3_6 : Cond.methodLink R_LW 87 y_LW_ask ∈ fm_T := fm_inT (List.mem_append_right _ (List.mem_append_right _ (List.mem_append_right _ (List.mem_append_left _ (List.mem_of_getElem? (i := 6) rfl))))) rfl
theorem q_3_7 : Cond.static y_LW_ask ∈ fm_T := fm_inT (List.mem_append_right _ (List.mem_append_right _ (List.mem_append_right _ (List.mem_append_left _ (List.mem_of_getElem? (i := 7) rfl))))) rfl
theorem q_3_8 : Cond.codeWith y_LW_ask method_8_code 5 (some .int) [(0, 10, 13, 18), (0, 10, 17, 20)] ∈ fm_T := fm_inT (List.mem_append_right _ (List.mem_append_right _ (List.mem_append_right _ (List.mem_append_left _ (List.mem_of_getElem? (i := 8) rfl))))) rfl
theorem q_3_9 : Cond.methodLink R_LW 32 y_FM_ask ∈ fm_T := fm_inT (List.mem_append_right _ (List.mem_append_right _ (List.mem_append_right _ (List.mem_append_left _ (List.mem_of_getElem? (i := 9) rfl))))) rfl
theorem q_3_10 : Cond.instanceMethod y_FM_ask ∈ fm_T := fm_inT (List.mem_append_right _ (List.mem_append_right _ (List.mem_append_right _ (List.mem_append_left _ (List.mem_of_getElem? (i := 10) rfl))))) rfl
theorem q_3_11 : Cond.selects R_FM y_FM_ask y_FM_ask ∈ fm_T := fm_inT (List.mem_append_right _ (List.mem_append_right _ (List.mem_append_right _ (List.mem_append_left _ (List.mem_of_getElem? (i := 11) rfl))))) rfl
theorem q_3_12 : Cond.code y_FM_ask prog_1_method_10_code 3 (some .int) ∈ fm_T := fm_inT (List.mem_append_right _ (List.mem_append_right _ (List.mem_append_right _ (List.mem_append_left _ (List.mem_of_getElem? (i := 12) rfl))))) rfl
theorem q_3_13 : Cond.methodLink R_FM 160 y_FM_requireThereOrEdge ∈ fm_T := fm_inT (List.mem_append_right _ (List.mem_append_right _ (List.mem_append_right _ (List.mem_append_left _ (List.mem_of_getElem? (i := 13) rfl))))) rfl
theorem q_3_15 : Cond.instanceMethod y_FM_requireThereOrEdge ∈ fm_T := fm_inT (List.mem_append_right _ (List.mem_append_right _ (List.mem_append_right _ (List.mem_append_left _ (List.mem_of_getElem? (i := 15) rfl))))) rfl
theorem q_3_16 : Cond.code y_FM_requireThereOrEdge prog_1_method_19_code 2 none ∈ fm_T := fm_inT (List.mem_append_right _ (List.mem_append_right _ (List.mem_append_right _ (List.mem_append_left _ (List.mem_of_getElem? (i := 16) rfl))))) rfl
theorem q_3_17 : Cond.methodLink R_FM 163 y_FO_find ∈ fm_T := fm_inT (List.mem_append_right _ (List.mem_append_right _ (List.mem_append_right _ (List.mem_append_left _ (List.mem_of_getElem? (i := 17) rfl))))) rfl
theorem q_3_18 : Cond.instanceMethod y_FO_find ∈ fm_T := fm_inT (List.mem_append_right _ (List.mem_append_right _ (List.mem_append_right _ (List.mem_append_left _ (List.mem_of_getElem? (i := 18) rfl))))) rfl
theorem q_3_19 : Cond.selects R_FO y_FO_find y_FO_find ∈ fm_T := fm_inT (List.mem_append_right _ (List.mem_append_right _ (List.mem_append_right _ (List.mem_append_left _ (List.mem_of_getElem? (i := 19) rfl))))) rfl
theorem q_3_20 : Cond.code y_FO_find prog_4_method_18_code 10 (some .int) ∈ fm_T := fm_inT (List.mem_append_right _ (List.mem_append_right _ (List.mem_append_right _ (List.mem_append_left _ (List.mem_of_getElem? (i := 20) rfl))))) rfl
theorem q_3_21 : Cond.methodLink R_FO 91 y_FO_programStart ∈ fm_T := fm_inT (List.mem_append_right _ (List.mem_append_right _ (List.mem_append_right _ (List.mem_append_left _ (List.mem_of_getElem? (i := 21) rfl))))) rfl
theorem q_3_23 : Cond.instanceMethod y_FO_programStart ∈ fm_T := fm_inT (List.mem_append_right _ (List.mem_append_right _ (List.mem_append_right _ (List.mem_append_left _ (List.mem_of_getElem? (i := 23) rfl))))) rfl
theorem q_3_24 : Cond.code y_FO_programStart prog_4_method_19_code 4 (some .int) ∈ fm_T := fm_inT (List.mem_append_right _ (List.mem_append_right _ (List.mem_append_right _ (List.mem_append_left _ (List.mem_of_getElem? (i := 24) rfl))))) rfl
theorem q_3_25 : Cond.methodLink R_FO 101 y_FO_edgeStart ∈ fm_T := fm_inT (List.mem_append_right _ (List.mem_append_right _ (List.mem_append_right _ (List.mem_append_left _ (List.mem_of_getElem? (i := 25) rfl))))) rfl
theorem q_3_26 : Cond.methodLink R_FO 104 y_FO_startOfCharacter ∈ fm_T := fm_inT (List.mem_append_right _ (List.mem_append_right _ (List.mem_append_right _ (List.mem_append_left _ (List.mem_of_getElem? (i := 26) rfl))))) rfl
theorem q_3_27 : Cond.static y_FO_startOfCharacter ∈ fm_T := fm_inT (List.mem_append_right _ (List.mem_append_right _ (List.mem_append_right _ (List.mem_append_left _ (List.mem_of_getElem? (i := 27) rfl))))) rfl
theorem q_3_28 : Cond.code y_FO_startOfCharacter prog_4_method_20_code 1 (some .int) ∈ fm_T := fm_inT (List.mem_append_right _ (List.mem_append_right _ (List.mem_append_right _ (List.mem_append_left _ (List.mem_of_getElem? (i := 28) rfl))))) rfl
theorem q_3_29 : Cond.methodLink R_FO 107 y_FO_tag ∈ fm_T := fm_inT (List.mem_append_right _ (List.mem_append_right _ (List.mem_append_right _ (List.mem_append_left _ (List.mem_of_getElem? (i := 29) rfl))))) rfl
theorem q_3_30 : Cond.methodLink R_FO 110 y_FO_rest ∈ fm_T := fm_inT (List.mem_append_right _ (List.mem_append_right _ (List.mem_append_right _ (List.mem_append_left _ (List.mem_of_getElem? (i := 30) rfl))))) rfl
theorem q_3_31 : Cond.methodLink R_FO 94 y_FO_edge ∈ fm_T := fm_inT (List.mem_append_right _ (List.mem_append_right _ (List.mem_append_right _ (List.mem_append_left _ (List.mem_of_getElem? (i := 31) rfl))))) rfl
theorem q_3_32 : Cond.methodLink R_FO 98 y_FO_saying ∈ fm_T := fm_inT (List.mem_append_right _ (List.mem_append_right _ (List.mem_append_right _ (List.mem_append_left _ (List.mem_of_getElem? (i := 32) rfl))))) rfl
theorem q_3_33 : Cond.methodLink R_LW 94 y_LW_set ∈ fm_T := fm_inT (List.mem_append_right _ (List.mem_append_right _ (List.mem_append_right _ (List.mem_append_left _ (List.mem_of_getElem? (i := 33) rfl))))) rfl
theorem q_3_34 : Cond.static y_LW_set ∈ fm_T := fm_inT (List.mem_append_right _ (List.mem_append_right _ (List.mem_append_right _ (List.mem_append_left _ (List.mem_of_getElem? (i := 34) rfl))))) rfl
theorem q_3_35 : Cond.codeWith y_LW_set method_9_code 3 (some .int) [(0, 8, 11, 18)] ∈ fm_T := fm_inT (List.mem_append_right _ (List.mem_append_right _ (List.mem_append_right _ (List.mem_append_left _ (List.mem_of_getElem? (i := 35) rfl))))) rfl
theorem q_3_36 : Cond.methodLink R_LW 35 y_FM_set ∈ fm_T := fm_inT (List.mem_append_right _ (List.mem_append_right _ (List.mem_append_right _ (List.mem_append_left _ (List.mem_of_getElem? (i := 36) rfl))))) rfl
theorem q_3_37 : Cond.instanceMethod y_FM_set ∈ fm_T := fm_inT (List.mem_append_right _ (List.mem_append_right _ (List.mem_append_right _ (List.mem_append_left _ (List.mem_of_getElem? (i := 37) rfl))))) rfl
theorem q_3_38 : Cond.selects R_FM y_FM_set y_FM_set ∈ fm_T := fm_inT (List.mem_append_right _ (List.mem_append_right _ (List.mem_append_right _ (List.mem_append_left _ (List.mem_of_getElem? (i := 38) rfl))))) rfl
theorem q_3_39 : Cond.code y_FM_set prog_1_method_12_code 1 (some .int) ∈ fm_T := fm_inT (List.mem_append_right _ (List.mem_append_right _ (List.mem_append_right _ (List.mem_append_left _ (List.mem_of_getElem? (i := 39) rfl))))) rfl
theorem q_3_40 : Cond.methodLink R_FM 166 y_FM_rowIsThere ∈ fm_T := fm_inT (List.mem_append_right _ (List.mem_append_right _ (List.mem_append_right _ (List.mem_append_left _ (List.mem_of_getElem? (i := 40) rfl))))) rfl
theorem q_3_42 : Cond.instanceMethod y_FM_rowIsThere ∈ fm_T := fm_inT (List.mem_append_right _ (List.mem_append_right _ (List.mem_append_right _ (List.mem_append_left _ (List.mem_of_getElem? (i := 42) rfl))))) rfl
theorem q_3_43 : Cond.code y_FM_rowIsThere prog_1_method_16_code 2 (some .boolean) ∈ fm_T := fm_inT (List.mem_append_right _ (List.mem_append_right _ (List.mem_append_right _ (List.mem_append_left _ (List.mem_of_getElem? (i := 43) rfl))))) rfl
theorem q_3_44 : Cond.methodLink R_FM 170 y_LI_lay ∈ fm_T := fm_inT (List.mem_append_right _ (List.mem_append_right _ (List.mem_append_right _ (List.mem_append_left _ (List.mem_of_getElem? (i := 44) rfl))))) rfl
theorem q_3_45 : Cond.instanceMethod y_LI_lay ∈ fm_T := fm_inT (List.mem_append_right _ (List.mem_append_right _ (List.mem_append_right _ (List.mem_append_left _ (List.mem_of_getElem? (i := 45) rfl))))) rfl
theorem q_3_46 : Cond.selects R_LI y_LI_lay y_LI_lay ∈ fm_T := fm_inT (List.mem_append_right _ (List.mem_append_right _ (List.mem_append_right _ (List.mem_append_left _ (List.mem_of_getElem? (i := 46) rfl))))) rfl
theorem q_3_47 : Cond.code y_LI_lay prog_5_method_3_code 5 none ∈ fm_T := fm_inT (List.mem_append_right _ (List.mem_append_right _ (List.mem_append_right _ (List.mem_append_left _ (List.mem_of_getElem? (i := 47) rfl))))) rfl
theorem q_3_48 : Cond.methodLink R_LI 29 y_FO_edge ∈ fm_T := fm_inT (List.mem_append_right _ (List.mem_append_right _ (List.mem_append_right _ (List.mem_append_left _ (List.mem_of_getElem? (i := 48) rfl))))) rfl
theorem q_3_49 : Cond.methodLink R_LI 35 y_LI_push ∈ fm_T := fm_inT (List.mem_append_right _ (List.mem_append_right _ (List.mem_append_right _ (List.mem_append_left _ (List.mem_of_getElem? (i := 49) rfl))))) rfl
theorem q_3_51 : Cond.instanceMethod y_LI_push ∈ fm_T := fm_inT (List.mem_append_right _ (List.mem_append_right _ (List.mem_append_right _ (List.mem_append_left _ (List.mem_of_getElem? (i := 51) rfl))))) rfl
theorem q_3_52 : Cond.code y_LI_push prog_5_method_8_code 2 none ∈ fm_T := fm_inT (List.mem_append_right _ (List.mem_append_right _ (List.mem_append_right _ (List.mem_append_left _ (List.mem_of_getElem? (i := 52) rfl))))) rfl
theorem q_3_53 : Cond.methodLink R_LI 39 (⟨"java/lang/Math", "min", "(II)I"⟩ : MethodName) ∈ fm_T := fm_inT (List.mem_append_right _ (List.mem_append_right _ (List.mem_append_right _ (List.mem_append_left _ (List.mem_of_getElem? (i := 53) rfl))))) rfl
theorem q_3_54 : Cond.methodLink R_LI 45 y_FO_edgeStart ∈ fm_T := fm_inT (List.mem_append_right _ (List.mem_append_right _ (List.mem_append_right _ (List.mem_append_left _ (List.mem_of_getElem? (i := 54) rfl))))) rfl
theorem q_3_55 : Cond.methodLink R_FM 174 y_LI_run ∈ fm_T := fm_inT (List.mem_append_right _ (List.mem_append_right _ (List.mem_append_right _ (List.mem_append_left _ (List.mem_of_getElem? (i := 55) rfl))))) rfl
theorem q_3_56 : Cond.instanceMethod y_LI_run ∈ fm_T := fm_inT (List.mem_append_right _ (List.mem_append_right _ (List.mem_append_right _ (List.mem_append_left _ (List.mem_of_getElem? (i := 56) rfl))))) rfl
theorem q_3_57 : Cond.selects R_LI y_LI_run y_LI_run ∈ fm_T := fm_inT (List.mem_append_right _ (List.mem_append_right _ (List.mem_append_right _ (List.mem_append_left _ (List.mem_of_getElem? (i := 57) rfl))))) rfl
theorem q_3_58 : Cond.code y_LI_run prog_5_method_4_code 3 (some .boolean) ∈ fm_T := fm_inT (List.mem_append_right _ (List.mem_append_right _ (List.mem_append_right _ (List.mem_append_left _ (List.mem_of_getElem? (i := 58) rfl))))) rfl
theorem q_3_59 : Cond.methodLink R_LI 48 y_LI_step ∈ fm_T := fm_inT (List.mem_append_right _ (List.mem_append_right _ (List.mem_append_right _ (List.mem_append_left _ (List.mem_of_getElem? (i := 59) rfl))))) rfl
theorem q_3_61 : Cond.instanceMethod y_LI_step ∈ fm_T := fm_inT (List.mem_append_right _ (List.mem_append_right _ (List.mem_append_right _ (List.mem_append_left _ (List.mem_of_getElem? (i := 61) rfl))))) rfl
theorem q_3_62 : Cond.code y_LI_step prog_5_method_5_code 5 none ∈ fm_T := fm_inT (List.mem_append_right _ (List.mem_append_right _ (List.mem_append_right _ (List.mem_append_left _ (List.mem_of_getElem? (i := 62) rfl))))) rfl
theorem q_3_63 : Cond.methodLink R_LI 58 y_LI_pendingAt ∈ fm_T := fm_inT (List.mem_append_right _ (List.mem_append_right _ (List.mem_append_right _ (List.mem_append_left _ (List.mem_of_getElem? (i := 63) rfl))))) rfl
theorem q_3_65 : Cond.instanceMethod y_LI_pendingAt ∈ fm_T := fm_inT (List.mem_append_right _ (List.mem_append_right _ (List.mem_append_right _ (List.mem_append_left _ (List.mem_of_getElem? (i := 65) rfl))))) rfl
theorem q_3_66 : Cond.code y_LI_pendingAt prog_5_method_9_code 3 (some .int) ∈ fm_T := fm_inT (List.mem_append_right _ (List.mem_append_right _ (List.mem_append_right _ (List.mem_append_left _ (List.mem_of_getElem? (i := 66) rfl))))) rfl
theorem q_3_67 : Cond.methodLink R_LI 62 y_FO_find ∈ fm_T := fm_inT (List.mem_append_right _ (List.mem_append_right _ (List.mem_append_right _ (List.mem_append_left _ (List.mem_of_getElem? (i := 67) rfl))))) rfl
theorem q_3_68 : Cond.methodLink R_LI 55 y_LI_pass ∈ fm_T := fm_inT (List.mem_append_right _ (List.mem_append_right _ (List.mem_append_right _ (List.mem_append_left _ (List.mem_of_getElem? (i := 68) rfl))))) rfl
theorem q_3_70 : Cond.instanceMethod y_LI_pass ∈ fm_T := fm_inT (List.mem_append_right _ (List.mem_append_right _ (List.mem_append_right _ (List.mem_append_left _ (List.mem_of_getElem? (i := 70) rfl))))) rfl
theorem q_3_71 : Cond.code y_LI_pass prog_5_method_7_code 4 none ∈ fm_T := fm_inT (List.mem_append_right _ (List.mem_append_right _ (List.mem_append_right _ (List.mem_append_left _ (List.mem_of_getElem? (i := 71) rfl))))) rfl
theorem q_3_72 : Cond.methodLink R_LI 69 y_LI_append ∈ fm_T := fm_inT (List.mem_append_right _ (List.mem_append_right _ (List.mem_append_right _ (List.mem_append_left _ (List.mem_of_getElem? (i := 72) rfl))))) rfl
theorem q_3_74 : Cond.instanceMethod y_LI_append ∈ fm_T := fm_inT (List.mem_append_right _ (List.mem_append_right _ (List.mem_append_right _ (List.mem_append_left _ (List.mem_of_getElem? (i := 74) rfl))))) rfl
theorem q_3_75 : Cond.code y_LI_append prog_5_method_10_code 3 none ∈ fm_T := fm_inT (List.mem_append_right _ (List.mem_append_right _ (List.mem_append_right _ (List.mem_append_left _ (List.mem_of_getElem? (i := 75) rfl))))) rfl
theorem q_3_76 : Cond.constant R_LI 65 32768 ∈ fm_T := fm_inT (List.mem_append_right _ (List.mem_append_right _ (List.mem_append_right _ (List.mem_append_left _ (List.mem_of_getElem? (i := 76) rfl))))) rfl
theorem q_3_77 : Cond.methodLink R_LI 66 y_FO_kern ∈ fm_T := fm_inT (List.mem_append_right _ (List.mem_append_right _ (List.mem_append_right _ (List.mem_append_left _ (List.mem_of_getElem? (i := 77) rfl))))) rfl
theorem q_3_78 : Cond.instanceMethod y_FO_kern ∈ fm_T := fm_inT (List.mem_append_right _ (List.mem_append_right _ (List.mem_append_right _ (List.mem_append_left _ (List.mem_of_getElem? (i := 78) rfl))))) rfl
theorem q_3_79 : Cond.selects R_FO y_FO_kern y_FO_kern ∈ fm_T := fm_inT (List.mem_append_right _ (List.mem_append_right _ (List.mem_append_right _ (List.mem_append_left _ (List.mem_of_getElem? (i := 79) rfl))))) rfl
theorem q_3_80 : Cond.code y_FO_kern prog_4_method_21_code 2 (some .int) ∈ fm_T := fm_inT (List.mem_append_right _ (List.mem_append_right _ (List.mem_append_right _ (List.mem_append_left _ (List.mem_of_getElem? (i := 80) rfl))))) rfl
theorem q_3_81 : Cond.methodLink R_LI 73 y_LI_join ∈ fm_T := fm_inT (List.mem_append_right _ (List.mem_append_right _ (List.mem_append_right _ (List.mem_append_left _ (List.mem_of_getElem? (i := 81) rfl))))) rfl
theorem q_3_83 : Cond.instanceMethod y_LI_join ∈ fm_T := fm_inT (List.mem_append_right _ (List.mem_append_right _ (List.mem_append_right _ (List.mem_append_left _ (List.mem_of_getElem? (i := 83) rfl))))) rfl
theorem q_3_84 : Cond.code y_LI_join prog_5_method_6_code 5 none ∈ fm_T := fm_inT (List.mem_append_right _ (List.mem_append_right _ (List.mem_append_right _ (List.mem_append_left _ (List.mem_of_getElem? (i := 84) rfl))))) rfl
theorem q_3_85 : Cond.methodLink R_LI 52 y_LI_clear ∈ fm_T := fm_inT (List.mem_append_right _ (List.mem_append_right _ (List.mem_append_right _ (List.mem_append_left _ (List.mem_of_getElem? (i := 85) rfl))))) rfl
theorem q_3_86 : Cond.methodLink R_LW 98 y_LW_isKern ∈ fm_T := fm_inT (List.mem_append_right _ (List.mem_append_right _ (List.mem_append_right _ (List.mem_append_left _ (List.mem_of_getElem? (i := 86) rfl))))) rfl
theorem q_3_87 : Cond.static y_LW_isKern ∈ fm_T := fm_inT (List.mem_append_right _ (List.mem_append_right _ (List.mem_append_right _ (List.mem_append_left _ (List.mem_of_getElem? (i := 87) rfl))))) rfl
theorem q_3_88 : Cond.codeWith y_LW_isKern method_10_code 4 (some .int) [(0, 16, 19, 20)] ∈ fm_T := fm_inT (List.mem_append_right _ (List.mem_append_right _ (List.mem_append_right _ (List.mem_append_left _ (List.mem_of_getElem? (i := 88) rfl))))) rfl
theorem q_3_89 : Cond.methodLink R_LW 39 y_FM_isKern ∈ fm_T := fm_inT (List.mem_append_right _ (List.mem_append_right _ (List.mem_append_right _ (List.mem_append_left _ (List.mem_of_getElem? (i := 89) rfl))))) rfl
theorem q_3_90 : Cond.instanceMethod y_FM_isKern ∈ fm_T := fm_inT (List.mem_append_right _ (List.mem_append_right _ (List.mem_append_right _ (List.mem_append_left _ (List.mem_of_getElem? (i := 90) rfl))))) rfl
theorem q_3_91 : Cond.selects R_FM y_FM_isKern y_FM_isKern ∈ fm_T := fm_inT (List.mem_append_right _ (List.mem_append_right _ (List.mem_append_right _ (List.mem_append_left _ (List.mem_of_getElem? (i := 91) rfl))))) rfl
theorem q_3_92 : Cond.code y_FM_isKern prog_1_method_13_code 2 (some .boolean) ∈ fm_T := fm_inT (List.mem_append_right _ (List.mem_append_right _ (List.mem_append_right _ (List.mem_append_left _ (List.mem_of_getElem? (i := 92) rfl))))) rfl
theorem q_3_93 : Cond.methodLink R_FM 181 y_FM_requireItem ∈ fm_T := fm_inT (List.mem_append_right _ (List.mem_append_right _ (List.mem_append_right _ (List.mem_append_left _ (List.mem_of_getElem? (i := 93) rfl))))) rfl
theorem q_3_95 : Cond.instanceMethod y_FM_requireItem ∈ fm_T := fm_inT (List.mem_append_right _ (List.mem_append_right _ (List.mem_append_right _ (List.mem_append_left _ (List.mem_of_getElem? (i := 95) rfl))))) rfl
theorem q_3_96 : Cond.code y_FM_requireItem prog_1_method_20_code 2 none ∈ fm_T := fm_inT (List.mem_append_right _ (List.mem_append_right _ (List.mem_append_right _ (List.mem_append_left _ (List.mem_of_getElem? (i := 96) rfl))))) rfl
theorem q_3_98 : Cond.methodLink R_FM 184 y_LI_kernAt ∈ fm_T := fm_inT (List.mem_append_right _ (List.mem_append_right _ (List.mem_append_right _ (List.mem_append_left _ (List.mem_of_getElem? (i := 98) rfl))))) rfl
theorem q_3_99 : Cond.methodLink R_LW 101 y_LW_item ∈ fm_T := fm_inT (List.mem_append_right _ (List.mem_append_right _ (List.mem_append_right _ (List.mem_append_left _ (List.mem_of_getElem? (i := 99) rfl))))) rfl
theorem q_3_100 : Cond.static y_LW_item ∈ fm_T := fm_inT (List.mem_append_right _ (List.mem_append_right _ (List.mem_append_right _ (List.mem_append_left _ (List.mem_of_getElem? (i := 100) rfl))))) rfl
theorem q_3_101 : Cond.codeWith y_LW_item method_11_code 4 (some .int) [(0, 9, 12, 20)] ∈ fm_T := fm_inT (List.mem_append_right _ (List.mem_append_right _ (List.mem_append_right _ (List.mem_append_left _ (List.mem_of_getElem? (i := 101) rfl))))) rfl
theorem q_3_102 : Cond.methodLink R_LW 43 y_FM_item ∈ fm_T := fm_inT (List.mem_append_right _ (List.mem_append_right _ (List.mem_append_right _ (List.mem_append_left _ (List.mem_of_getElem? (i := 102) rfl))))) rfl
theorem q_3_103 : Cond.instanceMethod y_FM_item ∈ fm_T := fm_inT (List.mem_append_right _ (List.mem_append_right _ (List.mem_append_right _ (List.mem_append_left _ (List.mem_of_getElem? (i := 103) rfl))))) rfl
theorem q_3_104 : Cond.selects R_FM y_FM_item y_FM_item ∈ fm_T := fm_inT (List.mem_append_right _ (List.mem_append_right _ (List.mem_append_right _ (List.mem_append_left _ (List.mem_of_getElem? (i := 104) rfl))))) rfl
theorem q_3_105 : Cond.code y_FM_item prog_1_method_14_code 2 (some .int) ∈ fm_T := fm_inT (List.mem_append_right _ (List.mem_append_right _ (List.mem_append_right _ (List.mem_append_left _ (List.mem_of_getElem? (i := 105) rfl))))) rfl
theorem q_3_106 : Cond.methodLink R_FM 187 y_LI_valueAt ∈ fm_T := fm_inT (List.mem_append_right _ (List.mem_append_right _ (List.mem_append_right _ (List.mem_append_left _ (List.mem_of_getElem? (i := 106) rfl))))) rfl
theorem q_3_107 : Cond.classLink R_LW 47 "FontMetricsModel" ∈ fm_T := fm_inT (List.mem_append_right _ (List.mem_append_right _ (List.mem_append_right _ (List.mem_append_left _ (List.mem_of_getElem? (i := 107) rfl))))) rfl
theorem q_3_108 : Cond.instantiable R_MO 11 ∈ fm_T := fm_inT (List.mem_append_right _ (List.mem_append_right _ (List.mem_append_right _ (List.mem_append_left _ (List.mem_of_getElem? (i := 108) rfl))))) rfl
theorem q_3_109 : Cond.methodLink R_LW 49 y_MO_init ∈ fm_T := fm_inT (List.mem_append_right _ (List.mem_append_right _ (List.mem_append_right _ (List.mem_append_left _ (List.mem_of_getElem? (i := 109) rfl))))) rfl
theorem q_3_110 : Cond.instanceMethod y_MO_init ∈ fm_T := fm_inT (List.mem_append_right _ (List.mem_append_right _ (List.mem_append_right _ (List.mem_append_left _ (List.mem_of_getElem? (i := 110) rfl))))) rfl
theorem q_3_111 : Cond.code y_MO_init prog_7_method_1_code 1 none ∈ fm_T := fm_inT (List.mem_append_right _ (List.mem_append_right _ (List.mem_append_right _ (List.mem_append_left _ (List.mem_of_getElem? (i := 111) rfl))))) rfl
theorem q_3_112 : Cond.methodLink R_MO 1 (⟨"java/lang/Object", "<init>", "()V"⟩ : MethodName) ∈ fm_T := fm_inT (List.mem_append_right _ (List.mem_append_right _ (List.mem_append_right _ (List.mem_append_left _ (List.mem_of_getElem? (i := 112) rfl))))) rfl
theorem q_3_113 : Cond.fieldLink R_MO 26 "FontMetricsModel" "thrown" "I" ∈ fm_T := fm_inT (List.mem_append_right _ (List.mem_append_right _ (List.mem_append_right _ (List.mem_append_left _ (List.mem_of_getElem? (i := 113) rfl))))) rfl
theorem q_3_114 : Cond.fieldLink R_MO 7 "FontMetricsModel" "file" "[B" ∈ fm_T := fm_inT (List.mem_append_right _ (List.mem_append_right _ (List.mem_append_right _ (List.mem_append_left _ (List.mem_of_getElem? (i := 114) rfl))))) rfl
theorem q_3_115 : Cond.fieldLink R_MO 30 "FontMetricsModel" "fileSize" "I" ∈ fm_T := fm_inT (List.mem_append_right _ (List.mem_append_right _ (List.mem_append_right _ (List.mem_append_left _ (List.mem_of_getElem? (i := 115) rfl))))) rfl
theorem q_3_116 : Cond.fieldLink R_MO 13 "FontMetricsModel" "font" "[B" ∈ fm_T := fm_inT (List.mem_append_right _ (List.mem_append_right _ (List.mem_append_right _ (List.mem_append_left _ (List.mem_of_getElem? (i := 116) rfl))))) rfl
theorem q_3_117 : Cond.fieldLink R_MO 103 "FontMetricsModel" "loaded" "Z" ∈ fm_T := fm_inT (List.mem_append_right _ (List.mem_append_right _ (List.mem_append_right _ (List.mem_append_left _ (List.mem_of_getElem? (i := 117) rfl))))) rfl
theorem q_3_118 : Cond.fieldLink R_MO 107 "FontMetricsModel" "size" "I" ∈ fm_T := fm_inT (List.mem_append_right _ (List.mem_append_right _ (List.mem_append_right _ (List.mem_append_left _ (List.mem_of_getElem? (i := 118) rfl))))) rfl
theorem q_3_119 : Cond.fieldLink R_MO 16 "FontMetricsModel" "row" "[B" ∈ fm_T := fm_inT (List.mem_append_right _ (List.mem_append_right _ (List.mem_append_right _ (List.mem_append_left _ (List.mem_of_getElem? (i := 119) rfl))))) rfl
theorem q_3_120 : Cond.fieldLink R_MO 138 "FontMetricsModel" "rowSize" "I" ∈ fm_T := fm_inT (List.mem_append_right _ (List.mem_append_right _ (List.mem_append_right _ (List.mem_append_left _ (List.mem_of_getElem? (i := 120) rfl))))) rfl
theorem q_3_121 : Cond.fieldLink R_MO 19 "FontMetricsModel" "kinds" "[I" ∈ fm_T := fm_inT (List.mem_append_right _ (List.mem_append_right _ (List.mem_append_right _ (List.mem_append_left _ (List.mem_of_getElem? (i := 121) rfl))))) rfl
theorem q_3_122 : Cond.fieldLink R_MO 23 "FontMetricsModel" "wide" "[I" ∈ fm_T := fm_inT (List.mem_append_right _ (List.mem_append_right _ (List.mem_append_right _ (List.mem_append_left _ (List.mem_of_getElem? (i := 122) rfl))))) rfl
theorem q_3_123 : Cond.fieldLink R_MO 110 "FontMetricsModel" "count" "I" ∈ fm_T := fm_inT (List.mem_append_right _ (List.mem_append_right _ (List.mem_append_right _ (List.mem_append_left _ (List.mem_of_getElem? (i := 123) rfl))))) rfl
theorem q_3_124 : Cond.lays R_MO "FontMetricsModel" "thrown" "I" ∈ fm_T := fm_inT (List.mem_append_right _ (List.mem_append_right _ (List.mem_append_right _ (List.mem_append_left _ (List.mem_of_getElem? (i := 124) rfl))))) rfl
theorem q_3_126 : Cond.laysFinal R_MO "FontMetricsModel" "file" "[B" ∈ fm_T := fm_inT (List.mem_append_right _ (List.mem_append_right _ (List.mem_append_right _ (List.mem_append_left _ (List.mem_of_getElem? (i := 126) rfl))))) rfl
theorem q_3_128 : Cond.lays R_MO "FontMetricsModel" "fileSize" "I" ∈ fm_T := fm_inT (List.mem_append_right _ (List.mem_append_right _ (List.mem_append_right _ (List.mem_append_left _ (List.mem_of_getElem? (i := 128) rfl))))) rfl
theorem q_3_130 : Cond.laysFinal R_MO "FontMetricsModel" "font" "[B" ∈ fm_T := fm_inT (List.mem_append_right _ (List.mem_append_right _ (List.mem_append_right _ (List.mem_append_left _ (List.mem_of_getElem? (i := 130) rfl))))) rfl
theorem q_3_132 : Cond.lays R_MO "FontMetricsModel" "loaded" "Z" ∈ fm_T := fm_inT (List.mem_append_right _ (List.mem_append_right _ (List.mem_append_right _ (List.mem_append_left _ (List.mem_of_getElem? (i := 132) rfl))))) rfl
theorem q_3_134 : Cond.lays R_MO "FontMetricsModel" "size" "I" ∈ fm_T := fm_inT (List.mem_append_right _ (List.mem_append_right _ (List.mem_append_right _ (List.mem_append_left _ (List.mem_of_getElem? (i := 134) rfl))))) rfl
theorem q_3_136 : Cond.laysFinal R_MO "FontMetricsModel" "row" "[B" ∈ fm_T := fm_inT (List.mem_append_right _ (List.mem_append_right _ (List.mem_append_right _ (List.mem_append_left _ (List.mem_of_getElem? (i := 136) rfl))))) rfl
theorem q_3_138 : Cond.lays R_MO "FontMetricsModel" "rowSize" "I" ∈ fm_T := fm_inT (List.mem_append_right _ (List.mem_append_right _ (List.mem_append_right _ (List.mem_append_left _ (List.mem_of_getElem? (i := 138) rfl))))) rfl
theorem q_3_140 : Cond.laysFinal R_MO "FontMetricsModel" "kinds" "[I" ∈ fm_T := fm_inT (List.mem_append_right _ (List.mem_append_right _ (List.mem_append_right _ (List.mem_append_left _ (List.mem_of_getElem? (i := 140) rfl))))) rfl
theorem q_3_142 : Cond.laysFinal R_MO "FontMetricsModel" "wide" "[I" ∈ fm_T := fm_inT (List.mem_append_right _ (List.mem_append_right _ (List.mem_append_right _ (List.mem_append_left _ (List.mem_of_getElem? (i := 142) rfl))))) rfl
theorem q_3_144 : Cond.lays R_MO "FontMetricsModel" "count" "I" ∈ fm_T := fm_inT (List.mem_append_right _ (List.mem_append_right _ (List.mem_append_right _ (List.mem_append_left _ (List.mem_of_getElem? (i := 144) rfl))))) rfl
theorem q_3_147 : Cond.methodLink R_LW 67 y_MO_thrown ∈ fm_T := fm_inT (List.mem_append_right _ (List.mem_append_right _ (List.mem_append_right _ (List.mem_append_left _ (List.mem_of_getElem? (i := 147) rfl))))) rfl
theorem q_3_148 : Cond.instanceMethod y_MO_thrown ∈ fm_T := fm_inT (List.mem_append_right _ (List.mem_append_right _ (List.mem_append_right _ (List.mem_append_left _ (List.mem_of_getElem? (i := 148) rfl))))) rfl
theorem q_3_149 : Cond.selects R_MO y_MO_thrown y_MO_thrown ∈ fm_T := fm_inT (List.mem_append_right _ (List.mem_append_right _ (List.mem_append_right _ (List.mem_append_left _ (List.mem_of_getElem? (i := 149) rfl))))) rfl
theorem q_3_150 : Cond.code y_MO_thrown prog_7_method_2_code 1 (some .int) ∈ fm_T := fm_inT (List.mem_append_right _ (List.mem_append_right _ (List.mem_append_right _ (List.mem_append_left _ (List.mem_of_getElem? (i := 150) rfl))))) rfl
theorem q_3_151 : Cond.methodLink R_LW 56 y_MO_feed ∈ fm_T := fm_inT (List.mem_append_right _ (List.mem_append_right _ (List.mem_append_right _ (List.mem_append_left _ (List.mem_of_getElem? (i := 151) rfl))))) rfl
theorem q_3_152 : Cond.instanceMethod y_MO_feed ∈ fm_T := fm_inT (List.mem_append_right _ (List.mem_append_right _ (List.mem_append_right _ (List.mem_append_left _ (List.mem_of_getElem? (i := 152) rfl))))) rfl
theorem q_3_153 : Cond.selects R_MO y_MO_feed y_MO_feed ∈ fm_T := fm_inT (List.mem_append_right _ (List.mem_append_right _ (List.mem_append_right _ (List.mem_append_left _ (List.mem_of_getElem? (i := 153) rfl))))) rfl
theorem q_3_154 : Cond.code y_MO_feed prog_7_method_3_code 5 (some .boolean) ∈ fm_T := fm_inT (List.mem_append_right _ (List.mem_append_right _ (List.mem_append_right _ (List.mem_append_left _ (List.mem_of_getElem? (i := 154) rfl))))) rfl
theorem q_3_155 : Cond.methodLink R_LW 60 y_MO_keep ∈ fm_T := fm_inT (List.mem_append_right _ (List.mem_append_right _ (List.mem_append_right _ (List.mem_append_left _ (List.mem_of_getElem? (i := 155) rfl))))) rfl
theorem q_3_156 : Cond.instanceMethod y_MO_keep ∈ fm_T := fm_inT (List.mem_append_right _ (List.mem_append_right _ (List.mem_append_right _ (List.mem_append_left _ (List.mem_of_getElem? (i := 156) rfl))))) rfl
theorem q_3_157 : Cond.selects R_MO y_MO_keep y_MO_keep ∈ fm_T := fm_inT (List.mem_append_right _ (List.mem_append_right _ (List.mem_append_right _ (List.mem_append_left _ (List.mem_of_getElem? (i := 157) rfl))))) rfl
theorem q_3_158 : Cond.code y_MO_keep prog_7_method_4_code 2 (some .boolean) ∈ fm_T := fm_inT (List.mem_append_right _ (List.mem_append_right _ (List.mem_append_right _ (List.mem_append_left _ (List.mem_of_getElem? (i := 158) rfl))))) rfl
theorem q_3_159 : Cond.methodLink R_LW 66 y_MO_load ∈ fm_T := fm_inT (List.mem_append_right _ (List.mem_append_right _ (List.mem_append_right _ (List.mem_append_left _ (List.mem_of_getElem? (i := 159) rfl))))) rfl
theorem q_3_160 : Cond.instanceMethod y_MO_load ∈ fm_T := fm_inT (List.mem_append_right _ (List.mem_append_right _ (List.mem_append_right _ (List.mem_append_left _ (List.mem_of_getElem? (i := 160) rfl))))) rfl
theorem q_3_161 : Cond.selects R_MO y_MO_load y_MO_load ∈ fm_T := fm_inT (List.mem_append_right _ (List.mem_append_right _ (List.mem_append_right _ (List.mem_append_left _ (List.mem_of_getElem? (i := 161) rfl))))) rfl
theorem q_3_162 : Cond.code y_MO_load prog_7_method_26_code 4 (some .int) ∈ fm_T := fm_inT (List.mem_append_right _ (List.mem_append_right _ (List.mem_append_right _ (List.mem_append_left _ (List.mem_of_getElem? (i := 162) rfl))))) rfl
theorem q_3_163 : Cond.constant R_MO 98 134217727 ∈ fm_T := fm_inT (List.mem_append_right _ (List.mem_append_right _ (List.mem_append_right _ (List.mem_append_left _ (List.mem_of_getElem? (i := 163) rfl))))) rfl
theorem q_3_164 : Cond.methodLink R_MO 99 y_MO_fault ∈ fm_T := fm_inT (List.mem_append_right _ (List.mem_append_right _ (List.mem_append_right _ (List.mem_append_left _ (List.mem_of_getElem? (i := 164) rfl))))) rfl
theorem q_3_166 : Cond.instanceMethod y_MO_fault ∈ fm_T := fm_inT (List.mem_append_right _ (List.mem_append_right _ (List.mem_append_right _ (List.mem_append_left _ (List.mem_of_getElem? (i := 166) rfl))))) rfl
theorem q_3_167 : Cond.code y_MO_fault prog_7_method_25_code 4 (some .int) ∈ fm_T := fm_inT (List.mem_append_right _ (List.mem_append_right _ (List.mem_append_right _ (List.mem_append_left _ (List.mem_of_getElem? (i := 167) rfl))))) rfl
theorem q_3_168 : Cond.methodLink R_MO 74 y_MO_areNumbersSmall ∈ fm_T := fm_inT (List.mem_append_right _ (List.mem_append_right _ (List.mem_append_right _ (List.mem_append_left _ (List.mem_of_getElem? (i := 168) rfl))))) rfl
theorem q_3_170 : Cond.instanceMethod y_MO_areNumbersSmall ∈ fm_T := fm_inT (List.mem_append_right _ (List.mem_append_right _ (List.mem_append_right _ (List.mem_append_left _ (List.mem_of_getElem? (i := 170) rfl))))) rfl
theorem q_3_171 : Cond.code y_MO_areNumbersSmall prog_7_method_15_code 3 (some .boolean) ∈ fm_T := fm_inT (List.mem_append_right _ (List.mem_append_right _ (List.mem_append_right _ (List.mem_append_left _ (List.mem_of_getElem? (i := 171) rfl))))) rfl
theorem q_3_172 : Cond.methodLink R_MO 33 y_MO_half ∈ fm_T := fm_inT (List.mem_append_right _ (List.mem_append_right _ (List.mem_append_right _ (List.mem_append_left _ (List.mem_of_getElem? (i := 172) rfl))))) rfl
theorem q_3_173 : Cond.static y_MO_half ∈ fm_T := fm_inT (List.mem_append_right _ (List.mem_append_right _ (List.mem_append_right _ (List.mem_append_left _ (List.mem_of_getElem? (i := 173) rfl))))) rfl
theorem q_3_174 : Cond.code y_MO_half prog_7_method_5_code 2 (some .int) ∈ fm_T := fm_inT (List.mem_append_right _ (List.mem_append_right _ (List.mem_append_right _ (List.mem_append_left _ (List.mem_of_getElem? (i := 174) rfl))))) rfl
theorem q_3_175 : Cond.methodLink R_MO 37 y_MO_words ∈ fm_T := fm_inT (List.mem_append_right _ (List.mem_append_right _ (List.mem_append_right _ (List.mem_append_left _ (List.mem_of_getElem? (i := 175) rfl))))) rfl
theorem q_3_176 : Cond.static y_MO_words ∈ fm_T := fm_inT (List.mem_append_right _ (List.mem_append_right _ (List.mem_append_right _ (List.mem_append_left _ (List.mem_of_getElem? (i := 176) rfl))))) rfl
theorem q_3_177 : Cond.code y_MO_words prog_7_method_6_code 2 (some .int) ∈ fm_T := fm_inT (List.mem_append_right _ (List.mem_append_right _ (List.mem_append_right _ (List.mem_append_left _ (List.mem_of_getElem? (i := 177) rfl))))) rfl
theorem q_3_178 : Cond.methodLink R_MO 40 y_MO_start ∈ fm_T := fm_inT (List.mem_append_right _ (List.mem_append_right _ (List.mem_append_right _ (List.mem_append_left _ (List.mem_of_getElem? (i := 178) rfl))))) rfl
theorem q_3_179 : Cond.static y_MO_start ∈ fm_T := fm_inT (List.mem_append_right _ (List.mem_append_right _ (List.mem_append_right _ (List.mem_append_left _ (List.mem_of_getElem? (i := 179) rfl))))) rfl
theorem q_3_180 : Cond.code y_MO_start prog_7_method_7_code 4 (some .int) ∈ fm_T := fm_inT (List.mem_append_right _ (List.mem_append_right _ (List.mem_append_right _ (List.mem_append_left _ (List.mem_of_getElem? (i := 180) rfl))))) rfl
theorem q_3_181 : Cond.methodLink R_MO 78 y_MO_designOf ∈ fm_T := fm_inT (List.mem_append_right _ (List.mem_append_right _ (List.mem_append_right _ (List.mem_append_left _ (List.mem_of_getElem? (i := 181) rfl))))) rfl
theorem q_3_182 : Cond.static y_MO_designOf ∈ fm_T := fm_inT (List.mem_append_right _ (List.mem_append_right _ (List.mem_append_right _ (List.mem_append_left _ (List.mem_of_getElem? (i := 182) rfl))))) rfl
theorem q_3_183 : Cond.code y_MO_designOf prog_7_method_24_code 3 (some .int) ∈ fm_T := fm_inT (List.mem_append_right _ (List.mem_append_right _ (List.mem_append_right _ (List.mem_append_left _ (List.mem_of_getElem? (i := 183) rfl))))) rfl
theorem q_3_184 : Cond.methodLink R_MO 43 y_MO_at ∈ fm_T := fm_inT (List.mem_append_right _ (List.mem_append_right _ (List.mem_append_right _ (List.mem_append_left _ (List.mem_of_getElem? (i := 184) rfl))))) rfl
theorem q_3_185 : Cond.static y_MO_at ∈ fm_T := fm_inT (List.mem_append_right _ (List.mem_append_right _ (List.mem_append_right _ (List.mem_append_left _ (List.mem_of_getElem? (i := 185) rfl))))) rfl
theorem q_3_186 : Cond.code y_MO_at prog_7_method_8_code 4 (some .int) ∈ fm_T := fm_inT (List.mem_append_right _ (List.mem_append_right _ (List.mem_append_right _ (List.mem_append_left _ (List.mem_of_getElem? (i := 186) rfl))))) rfl
theorem q_3_187 : Cond.constant R_MO 81 1048576 ∈ fm_T := fm_inT (List.mem_append_right _ (List.mem_append_right _ (List.mem_append_right _ (List.mem_append_left _ (List.mem_of_getElem? (i := 187) rfl))))) rfl
theorem q_3_188 : Cond.methodLink R_MO 82 y_MO_areSizesRight ∈ fm_T := fm_inT (List.mem_append_right _ (List.mem_append_right _ (List.mem_append_right _ (List.mem_append_left _ (List.mem_of_getElem? (i := 188) rfl))))) rfl
theorem q_3_189 : Cond.static y_MO_areSizesRight ∈ fm_T := fm_inT (List.mem_append_right _ (List.mem_append_right _ (List.mem_append_right _ (List.mem_append_left _ (List.mem_of_getElem? (i := 189) rfl))))) rfl
theorem q_3_190 : Cond.code y_MO_areSizesRight prog_7_method_16_code 3 (some .boolean) ∈ fm_T := fm_inT (List.mem_append_right _ (List.mem_append_right _ (List.mem_append_right _ (List.mem_append_left _ (List.mem_of_getElem? (i := 190) rfl))))) rfl
theorem q_3_191 : Cond.methodLink R_MO 86 y_MO_areTagsRight ∈ fm_T := fm_inT (List.mem_append_right _ (List.mem_append_right _ (List.mem_append_right _ (List.mem_append_left _ (List.mem_of_getElem? (i := 191) rfl))))) rfl
theorem q_3_192 : Cond.static y_MO_areTagsRight ∈ fm_T := fm_inT (List.mem_append_right _ (List.mem_append_right _ (List.mem_append_right _ (List.mem_append_left _ (List.mem_of_getElem? (i := 192) rfl))))) rfl
theorem q_3_193 : Cond.code y_MO_areTagsRight prog_7_method_18_code 4 (some .boolean) ∈ fm_T := fm_inT (List.mem_append_right _ (List.mem_append_right _ (List.mem_append_right _ (List.mem_append_left _ (List.mem_of_getElem? (i := 193) rfl))))) rfl
theorem q_3_194 : Cond.methodLink R_MO 53 y_MO_isThere ∈ fm_T := fm_inT (List.mem_append_right _ (List.mem_append_right _ (List.mem_append_right _ (List.mem_append_left _ (List.mem_of_getElem? (i := 194) rfl))))) rfl
theorem q_3_195 : Cond.static y_MO_isThere ∈ fm_T := fm_inT (List.mem_append_right _ (List.mem_append_right _ (List.mem_append_right _ (List.mem_append_left _ (List.mem_of_getElem? (i := 195) rfl))))) rfl
theorem q_3_196 : Cond.code y_MO_isThere prog_7_method_10_code 2 (some .boolean) ∈ fm_T := fm_inT (List.mem_append_right _ (List.mem_append_right _ (List.mem_append_right _ (List.mem_append_left _ (List.mem_of_getElem? (i := 196) rfl))))) rfl
theorem q_3_197 : Cond.methodLink R_MO 57 y_MO_tag ∈ fm_T := fm_inT (List.mem_append_right _ (List.mem_append_right _ (List.mem_append_right _ (List.mem_append_left _ (List.mem_of_getElem? (i := 197) rfl))))) rfl
theorem q_3_198 : Cond.static y_MO_tag ∈ fm_T := fm_inT (List.mem_append_right _ (List.mem_append_right _ (List.mem_append_right _ (List.mem_append_left _ (List.mem_of_getElem? (i := 198) rfl))))) rfl
theorem q_3_199 : Cond.code y_MO_tag prog_7_method_11_code 2 (some .int) ∈ fm_T := fm_inT (List.mem_append_right _ (List.mem_append_right _ (List.mem_append_right _ (List.mem_append_left _ (List.mem_of_getElem? (i := 199) rfl))))) rfl
theorem q_3_200 : Cond.methodLink R_MO 50 y_MO_rest ∈ fm_T := fm_inT (List.mem_append_right _ (List.mem_append_right _ (List.mem_append_right _ (List.mem_append_left _ (List.mem_of_getElem? (i := 200) rfl))))) rfl
theorem q_3_201 : Cond.static y_MO_rest ∈ fm_T := fm_inT (List.mem_append_right _ (List.mem_append_right _ (List.mem_append_right _ (List.mem_append_left _ (List.mem_of_getElem? (i := 201) rfl))))) rfl
theorem q_3_202 : Cond.code y_MO_rest prog_7_method_12_code 2 (some .int) ∈ fm_T := fm_inT (List.mem_append_right _ (List.mem_append_right _ (List.mem_append_right _ (List.mem_append_left _ (List.mem_of_getElem? (i := 202) rfl))))) rfl
theorem q_3_203 : Cond.methodLink R_MO 60 y_MO_isLargerRight ∈ fm_T := fm_inT (List.mem_append_right _ (List.mem_append_right _ (List.mem_append_right _ (List.mem_append_left _ (List.mem_of_getElem? (i := 203) rfl))))) rfl
theorem q_3_204 : Cond.static y_MO_isLargerRight ∈ fm_T := fm_inT (List.mem_append_right _ (List.mem_append_right _ (List.mem_append_right _ (List.mem_append_left _ (List.mem_of_getElem? (i := 204) rfl))))) rfl
theorem q_3_205 : Cond.code y_MO_isLargerRight prog_7_method_17_code 4 (some .boolean) ∈ fm_T := fm_inT (List.mem_append_right _ (List.mem_append_right _ (List.mem_append_right _ (List.mem_append_left _ (List.mem_of_getElem? (i := 205) rfl))))) rfl
theorem q_3_206 : Cond.methodLink R_MO 89 y_MO_areTablesRight ∈ fm_T := fm_inT (List.mem_append_right _ (List.mem_append_right _ (List.mem_append_right _ (List.mem_append_left _ (List.mem_of_getElem? (i := 206) rfl))))) rfl
theorem q_3_207 : Cond.static y_MO_areTablesRight ∈ fm_T := fm_inT (List.mem_append_right _ (List.mem_append_right _ (List.mem_append_right _ (List.mem_append_left _ (List.mem_of_getElem? (i := 207) rfl))))) rfl
theorem q_3_208 : Cond.code y_MO_areTablesRight prog_7_method_20_code 4 (some .boolean) ∈ fm_T := fm_inT (List.mem_append_right _ (List.mem_append_right _ (List.mem_append_right _ (List.mem_append_left _ (List.mem_of_getElem? (i := 208) rfl))))) rfl
theorem q_3_209 : Cond.methodLink R_MO 63 y_MO_areFractions ∈ fm_T := fm_inT (List.mem_append_right _ (List.mem_append_right _ (List.mem_append_right _ (List.mem_append_left _ (List.mem_of_getElem? (i := 209) rfl))))) rfl
theorem q_3_210 : Cond.static y_MO_areFractions ∈ fm_T := fm_inT (List.mem_append_right _ (List.mem_append_right _ (List.mem_append_right _ (List.mem_append_left _ (List.mem_of_getElem? (i := 210) rfl))))) rfl
theorem q_3_211 : Cond.code y_MO_areFractions prog_7_method_19_code 5 (some .boolean) ∈ fm_T := fm_inT (List.mem_append_right _ (List.mem_append_right _ (List.mem_append_right _ (List.mem_append_left _ (List.mem_of_getElem? (i := 211) rfl))))) rfl
theorem q_3_212 : Cond.methodLink R_MO 92 y_MO_isProgramRight ∈ fm_T := fm_inT (List.mem_append_right _ (List.mem_append_right _ (List.mem_append_right _ (List.mem_append_left _ (List.mem_of_getElem? (i := 212) rfl))))) rfl
theorem q_3_213 : Cond.static y_MO_isProgramRight ∈ fm_T := fm_inT (List.mem_append_right _ (List.mem_append_right _ (List.mem_append_right _ (List.mem_append_left _ (List.mem_of_getElem? (i := 213) rfl))))) rfl
theorem q_3_214 : Cond.code y_MO_isProgramRight prog_7_method_22_code 3 (some .boolean) ∈ fm_T := fm_inT (List.mem_append_right _ (List.mem_append_right _ (List.mem_append_right _ (List.mem_append_left _ (List.mem_of_getElem? (i := 214) rfl))))) rfl
theorem q_3_215 : Cond.methodLink R_MO 71 y_MO_isWordRight ∈ fm_T := fm_inT (List.mem_append_right _ (List.mem_append_right _ (List.mem_append_right _ (List.mem_append_left _ (List.mem_of_getElem? (i := 215) rfl))))) rfl
theorem q_3_216 : Cond.static y_MO_isWordRight ∈ fm_T := fm_inT (List.mem_append_right _ (List.mem_append_right _ (List.mem_append_right _ (List.mem_append_left _ (List.mem_of_getElem? (i := 216) rfl))))) rfl
theorem q_3_217 : Cond.code y_MO_isWordRight prog_7_method_21_code 7 (some .boolean) ∈ fm_T := fm_inT (List.mem_append_right _ (List.mem_append_right _ (List.mem_append_right _ (List.mem_append_left _ (List.mem_of_getElem? (i := 217) rfl))))) rfl
theorem q_3_218 : Cond.methodLink R_MO 47 y_MO_far ∈ fm_T := fm_inT (List.mem_append_right _ (List.mem_append_right _ (List.mem_append_right _ (List.mem_append_left _ (List.mem_of_getElem? (i := 218) rfl))))) rfl
theorem q_3_219 : Cond.static y_MO_far ∈ fm_T := fm_inT (List.mem_append_right _ (List.mem_append_right _ (List.mem_append_right _ (List.mem_append_left _ (List.mem_of_getElem? (i := 219) rfl))))) rfl
theorem q_3_220 : Cond.code y_MO_far prog_7_method_9_code 2 (some .int) ∈ fm_T := fm_inT (List.mem_append_right _ (List.mem_append_right _ (List.mem_append_right _ (List.mem_append_left _ (List.mem_of_getElem? (i := 220) rfl))))) rfl
theorem q_3_221 : Cond.methodLink R_MO 67 y_MO_edgeOf ∈ fm_T := fm_inT (List.mem_append_right _ (List.mem_append_right _ (List.mem_append_right _ (List.mem_append_left _ (List.mem_of_getElem? (i := 221) rfl))))) rfl
theorem q_3_222 : Cond.static y_MO_edgeOf ∈ fm_T := fm_inT (List.mem_append_right _ (List.mem_append_right _ (List.mem_append_right _ (List.mem_append_left _ (List.mem_of_getElem? (i := 222) rfl))))) rfl
theorem q_3_223 : Cond.code y_MO_edgeOf prog_7_method_13_code 1 (some .int) ∈ fm_T := fm_inT (List.mem_append_right _ (List.mem_append_right _ (List.mem_append_right _ (List.mem_append_left _ (List.mem_of_getElem? (i := 223) rfl))))) rfl
theorem q_3_224 : Cond.methodLink R_MO 95 y_MO_areRecipesRight ∈ fm_T := fm_inT (List.mem_append_right _ (List.mem_append_right _ (List.mem_append_right _ (List.mem_append_left _ (List.mem_of_getElem? (i := 224) rfl))))) rfl
theorem q_3_225 : Cond.static y_MO_areRecipesRight ∈ fm_T := fm_inT (List.mem_append_right _ (List.mem_append_right _ (List.mem_append_right _ (List.mem_append_left _ (List.mem_of_getElem? (i := 225) rfl))))) rfl
theorem q_3_226 : Cond.code y_MO_areRecipesRight prog_7_method_23_code 4 (some .boolean) ∈ fm_T := fm_inT (List.mem_append_right _ (List.mem_append_right _ (List.mem_append_right _ (List.mem_append_left _ (List.mem_of_getElem? (i := 226) rfl))))) rfl
theorem q_3_227 : Cond.methodLink R_LW 72 y_MO_about ∈ fm_T := fm_inT (List.mem_append_right _ (List.mem_append_right _ (List.mem_append_right _ (List.mem_append_left _ (List.mem_of_getElem? (i := 227) rfl))))) rfl
theorem q_3_228 : Cond.instanceMethod y_MO_about ∈ fm_T := fm_inT (List.mem_append_right _ (List.mem_append_right _ (List.mem_append_right _ (List.mem_append_left _ (List.mem_of_getElem? (i := 228) rfl))))) rfl
theorem q_3_229 : Cond.selects R_MO y_MO_about y_MO_about ∈ fm_T := fm_inT (List.mem_append_right _ (List.mem_append_right _ (List.mem_append_right _ (List.mem_append_left _ (List.mem_of_getElem? (i := 229) rfl))))) rfl
theorem q_3_230 : Cond.code y_MO_about prog_7_method_28_code 2 (some .int) ∈ fm_T := fm_inT (List.mem_append_right _ (List.mem_append_right _ (List.mem_append_right _ (List.mem_append_left _ (List.mem_of_getElem? (i := 230) rfl))))) rfl
theorem q_3_231 : Cond.methodLink R_MO 121 y_MO_edgeProgram ∈ fm_T := fm_inT (List.mem_append_right _ (List.mem_append_right _ (List.mem_append_right _ (List.mem_append_left _ (List.mem_of_getElem? (i := 231) rfl))))) rfl
theorem q_3_232 : Cond.static y_MO_edgeProgram ∈ fm_T := fm_inT (List.mem_append_right _ (List.mem_append_right _ (List.mem_append_right _ (List.mem_append_left _ (List.mem_of_getElem? (i := 232) rfl))))) rfl
theorem q_3_233 : Cond.code y_MO_edgeProgram prog_7_method_14_code 2 (some .int) ∈ fm_T := fm_inT (List.mem_append_right _ (List.mem_append_right _ (List.mem_append_right _ (List.mem_append_left _ (List.mem_of_getElem? (i := 233) rfl))))) rfl
theorem q_3_234 : Cond.methodLink R_LW 76 y_MO_has ∈ fm_T := fm_inT (List.mem_append_right _ (List.mem_append_right _ (List.mem_append_right _ (List.mem_append_left _ (List.mem_of_getElem? (i := 234) rfl))))) rfl
theorem q_3_235 : Cond.instanceMethod y_MO_has ∈ fm_T := fm_inT (List.mem_append_right _ (List.mem_append_right _ (List.mem_append_right _ (List.mem_append_left _ (List.mem_of_getElem? (i := 235) rfl))))) rfl
theorem q_3_236 : Cond.selects R_MO y_MO_has y_MO_has ∈ fm_T := fm_inT (List.mem_append_right _ (List.mem_append_right _ (List.mem_append_right _ (List.mem_append_left _ (List.mem_of_getElem? (i := 236) rfl))))) rfl
theorem q_3_237 : Cond.code y_MO_has prog_7_method_29_code 2 (some .boolean) ∈ fm_T := fm_inT (List.mem_append_right _ (List.mem_append_right _ (List.mem_append_right _ (List.mem_append_left _ (List.mem_of_getElem? (i := 237) rfl))))) rfl
theorem q_3_238 : Cond.methodLink R_LW 80 y_MO_of ∈ fm_T := fm_inT (List.mem_append_right _ (List.mem_append_right _ (List.mem_append_right _ (List.mem_append_left _ (List.mem_of_getElem? (i := 238) rfl))))) rfl
theorem q_3_239 : Cond.instanceMethod y_MO_of ∈ fm_T := fm_inT (List.mem_append_right _ (List.mem_append_right _ (List.mem_append_right _ (List.mem_append_left _ (List.mem_of_getElem? (i := 239) rfl))))) rfl
theorem q_4_0 : Cond.selects R_MO y_MO_of y_MO_of ∈ fm_T := fm_inT (List.mem_append_right _ (List.mem_append_right _ (List.mem_append_right _ (List.mem_append_right _ (List.mem_of_getElem? (i := 0) rfl))))) rfl
theorem q_4_1 : Cond.code y_MO_of prog_7_method_31_code 3 (some .int) ∈ fm_T := fm_inT (List.mem_append_right _ (List.mem_append_right _ (List.mem_append_right _ (List.mem_append_right _ (List.mem_of_getElem? (i := 1) rfl))))) rfl
theorem q_4_2 : Cond.methodLink R_MO 128 y_MO_sizeOf ∈ fm_T := fm_inT (List.mem_append_right _ (List.mem_append_right _ (List.mem_append_right _ (List.mem_append_right _ (List.mem_of_getElem? (i := 2) rfl))))) rfl
theorem q_4_4 : Cond.instanceMethod y_MO_sizeOf ∈ fm_T := fm_inT (List.mem_append_right _ (List.mem_append_right _ (List.mem_append_right _ (List.mem_append_right _ (List.mem_of_getElem? (i := 4) rfl))))) rfl
theorem q_4_5 : Cond.code y_MO_sizeOf prog_7_method_30_code 5 (some .int) ∈ fm_T := fm_inT (List.mem_append_right _ (List.mem_append_right _ (List.mem_append_right _ (List.mem_append_right _ (List.mem_of_getElem? (i := 5) rfl))))) rfl
theorem q_4_6 : Cond.methodLink R_MO 124 y_MO_scaled ∈ fm_T := fm_inT (List.mem_append_right _ (List.mem_append_right _ (List.mem_append_right _ (List.mem_append_right _ (List.mem_of_getElem? (i := 6) rfl))))) rfl
theorem q_4_8 : Cond.instanceMethod y_MO_scaled ∈ fm_T := fm_inT (List.mem_append_right _ (List.mem_append_right _ (List.mem_append_right _ (List.mem_append_right _ (List.mem_of_getElem? (i := 8) rfl))))) rfl
theorem q_4_9 : Cond.code y_MO_scaled prog_7_method_27_code 10 (some .int) ∈ fm_T := fm_inT (List.mem_append_right _ (List.mem_append_right _ (List.mem_append_right _ (List.mem_append_right _ (List.mem_of_getElem? (i := 9) rfl))))) rfl
theorem q_4_10 : Cond.constantLong R_MO 113 8388608 ∈ fm_T := fm_inT (List.mem_append_right _ (List.mem_append_right _ (List.mem_append_right _ (List.mem_append_right _ (List.mem_of_getElem? (i := 10) rfl))))) rfl
theorem q_4_11 : Cond.constantLong R_MO 115 2 ∈ fm_T := fm_inT (List.mem_append_right _ (List.mem_append_right _ (List.mem_append_right _ (List.mem_append_right _ (List.mem_of_getElem? (i := 11) rfl))))) rfl
theorem q_4_12 : Cond.constantLong R_MO 117 65536 ∈ fm_T := fm_inT (List.mem_append_right _ (List.mem_append_right _ (List.mem_append_right _ (List.mem_append_right _ (List.mem_of_getElem? (i := 12) rfl))))) rfl
theorem q_4_13 : Cond.constantLong R_MO 119 256 ∈ fm_T := fm_inT (List.mem_append_right _ (List.mem_append_right _ (List.mem_append_right _ (List.mem_append_right _ (List.mem_of_getElem? (i := 13) rfl))))) rfl
theorem q_4_14 : Cond.methodLink R_LW 83 y_MO_part ∈ fm_T := fm_inT (List.mem_append_right _ (List.mem_append_right _ (List.mem_append_right _ (List.mem_append_right _ (List.mem_of_getElem? (i := 14) rfl))))) rfl
theorem q_4_15 : Cond.instanceMethod y_MO_part ∈ fm_T := fm_inT (List.mem_append_right _ (List.mem_append_right _ (List.mem_append_right _ (List.mem_append_right _ (List.mem_of_getElem? (i := 15) rfl))))) rfl
theorem q_4_16 : Cond.selects R_MO y_MO_part y_MO_part ∈ fm_T := fm_inT (List.mem_append_right _ (List.mem_append_right _ (List.mem_append_right _ (List.mem_append_right _ (List.mem_of_getElem? (i := 16) rfl))))) rfl
theorem q_4_17 : Cond.code y_MO_part prog_7_method_32_code 3 (some .int) ∈ fm_T := fm_inT (List.mem_append_right _ (List.mem_append_right _ (List.mem_append_right _ (List.mem_append_right _ (List.mem_of_getElem? (i := 17) rfl))))) rfl
theorem q_4_18 : Cond.methodLink R_LW 86 y_MO_parameter ∈ fm_T := fm_inT (List.mem_append_right _ (List.mem_append_right _ (List.mem_append_right _ (List.mem_append_right _ (List.mem_of_getElem? (i := 18) rfl))))) rfl
theorem q_4_19 : Cond.instanceMethod y_MO_parameter ∈ fm_T := fm_inT (List.mem_append_right _ (List.mem_append_right _ (List.mem_append_right _ (List.mem_append_right _ (List.mem_of_getElem? (i := 19) rfl))))) rfl
theorem q_4_20 : Cond.selects R_MO y_MO_parameter y_MO_parameter ∈ fm_T := fm_inT (List.mem_append_right _ (List.mem_append_right _ (List.mem_append_right _ (List.mem_append_right _ (List.mem_of_getElem? (i := 20) rfl))))) rfl
theorem q_4_21 : Cond.code y_MO_parameter prog_7_method_33_code 4 (some .int) ∈ fm_T := fm_inT (List.mem_append_right _ (List.mem_append_right _ (List.mem_append_right _ (List.mem_append_right _ (List.mem_of_getElem? (i := 21) rfl))))) rfl
theorem q_4_22 : Cond.methodLink R_LW 89 y_MO_ask ∈ fm_T := fm_inT (List.mem_append_right _ (List.mem_append_right _ (List.mem_append_right _ (List.mem_append_right _ (List.mem_of_getElem? (i := 22) rfl))))) rfl
theorem q_4_23 : Cond.instanceMethod y_MO_ask ∈ fm_T := fm_inT (List.mem_append_right _ (List.mem_append_right _ (List.mem_append_right _ (List.mem_append_right _ (List.mem_of_getElem? (i := 23) rfl))))) rfl
theorem q_4_24 : Cond.selects R_MO y_MO_ask y_MO_ask ∈ fm_T := fm_inT (List.mem_append_right _ (List.mem_append_right _ (List.mem_append_right _ (List.mem_append_right _ (List.mem_of_getElem? (i := 24) rfl))))) rfl
theorem q_4_25 : Cond.code y_MO_ask prog_7_method_36_code 4 (some .int) ∈ fm_T := fm_inT (List.mem_append_right _ (List.mem_append_right _ (List.mem_append_right _ (List.mem_append_right _ (List.mem_of_getElem? (i := 25) rfl))))) rfl
theorem q_4_26 : Cond.methodLink R_MO 131 y_MO_mayAsk ∈ fm_T := fm_inT (List.mem_append_right _ (List.mem_append_right _ (List.mem_append_right _ (List.mem_append_right _ (List.mem_of_getElem? (i := 26) rfl))))) rfl
theorem q_4_28 : Cond.instanceMethod y_MO_mayAsk ∈ fm_T := fm_inT (List.mem_append_right _ (List.mem_append_right _ (List.mem_append_right _ (List.mem_append_right _ (List.mem_of_getElem? (i := 28) rfl))))) rfl
theorem q_4_29 : Cond.code y_MO_mayAsk prog_7_method_35_code 2 (some .boolean) ∈ fm_T := fm_inT (List.mem_append_right _ (List.mem_append_right _ (List.mem_append_right _ (List.mem_append_right _ (List.mem_of_getElem? (i := 29) rfl))))) rfl
theorem q_4_30 : Cond.methodLink R_MO 135 y_MO_found ∈ fm_T := fm_inT (List.mem_append_right _ (List.mem_append_right _ (List.mem_append_right _ (List.mem_append_right _ (List.mem_of_getElem? (i := 30) rfl))))) rfl
theorem q_4_32 : Cond.instanceMethod y_MO_found ∈ fm_T := fm_inT (List.mem_append_right _ (List.mem_append_right _ (List.mem_append_right _ (List.mem_append_right _ (List.mem_of_getElem? (i := 32) rfl))))) rfl
theorem q_4_33 : Cond.code y_MO_found prog_7_method_34_code 5 (some .int) ∈ fm_T := fm_inT (List.mem_append_right _ (List.mem_append_right _ (List.mem_append_right _ (List.mem_append_right _ (List.mem_of_getElem? (i := 33) rfl))))) rfl
theorem q_4_34 : Cond.methodLink R_LW 93 y_MO_add ∈ fm_T := fm_inT (List.mem_append_right _ (List.mem_append_right _ (List.mem_append_right _ (List.mem_append_right _ (List.mem_of_getElem? (i := 34) rfl))))) rfl
theorem q_4_35 : Cond.instanceMethod y_MO_add ∈ fm_T := fm_inT (List.mem_append_right _ (List.mem_append_right _ (List.mem_append_right _ (List.mem_append_right _ (List.mem_of_getElem? (i := 35) rfl))))) rfl
theorem q_4_36 : Cond.selects R_MO y_MO_add y_MO_add ∈ fm_T := fm_inT (List.mem_append_right _ (List.mem_append_right _ (List.mem_append_right _ (List.mem_append_right _ (List.mem_of_getElem? (i := 36) rfl))))) rfl
theorem q_4_37 : Cond.code y_MO_add prog_7_method_37_code 2 (some .boolean) ∈ fm_T := fm_inT (List.mem_append_right _ (List.mem_append_right _ (List.mem_append_right _ (List.mem_append_right _ (List.mem_of_getElem? (i := 37) rfl))))) rfl
theorem q_4_38 : Cond.methodLink R_LW 97 y_MO_set ∈ fm_T := fm_inT (List.mem_append_right _ (List.mem_append_right _ (List.mem_append_right _ (List.mem_append_right _ (List.mem_of_getElem? (i := 38) rfl))))) rfl
theorem q_4_39 : Cond.instanceMethod y_MO_set ∈ fm_T := fm_inT (List.mem_append_right _ (List.mem_append_right _ (List.mem_append_right _ (List.mem_append_right _ (List.mem_of_getElem? (i := 39) rfl))))) rfl
theorem q_4_40 : Cond.selects R_MO y_MO_set y_MO_set ∈ fm_T := fm_inT (List.mem_append_right _ (List.mem_append_right _ (List.mem_append_right _ (List.mem_append_right _ (List.mem_of_getElem? (i := 40) rfl))))) rfl
theorem q_4_41 : Cond.code y_MO_set prog_7_method_41_code 4 (some .int) ∈ fm_T := fm_inT (List.mem_append_right _ (List.mem_append_right _ (List.mem_append_right _ (List.mem_append_right _ (List.mem_of_getElem? (i := 41) rfl))))) rfl
theorem q_4_42 : Cond.methodLink R_MO 141 y_MO_insert ∈ fm_T := fm_inT (List.mem_append_right _ (List.mem_append_right _ (List.mem_append_right _ (List.mem_append_right _ (List.mem_of_getElem? (i := 42) rfl))))) rfl
theorem q_4_44 : Cond.instanceMethod y_MO_insert ∈ fm_T := fm_inT (List.mem_append_right _ (List.mem_append_right _ (List.mem_append_right _ (List.mem_append_right _ (List.mem_of_getElem? (i := 44) rfl))))) rfl
theorem q_4_45 : Cond.code y_MO_insert prog_7_method_38_code 5 none ∈ fm_T := fm_inT (List.mem_append_right _ (List.mem_append_right _ (List.mem_append_right _ (List.mem_append_right _ (List.mem_of_getElem? (i := 45) rfl))))) rfl
theorem q_4_46 : Cond.methodLink R_MO 149 y_MO_step ∈ fm_T := fm_inT (List.mem_append_right _ (List.mem_append_right _ (List.mem_append_right _ (List.mem_append_right _ (List.mem_of_getElem? (i := 46) rfl))))) rfl
theorem q_4_48 : Cond.instanceMethod y_MO_step ∈ fm_T := fm_inT (List.mem_append_right _ (List.mem_append_right _ (List.mem_append_right _ (List.mem_append_right _ (List.mem_of_getElem? (i := 48) rfl))))) rfl
theorem q_4_49 : Cond.code y_MO_step prog_7_method_40_code 6 (some .int) ∈ fm_T := fm_inT (List.mem_append_right _ (List.mem_append_right _ (List.mem_append_right _ (List.mem_append_right _ (List.mem_of_getElem? (i := 49) rfl))))) rfl
theorem q_4_50 : Cond.methodLink R_MO 145 y_MO_remove ∈ fm_T := fm_inT (List.mem_append_right _ (List.mem_append_right _ (List.mem_append_right _ (List.mem_append_right _ (List.mem_of_getElem? (i := 50) rfl))))) rfl
theorem q_4_52 : Cond.instanceMethod y_MO_remove ∈ fm_T := fm_inT (List.mem_append_right _ (List.mem_append_right _ (List.mem_append_right _ (List.mem_append_right _ (List.mem_of_getElem? (i := 52) rfl))))) rfl
theorem q_4_53 : Cond.code y_MO_remove prog_7_method_39_code 3 none ∈ fm_T := fm_inT (List.mem_append_right _ (List.mem_append_right _ (List.mem_append_right _ (List.mem_append_right _ (List.mem_of_getElem? (i := 53) rfl))))) rfl
theorem q_4_54 : Cond.methodLink R_LW 100 y_MO_isKern ∈ fm_T := fm_inT (List.mem_append_right _ (List.mem_append_right _ (List.mem_append_right _ (List.mem_append_right _ (List.mem_of_getElem? (i := 54) rfl))))) rfl
theorem q_4_55 : Cond.instanceMethod y_MO_isKern ∈ fm_T := fm_inT (List.mem_append_right _ (List.mem_append_right _ (List.mem_append_right _ (List.mem_append_right _ (List.mem_of_getElem? (i := 55) rfl))))) rfl
theorem q_4_56 : Cond.selects R_MO y_MO_isKern y_MO_isKern ∈ fm_T := fm_inT (List.mem_append_right _ (List.mem_append_right _ (List.mem_append_right _ (List.mem_append_right _ (List.mem_of_getElem? (i := 56) rfl))))) rfl
theorem q_4_57 : Cond.code y_MO_isKern prog_7_method_42_code 2 (some .boolean) ∈ fm_T := fm_inT (List.mem_append_right _ (List.mem_append_right _ (List.mem_append_right _ (List.mem_append_right _ (List.mem_of_getElem? (i := 57) rfl))))) rfl
theorem q_4_58 : Cond.methodLink R_LW 103 y_MO_item ∈ fm_T := fm_inT (List.mem_append_right _ (List.mem_append_right _ (List.mem_append_right _ (List.mem_append_right _ (List.mem_of_getElem? (i := 58) rfl))))) rfl
theorem q_4_59 : Cond.instanceMethod y_MO_item ∈ fm_T := fm_inT (List.mem_append_right _ (List.mem_append_right _ (List.mem_append_right _ (List.mem_append_right _ (List.mem_of_getElem? (i := 59) rfl))))) rfl
theorem q_4_60 : Cond.selects R_MO y_MO_item y_MO_item ∈ fm_T := fm_inT (List.mem_append_right _ (List.mem_append_right _ (List.mem_append_right _ (List.mem_append_right _ (List.mem_of_getElem? (i := 60) rfl))))) rfl
theorem q_4_61 : Cond.code y_MO_item prog_7_method_43_code 2 (some .int) ∈ fm_T := fm_inT (List.mem_append_right _ (List.mem_append_right _ (List.mem_append_right _ (List.mem_append_right _ (List.mem_of_getElem? (i := 61) rfl))))) rfl
theorem q_4_62 : Cond.methodLink R_LW 108 y_MO_total ∈ fm_T := fm_inT (List.mem_append_right _ (List.mem_append_right _ (List.mem_append_right _ (List.mem_append_right _ (List.mem_of_getElem? (i := 62) rfl))))) rfl
theorem q_4_63 : Cond.instanceMethod y_MO_total ∈ fm_T := fm_inT (List.mem_append_right _ (List.mem_append_right _ (List.mem_append_right _ (List.mem_append_right _ (List.mem_of_getElem? (i := 63) rfl))))) rfl
theorem q_4_64 : Cond.selects R_MO y_MO_total y_MO_total ∈ fm_T := fm_inT (List.mem_append_right _ (List.mem_append_right _ (List.mem_append_right _ (List.mem_append_right _ (List.mem_of_getElem? (i := 64) rfl))))) rfl
theorem q_4_65 : Cond.code y_MO_total prog_7_method_44_code 4 (some .long) ∈ fm_T := fm_inT (List.mem_append_right _ (List.mem_append_right _ (List.mem_append_right _ (List.mem_append_right _ (List.mem_of_getElem? (i := 65) rfl))))) rfl
theorem q_4_66 : Cond.constantLong R_LW 50 4294967295 ∈ fm_T := fm_inT (List.mem_append_right _ (List.mem_append_right _ (List.mem_append_right _ (List.mem_append_right _ (List.mem_of_getElem? (i := 66) rfl))))) rfl
theorem q_4_67 : Cond.arrayClass FieldType.long ∈ fm_T := fm_inT (List.mem_append_right _ (List.mem_append_right _ (List.mem_append_right _ (List.mem_append_right _ (List.mem_of_getElem? (i := 67) rfl))))) rfl
theorem qs_BF_put : Cond.selects y_BF_put.cls y_BF_put y_BF_put ∈ fm_T := fm_inT (List.mem_append_left _ (List.mem_map.mpr ⟨(y_BF_put, 2), List.mem_append_left _ (List.mem_of_getElem? (i := 0) rfl), rfl⟩)) rfl
theorem qs_FO_lengthByNumbers : Cond.selects y_FO_lengthByNumbers.cls y_FO_lengthByNumbers y_FO_lengthByNumbers ∈ fm_T := fm_inT (List.mem_append_left _ (List.mem_map.mpr ⟨(y_FO_lengthByNumbers, 8), List.mem_append_left _ (List.mem_of_getElem? (i := 2) rfl), rfl⟩)) rfl
theorem qs_FM_requireFont : Cond.selects y_FM_requireFont.cls y_FM_requireFont y_FM_requireFont ∈ fm_T := fm_inT (List.mem_append_left _ (List.mem_map.mpr ⟨(y_FM_requireFont, 7), List.mem_append_left _ (List.mem_of_getElem? (i := 3) rfl), rfl⟩)) rfl
theorem qs_FM_requireThere : Cond.selects y_FM_requireThere.cls y_FM_requireThere y_FM_requireThere ∈ fm_T := fm_inT (List.mem_append_left _ (List.mem_map.mpr ⟨(y_FM_requireThere, 7), List.mem_append_left _ (List.mem_of_getElem? (i := 4) rfl), rfl⟩)) rfl
theorem qs_FM_requireThereOrEdge : Cond.selects y_FM_requireThereOrEdge.cls y_FM_requireThereOrEdge y_FM_requireThereOrEdge ∈ fm_T := fm_inT (List.mem_append_left _ (List.mem_map.mpr ⟨(y_FM_requireThereOrEdge, 7), List.mem_append_left _ (List.mem_of_getElem? (i := 5) rfl), rfl⟩)) rfl
theorem qs_FO_programStart : Cond.selects y_FO_programStart.cls y_FO_programStart y_FO_programStart ∈ fm_T := fm_inT (List.mem_append_left _ (List.mem_map.mpr ⟨(y_FO_programStart, 8), List.mem_append_left _ (List.mem_of_getElem? (i := 6) rfl), rfl⟩)) rfl
theorem qs_FM_rowIsThere : Cond.selects y_FM_rowIsThere.cls y_FM_rowIsThere y_FM_rowIsThere ∈ fm_T := fm_inT (List.mem_append_left _ (List.mem_map.mpr ⟨(y_FM_rowIsThere, 7), List.mem_append_left _ (List.mem_of_getElem? (i := 7) rfl), rfl⟩)) rfl
theorem qs_LI_push : Cond.selects y_LI_push.cls y_LI_push y_LI_push ∈ fm_T := fm_inT (List.mem_append_left _ (List.mem_map.mpr ⟨(y_LI_push, 5), List.mem_append_left _ (List.mem_of_getElem? (i := 8) rfl), rfl⟩)) rfl
theorem qs_LI_step : Cond.selects y_LI_step.cls y_LI_step y_LI_step ∈ fm_T := fm_inT (List.mem_append_left _ (List.mem_map.mpr ⟨(y_LI_step, 5), List.mem_append_left _ (List.mem_of_getElem? (i := 9) rfl), rfl⟩)) rfl
theorem qs_LI_pendingAt : Cond.selects y_LI_pendingAt.cls y_LI_pendingAt y_LI_pendingAt ∈ fm_T := fm_inT (List.mem_append_left _ (List.mem_map.mpr ⟨(y_LI_pendingAt, 5), List.mem_append_left _ (List.mem_of_getElem? (i := 10) rfl), rfl⟩)) rfl
theorem qs_LI_pass : Cond.selects y_LI_pass.cls y_LI_pass y_LI_pass ∈ fm_T := fm_inT (List.mem_append_left _ (List.mem_map.mpr ⟨(y_LI_pass, 5), List.mem_append_left _ (List.mem_of_getElem? (i := 11) rfl), rfl⟩)) rfl
theorem qs_LI_append : Cond.selects y_LI_append.cls y_LI_append y_LI_append ∈ fm_T := fm_inT (List.mem_append_left _ (List.mem_map.mpr ⟨(y_LI_append, 5), List.mem_append_left _ (List.mem_of_getElem? (i := 12) rfl), rfl⟩)) rfl
theorem qs_LI_join : Cond.selects y_LI_join.cls y_LI_join y_LI_join ∈ fm_T := fm_inT (List.mem_append_left _ (List.mem_map.mpr ⟨(y_LI_join, 5), List.mem_append_left _ (List.mem_of_getElem? (i := 13) rfl), rfl⟩)) rfl
theorem qs_FM_requireItem : Cond.selects y_FM_requireItem.cls y_FM_requireItem y_FM_requireItem ∈ fm_T := fm_inT (List.mem_append_left _ (List.mem_map.mpr ⟨(y_FM_requireItem, 7), List.mem_append_left _ (List.mem_of_getElem? (i := 14) rfl), rfl⟩)) rfl
theorem qs_MO_fault : Cond.selects y_MO_fault.cls y_MO_fault y_MO_fault ∈ fm_T := fm_inT (List.mem_append_left _ (List.mem_map.mpr ⟨(y_MO_fault, 11), List.mem_append_left _ (List.mem_of_getElem? (i := 15) rfl), rfl⟩)) rfl
theorem qs_MO_areNumbersSmall : Cond.selects y_MO_areNumbersSmall.cls y_MO_areNumbersSmall y_MO_areNumbersSmall ∈ fm_T := fm_inT (List.mem_append_left _ (List.mem_map.mpr ⟨(y_MO_areNumbersSmall, 11), List.mem_append_right _ (List.mem_of_getElem? (i := 0) rfl), rfl⟩)) rfl
theorem qs_MO_sizeOf : Cond.selects y_MO_sizeOf.cls y_MO_sizeOf y_MO_sizeOf ∈ fm_T := fm_inT (List.mem_append_left _ (List.mem_map.mpr ⟨(y_MO_sizeOf, 11), List.mem_append_right _ (List.mem_of_getElem? (i := 1) rfl), rfl⟩)) rfl
theorem qs_MO_scaled : Cond.selects y_MO_scaled.cls y_MO_scaled y_MO_scaled ∈ fm_T := fm_inT (List.mem_append_left _ (List.mem_map.mpr ⟨(y_MO_scaled, 11), List.mem_append_right _ (List.mem_of_getElem? (i := 2) rfl), rfl⟩)) rfl
theorem qs_MO_mayAsk : Cond.selects y_MO_mayAsk.cls y_MO_mayAsk y_MO_mayAsk ∈ fm_T := fm_inT (List.mem_append_left _ (List.mem_map.mpr ⟨(y_MO_mayAsk, 11), List.mem_append_right _ (List.mem_of_getElem? (i := 3) rfl), rfl⟩)) rfl
theorem qs_MO_found : Cond.selects y_MO_found.cls y_MO_found y_MO_found ∈ fm_T := fm_inT (List.mem_append_left _ (List.mem_map.mpr ⟨(y_MO_found, 11), List.mem_append_right _ (List.mem_of_getElem? (i := 4) rfl), rfl⟩)) rfl
theorem qs_MO_insert : Cond.selects y_MO_insert.cls y_MO_insert y_MO_insert ∈ fm_T := fm_inT (List.mem_append_left _ (List.mem_map.mpr ⟨(y_MO_insert, 11), List.mem_append_right _ (List.mem_of_getElem? (i := 5) rfl), rfl⟩)) rfl
theorem qs_MO_step : Cond.selects y_MO_step.cls y_MO_step y_MO_step ∈ fm_T := fm_inT (List.mem_append_left _ (List.mem_map.mpr ⟨(y_MO_step, 11), List.mem_append_right _ (List.mem_of_getElem? (i := 6) rfl), rfl⟩)) rfl
theorem qs_MO_remove : Cond.selects y_MO_remove.cls y_MO_remove y_MO_remove ∈ fm_T := fm_inT (List.mem_append_left _ (List.mem_map.mpr ⟨(y_MO_remove, 11), List.mem_append_right _ (List.mem_of_getElem? (i := 7) rfl), rfl⟩)) rfl
def w_FM_init : List Cond := .code y_FM_init b_FM_init 1 none :: fm_T
def w_FM_feed : List Cond := .code y_FM_feed b_FM_feed 4 (some .boolean) :: fm_T
def w_FM_keep : List Cond := .code y_FM_keep b_FM_keep 2 (some .boolean) :: fm_T
def w_FM_load : List Cond := .code y_FM_load b_FM_load 4 (some .int) :: fm_T
def w_FM_about : List Cond := .code y_FM_about b_FM_about 2 (some .int) :: fm_T
def w_FM_has : List Cond := .code y_FM_has b_FM_has 2 (some .boolean) :: fm_T
def w_FM_of : List Cond := .code y_FM_of b_FM_of 3 (some .int) :: fm_T
def w_FM_part : List Cond := .code y_FM_part b_FM_part 4 (some .int) :: fm_T
def w_FM_parameter : List Cond := .code y_FM_parameter b_FM_parameter 3 (some .int) :: fm_T
def w_FM_ask : List Cond := .code y_FM_ask b_FM_ask 3 (some .int) :: fm_T
def w_FM_add : List Cond := .code y_FM_add b_FM_add 2 (some .boolean) :: fm_T
def w_FM_set : List Cond := .code y_FM_set b_FM_set 1 (some .int) :: fm_T
def w_FM_isKern : List Cond := .code y_FM_isKern b_FM_isKern 2 (some .boolean) :: fm_T
def w_FM_item : List Cond := .code y_FM_item b_FM_item 2 (some .int) :: fm_T
def w_FM_total : List Cond := .code y_FM_total b_FM_total 1 (some .long) :: fm_T
def w_FM_rowIsThere : List Cond := .code y_FM_rowIsThere b_FM_rowIsThere 2 (some .boolean) :: fm_T
def w_FM_requireFont : List Cond := .code y_FM_requireFont b_FM_requireFont 1 none :: fm_T
def w_FM_requireThere : List Cond := .code y_FM_requireThere b_FM_requireThere 2 none :: fm_T
def w_FM_requireThereOrEdge : List Cond := .code y_FM_requireThereOrEdge b_FM_requireThereOrEdge 2 none :: fm_T
def w_FM_requireItem : List Cond := .code y_FM_requireItem b_FM_requireItem 2 none :: fm_T
def w_MO_init : List Cond := .code y_MO_init b_MO_init 1 none :: fm_T
def w_MO_thrown : List Cond := .code y_MO_thrown b_MO_thrown 1 (some .int) :: fm_T
def w_MO_feed : List Cond := .code y_MO_feed b_MO_feed 5 (some .boolean) :: fm_T
def w_MO_keep : List Cond := .code y_MO_keep b_MO_keep 2 (some .boolean) :: fm_T
def w_MO_half : List Cond := .code y_MO_half b_MO_half 2 (some .int) :: fm_T
def w_MO_words : List Cond := .code y_MO_words b_MO_words 2 (some .int) :: fm_T
def w_MO_start : List Cond := .code y_MO_start b_MO_start 4 (some .int) :: fm_T
def w_MO_at : List Cond := .code y_MO_at b_MO_at 4 (some .int) :: fm_T
def w_MO_far : List Cond := .code y_MO_far b_MO_far 2 (some .int) :: fm_T
def w_MO_isThere : List Cond := .code y_MO_isThere b_MO_isThere 2 (some .boolean) :: fm_T
def w_MO_tag : List Cond := .code y_MO_tag b_MO_tag 2 (some .int) :: fm_T
def w_MO_rest : List Cond := .code y_MO_rest b_MO_rest 2 (some .int) :: fm_T
def w_MO_edgeOf : List Cond := .code y_MO_edgeOf b_MO_edgeOf 1 (some .int) :: fm_T
def w_MO_edgeProgram : List Cond := .code y_MO_edgeProgram b_MO_edgeProgram 2 (some .int) :: fm_T
def w_MO_areNumbersSmall : List Cond := .code y_MO_areNumbersSmall b_MO_areNumbersSmall 3 (some .boolean) :: fm_T
def w_MO_areSizesRight : List Cond := .code y_MO_areSizesRight b_MO_areSizesRight 3 (some .boolean) :: fm_T
def w_MO_isLargerRight : List Cond := .code y_MO_isLargerRight b_MO_isLargerRight 4 (some .boolean) :: fm_T
def w_MO_areTagsRight : List Cond := .code y_MO_areTagsRight b_MO_areTagsRight 4 (some .boolean) :: fm_T
def w_MO_areFractions : List Cond := .code y_MO_areFractions b_MO_areFractions 5 (some .boolean) :: fm_T
def w_MO_areTablesRight : List Cond := .code y_MO_areTablesRight b_MO_areTablesRight 4 (some .boolean) :: fm_T
def w_MO_isWordRight : List Cond := .code y_MO_isWordRight b_MO_isWordRight 7 (some .boolean) :: fm_T
def w_MO_isProgramRight : List Cond := .code y_MO_isProgramRight b_MO_isProgramRight 3 (some .boolean) :: fm_T
def w_MO_areRecipesRight : List Cond := .code y_MO_areRecipesRight b_MO_areRecipesRight 4 (some .boolean) :: fm_T
def w_MO_designOf : List Cond := .code y_MO_designOf b_MO_designOf 3 (some .int) :: fm_T
def w_MO_fault : List Cond := .code y_MO_fault b_MO_fault 4 (some .int) :: fm_T
def w_MO_load : List Cond := .code y_MO_load b_MO_load 4 (some .int) :: fm_T
def w_MO_scaled : List Cond := .code y_MO_scaled b_MO_scaled 10 (some .int) :: fm_T
def w_MO_about : List Cond := .code y_MO_about b_MO_about 2 (some .int) :: fm_T
def w_MO_has : List Cond := .code y_MO_has b_MO_has 2 (some .boolean) :: fm_T
def w_MO_sizeOf : List Cond := .code y_MO_sizeOf b_MO_sizeOf 5 (some .int) :: fm_T
def w_MO_of : List Cond := .code y_MO_of b_MO_of 3 (some .int) :: fm_T
def w_MO_part : List Cond := .code y_MO_part b_MO_part 3 (some .int) :: fm_T
def w_MO_parameter : List Cond := .code y_MO_parameter b_MO_parameter 4 (some .int) :: fm_T
def w_MO_found : List Cond := .code y_MO_found b_MO_found 5 (some .int) :: fm_T
def w_MO_mayAsk : List Cond := .code y_MO_mayAsk b_MO_mayAsk 2 (some .boolean) :: fm_T
def w_MO_ask : List Cond := .code y_MO_ask b_MO_ask 4 (some .int) :: fm_T
def w_MO_add : List Cond := .code y_MO_add b_MO_add 2 (some .boolean) :: fm_T
def w_MO_insert : List Cond := .code y_MO_insert b_MO_insert 5 none :: fm_T
def w_MO_remove : List Cond := .code y_MO_remove b_MO_remove 3 none :: fm_T
def w_MO_step : List Cond := .code y_MO_step b_MO_step 6 (some .int) :: fm_T
def w_MO_set : List Cond := .code y_MO_set b_MO_set 4 (some .int) :: fm_T
def w_MO_isKern : List Cond := .code y_MO_isKern b_MO_isKern 2 (some .boolean) :: fm_T
def w_MO_item : List Cond := .code y_MO_item b_MO_item 2 (some .int) :: fm_T
def w_MO_total : List Cond := .code y_MO_total b_MO_total 4 (some .long) :: fm_T
def w_BF_init : List Cond := .code y_BF_init b_BF_init 1 none :: fm_T
def w_BF_append : List Cond := .code y_BF_append b_BF_append 5 (some .boolean) :: fm_T
def w_BF_cut : List Cond := .code y_BF_cut b_BF_cut 2 (some .boolean) :: fm_T
def w_BF_put : List Cond := .code y_BF_put b_BF_put 4 none :: fm_T
def w_FA_firstOfNumbers : List Cond := .code y_FA_firstOfNumbers b_FA_firstOfNumbers 2 (some .int) :: fm_T
def w_FA_firstOfParts : List Cond := .code y_FA_firstOfParts b_FA_firstOfParts 1 (some .int) :: fm_T
def w_FA_numbersAreSmall : List Cond := .code y_FA_numbersAreSmall b_FA_numbersAreSmall 2 (some .boolean) :: fm_T
def w_FA_partsAreEnough : List Cond := .code y_FA_partsAreEnough b_FA_partsAreEnough 1 (some .boolean) :: fm_T
def w_FA_lengthsAgree : List Cond := .code y_FA_lengthsAgree b_FA_lengthsAgree 5 (some .boolean) :: fm_T
def w_FA_measuresHavePlaces : List Cond := .code y_FA_measuresHavePlaces b_FA_measuresHavePlaces 3 (some .boolean) :: fm_T
def w_FA_tagsHold : List Cond := .code y_FA_tagsHold b_FA_tagsHold 3 (some .boolean) :: fm_T
def w_FA_tagHolds : List Cond := .code y_FA_tagHolds b_FA_tagHolds 4 (some .boolean) :: fm_T
def w_FA_leadsBack : List Cond := .code y_FA_leadsBack b_FA_leadsBack 5 (some .boolean) :: fm_T
def w_FA_fractionsHold : List Cond := .code y_FA_fractionsHold b_FA_fractionsHold 2 (some .boolean) :: fm_T
def w_FA_areFractions : List Cond := .code y_FA_areFractions b_FA_areFractions 5 (some .boolean) :: fm_T
def w_FA_programHolds : List Cond := .code y_FA_programHolds b_FA_programHolds 3 (some .boolean) :: fm_T
def w_FA_wayHolds : List Cond := .code y_FA_wayHolds b_FA_wayHolds 5 (some .boolean) :: fm_T
def w_FA_sayingHolds : List Cond := .code y_FA_sayingHolds b_FA_sayingHolds 4 (some .boolean) :: fm_T
def w_FA_recipesHold : List Cond := .code y_FA_recipesHold b_FA_recipesHold 5 (some .boolean) :: fm_T
def w_FO_init : List Cond := .code y_FO_init b_FO_init 1 none :: fm_T
def w_FO_take : List Cond := .code y_FO_take b_FO_take 4 none :: fm_T
def w_FO_lengthByNumbers : List Cond := .code y_FO_lengthByNumbers b_FO_lengthByNumbers 2 (some .int) :: fm_T
def w_FO_resize : List Cond := .code y_FO_resize b_FO_resize 2 none :: fm_T
def w_FO_number : List Cond := .code y_FO_number b_FO_number 4 (some .int) :: fm_T
def w_FO_lengthOf : List Cond := .code y_FO_lengthOf b_FO_lengthOf 2 (some .int) :: fm_T
def w_FO_word : List Cond := .code y_FO_word b_FO_word 4 (some .int) :: fm_T
def w_FO_designSize : List Cond := .code y_FO_designSize b_FO_designSize 1 (some .int) :: fm_T
def w_FO_scaled : List Cond := .code y_FO_scaled b_FO_scaled 6 (some .int) :: fm_T
def w_FO_character : List Cond := .code y_FO_character b_FO_character 2 (some .int) :: fm_T
def w_FO_isThere : List Cond := .code y_FO_isThere b_FO_isThere 2 (some .boolean) :: fm_T
def w_FO_width : List Cond := .code y_FO_width b_FO_width 2 (some .int) :: fm_T
def w_FO_height : List Cond := .code y_FO_height b_FO_height 2 (some .int) :: fm_T
def w_FO_depth : List Cond := .code y_FO_depth b_FO_depth 2 (some .int) :: fm_T
def w_FO_italic : List Cond := .code y_FO_italic b_FO_italic 2 (some .int) :: fm_T
def w_FO_edge : List Cond := .code y_FO_edge b_FO_edge 2 (some .int) :: fm_T
def w_FO_edgeStart : List Cond := .code y_FO_edgeStart b_FO_edgeStart 2 (some .int) :: fm_T
def w_FO_find : List Cond := .code y_FO_find b_FO_find 10 (some .int) :: fm_T
def w_FO_programStart : List Cond := .code y_FO_programStart b_FO_programStart 4 (some .int) :: fm_T
def w_FO_startOfCharacter : List Cond := .code y_FO_startOfCharacter b_FO_startOfCharacter 1 (some .int) :: fm_T
def w_FO_kern : List Cond := .code y_FO_kern b_FO_kern 2 (some .int) :: fm_T
def w_FO_byteOf : List Cond := .code y_FO_byteOf b_FO_byteOf 2 (some .int) :: fm_T
def w_FO_target : List Cond := .code y_FO_target b_FO_target 1 (some .int) :: fm_T
def w_FO_saying : List Cond := .code y_FO_saying b_FO_saying 1 (some .int) :: fm_T
def w_FO_widthPlace : List Cond := .code y_FO_widthPlace b_FO_widthPlace 1 (some .int) :: fm_T
def w_FO_heightPlace : List Cond := .code y_FO_heightPlace b_FO_heightPlace 1 (some .int) :: fm_T
def w_FO_depthPlace : List Cond := .code y_FO_depthPlace b_FO_depthPlace 1 (some .int) :: fm_T
def w_FO_italicPlace : List Cond := .code y_FO_italicPlace b_FO_italicPlace 1 (some .int) :: fm_T
def w_FO_tag : List Cond := .code y_FO_tag b_FO_tag 1 (some .int) :: fm_T
def w_FO_rest : List Cond := .code y_FO_rest b_FO_rest 1 (some .int) :: fm_T
def w_LI_init : List Cond := .code y_LI_init b_LI_init 1 none :: fm_T
def w_LI_clear : List Cond := .code y_LI_clear b_LI_clear 1 none :: fm_T
def w_LI_lay : List Cond := .code y_LI_lay b_LI_lay 5 none :: fm_T
def w_LI_run : List Cond := .code y_LI_run b_LI_run 3 (some .boolean) :: fm_T
def w_LI_step : List Cond := .code y_LI_step b_LI_step 5 none :: fm_T
def w_LI_join : List Cond := .code y_LI_join b_LI_join 5 none :: fm_T
def w_LI_pass : List Cond := .code y_LI_pass b_LI_pass 4 none :: fm_T
def w_LI_push : List Cond := .code y_LI_push b_LI_push 2 none :: fm_T
def w_LI_pendingAt : List Cond := .code y_LI_pendingAt b_LI_pendingAt 3 (some .int) :: fm_T
def w_LI_append : List Cond := .code y_LI_append b_LI_append 3 none :: fm_T
def w_LI_kernAt : List Cond := .code y_LI_kernAt b_LI_kernAt 2 (some .boolean) :: fm_T
def w_LI_valueAt : List Cond := .code y_LI_valueAt b_LI_valueAt 2 (some .int) :: fm_T
def w_LI_width : List Cond := .code y_LI_width b_LI_width 5 (some .long) :: fm_T
theorem k_FM_feed : fm_Vok y_FM_feed b_FM_feed 4 (some .boolean) 2 := ⟨q_1_122, q_1_123, q_1_1, q_1_124, ⟨by decide +kernel, by decide +kernel, by decide +kernel⟩⟩
theorem k_FM_keep : fm_Vok y_FM_keep b_FM_keep 2 (some .boolean) 1 := ⟨q_1_134, q_1_135, q_1_1, q_1_136, ⟨by decide +kernel, by decide +kernel, by decide +kernel⟩⟩
theorem k_FM_load : fm_Vok y_FM_load b_FM_load 4 (some .int) 1 := ⟨q_1_197, q_1_198, q_1_1, q_1_199, ⟨by decide +kernel, by decide +kernel, by decide +kernel⟩⟩
theorem k_FM_about : fm_Vok y_FM_about b_FM_about 2 (some .int) 1 := ⟨q_2_149, q_2_150, q_1_1, q_2_151, ⟨by decide +kernel, by decide +kernel, by decide +kernel⟩⟩
theorem k_FM_has : fm_Vok y_FM_has b_FM_has 2 (some .boolean) 1 := ⟨q_1_142, q_1_143, q_1_1, q_1_144, ⟨by decide +kernel, by decide +kernel, by decide +kernel⟩⟩
theorem k_FM_of : fm_Vok y_FM_of b_FM_of 3 (some .int) 2 := ⟨q_2_200, q_2_201, q_1_1, q_2_202, ⟨by decide +kernel, by decide +kernel, by decide +kernel⟩⟩
theorem k_FM_part : fm_Vok y_FM_part b_FM_part 4 (some .int) 2 := ⟨q_2_231, q_2_232, q_1_1, q_2_233, ⟨by decide +kernel, by decide +kernel, by decide +kernel⟩⟩
theorem k_FM_parameter : fm_Vok y_FM_parameter b_FM_parameter 3 (some .int) 1 := ⟨q_3_1, q_3_2, q_1_1, q_3_3, ⟨by decide +kernel, by decide +kernel, by decide +kernel⟩⟩
theorem k_FM_ask : fm_Vok y_FM_ask b_FM_ask 3 (some .int) 2 := ⟨q_3_10, q_3_11, q_1_1, q_3_12, ⟨by decide +kernel, by decide +kernel, by decide +kernel⟩⟩
theorem k_FM_add : fm_Vok y_FM_add b_FM_add 2 (some .boolean) 1 := ⟨q_1_161, q_1_162, q_1_1, q_1_163, ⟨by decide +kernel, by decide +kernel, by decide +kernel⟩⟩
theorem k_FM_set : fm_Vok y_FM_set b_FM_set 1 (some .int) 0 := ⟨q_3_37, q_3_38, q_1_1, q_3_39, ⟨by decide +kernel, by decide +kernel, by decide +kernel⟩⟩
theorem k_FM_isKern : fm_Vok y_FM_isKern b_FM_isKern 2 (some .boolean) 1 := ⟨q_3_90, q_3_91, q_1_1, q_3_92, ⟨by decide +kernel, by decide +kernel, by decide +kernel⟩⟩
theorem k_FM_item : fm_Vok y_FM_item b_FM_item 2 (some .int) 1 := ⟨q_3_103, q_3_104, q_1_1, q_3_105, ⟨by decide +kernel, by decide +kernel, by decide +kernel⟩⟩
theorem k_FM_total : fm_Vok y_FM_total b_FM_total 1 (some .long) 0 := ⟨q_1_165, q_1_166, q_1_1, q_1_167, ⟨by decide +kernel, by decide +kernel, by decide +kernel⟩⟩
theorem k_FM_rowIsThere : fm_Vok y_FM_rowIsThere b_FM_rowIsThere 2 (some .boolean) 0 := ⟨q_3_42, qs_FM_rowIsThere, q_1_1, q_3_43, ⟨by decide +kernel, by decide +kernel, by decide +kernel⟩⟩
theorem k_FM_requireFont : fm_Vok y_FM_requireFont b_FM_requireFont 1 none 0 := ⟨q_2_154, qs_FM_requireFont, q_1_1, q_2_155, ⟨by decide +kernel, by decide +kernel, by decide +kernel⟩⟩
theorem k_FM_requireThere : fm_Vok y_FM_requireThere b_FM_requireThere 2 none 1 := ⟨q_2_205, qs_FM_requireThere, q_1_1, q_2_206, ⟨by decide +kernel, by decide +kernel, by decide +kernel⟩⟩
theorem k_FM_requireThereOrEdge : fm_Vok y_FM_requireThereOrEdge b_FM_requireThereOrEdge 2 none 1 := ⟨q_3_15, qs_FM_requireThereOrEdge, q_1_1, q_3_16, ⟨by decide +kernel, by decide +kernel, by decide +kernel⟩⟩
theorem k_FM_requireItem : fm_Vok y_FM_requireItem b_FM_requireItem 2 none 1 := ⟨q_3_95, qs_FM_requireItem, q_1_1, q_3_96, ⟨by decide +kernel, by decide +kernel, by decide +kernel⟩⟩
theorem k_MO_thrown : fm_Vok y_MO_thrown b_MO_thrown 1 (some .int) 0 := ⟨q_3_148, q_3_149, q_1_5, q_3_150, ⟨by decide +kernel, by decide +kernel, by decide +kernel⟩⟩
theorem k_MO_feed : fm_Vok y_MO_feed b_MO_feed 5 (some .boolean) 2 := ⟨q_3_152, q_3_153, q_1_5, q_3_154, ⟨by decide +kernel, by decide +kernel, by decide +kernel⟩⟩
theorem k_MO_keep : fm_Vok y_MO_keep b_MO_keep 2 (some .boolean) 1 := ⟨q_3_156, q_3_157, q_1_5, q_3_158, ⟨by decide +kernel, by decide +kernel, by decide +kernel⟩⟩
theorem k_MO_half : fm_Sok y_MO_half b_MO_half 2 (some .int) 2 := ⟨q_3_173, q_1_5, q_3_174, ⟨by decide +kernel, by decide +kernel, by decide +kernel⟩⟩
theorem k_MO_words : fm_Sok y_MO_words b_MO_words 2 (some .int) 2 := ⟨q_3_176, q_1_5, q_3_177, ⟨by decide +kernel, by decide +kernel, by decide +kernel⟩⟩
theorem k_MO_start : fm_Sok y_MO_start b_MO_start 4 (some .int) 2 := ⟨q_3_179, q_1_5, q_3_180, ⟨by decide +kernel, by decide +kernel, by decide +kernel⟩⟩
theorem k_MO_at : fm_Sok y_MO_at b_MO_at 4 (some .int) 4 := ⟨q_3_185, q_1_5, q_3_186, ⟨by decide +kernel, by decide +kernel, by decide +kernel⟩⟩
theorem k_MO_far : fm_Sok y_MO_far b_MO_far 2 (some .int) 2 := ⟨q_3_219, q_1_5, q_3_220, ⟨by decide +kernel, by decide +kernel, by decide +kernel⟩⟩
theorem k_MO_isThere : fm_Sok y_MO_isThere b_MO_isThere 2 (some .boolean) 2 := ⟨q_3_195, q_1_5, q_3_196, ⟨by decide +kernel, by decide +kernel, by decide +kernel⟩⟩
theorem k_MO_tag : fm_Sok y_MO_tag b_MO_tag 2 (some .int) 2 := ⟨q_3_198, q_1_5, q_3_199, ⟨by decide +kernel, by decide +kernel, by decide +kernel⟩⟩
theorem k_MO_rest : fm_Sok y_MO_rest b_MO_rest 2 (some .int) 2 := ⟨q_3_201, q_1_5, q_3_202, ⟨by decide +kernel, by decide +kernel, by decide +kernel⟩⟩
theorem k_MO_edgeOf : fm_Sok y_MO_edgeOf b_MO_edgeOf 1 (some .int) 1 := ⟨q_3_222, q_1_5, q_3_223, ⟨by decide +kernel, by decide +kernel, by decide +kernel⟩⟩
theorem k_MO_edgeProgram : fm_Sok y_MO_edgeProgram b_MO_edgeProgram 2 (some .int) 1 := ⟨q_3_232, q_1_5, q_3_233, ⟨by decide +kernel, by decide +kernel, by decide +kernel⟩⟩
theorem k_MO_areNumbersSmall : fm_Vok y_MO_areNumbersSmall b_MO_areNumbersSmall 3 (some .boolean) 0 := ⟨q_3_170, qs_MO_areNumbersSmall, q_1_5, q_3_171, ⟨by decide +kernel, by decide +kernel, by decide +kernel⟩⟩
theorem k_MO_areSizesRight : fm_Sok y_MO_areSizesRight b_MO_areSizesRight 3 (some .boolean) 1 := ⟨q_3_189, q_1_5, q_3_190, ⟨by decide +kernel, by decide +kernel, by decide +kernel⟩⟩
theorem k_MO_isLargerRight : fm_Sok y_MO_isLargerRight b_MO_isLargerRight 4 (some .boolean) 2 := ⟨q_3_204, q_1_5, q_3_205, ⟨by decide +kernel, by decide +kernel, by decide +kernel⟩⟩
theorem k_MO_areTagsRight : fm_Sok y_MO_areTagsRight b_MO_areTagsRight 4 (some .boolean) 1 := ⟨q_3_192, q_1_5, q_3_193, ⟨by decide +kernel, by decide +kernel, by decide +kernel⟩⟩
theorem k_MO_areFractions : fm_Sok y_MO_areFractions b_MO_areFractions 5 (some .boolean) 3 := ⟨q_3_210, q_1_5, q_3_211, ⟨by decide +kernel, by decide +kernel, by decide +kernel⟩⟩
theorem k_MO_areTablesRight : fm_Sok y_MO_areTablesRight b_MO_areTablesRight 4 (some .boolean) 1 := ⟨q_3_207, q_1_5, q_3_208, ⟨by decide +kernel, by decide +kernel, by decide +kernel⟩⟩
theorem k_MO_isWordRight : fm_Sok y_MO_isWordRight b_MO_isWordRight 7 (some .boolean) 2 := ⟨q_3_216, q_1_5, q_3_217, ⟨by decide +kernel, by decide +kernel, by decide +kernel⟩⟩
theorem k_MO_isProgramRight : fm_Sok y_MO_isProgramRight b_MO_isProgramRight 3 (some .boolean) 1 := ⟨q_3_213, q_1_5, q_3_214, ⟨by decide +kernel, by decide +kernel, by decide +kernel⟩⟩
theorem k_MO_areRecipesRight : fm_Sok y_MO_areRecipesRight b_MO_areRecipesRight 4 (some .boolean) 1 := ⟨q_3_225, q_1_5, q_3_226, ⟨by decide +kernel, by decide +kernel, by decide +kernel⟩⟩
theorem k_MO_designOf : fm_Sok y_MO_designOf b_MO_designOf 3 (some .int) 1 := ⟨q_3_182, q_1_5, q_3_183, ⟨by decide +kernel, by decide +kernel, by decide +kernel⟩⟩
theorem k_MO_fault : fm_Vok y_MO_fault b_MO_fault 4 (some .int) 0 := ⟨q_3_166, qs_MO_fault, q_1_5, q_3_167, ⟨by decide +kernel, by decide +kernel, by decide +kernel⟩⟩
theorem k_MO_load : fm_Vok y_MO_load b_MO_load 4 (some .int) 1 := ⟨q_3_160, q_3_161, q_1_5, q_3_162, ⟨by decide +kernel, by decide +kernel, by decide +kernel⟩⟩
theorem k_MO_scaled : fm_Vok y_MO_scaled b_MO_scaled 10 (some .int) 2 := ⟨q_4_8, qs_MO_scaled, q_1_5, q_4_9, ⟨by decide +kernel, by decide +kernel, by decide +kernel⟩⟩
theorem k_MO_about : fm_Vok y_MO_about b_MO_about 2 (some .int) 1 := ⟨q_3_228, q_3_229, q_1_5, q_3_230, ⟨by decide +kernel, by decide +kernel, by decide +kernel⟩⟩
theorem k_MO_has : fm_Vok y_MO_has b_MO_has 2 (some .boolean) 1 := ⟨q_3_235, q_3_236, q_1_5, q_3_237, ⟨by decide +kernel, by decide +kernel, by decide +kernel⟩⟩
theorem k_MO_sizeOf : fm_Vok y_MO_sizeOf b_MO_sizeOf 5 (some .int) 2 := ⟨q_4_4, qs_MO_sizeOf, q_1_5, q_4_5, ⟨by decide +kernel, by decide +kernel, by decide +kernel⟩⟩
theorem k_MO_of : fm_Vok y_MO_of b_MO_of 3 (some .int) 2 := ⟨q_3_239, q_4_0, q_1_5, q_4_1, ⟨by decide +kernel, by decide +kernel, by decide +kernel⟩⟩
theorem k_MO_part : fm_Vok y_MO_part b_MO_part 3 (some .int) 2 := ⟨q_4_15, q_4_16, q_1_5, q_4_17, ⟨by decide +kernel, by decide +kernel, by decide +kernel⟩⟩
theorem k_MO_parameter : fm_Vok y_MO_parameter b_MO_parameter 4 (some .int) 1 := ⟨q_4_19, q_4_20, q_1_5, q_4_21, ⟨by decide +kernel, by decide +kernel, by decide +kernel⟩⟩
theorem k_MO_found : fm_Vok y_MO_found b_MO_found 5 (some .int) 2 := ⟨q_4_32, qs_MO_found, q_1_5, q_4_33, ⟨by decide +kernel, by decide +kernel, by decide +kernel⟩⟩
theorem k_MO_mayAsk : fm_Vok y_MO_mayAsk b_MO_mayAsk 2 (some .boolean) 1 := ⟨q_4_28, qs_MO_mayAsk, q_1_5, q_4_29, ⟨by decide +kernel, by decide +kernel, by decide +kernel⟩⟩
theorem k_MO_ask : fm_Vok y_MO_ask b_MO_ask 4 (some .int) 2 := ⟨q_4_23, q_4_24, q_1_5, q_4_25, ⟨by decide +kernel, by decide +kernel, by decide +kernel⟩⟩
theorem k_MO_add : fm_Vok y_MO_add b_MO_add 2 (some .boolean) 1 := ⟨q_4_35, q_4_36, q_1_5, q_4_37, ⟨by decide +kernel, by decide +kernel, by decide +kernel⟩⟩
theorem k_MO_insert : fm_Vok y_MO_insert b_MO_insert 5 none 3 := ⟨q_4_44, qs_MO_insert, q_1_5, q_4_45, ⟨by decide +kernel, by decide +kernel, by decide +kernel⟩⟩
theorem k_MO_remove : fm_Vok y_MO_remove b_MO_remove 3 none 1 := ⟨q_4_52, qs_MO_remove, q_1_5, q_4_53, ⟨by decide +kernel, by decide +kernel, by decide +kernel⟩⟩
theorem k_MO_step : fm_Vok y_MO_step b_MO_step 6 (some .int) 1 := ⟨q_4_48, qs_MO_step, q_1_5, q_4_49, ⟨by decide +kernel, by decide +kernel, by decide +kernel⟩⟩
theorem k_MO_set : fm_Vok y_MO_set b_MO_set 4 (some .int) 0 := ⟨q_4_39, q_4_40, q_1_5, q_4_41, ⟨by decide +kernel, by decide +kernel, by decide +kernel⟩⟩
theorem k_MO_isKern : fm_Vok y_MO_isKern b_MO_isKern 2 (some .boolean) 1 := ⟨q_4_55, q_4_56, q_1_5, q_4_57, ⟨by decide +kernel, by decide +kernel, by decide +kernel⟩⟩
theorem k_MO_item : fm_Vok y_MO_item b_MO_item 2 (some .int) 1 := ⟨q_4_59, q_4_60, q_1_5, q_4_61, ⟨by decide +kernel, by decide +kernel, by decide +kernel⟩⟩
theorem k_MO_total : fm_Vok y_MO_total b_MO_total 4 (some .long) 0 := ⟨q_4_63, q_4_64, q_1_5, q_4_65, ⟨by decide +kernel, by decide +kernel, by decide +kernel⟩⟩
theorem k_BF_append : fm_Vok y_BF_append b_BF_append 5 (some .boolean) 2 := ⟨q_1_126, q_1_127, q_1_2, q_1_128, ⟨by decide +kernel, by decide +kernel, by decide +kernel⟩⟩
theorem k_BF_cut : fm_Vok y_BF_cut b_BF_cut 2 (some .boolean) 1 := ⟨q_1_138, q_1_139, q_1_2, q_1_140, ⟨by decide +kernel, by decide +kernel, by decide +kernel⟩⟩
theorem k_BF_put : fm_Vok y_BF_put b_BF_put 4 none 1 := ⟨q_1_131, qs_BF_put, q_1_2, q_1_132, ⟨by decide +kernel, by decide +kernel, by decide +kernel⟩⟩
theorem k_FA_firstOfNumbers : fm_Sok y_FA_firstOfNumbers b_FA_firstOfNumbers 2 (some .int) 2 := ⟨q_2_49, q_1_12, q_2_50, ⟨by decide +kernel, by decide +kernel, by decide +kernel⟩⟩
theorem k_FA_firstOfParts : fm_Sok y_FA_firstOfParts b_FA_firstOfParts 1 (some .int) 1 := ⟨q_2_66, q_1_12, q_2_67, ⟨by decide +kernel, by decide +kernel, by decide +kernel⟩⟩
theorem k_FA_numbersAreSmall : fm_Sok y_FA_numbersAreSmall b_FA_numbersAreSmall 2 (some .boolean) 1 := ⟨q_2_52, q_1_12, q_2_53, ⟨by decide +kernel, by decide +kernel, by decide +kernel⟩⟩
theorem k_FA_partsAreEnough : fm_Sok y_FA_partsAreEnough b_FA_partsAreEnough 1 (some .boolean) 1 := ⟨q_2_56, q_1_12, q_2_57, ⟨by decide +kernel, by decide +kernel, by decide +kernel⟩⟩
theorem k_FA_lengthsAgree : fm_Sok y_FA_lengthsAgree b_FA_lengthsAgree 5 (some .boolean) 2 := ⟨q_2_63, q_1_12, q_2_64, ⟨by decide +kernel, by decide +kernel, by decide +kernel⟩⟩
theorem k_FA_measuresHavePlaces : fm_Sok y_FA_measuresHavePlaces b_FA_measuresHavePlaces 3 (some .boolean) 1 := ⟨q_2_71, q_1_12, q_2_72, ⟨by decide +kernel, by decide +kernel, by decide +kernel⟩⟩
theorem k_FA_tagsHold : fm_Sok y_FA_tagsHold b_FA_tagsHold 3 (some .boolean) 1 := ⟨q_2_84, q_1_12, q_2_85, ⟨by decide +kernel, by decide +kernel, by decide +kernel⟩⟩
theorem k_FA_tagHolds : fm_Sok y_FA_tagHolds b_FA_tagHolds 4 (some .boolean) 2 := ⟨q_2_88, q_1_12, q_2_89, ⟨by decide +kernel, by decide +kernel, by decide +kernel⟩⟩
theorem k_FA_leadsBack : fm_Sok y_FA_leadsBack b_FA_leadsBack 5 (some .boolean) 2 := ⟨q_2_98, q_1_12, q_2_99, ⟨by decide +kernel, by decide +kernel, by decide +kernel⟩⟩
theorem k_FA_fractionsHold : fm_Sok y_FA_fractionsHold b_FA_fractionsHold 2 (some .boolean) 1 := ⟨q_2_101, q_1_12, q_2_102, ⟨by decide +kernel, by decide +kernel, by decide +kernel⟩⟩
theorem k_FA_areFractions : fm_Sok y_FA_areFractions b_FA_areFractions 5 (some .boolean) 3 := ⟨q_2_104, q_1_12, q_2_105, ⟨by decide +kernel, by decide +kernel, by decide +kernel⟩⟩
theorem k_FA_programHolds : fm_Sok y_FA_programHolds b_FA_programHolds 3 (some .boolean) 1 := ⟨q_2_108, q_1_12, q_2_109, ⟨by decide +kernel, by decide +kernel, by decide +kernel⟩⟩
theorem k_FA_wayHolds : fm_Sok y_FA_wayHolds b_FA_wayHolds 5 (some .boolean) 3 := ⟨q_2_111, q_1_12, q_2_112, ⟨by decide +kernel, by decide +kernel, by decide +kernel⟩⟩
theorem k_FA_sayingHolds : fm_Sok y_FA_sayingHolds b_FA_sayingHolds 4 (some .boolean) 2 := ⟨q_2_117, q_1_12, q_2_118, ⟨by decide +kernel, by decide +kernel, by decide +kernel⟩⟩
theorem k_FA_recipesHold : fm_Sok y_FA_recipesHold b_FA_recipesHold 5 (some .boolean) 1 := ⟨q_2_128, q_1_12, q_2_129, ⟨by decide +kernel, by decide +kernel, by decide +kernel⟩⟩
theorem k_FO_take : fm_Vok y_FO_take b_FO_take 4 none 1 := ⟨q_2_30, q_2_31, q_1_4, q_2_32, ⟨by decide +kernel, by decide +kernel, by decide +kernel⟩⟩
theorem k_FO_lengthByNumbers : fm_Vok y_FO_lengthByNumbers b_FO_lengthByNumbers 2 (some .int) 1 := ⟨q_2_46, qs_FO_lengthByNumbers, q_1_4, q_2_47, ⟨by decide +kernel, by decide +kernel, by decide +kernel⟩⟩
theorem k_FO_resize : fm_Vok y_FO_resize b_FO_resize 2 none 1 := ⟨q_2_135, q_2_136, q_1_4, q_2_137, ⟨by decide +kernel, by decide +kernel, by decide +kernel⟩⟩
theorem k_FO_number : fm_Vok y_FO_number b_FO_number 4 (some .int) 1 := ⟨q_2_40, q_2_41, q_1_4, q_2_42, ⟨by decide +kernel, by decide +kernel, by decide +kernel⟩⟩
theorem k_FO_lengthOf : fm_Vok y_FO_lengthOf b_FO_lengthOf 2 (some .int) 1 := ⟨q_2_59, q_2_60, q_1_4, q_2_61, ⟨by decide +kernel, by decide +kernel, by decide +kernel⟩⟩
theorem k_FO_word : fm_Vok y_FO_word b_FO_word 4 (some .int) 2 := ⟨q_1_154, q_1_155, q_1_4, q_1_156, ⟨by decide +kernel, by decide +kernel, by decide +kernel⟩⟩
theorem k_FO_designSize : fm_Vok y_FO_designSize b_FO_designSize 1 (some .int) 0 := ⟨q_2_131, q_2_132, q_1_4, q_2_133, ⟨by decide +kernel, by decide +kernel, by decide +kernel⟩⟩
theorem k_FO_scaled : fm_Vok y_FO_scaled b_FO_scaled 6 (some .int) 1 := ⟨q_1_185, q_1_186, q_1_4, q_1_187, ⟨by decide +kernel, by decide +kernel, by decide +kernel⟩⟩
theorem k_FO_character : fm_Vok y_FO_character b_FO_character 2 (some .int) 1 := ⟨q_1_150, q_1_151, q_1_4, q_1_152, ⟨by decide +kernel, by decide +kernel, by decide +kernel⟩⟩
theorem k_FO_isThere : fm_Vok y_FO_isThere b_FO_isThere 2 (some .boolean) 1 := ⟨q_1_146, q_1_147, q_1_4, q_1_148, ⟨by decide +kernel, by decide +kernel, by decide +kernel⟩⟩
theorem k_FO_width : fm_Vok y_FO_width b_FO_width 2 (some .int) 1 := ⟨q_1_181, q_1_182, q_1_4, q_1_183, ⟨by decide +kernel, by decide +kernel, by decide +kernel⟩⟩
theorem k_FO_height : fm_Vok y_FO_height b_FO_height 2 (some .int) 1 := ⟨q_2_210, q_2_211, q_1_4, q_2_212, ⟨by decide +kernel, by decide +kernel, by decide +kernel⟩⟩
theorem k_FO_depth : fm_Vok y_FO_depth b_FO_depth 2 (some .int) 1 := ⟨q_2_215, q_2_216, q_1_4, q_2_217, ⟨by decide +kernel, by decide +kernel, by decide +kernel⟩⟩
theorem k_FO_italic : fm_Vok y_FO_italic b_FO_italic 2 (some .int) 1 := ⟨q_2_220, q_2_221, q_1_4, q_2_222, ⟨by decide +kernel, by decide +kernel, by decide +kernel⟩⟩
theorem k_FO_edge : fm_Vok y_FO_edge b_FO_edge 2 (some .int) 0 := ⟨q_2_120, q_2_121, q_1_4, q_2_122, ⟨by decide +kernel, by decide +kernel, by decide +kernel⟩⟩
theorem k_FO_edgeStart : fm_Vok y_FO_edgeStart b_FO_edgeStart 2 (some .int) 0 := ⟨q_2_175, q_2_176, q_1_4, q_2_177, ⟨by decide +kernel, by decide +kernel, by decide +kernel⟩⟩
theorem k_FO_find : fm_Vok y_FO_find b_FO_find 10 (some .int) 2 := ⟨q_3_18, q_3_19, q_1_4, q_3_20, ⟨by decide +kernel, by decide +kernel, by decide +kernel⟩⟩
theorem k_FO_programStart : fm_Vok y_FO_programStart b_FO_programStart 4 (some .int) 1 := ⟨q_3_23, qs_FO_programStart, q_1_4, q_3_24, ⟨by decide +kernel, by decide +kernel, by decide +kernel⟩⟩
theorem k_FO_startOfCharacter : fm_Sok y_FO_startOfCharacter b_FO_startOfCharacter 1 (some .int) 1 := ⟨q_3_27, q_1_4, q_3_28, ⟨by decide +kernel, by decide +kernel, by decide +kernel⟩⟩
theorem k_FO_kern : fm_Vok y_FO_kern b_FO_kern 2 (some .int) 1 := ⟨q_3_78, q_3_79, q_1_4, q_3_80, ⟨by decide +kernel, by decide +kernel, by decide +kernel⟩⟩
theorem k_FO_byteOf : fm_Sok y_FO_byteOf b_FO_byteOf 2 (some .int) 2 := ⟨q_1_190, q_1_4, q_1_191, ⟨by decide +kernel, by decide +kernel, by decide +kernel⟩⟩
theorem k_FO_target : fm_Sok y_FO_target b_FO_target 1 (some .int) 1 := ⟨q_2_114, q_1_4, q_2_115, ⟨by decide +kernel, by decide +kernel, by decide +kernel⟩⟩
theorem k_FO_saying : fm_Sok y_FO_saying b_FO_saying 1 (some .int) 1 := ⟨q_2_124, q_1_4, q_2_125, ⟨by decide +kernel, by decide +kernel, by decide +kernel⟩⟩
theorem k_FO_widthPlace : fm_Sok y_FO_widthPlace b_FO_widthPlace 1 (some .int) 1 := ⟨q_1_158, q_1_4, q_1_159, ⟨by decide +kernel, by decide +kernel, by decide +kernel⟩⟩
theorem k_FO_heightPlace : fm_Sok y_FO_heightPlace b_FO_heightPlace 1 (some .int) 1 := ⟨q_2_75, q_1_4, q_2_76, ⟨by decide +kernel, by decide +kernel, by decide +kernel⟩⟩
theorem k_FO_depthPlace : fm_Sok y_FO_depthPlace b_FO_depthPlace 1 (some .int) 1 := ⟨q_2_78, q_1_4, q_2_79, ⟨by decide +kernel, by decide +kernel, by decide +kernel⟩⟩
theorem k_FO_italicPlace : fm_Sok y_FO_italicPlace b_FO_italicPlace 1 (some .int) 1 := ⟨q_2_81, q_1_4, q_2_82, ⟨by decide +kernel, by decide +kernel, by decide +kernel⟩⟩
theorem k_FO_tag : fm_Sok y_FO_tag b_FO_tag 1 (some .int) 1 := ⟨q_2_95, q_1_4, q_2_96, ⟨by decide +kernel, by decide +kernel, by decide +kernel⟩⟩
theorem k_FO_rest : fm_Sok y_FO_rest b_FO_rest 1 (some .int) 1 := ⟨q_2_92, q_1_4, q_2_93, ⟨by decide +kernel, by decide +kernel, by decide +kernel⟩⟩
theorem k_LI_clear : fm_Vok y_LI_clear b_LI_clear 1 none 0 := ⟨q_2_140, q_2_141, q_1_3, q_2_142, ⟨by decide +kernel, by decide +kernel, by decide +kernel⟩⟩
theorem k_LI_lay : fm_Vok y_LI_lay b_LI_lay 5 none 3 := ⟨q_3_45, q_3_46, q_1_3, q_3_47, ⟨by decide +kernel, by decide +kernel, by decide +kernel⟩⟩
theorem k_LI_run : fm_Vok y_LI_run b_LI_run 3 (some .boolean) 1 := ⟨q_3_56, q_3_57, q_1_3, q_3_58, ⟨by decide +kernel, by decide +kernel, by decide +kernel⟩⟩
theorem k_LI_step : fm_Vok y_LI_step b_LI_step 5 none 1 := ⟨q_3_61, qs_LI_step, q_1_3, q_3_62, ⟨by decide +kernel, by decide +kernel, by decide +kernel⟩⟩
theorem k_LI_join : fm_Vok y_LI_join b_LI_join 5 none 3 := ⟨q_3_83, qs_LI_join, q_1_3, q_3_84, ⟨by decide +kernel, by decide +kernel, by decide +kernel⟩⟩
theorem k_LI_pass : fm_Vok y_LI_pass b_LI_pass 4 none 1 := ⟨q_3_70, qs_LI_pass, q_1_3, q_3_71, ⟨by decide +kernel, by decide +kernel, by decide +kernel⟩⟩
theorem k_LI_push : fm_Vok y_LI_push b_LI_push 2 none 1 := ⟨q_3_51, qs_LI_push, q_1_3, q_3_52, ⟨by decide +kernel, by decide +kernel, by decide +kernel⟩⟩
theorem k_LI_pendingAt : fm_Vok y_LI_pendingAt b_LI_pendingAt 3 (some .int) 1 := ⟨q_3_65, qs_LI_pendingAt, q_1_3, q_3_66, ⟨by decide +kernel, by decide +kernel, by decide +kernel⟩⟩
theorem k_LI_append : fm_Vok y_LI_append b_LI_append 3 none 2 := ⟨q_3_74, qs_LI_append, q_1_3, q_3_75, ⟨by decide +kernel, by decide +kernel, by decide +kernel⟩⟩
theorem k_LI_kernAt : fm_Vok y_LI_kernAt b_LI_kernAt 2 (some .boolean) 1 := ⟨q_1_173, q_1_174, q_1_3, q_1_175, ⟨by decide +kernel, by decide +kernel, by decide +kernel⟩⟩
theorem k_LI_valueAt : fm_Vok y_LI_valueAt b_LI_valueAt 2 (some .int) 1 := ⟨q_1_177, q_1_178, q_1_3, q_1_179, ⟨by decide +kernel, by decide +kernel, by decide +kernel⟩⟩
theorem k_LI_width : fm_Vok y_LI_width b_LI_width 5 (some .long) 1 := ⟨q_1_169, q_1_170, q_1_3, q_1_171, ⟨by decide +kernel, by decide +kernel, by decide +kernel⟩⟩
theorem i_BF : ∀ w ∈ u_ws R_BF F_BF 2, w ∈ fm_T := fun w hw => by
  obtain ⟨k, hk, rfl⟩ := List.mem_map.mp hw
  have hk := List.mem_range.mp hk
  rcases (show k = 0 ∨ k = 1 by omega) with rfl | rfl
  · exact q_1_33
  · exact q_1_35
theorem i_FO : ∀ w ∈ u_ws R_FO F_FO 8, w ∈ fm_T := fun w hw => by
  obtain ⟨k, hk, rfl⟩ := List.mem_map.mp hw
  have hk := List.mem_range.mp hk
  rcases (show k = 0 ∨ k = 1 ∨ k = 2 ∨ k = 3 ∨ k = 4 ∨ k = 5 ∨ k = 6 ∨ k = 7 by omega) with rfl | rfl | rfl | rfl | rfl | rfl | rfl | rfl
  · exact q_1_82
  · exact q_1_84
  · exact q_1_86
  · exact q_1_88
  · exact q_1_90
  · exact q_1_92
  · exact q_1_94
  · exact q_1_96
theorem i_LI : ∀ w ∈ u_ws R_LI F_LI 5, w ∈ fm_T := fun w hw => by
  obtain ⟨k, hk, rfl⟩ := List.mem_map.mp hw
  have hk := List.mem_range.mp hk
  rcases (show k = 0 ∨ k = 1 ∨ k = 2 ∨ k = 3 ∨ k = 4 by omega) with rfl | rfl | rfl | rfl | rfl
  · exact q_1_51
  · exact q_1_53
  · exact q_1_55
  · exact q_1_57
  · exact q_1_59
theorem i_FM : ∀ w ∈ u_ws R_FM F_FM 7, w ∈ fm_T := fun w hw => by
  obtain ⟨k, hk, rfl⟩ := List.mem_map.mp hw
  have hk := List.mem_range.mp hk
  rcases (show k = 0 ∨ k = 1 ∨ k = 2 ∨ k = 3 ∨ k = 4 ∨ k = 5 ∨ k = 6 by omega) with rfl | rfl | rfl | rfl | rfl | rfl | rfl
  · exact q_1_106
  · exact q_1_108
  · exact q_1_110
  · exact q_1_112
  · exact q_1_114
  · exact q_1_116
  · exact q_1_118
theorem i_MO : ∀ w ∈ u_ws R_MO F_MO 11, w ∈ fm_T := fun w hw => by
  obtain ⟨k, hk, rfl⟩ := List.mem_map.mp hw
  have hk := List.mem_range.mp hk
  rcases (show k = 0 ∨ k = 1 ∨ k = 2 ∨ k = 3 ∨ k = 4 ∨ k = 5 ∨ k = 6 ∨ k = 7 ∨ k = 8 ∨ k = 9 ∨ k = 10 by omega) with rfl | rfl | rfl | rfl | rfl | rfl | rfl | rfl | rfl | rfl | rfl
  · exact q_3_124
  · exact q_3_126
  · exact q_3_128
  · exact q_3_130
  · exact q_3_132
  · exact q_3_134
  · exact q_3_136
  · exact q_3_138
  · exact q_3_140
  · exact q_3_142
  · exact q_3_144
