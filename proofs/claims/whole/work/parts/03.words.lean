/-! ONE word list for all methods: what the tables say, as far as it stays -/
def wsG : List Cond := lw_tbl.filter goodWord
theorem wsG_of {w : Cond} (h : w ∈ lw_tbl) (hg : goodWord w = true) : w ∈ wsG := List.mem_filter.mpr ⟨h, hg⟩
theorem wsG_in : ∀ w ∈ wsG, w ∈ lw_tbl := fun w h => (List.mem_filter.mp h).1
theorem wsG_good : GoodIn wsG wsG := fun w h => ⟨h, good_of_word (List.mem_filter.mp h).2⟩
theorem wsG_goodL : GoodIn lw_tbl wsG := fun w h => ⟨wsG_in w h, good_of_word (List.mem_filter.mp h).2⟩
theorem wsG_t1 {w : Cond} (h : w ∈ tables_1_1) (hg : goodWord w = true) : w ∈ wsG := wsG_of (List.mem_append_right _ (List.mem_append_left _ h)) hg
theorem wsG_t2 {w : Cond} (h : w ∈ tables_1_2) (hg : goodWord w = true) : w ∈ wsG := wsG_of (List.mem_append_right _ (List.mem_append_right _ (List.mem_append_left _ h))) hg
theorem wsG_t3 {w : Cond} (h : w ∈ tables_1_3) (hg : goodWord w = true) : w ∈ wsG := wsG_of (List.mem_append_right _ (List.mem_append_right _ (List.mem_append_right _ (List.mem_append_left _ h)))) hg
theorem wsG_t4 {w : Cond} (h : w ∈ tables_1_4) (hg : goodWord w = true) : w ∈ wsG := wsG_of (List.mem_append_right _ (List.mem_append_right _ (List.mem_append_right _ (List.mem_append_right _ (List.mem_append_left _ h))))) hg
theorem wsG_t5 {w : Cond} (h : w ∈ tables_1_5) (hg : goodWord w = true) : w ∈ wsG := wsG_of (List.mem_append_right _ (List.mem_append_right _ (List.mem_append_right _ (List.mem_append_right _ (List.mem_append_right _ (h)))))) hg
theorem wsG_p {w : Cond} (h : w ∈ k2_sels lw_privs) (hg : goodWord w = true) : w ∈ wsG := wsG_of (List.mem_append_left _ h) hg
theorem k1_0 : Cond.initialized "KiteMeetLaw" ∈ wsG := wsG_t1 (List.mem_of_getElem? (i := 0) rfl) rfl
theorem k1_1 : Cond.initialized "KiteMeet" ∈ wsG := wsG_t1 (List.mem_of_getElem? (i := 1) rfl) rfl
theorem k1_2 : Cond.initialized "KiteMeet$State" ∈ wsG := wsG_t1 (List.mem_of_getElem? (i := 2) rfl) rfl
theorem k1_3 : Cond.initialized "KiteMeet$Air" ∈ wsG := wsG_t1 (List.mem_of_getElem? (i := 3) rfl) rfl
theorem k1_4 : Cond.initialized "KiteMeet$Flyers" ∈ wsG := wsG_t1 (List.mem_of_getElem? (i := 4) rfl) rfl
theorem k1_5 : Cond.initialized "KiteMeet$Winds" ∈ wsG := wsG_t1 (List.mem_of_getElem? (i := 5) rfl) rfl
theorem k1_6 : Cond.initialized "KiteMeet$Row" ∈ wsG := wsG_t1 (List.mem_of_getElem? (i := 6) rfl) rfl
theorem k1_7 : Cond.initialized "KiteMeet$Words" ∈ wsG := wsG_t1 (List.mem_of_getElem? (i := 7) rfl) rfl
theorem k1_8 : Cond.initialized "KiteMeet$History" ∈ wsG := wsG_t1 (List.mem_of_getElem? (i := 8) rfl) rfl
theorem k1_9 : Cond.initialized "KiteMeet$Joining" ∈ wsG := wsG_t1 (List.mem_of_getElem? (i := 9) rfl) rfl
theorem k1_10 : Cond.initialized "KiteMeet$Untangling" ∈ wsG := wsG_t1 (List.mem_of_getElem? (i := 10) rfl) rfl
theorem k1_11 : Cond.initialized "KiteMeet$Sheet" ∈ wsG := wsG_t1 (List.mem_of_getElem? (i := 11) rfl) rfl
theorem k1_12 : Cond.initialized "KiteMeetModel" ∈ wsG := wsG_t1 (List.mem_of_getElem? (i := 12) rfl) rfl
theorem k1_13 : Cond.initialized "java/lang/System" ∈ wsG := wsG_t1 (List.mem_of_getElem? (i := 13) rfl) rfl
theorem k1_14 : Cond.initialized "java/lang/Math" ∈ wsG := wsG_t1 (List.mem_of_getElem? (i := 14) rfl) rfl
theorem k1_15 : Cond.initialized "java/lang/Integer" ∈ wsG := wsG_t1 (List.mem_of_getElem? (i := 15) rfl) rfl
theorem k1_16 : Cond.classLink "KiteMeetLaw" (7) "KiteMeet" ∈ wsG := wsG_t1 (List.mem_of_getElem? (i := 16) rfl) rfl
theorem k1_17 : Cond.instantiable "KiteMeet" (8) ∈ wsG := wsG_t1 (List.mem_of_getElem? (i := 17) rfl) rfl
theorem k1_18 : Cond.methodLink "KiteMeetLaw" (9) yX10_init ∈ wsG := wsG_t1 (List.mem_of_getElem? (i := 18) rfl) rfl
theorem k1_19 : Cond.instanceMethod yX10_init ∈ wsG := wsG_t1 (List.mem_of_getElem? (i := 19) rfl) rfl
theorem k1_20 : Cond.code yX10_init prog_1_method_1_code (2) (Option.none : Option Jvm.ClassFile.FieldType) ∈ wsG := wsG_t1 (List.mem_of_getElem? (i := 20) rfl) rfl
theorem k1_21 : Cond.methodLink "KiteMeet" (1) objectInit ∈ wsG := wsG_t1 (List.mem_of_getElem? (i := 21) rfl) rfl
theorem k1_22 : Cond.instanceMethod objectInit ∈ wsG := wsG_t1 (List.mem_of_getElem? (i := 22) rfl) rfl
theorem k1_23 : Cond.code objectInit object_method_1_code (1) (Option.none : Option Jvm.ClassFile.FieldType) ∈ wsG := wsG_t1 (List.mem_of_getElem? (i := 23) rfl) rfl
theorem k1_24 : Cond.classLink "KiteMeet" (7) "KiteMeet$State" ∈ wsG := wsG_t1 (List.mem_of_getElem? (i := 24) rfl) rfl
theorem k1_25 : Cond.instantiable "KiteMeet$State" (2) ∈ wsG := wsG_t1 (List.mem_of_getElem? (i := 25) rfl) rfl
theorem k1_27 : Cond.instanceMethod yX6_init ∈ wsG := wsG_t1 (List.mem_of_getElem? (i := 27) rfl) rfl
theorem k1_28 : Cond.code yX6_init prog_8_method_1_code (1) (Option.none : Option Jvm.ClassFile.FieldType) ∈ wsG := wsG_t1 (List.mem_of_getElem? (i := 28) rfl) rfl
theorem k1_29 : Cond.methodLink "KiteMeet$State" (1) objectInit ∈ wsG := wsG_t1 (List.mem_of_getElem? (i := 29) rfl) rfl
theorem k1_30 : Cond.classLink "KiteMeet$State" (7) "KiteMeet$Air" ∈ wsG := wsG_t1 (List.mem_of_getElem? (i := 30) rfl) rfl
theorem k1_31 : Cond.instantiable "KiteMeet$Air" (3) ∈ wsG := wsG_t1 (List.mem_of_getElem? (i := 31) rfl) rfl
theorem k1_33 : Cond.instanceMethod yX0_init ∈ wsG := wsG_t1 (List.mem_of_getElem? (i := 33) rfl) rfl
theorem k1_34 : Cond.code yX0_init prog_2_method_1_code (1) (Option.none : Option Jvm.ClassFile.FieldType) ∈ wsG := wsG_t1 (List.mem_of_getElem? (i := 34) rfl) rfl
theorem k1_35 : Cond.methodLink "KiteMeet$Air" (3) objectInit ∈ wsG := wsG_t1 (List.mem_of_getElem? (i := 35) rfl) rfl
theorem k1_36 : Cond.classLink "KiteMeet$Air" (9) "KiteMeet$Flyers" ∈ wsG := wsG_t1 (List.mem_of_getElem? (i := 36) rfl) rfl
theorem k1_37 : Cond.instantiable "KiteMeet$Flyers" (2) ∈ wsG := wsG_t1 (List.mem_of_getElem? (i := 37) rfl) rfl
theorem k1_39 : Cond.instanceMethod yX1_init ∈ wsG := wsG_t1 (List.mem_of_getElem? (i := 39) rfl) rfl
theorem k1_40 : Cond.code yX1_init prog_3_method_1_code (1) (Option.none : Option Jvm.ClassFile.FieldType) ∈ wsG := wsG_t1 (List.mem_of_getElem? (i := 40) rfl) rfl
theorem k1_41 : Cond.methodLink "KiteMeet$Flyers" (3) objectInit ∈ wsG := wsG_t1 (List.mem_of_getElem? (i := 41) rfl) rfl
theorem k1_42 : Cond.fieldLink "KiteMeet$Flyers" (11) "KiteMeet$Flyers" "traits" "[I" ∈ wsG := wsG_t1 (List.mem_of_getElem? (i := 42) rfl) rfl
theorem k1_43 : Cond.fieldLink "KiteMeet$Flyers" (15) "KiteMeet$Flyers" "count" "I" ∈ wsG := wsG_t1 (List.mem_of_getElem? (i := 43) rfl) rfl
theorem k1_46 : Cond.laysFinal "KiteMeet$Flyers" "KiteMeet$Flyers" "traits" "[I" ∈ wsG := wsG_t1 (List.mem_of_getElem? (i := 46) rfl) rfl
theorem k1_48 : Cond.lays "KiteMeet$Flyers" "KiteMeet$Flyers" "count" "I" ∈ wsG := wsG_t1 (List.mem_of_getElem? (i := 48) rfl) rfl
theorem k1_51 : Cond.arrayClass FieldType.int ∈ wsG := wsG_t1 (List.mem_of_getElem? (i := 51) rfl) rfl
theorem k1_52 : Cond.classLink "KiteMeet$Air" (18) "KiteMeet$Winds" ∈ wsG := wsG_t1 (List.mem_of_getElem? (i := 52) rfl) rfl
theorem k1_53 : Cond.instantiable "KiteMeet$Winds" (2) ∈ wsG := wsG_t1 (List.mem_of_getElem? (i := 53) rfl) rfl
theorem k1_55 : Cond.instanceMethod yX8_init ∈ wsG := wsG_t1 (List.mem_of_getElem? (i := 55) rfl) rfl
theorem k1_56 : Cond.code yX8_init prog_10_method_1_code (1) (Option.none : Option Jvm.ClassFile.FieldType) ∈ wsG := wsG_t1 (List.mem_of_getElem? (i := 56) rfl) rfl
theorem k1_57 : Cond.methodLink "KiteMeet$Winds" (3) objectInit ∈ wsG := wsG_t1 (List.mem_of_getElem? (i := 57) rfl) rfl
theorem k1_58 : Cond.fieldLink "KiteMeet$Winds" (9) "KiteMeet$Winds" "directions" "[I" ∈ wsG := wsG_t1 (List.mem_of_getElem? (i := 58) rfl) rfl
theorem k1_59 : Cond.fieldLink "KiteMeet$Winds" (15) "KiteMeet$Winds" "forces" "[I" ∈ wsG := wsG_t1 (List.mem_of_getElem? (i := 59) rfl) rfl
theorem k1_60 : Cond.laysFinal "KiteMeet$Winds" "KiteMeet$Winds" "directions" "[I" ∈ wsG := wsG_t1 (List.mem_of_getElem? (i := 60) rfl) rfl
theorem k1_62 : Cond.laysFinal "KiteMeet$Winds" "KiteMeet$Winds" "forces" "[I" ∈ wsG := wsG_t1 (List.mem_of_getElem? (i := 62) rfl) rfl
theorem k1_65 : Cond.fieldLink "KiteMeet$Air" (12) "KiteMeet$Air" "flyers" "LKiteMeet$Flyers;" ∈ wsG := wsG_t1 (List.mem_of_getElem? (i := 65) rfl) rfl
theorem k1_68 : Cond.fieldLink "KiteMeet$Air" (21) "KiteMeet$Air" "winds" "LKiteMeet$Winds;" ∈ wsG := wsG_t1 (List.mem_of_getElem? (i := 68) rfl) rfl
theorem k1_71 : Cond.fieldLink "KiteMeet$Air" (25) "KiteMeet$Air" "near" "[I" ∈ wsG := wsG_t1 (List.mem_of_getElem? (i := 71) rfl) rfl
theorem k1_72 : Cond.laysFinal "KiteMeet$Air" "KiteMeet$Air" "flyers" "LKiteMeet$Flyers;" ∈ wsG := wsG_t1 (List.mem_of_getElem? (i := 72) rfl) rfl
theorem k1_74 : Cond.laysFinal "KiteMeet$Air" "KiteMeet$Air" "winds" "LKiteMeet$Winds;" ∈ wsG := wsG_t1 (List.mem_of_getElem? (i := 74) rfl) rfl
theorem k1_76 : Cond.laysFinal "KiteMeet$Air" "KiteMeet$Air" "near" "[I" ∈ wsG := wsG_t1 (List.mem_of_getElem? (i := 76) rfl) rfl
theorem k1_79 : Cond.classLink "KiteMeet$State" (16) "KiteMeet$Row" ∈ wsG := wsG_t1 (List.mem_of_getElem? (i := 79) rfl) rfl
theorem k1_80 : Cond.instantiable "KiteMeet$Row" (7) ∈ wsG := wsG_t1 (List.mem_of_getElem? (i := 80) rfl) rfl
theorem k1_81 : Cond.methodLink "KiteMeet$State" (18) yX4_init ∈ wsG := wsG_t1 (List.mem_of_getElem? (i := 81) rfl) rfl
theorem k1_82 : Cond.instanceMethod yX4_init ∈ wsG := wsG_t1 (List.mem_of_getElem? (i := 82) rfl) rfl
theorem k1_83 : Cond.code yX4_init prog_6_method_1_code (1) (Option.none : Option Jvm.ClassFile.FieldType) ∈ wsG := wsG_t1 (List.mem_of_getElem? (i := 83) rfl) rfl
theorem k1_84 : Cond.methodLink "KiteMeet$Row" (3) objectInit ∈ wsG := wsG_t1 (List.mem_of_getElem? (i := 84) rfl) rfl
theorem k1_85 : Cond.classLink "KiteMeet$Row" (9) "KiteMeet$Words" ∈ wsG := wsG_t1 (List.mem_of_getElem? (i := 85) rfl) rfl
theorem k1_86 : Cond.instantiable "KiteMeet$Words" (3) ∈ wsG := wsG_t1 (List.mem_of_getElem? (i := 86) rfl) rfl
theorem k1_88 : Cond.instanceMethod yX9_init ∈ wsG := wsG_t1 (List.mem_of_getElem? (i := 88) rfl) rfl
theorem k1_89 : Cond.code yX9_init prog_11_method_1_code (1) (Option.none : Option Jvm.ClassFile.FieldType) ∈ wsG := wsG_t1 (List.mem_of_getElem? (i := 89) rfl) rfl
theorem k1_90 : Cond.methodLink "KiteMeet$Words" (3) objectInit ∈ wsG := wsG_t1 (List.mem_of_getElem? (i := 90) rfl) rfl
theorem k1_91 : Cond.fieldLink "KiteMeet$Words" (9) "KiteMeet$Words" "lengths" "[I" ∈ wsG := wsG_t1 (List.mem_of_getElem? (i := 91) rfl) rfl
theorem k1_94 : Cond.fieldLink "KiteMeet$Words" (15) "KiteMeet$Words" "letters" "[I" ∈ wsG := wsG_t1 (List.mem_of_getElem? (i := 94) rfl) rfl
theorem k1_95 : Cond.fieldLink "KiteMeet$Words" (18) "KiteMeet$Words" "size" "I" ∈ wsG := wsG_t1 (List.mem_of_getElem? (i := 95) rfl) rfl
theorem k1_97 : Cond.laysFinal "KiteMeet$Words" "KiteMeet$Words" "lengths" "[I" ∈ wsG := wsG_t1 (List.mem_of_getElem? (i := 97) rfl) rfl
theorem k1_99 : Cond.laysFinal "KiteMeet$Words" "KiteMeet$Words" "letters" "[I" ∈ wsG := wsG_t1 (List.mem_of_getElem? (i := 99) rfl) rfl
theorem k1_101 : Cond.lays "KiteMeet$Words" "KiteMeet$Words" "size" "I" ∈ wsG := wsG_t1 (List.mem_of_getElem? (i := 101) rfl) rfl
theorem k1_104 : Cond.methodLink "KiteMeet$Row" (31) yX4_begin ∈ wsG := wsG_t1 (List.mem_of_getElem? (i := 104) rfl) rfl
theorem k1_105 : Cond.instanceMethod yX4_begin ∈ wsG := wsG_t1 (List.mem_of_getElem? (i := 105) rfl) rfl
theorem k1_106 : Cond.selects "KiteMeet$Row" yX4_begin yX4_begin ∈ wsG := wsG_t1 (List.mem_of_getElem? (i := 106) rfl) rfl
theorem k1_107 : Cond.code yX4_begin prog_6_method_2_code (3) (Option.none : Option Jvm.ClassFile.FieldType) ∈ wsG := wsG_t1 (List.mem_of_getElem? (i := 107) rfl) rfl
theorem k1_108 : Cond.methodLink "KiteMeet$Row" (42) yX9_begin ∈ wsG := wsG_t1 (List.mem_of_getElem? (i := 108) rfl) rfl
theorem k1_109 : Cond.instanceMethod yX9_begin ∈ wsG := wsG_t1 (List.mem_of_getElem? (i := 109) rfl) rfl
theorem k1_110 : Cond.selects "KiteMeet$Words" yX9_begin yX9_begin ∈ wsG := wsG_t1 (List.mem_of_getElem? (i := 110) rfl) rfl
theorem k1_111 : Cond.code yX9_begin prog_11_method_2_code (3) (Option.none : Option Jvm.ClassFile.FieldType) ∈ wsG := wsG_t1 (List.mem_of_getElem? (i := 111) rfl) rfl
theorem k1_112 : Cond.fieldLink "KiteMeet$Row" (12) "KiteMeet$Row" "words" "LKiteMeet$Words;" ∈ wsG := wsG_t1 (List.mem_of_getElem? (i := 112) rfl) rfl
theorem k1_114 : Cond.fieldLink "KiteMeet$Row" (18) "KiteMeet$Row" "standing" "[I" ∈ wsG := wsG_t1 (List.mem_of_getElem? (i := 114) rfl) rfl
theorem k1_116 : Cond.fieldLink "KiteMeet$Row" (22) "KiteMeet$Row" "twists" "[I" ∈ wsG := wsG_t1 (List.mem_of_getElem? (i := 116) rfl) rfl
theorem k1_117 : Cond.fieldLink "KiteMeet$Row" (25) "KiteMeet$Row" "sharpness" "[I" ∈ wsG := wsG_t1 (List.mem_of_getElem? (i := 117) rfl) rfl
theorem k1_119 : Cond.fieldLink "KiteMeet$Row" (28) "KiteMeet$Row" "worn" "[I" ∈ wsG := wsG_t1 (List.mem_of_getElem? (i := 119) rfl) rfl
theorem k1_121 : Cond.fieldLink "KiteMeet$Row" (35) "KiteMeet$Row" "size" "I" ∈ wsG := wsG_t1 (List.mem_of_getElem? (i := 121) rfl) rfl
theorem k1_123 : Cond.fieldLink "KiteMeet$Row" (39) "KiteMeet$Row" "walks" "I" ∈ wsG := wsG_t1 (List.mem_of_getElem? (i := 123) rfl) rfl
theorem k1_125 : Cond.laysFinal "KiteMeet$Row" "KiteMeet$Row" "words" "LKiteMeet$Words;" ∈ wsG := wsG_t1 (List.mem_of_getElem? (i := 125) rfl) rfl
theorem k1_127 : Cond.laysFinal "KiteMeet$Row" "KiteMeet$Row" "standing" "[I" ∈ wsG := wsG_t1 (List.mem_of_getElem? (i := 127) rfl) rfl
theorem k1_129 : Cond.laysFinal "KiteMeet$Row" "KiteMeet$Row" "twists" "[I" ∈ wsG := wsG_t1 (List.mem_of_getElem? (i := 129) rfl) rfl
theorem k1_131 : Cond.laysFinal "KiteMeet$Row" "KiteMeet$Row" "sharpness" "[I" ∈ wsG := wsG_t1 (List.mem_of_getElem? (i := 131) rfl) rfl
theorem k1_133 : Cond.laysFinal "KiteMeet$Row" "KiteMeet$Row" "worn" "[I" ∈ wsG := wsG_t1 (List.mem_of_getElem? (i := 133) rfl) rfl
theorem k1_135 : Cond.lays "KiteMeet$Row" "KiteMeet$Row" "size" "I" ∈ wsG := wsG_t1 (List.mem_of_getElem? (i := 135) rfl) rfl
theorem k1_137 : Cond.lays "KiteMeet$Row" "KiteMeet$Row" "walks" "I" ∈ wsG := wsG_t1 (List.mem_of_getElem? (i := 137) rfl) rfl
theorem k1_140 : Cond.fieldLink "KiteMeet$State" (10) "KiteMeet$State" "air" "LKiteMeet$Air;" ∈ wsG := wsG_t1 (List.mem_of_getElem? (i := 140) rfl) rfl
theorem k1_142 : Cond.fieldLink "KiteMeet$State" (19) "KiteMeet$State" "row" "LKiteMeet$Row;" ∈ wsG := wsG_t1 (List.mem_of_getElem? (i := 142) rfl) rfl
theorem k1_144 : Cond.laysFinal "KiteMeet$State" "KiteMeet$State" "air" "LKiteMeet$Air;" ∈ wsG := wsG_t1 (List.mem_of_getElem? (i := 144) rfl) rfl
theorem k1_146 : Cond.laysFinal "KiteMeet$State" "KiteMeet$State" "row" "LKiteMeet$Row;" ∈ wsG := wsG_t1 (List.mem_of_getElem? (i := 146) rfl) rfl
theorem k1_149 : Cond.classLink "KiteMeet" (16) "KiteMeet$History" ∈ wsG := wsG_t1 (List.mem_of_getElem? (i := 149) rfl) rfl
theorem k1_150 : Cond.instantiable "KiteMeet$History" (3) ∈ wsG := wsG_t1 (List.mem_of_getElem? (i := 150) rfl) rfl
theorem k1_152 : Cond.instanceMethod yX2_init ∈ wsG := wsG_t1 (List.mem_of_getElem? (i := 152) rfl) rfl
theorem k1_153 : Cond.code yX2_init prog_4_method_1_code (1) (Option.none : Option Jvm.ClassFile.FieldType) ∈ wsG := wsG_t1 (List.mem_of_getElem? (i := 153) rfl) rfl
theorem k1_154 : Cond.methodLink "KiteMeet$History" (3) objectInit ∈ wsG := wsG_t1 (List.mem_of_getElem? (i := 154) rfl) rfl
theorem k1_155 : Cond.classLink "KiteMeet$History" (9) "KiteMeet$State" ∈ wsG := wsG_t1 (List.mem_of_getElem? (i := 155) rfl) rfl
theorem k1_157 : Cond.fieldLink "KiteMeet$History" (11) "KiteMeet$History" "states" "[LKiteMeet$State;" ∈ wsG := wsG_t1 (List.mem_of_getElem? (i := 157) rfl) rfl
theorem k1_158 : Cond.fieldLink "KiteMeet$History" (17) "KiteMeet$History" "next" "I" ∈ wsG := wsG_t1 (List.mem_of_getElem? (i := 158) rfl) rfl
theorem k1_159 : Cond.fieldLink "KiteMeet$History" (26) "KiteMeet$History" "count" "I" ∈ wsG := wsG_t1 (List.mem_of_getElem? (i := 159) rfl) rfl
theorem k1_161 : Cond.laysFinal "KiteMeet$History" "KiteMeet$History" "states" "[LKiteMeet$State;" ∈ wsG := wsG_t1 (List.mem_of_getElem? (i := 161) rfl) rfl
theorem k1_163 : Cond.lays "KiteMeet$History" "KiteMeet$History" "next" "I" ∈ wsG := wsG_t1 (List.mem_of_getElem? (i := 163) rfl) rfl
theorem k1_165 : Cond.lays "KiteMeet$History" "KiteMeet$History" "count" "I" ∈ wsG := wsG_t1 (List.mem_of_getElem? (i := 165) rfl) rfl
theorem k1_168 : Cond.classLink "KiteMeet" (23) "KiteMeet$Sheet" ∈ wsG := wsG_t1 (List.mem_of_getElem? (i := 168) rfl) rfl
theorem k1_170 : Cond.classLink "KiteMeet" (29) "KiteMeet$Joining" ∈ wsG := wsG_t1 (List.mem_of_getElem? (i := 170) rfl) rfl
theorem k1_171 : Cond.instantiable "KiteMeet$Joining" (2) ∈ wsG := wsG_t1 (List.mem_of_getElem? (i := 171) rfl) rfl
theorem k1_173 : Cond.instanceMethod yX3_init ∈ wsG := wsG_t1 (List.mem_of_getElem? (i := 173) rfl) rfl
theorem k1_174 : Cond.code yX3_init prog_5_method_1_code (1) (Option.none : Option Jvm.ClassFile.FieldType) ∈ wsG := wsG_t1 (List.mem_of_getElem? (i := 174) rfl) rfl
theorem k1_175 : Cond.methodLink "KiteMeet$Joining" (3) objectInit ∈ wsG := wsG_t1 (List.mem_of_getElem? (i := 175) rfl) rfl
theorem k1_176 : Cond.fieldLink "KiteMeet$Joining" (9) "KiteMeet$Joining" "letters" "[I" ∈ wsG := wsG_t1 (List.mem_of_getElem? (i := 176) rfl) rfl
theorem k1_178 : Cond.fieldLink "KiteMeet$Joining" (15) "KiteMeet$Joining" "length" "I" ∈ wsG := wsG_t1 (List.mem_of_getElem? (i := 178) rfl) rfl
theorem k1_180 : Cond.laysFinal "KiteMeet$Joining" "KiteMeet$Joining" "letters" "[I" ∈ wsG := wsG_t1 (List.mem_of_getElem? (i := 180) rfl) rfl
theorem k1_182 : Cond.lays "KiteMeet$Joining" "KiteMeet$Joining" "length" "I" ∈ wsG := wsG_t1 (List.mem_of_getElem? (i := 182) rfl) rfl
theorem k1_185 : Cond.classLink "KiteMeet" (36) "KiteMeet$Untangling" ∈ wsG := wsG_t1 (List.mem_of_getElem? (i := 185) rfl) rfl
theorem k1_186 : Cond.instantiable "KiteMeet$Untangling" (1) ∈ wsG := wsG_t1 (List.mem_of_getElem? (i := 186) rfl) rfl
theorem k1_188 : Cond.instanceMethod yX7_init ∈ wsG := wsG_t1 (List.mem_of_getElem? (i := 188) rfl) rfl
theorem k1_189 : Cond.code yX7_init prog_9_method_1_code (1) (Option.none : Option Jvm.ClassFile.FieldType) ∈ wsG := wsG_t1 (List.mem_of_getElem? (i := 189) rfl) rfl
theorem k1_190 : Cond.methodLink "KiteMeet$Untangling" (3) objectInit ∈ wsG := wsG_t1 (List.mem_of_getElem? (i := 190) rfl) rfl
theorem k1_191 : Cond.fieldLink "KiteMeet$Untangling" (9) "KiteMeet$Untangling" "walks" "[I" ∈ wsG := wsG_t1 (List.mem_of_getElem? (i := 191) rfl) rfl
theorem k1_193 : Cond.laysFinal "KiteMeet$Untangling" "KiteMeet$Untangling" "walks" "[I" ∈ wsG := wsG_t1 (List.mem_of_getElem? (i := 193) rfl) rfl
theorem k1_196 : Cond.classLink "KiteMeet" (43) "KiteMeet$Words" ∈ wsG := wsG_t1 (List.mem_of_getElem? (i := 196) rfl) rfl
theorem k1_198 : Cond.instantiable "KiteMeet$Sheet" (3) ∈ wsG := wsG_t1 (List.mem_of_getElem? (i := 198) rfl) rfl
theorem k1_200 : Cond.instanceMethod yX5_init ∈ wsG := wsG_t1 (List.mem_of_getElem? (i := 200) rfl) rfl
theorem k1_201 : Cond.code yX5_init prog_7_method_1_code (1) (Option.none : Option Jvm.ClassFile.FieldType) ∈ wsG := wsG_t1 (List.mem_of_getElem? (i := 201) rfl) rfl
theorem k1_202 : Cond.methodLink "KiteMeet$Sheet" (3) objectInit ∈ wsG := wsG_t1 (List.mem_of_getElem? (i := 202) rfl) rfl
theorem k1_203 : Cond.fieldLink "KiteMeet$Sheet" (9) "KiteMeet$Sheet" "numbers" "[I" ∈ wsG := wsG_t1 (List.mem_of_getElem? (i := 203) rfl) rfl
theorem k1_205 : Cond.fieldLink "KiteMeet$Sheet" (15) "KiteMeet$Sheet" "bits" "I" ∈ wsG := wsG_t1 (List.mem_of_getElem? (i := 205) rfl) rfl
theorem k1_207 : Cond.fieldLink "KiteMeet$Sheet" (19) "KiteMeet$Sheet" "count" "I" ∈ wsG := wsG_t1 (List.mem_of_getElem? (i := 207) rfl) rfl
theorem k1_209 : Cond.laysFinal "KiteMeet$Sheet" "KiteMeet$Sheet" "numbers" "[I" ∈ wsG := wsG_t1 (List.mem_of_getElem? (i := 209) rfl) rfl
theorem k1_211 : Cond.lays "KiteMeet$Sheet" "KiteMeet$Sheet" "bits" "I" ∈ wsG := wsG_t1 (List.mem_of_getElem? (i := 211) rfl) rfl
theorem k1_213 : Cond.lays "KiteMeet$Sheet" "KiteMeet$Sheet" "count" "I" ∈ wsG := wsG_t1 (List.mem_of_getElem? (i := 213) rfl) rfl
theorem k1_216 : Cond.fieldLink "KiteMeet" (10) "KiteMeet" "now" "LKiteMeet$State;" ∈ wsG := wsG_t1 (List.mem_of_getElem? (i := 216) rfl) rfl
theorem k1_217 : Cond.fieldLink "KiteMeet" (19) "KiteMeet" "history" "LKiteMeet$History;" ∈ wsG := wsG_t1 (List.mem_of_getElem? (i := 217) rfl) rfl
theorem k1_218 : Cond.fieldLink "KiteMeet" (25) "KiteMeet" "sheets" "[LKiteMeet$Sheet;" ∈ wsG := wsG_t1 (List.mem_of_getElem? (i := 218) rfl) rfl
theorem k1_219 : Cond.fieldLink "KiteMeet" (32) "KiteMeet" "joining" "LKiteMeet$Joining;" ∈ wsG := wsG_t1 (List.mem_of_getElem? (i := 219) rfl) rfl
theorem k1_220 : Cond.fieldLink "KiteMeet" (39) "KiteMeet" "untangling" "LKiteMeet$Untangling;" ∈ wsG := wsG_t1 (List.mem_of_getElem? (i := 220) rfl) rfl
theorem k1_221 : Cond.fieldLink "KiteMeet" (46) "KiteMeet" "trial" "LKiteMeet$Words;" ∈ wsG := wsG_t1 (List.mem_of_getElem? (i := 221) rfl) rfl
theorem k1_222 : Cond.fieldLink "KiteMeet" (50) "KiteMeet" "otherTrial" "LKiteMeet$Words;" ∈ wsG := wsG_t1 (List.mem_of_getElem? (i := 222) rfl) rfl
theorem k1_223 : Cond.fieldLink "KiteMeet" (305) "KiteMeet" "findings" "I" ∈ wsG := wsG_t1 (List.mem_of_getElem? (i := 223) rfl) rfl
theorem k1_224 : Cond.laysFinal "KiteMeet" "KiteMeet" "now" "LKiteMeet$State;" ∈ wsG := wsG_t1 (List.mem_of_getElem? (i := 224) rfl) rfl
theorem k1_226 : Cond.laysFinal "KiteMeet" "KiteMeet" "history" "LKiteMeet$History;" ∈ wsG := wsG_t1 (List.mem_of_getElem? (i := 226) rfl) rfl
theorem k1_228 : Cond.laysFinal "KiteMeet" "KiteMeet" "sheets" "[LKiteMeet$Sheet;" ∈ wsG := wsG_t1 (List.mem_of_getElem? (i := 228) rfl) rfl
theorem k1_230 : Cond.laysFinal "KiteMeet" "KiteMeet" "joining" "LKiteMeet$Joining;" ∈ wsG := wsG_t1 (List.mem_of_getElem? (i := 230) rfl) rfl
theorem k1_232 : Cond.laysFinal "KiteMeet" "KiteMeet" "untangling" "LKiteMeet$Untangling;" ∈ wsG := wsG_t1 (List.mem_of_getElem? (i := 232) rfl) rfl
theorem k1_234 : Cond.laysFinal "KiteMeet" "KiteMeet" "trial" "LKiteMeet$Words;" ∈ wsG := wsG_t1 (List.mem_of_getElem? (i := 234) rfl) rfl
theorem k1_236 : Cond.laysFinal "KiteMeet" "KiteMeet" "otherTrial" "LKiteMeet$Words;" ∈ wsG := wsG_t1 (List.mem_of_getElem? (i := 236) rfl) rfl
theorem k1_238 : Cond.lays "KiteMeet" "KiteMeet" "findings" "I" ∈ wsG := wsG_t1 (List.mem_of_getElem? (i := 238) rfl) rfl
theorem k2_1 : Cond.methodLink "KiteMeetLaw" (13) yX10_flyer ∈ wsG := wsG_t2 (List.mem_of_getElem? (i := 1) rfl) rfl
theorem k2_2 : Cond.instanceMethod yX10_flyer ∈ wsG := wsG_t2 (List.mem_of_getElem? (i := 2) rfl) rfl
theorem k2_3 : Cond.selects "KiteMeet" yX10_flyer yX10_flyer ∈ wsG := wsG_t2 (List.mem_of_getElem? (i := 3) rfl) rfl
theorem k2_4 : Cond.code yX10_flyer prog_1_method_2_code (8) (Option.some FieldType.int) ∈ wsG := wsG_t2 (List.mem_of_getElem? (i := 4) rfl) rfl
theorem k2_5 : Cond.methodLink "KiteMeet" (54) yX10_isKind ∈ wsG := wsG_t2 (List.mem_of_getElem? (i := 5) rfl) rfl
theorem k2_6 : Cond.static yX10_isKind ∈ wsG := wsG_t2 (List.mem_of_getElem? (i := 6) rfl) rfl
theorem k2_7 : Cond.code yX10_isKind prog_1_method_35_code (1) (Option.some FieldType.boolean) ∈ wsG := wsG_t2 (List.mem_of_getElem? (i := 7) rfl) rfl
theorem k2_8 : Cond.methodLink "KiteMeet" (58) yX10_isSpot ∈ wsG := wsG_t2 (List.mem_of_getElem? (i := 8) rfl) rfl
theorem k2_9 : Cond.static yX10_isSpot ∈ wsG := wsG_t2 (List.mem_of_getElem? (i := 9) rfl) rfl
theorem k2_10 : Cond.code yX10_isSpot prog_1_method_37_code (1) (Option.some FieldType.boolean) ∈ wsG := wsG_t2 (List.mem_of_getElem? (i := 10) rfl) rfl
theorem k2_11 : Cond.methodLink "KiteMeet" (61) yX10_isHeight ∈ wsG := wsG_t2 (List.mem_of_getElem? (i := 11) rfl) rfl
theorem k2_12 : Cond.static yX10_isHeight ∈ wsG := wsG_t2 (List.mem_of_getElem? (i := 12) rfl) rfl
theorem k2_13 : Cond.code yX10_isHeight prog_1_method_38_code (1) (Option.some FieldType.boolean) ∈ wsG := wsG_t2 (List.mem_of_getElem? (i := 13) rfl) rfl
theorem k2_14 : Cond.constant "KiteMeet" (64) (-100001 : Int32) ∈ wsG := wsG_t2 (List.mem_of_getElem? (i := 14) rfl) rfl
theorem k2_15 : Cond.methodLink "KiteMeet" (65) yX10_finding ∈ wsG := wsG_t2 (List.mem_of_getElem? (i := 15) rfl) rfl
theorem k2_17 : Cond.instanceMethod yX10_finding ∈ wsG := wsG_t2 (List.mem_of_getElem? (i := 17) rfl) rfl
theorem k2_18 : Cond.code yX10_finding prog_1_method_32_code (2) (Option.some FieldType.int) ∈ wsG := wsG_t2 (List.mem_of_getElem? (i := 18) rfl) rfl
theorem k2_19 : Cond.methodLink "KiteMeet" (69) yX10_isLine ∈ wsG := wsG_t2 (List.mem_of_getElem? (i := 19) rfl) rfl
theorem k2_20 : Cond.static yX10_isLine ∈ wsG := wsG_t2 (List.mem_of_getElem? (i := 20) rfl) rfl
theorem k2_21 : Cond.code yX10_isLine prog_1_method_39_code (1) (Option.some FieldType.boolean) ∈ wsG := wsG_t2 (List.mem_of_getElem? (i := 21) rfl) rfl
theorem k2_22 : Cond.methodLink "KiteMeet" (72) yX10_leastOf ∈ wsG := wsG_t2 (List.mem_of_getElem? (i := 22) rfl) rfl
theorem k2_23 : Cond.static yX10_leastOf ∈ wsG := wsG_t2 (List.mem_of_getElem? (i := 23) rfl) rfl
theorem k2_24 : Cond.code yX10_leastOf prog_1_method_41_code (1) (Option.some FieldType.int) ∈ wsG := wsG_t2 (List.mem_of_getElem? (i := 24) rfl) rfl
theorem k2_25 : Cond.methodLink "KiteMeet" (75) yX10_isForce ∈ wsG := wsG_t2 (List.mem_of_getElem? (i := 25) rfl) rfl
theorem k2_26 : Cond.static yX10_isForce ∈ wsG := wsG_t2 (List.mem_of_getElem? (i := 26) rfl) rfl
theorem k2_27 : Cond.code yX10_isForce prog_1_method_40_code (1) (Option.some FieldType.boolean) ∈ wsG := wsG_t2 (List.mem_of_getElem? (i := 27) rfl) rfl
theorem k2_28 : Cond.methodLink "KiteMeet" (78) yX10_mostOf ∈ wsG := wsG_t2 (List.mem_of_getElem? (i := 28) rfl) rfl
theorem k2_29 : Cond.static yX10_mostOf ∈ wsG := wsG_t2 (List.mem_of_getElem? (i := 29) rfl) rfl
theorem k2_30 : Cond.code yX10_mostOf prog_1_method_42_code (1) (Option.some FieldType.int) ∈ wsG := wsG_t2 (List.mem_of_getElem? (i := 30) rfl) rfl
theorem k2_31 : Cond.constant "KiteMeet" (81) (-100003 : Int32) ∈ wsG := wsG_t2 (List.mem_of_getElem? (i := 31) rfl) rfl
theorem k2_32 : Cond.methodLink "KiteMeet" (92) yX1_areFull ∈ wsG := wsG_t2 (List.mem_of_getElem? (i := 32) rfl) rfl
theorem k2_33 : Cond.instanceMethod yX1_areFull ∈ wsG := wsG_t2 (List.mem_of_getElem? (i := 33) rfl) rfl
theorem k2_34 : Cond.selects "KiteMeet$Flyers" yX1_areFull yX1_areFull ∈ wsG := wsG_t2 (List.mem_of_getElem? (i := 34) rfl) rfl
theorem k2_35 : Cond.code yX1_areFull prog_3_method_3_code (1) (Option.some FieldType.boolean) ∈ wsG := wsG_t2 (List.mem_of_getElem? (i := 35) rfl) rfl
theorem k2_36 : Cond.constant "KiteMeet" (98) (-100005 : Int32) ∈ wsG := wsG_t2 (List.mem_of_getElem? (i := 36) rfl) rfl
theorem k2_37 : Cond.methodLink "KiteMeet" (99) yX2_keep ∈ wsG := wsG_t2 (List.mem_of_getElem? (i := 37) rfl) rfl
theorem k2_38 : Cond.instanceMethod yX2_keep ∈ wsG := wsG_t2 (List.mem_of_getElem? (i := 38) rfl) rfl
theorem k2_39 : Cond.selects "KiteMeet$History" yX2_keep yX2_keep ∈ wsG := wsG_t2 (List.mem_of_getElem? (i := 39) rfl) rfl
theorem k2_40 : Cond.code yX2_keep prog_4_method_2_code (2) (Option.none : Option Jvm.ClassFile.FieldType) ∈ wsG := wsG_t2 (List.mem_of_getElem? (i := 40) rfl) rfl
theorem k2_42 : Cond.methodLink "KiteMeet$History" (22) yX6_takeFrom ∈ wsG := wsG_t2 (List.mem_of_getElem? (i := 42) rfl) rfl
theorem k2_43 : Cond.instanceMethod yX6_takeFrom ∈ wsG := wsG_t2 (List.mem_of_getElem? (i := 43) rfl) rfl
theorem k2_44 : Cond.selects "KiteMeet$State" yX6_takeFrom yX6_takeFrom ∈ wsG := wsG_t2 (List.mem_of_getElem? (i := 44) rfl) rfl
theorem k2_45 : Cond.code yX6_takeFrom prog_8_method_2_code (2) (Option.none : Option Jvm.ClassFile.FieldType) ∈ wsG := wsG_t2 (List.mem_of_getElem? (i := 45) rfl) rfl
theorem k2_46 : Cond.methodLink "KiteMeet$State" (27) yX1_takeFrom ∈ wsG := wsG_t2 (List.mem_of_getElem? (i := 46) rfl) rfl
theorem k2_47 : Cond.instanceMethod yX1_takeFrom ∈ wsG := wsG_t2 (List.mem_of_getElem? (i := 47) rfl) rfl
theorem k2_48 : Cond.selects "KiteMeet$Flyers" yX1_takeFrom yX1_takeFrom ∈ wsG := wsG_t2 (List.mem_of_getElem? (i := 48) rfl) rfl
theorem k2_49 : Cond.code yX1_takeFrom prog_3_method_11_code (2) (Option.none : Option Jvm.ClassFile.FieldType) ∈ wsG := wsG_t2 (List.mem_of_getElem? (i := 49) rfl) rfl
theorem k2_50 : Cond.methodLink "KiteMeet$Flyers" (42) (⟨"java/lang/System", "arraycopy", "(Ljava/lang/Object;ILjava/lang/Object;II)V"⟩ : MethodName) ∈ wsG := wsG_t2 (List.mem_of_getElem? (i := 50) rfl) rfl
theorem k2_51 : Cond.static (⟨"java/lang/System", "arraycopy", "(Ljava/lang/Object;ILjava/lang/Object;II)V"⟩ : MethodName) ∈ wsG := wsG_t2 (List.mem_of_getElem? (i := 51) rfl) rfl
theorem k2_52 : Cond.native (⟨"java/lang/System", "arraycopy", "(Ljava/lang/Object;ILjava/lang/Object;II)V"⟩ : MethodName) ∈ wsG := wsG_t2 (List.mem_of_getElem? (i := 52) rfl) rfl
theorem k2_53 : Cond.methodLink "KiteMeet$State" (37) yX8_takeFrom ∈ wsG := wsG_t2 (List.mem_of_getElem? (i := 53) rfl) rfl
theorem k2_54 : Cond.instanceMethod yX8_takeFrom ∈ wsG := wsG_t2 (List.mem_of_getElem? (i := 54) rfl) rfl
theorem k2_55 : Cond.selects "KiteMeet$Winds" yX8_takeFrom yX8_takeFrom ∈ wsG := wsG_t2 (List.mem_of_getElem? (i := 55) rfl) rfl
theorem k2_56 : Cond.code yX8_takeFrom prog_10_method_6_code (2) (Option.none : Option Jvm.ClassFile.FieldType) ∈ wsG := wsG_t2 (List.mem_of_getElem? (i := 56) rfl) rfl
theorem k2_57 : Cond.methodLink "KiteMeet$Winds" (18) (⟨"java/lang/System", "arraycopy", "(Ljava/lang/Object;ILjava/lang/Object;II)V"⟩ : MethodName) ∈ wsG := wsG_t2 (List.mem_of_getElem? (i := 57) rfl) rfl
theorem k2_58 : Cond.methodLink "KiteMeet$State" (42) yX4_takeFrom ∈ wsG := wsG_t2 (List.mem_of_getElem? (i := 58) rfl) rfl
theorem k2_59 : Cond.instanceMethod yX4_takeFrom ∈ wsG := wsG_t2 (List.mem_of_getElem? (i := 59) rfl) rfl
theorem k2_60 : Cond.selects "KiteMeet$Row" yX4_takeFrom yX4_takeFrom ∈ wsG := wsG_t2 (List.mem_of_getElem? (i := 60) rfl) rfl
theorem k2_61 : Cond.code yX4_takeFrom prog_6_method_9_code (2) (Option.none : Option Jvm.ClassFile.FieldType) ∈ wsG := wsG_t2 (List.mem_of_getElem? (i := 61) rfl) rfl
theorem k2_62 : Cond.methodLink "KiteMeet$Row" (69) yX9_takeFrom ∈ wsG := wsG_t2 (List.mem_of_getElem? (i := 62) rfl) rfl
theorem k2_63 : Cond.instanceMethod yX9_takeFrom ∈ wsG := wsG_t2 (List.mem_of_getElem? (i := 63) rfl) rfl
theorem k2_64 : Cond.selects "KiteMeet$Words" yX9_takeFrom yX9_takeFrom ∈ wsG := wsG_t2 (List.mem_of_getElem? (i := 64) rfl) rfl
theorem k2_65 : Cond.code yX9_takeFrom prog_11_method_13_code (3) (Option.none : Option Jvm.ClassFile.FieldType) ∈ wsG := wsG_t2 (List.mem_of_getElem? (i := 65) rfl) rfl
theorem k2_66 : Cond.methodLink "KiteMeet$Words" (45) yX9_setWord ∈ wsG := wsG_t2 (List.mem_of_getElem? (i := 66) rfl) rfl
theorem k2_68 : Cond.instanceMethod yX9_setWord ∈ wsG := wsG_t2 (List.mem_of_getElem? (i := 68) rfl) rfl
theorem k2_69 : Cond.code yX9_setWord prog_11_method_7_code (5) (Option.none : Option Jvm.ClassFile.FieldType) ∈ wsG := wsG_t2 (List.mem_of_getElem? (i := 69) rfl) rfl
theorem k2_70 : Cond.methodLink "KiteMeet$Words" (50) (⟨"java/lang/System", "arraycopy", "(Ljava/lang/Object;ILjava/lang/Object;II)V"⟩ : MethodName) ∈ wsG := wsG_t2 (List.mem_of_getElem? (i := 70) rfl) rfl
theorem k2_71 : Cond.methodLink "KiteMeet$Row" (73) (⟨"java/lang/System", "arraycopy", "(Ljava/lang/Object;ILjava/lang/Object;II)V"⟩ : MethodName) ∈ wsG := wsG_t2 (List.mem_of_getElem? (i := 71) rfl) rfl
theorem k2_72 : Cond.methodLink "KiteMeet$History" (29) yJ9_min_7cf53 ∈ wsG := wsG_t2 (List.mem_of_getElem? (i := 72) rfl) rfl
theorem k2_73 : Cond.static yJ9_min_7cf53 ∈ wsG := wsG_t2 (List.mem_of_getElem? (i := 73) rfl) rfl
theorem k2_74 : Cond.code yJ9_min_7cf53 prog_15_method_69_code (2) (Option.some FieldType.int) ∈ wsG := wsG_t2 (List.mem_of_getElem? (i := 74) rfl) rfl
theorem k2_75 : Cond.methodLink "KiteMeet" (103) yX1_add ∈ wsG := wsG_t2 (List.mem_of_getElem? (i := 75) rfl) rfl
theorem k2_76 : Cond.instanceMethod yX1_add ∈ wsG := wsG_t2 (List.mem_of_getElem? (i := 76) rfl) rfl
theorem k2_77 : Cond.selects "KiteMeet$Flyers" yX1_add yX1_add ∈ wsG := wsG_t2 (List.mem_of_getElem? (i := 77) rfl) rfl
theorem k2_78 : Cond.code yX1_add prog_3_method_6_code (5) (Option.some FieldType.int) ∈ wsG := wsG_t2 (List.mem_of_getElem? (i := 78) rfl) rfl
theorem k2_79 : Cond.methodLink "KiteMeet$Flyers" (19) yX1_tell ∈ wsG := wsG_t2 (List.mem_of_getElem? (i := 79) rfl) rfl
theorem k2_80 : Cond.instanceMethod yX1_tell ∈ wsG := wsG_t2 (List.mem_of_getElem? (i := 80) rfl) rfl
theorem k2_81 : Cond.selects "KiteMeet$Flyers" yX1_tell yX1_tell ∈ wsG := wsG_t2 (List.mem_of_getElem? (i := 81) rfl) rfl
theorem k2_82 : Cond.code yX1_tell prog_3_method_5_code (4) (Option.none : Option Jvm.ClassFile.FieldType) ∈ wsG := wsG_t2 (List.mem_of_getElem? (i := 82) rfl) rfl
theorem k2_83 : Cond.methodLink "KiteMeet$Flyers" (23) yX1_stand ∈ wsG := wsG_t2 (List.mem_of_getElem? (i := 83) rfl) rfl
theorem k2_84 : Cond.instanceMethod yX1_stand ∈ wsG := wsG_t2 (List.mem_of_getElem? (i := 84) rfl) rfl
theorem k2_85 : Cond.selects "KiteMeet$Flyers" yX1_stand yX1_stand ∈ wsG := wsG_t2 (List.mem_of_getElem? (i := 85) rfl) rfl
theorem k2_86 : Cond.code yX1_stand prog_3_method_9_code (3) (Option.none : Option Jvm.ClassFile.FieldType) ∈ wsG := wsG_t2 (List.mem_of_getElem? (i := 86) rfl) rfl
theorem k2_87 : Cond.methodLink "KiteMeet" (107) yX1_equip ∈ wsG := wsG_t2 (List.mem_of_getElem? (i := 87) rfl) rfl
theorem k2_88 : Cond.instanceMethod yX1_equip ∈ wsG := wsG_t2 (List.mem_of_getElem? (i := 88) rfl) rfl
theorem k2_89 : Cond.selects "KiteMeet$Flyers" yX1_equip yX1_equip ∈ wsG := wsG_t2 (List.mem_of_getElem? (i := 89) rfl) rfl
theorem k2_90 : Cond.code yX1_equip prog_3_method_7_code (5) (Option.none : Option Jvm.ClassFile.FieldType) ∈ wsG := wsG_t2 (List.mem_of_getElem? (i := 90) rfl) rfl
theorem k2_93 : Cond.methodLink "KiteMeetLaw" (18) yX10_as ∈ wsG := wsG_t2 (List.mem_of_getElem? (i := 93) rfl) rfl
theorem k2_94 : Cond.instanceMethod yX10_as ∈ wsG := wsG_t2 (List.mem_of_getElem? (i := 94) rfl) rfl
theorem k2_95 : Cond.selects "KiteMeet" yX10_as yX10_as ∈ wsG := wsG_t2 (List.mem_of_getElem? (i := 95) rfl) rfl
theorem k2_96 : Cond.code yX10_as prog_1_method_3_code (3) (Option.some FieldType.int) ∈ wsG := wsG_t2 (List.mem_of_getElem? (i := 96) rfl) rfl
theorem k2_97 : Cond.methodLink "KiteMeet" (111) yX1_have ∈ wsG := wsG_t2 (List.mem_of_getElem? (i := 97) rfl) rfl
theorem k2_98 : Cond.instanceMethod yX1_have ∈ wsG := wsG_t2 (List.mem_of_getElem? (i := 98) rfl) rfl
theorem k2_99 : Cond.selects "KiteMeet$Flyers" yX1_have yX1_have ∈ wsG := wsG_t2 (List.mem_of_getElem? (i := 99) rfl) rfl
theorem k2_100 : Cond.code yX1_have prog_3_method_2_code (2) (Option.some FieldType.boolean) ∈ wsG := wsG_t2 (List.mem_of_getElem? (i := 100) rfl) rfl
theorem k2_101 : Cond.methodLink "KiteMeet" (114) yX1_told ∈ wsG := wsG_t2 (List.mem_of_getElem? (i := 101) rfl) rfl
theorem k2_102 : Cond.instanceMethod yX1_told ∈ wsG := wsG_t2 (List.mem_of_getElem? (i := 102) rfl) rfl
theorem k2_103 : Cond.selects "KiteMeet$Flyers" yX1_told yX1_told ∈ wsG := wsG_t2 (List.mem_of_getElem? (i := 103) rfl) rfl
theorem k2_104 : Cond.code yX1_told prog_3_method_4_code (3) (Option.some FieldType.int) ∈ wsG := wsG_t2 (List.mem_of_getElem? (i := 104) rfl) rfl
theorem k2_105 : Cond.methodLink "KiteMeet" (118) yX10_isUnder ∈ wsG := wsG_t2 (List.mem_of_getElem? (i := 105) rfl) rfl
theorem k2_106 : Cond.static yX10_isUnder ∈ wsG := wsG_t2 (List.mem_of_getElem? (i := 106) rfl) rfl
theorem k2_107 : Cond.code yX10_isUnder prog_1_method_36_code (4) (Option.some FieldType.boolean) ∈ wsG := wsG_t2 (List.mem_of_getElem? (i := 107) rfl) rfl
theorem k2_108 : Cond.fieldLink "KiteMeet" (318) "KiteMeet" "OVER" "[I" ∈ wsG := wsG_t2 (List.mem_of_getElem? (i := 108) rfl) rfl
theorem k2_110 : Cond.constant "KiteMeet" (122) (-100004 : Int32) ∈ wsG := wsG_t2 (List.mem_of_getElem? (i := 110) rfl) rfl
theorem k2_111 : Cond.methodLink "KiteMeetLaw" (23) yX10_of ∈ wsG := wsG_t2 (List.mem_of_getElem? (i := 111) rfl) rfl
theorem k2_112 : Cond.instanceMethod yX10_of ∈ wsG := wsG_t2 (List.mem_of_getElem? (i := 112) rfl) rfl
theorem k2_113 : Cond.selects "KiteMeet" yX10_of yX10_of ∈ wsG := wsG_t2 (List.mem_of_getElem? (i := 113) rfl) rfl
theorem k2_114 : Cond.code yX10_of prog_1_method_4_code (3) (Option.some FieldType.int) ∈ wsG := wsG_t2 (List.mem_of_getElem? (i := 114) rfl) rfl
theorem k2_115 : Cond.methodLink "KiteMeetLaw" (27) yX10_go ∈ wsG := wsG_t2 (List.mem_of_getElem? (i := 115) rfl) rfl
theorem k2_116 : Cond.instanceMethod yX10_go ∈ wsG := wsG_t2 (List.mem_of_getElem? (i := 116) rfl) rfl
theorem k2_117 : Cond.selects "KiteMeet" yX10_go yX10_go ∈ wsG := wsG_t2 (List.mem_of_getElem? (i := 117) rfl) rfl
theorem k2_118 : Cond.code yX10_go prog_1_method_5_code (4) (Option.some FieldType.int) ∈ wsG := wsG_t2 (List.mem_of_getElem? (i := 118) rfl) rfl
theorem k2_119 : Cond.methodLink "KiteMeet" (123) yX1_spotOf ∈ wsG := wsG_t2 (List.mem_of_getElem? (i := 119) rfl) rfl
theorem k2_120 : Cond.instanceMethod yX1_spotOf ∈ wsG := wsG_t2 (List.mem_of_getElem? (i := 120) rfl) rfl
theorem k2_121 : Cond.selects "KiteMeet$Flyers" yX1_spotOf yX1_spotOf ∈ wsG := wsG_t2 (List.mem_of_getElem? (i := 121) rfl) rfl
theorem k2_122 : Cond.code yX1_spotOf prog_3_method_8_code (2) (Option.some FieldType.int) ∈ wsG := wsG_t2 (List.mem_of_getElem? (i := 122) rfl) rfl
theorem k2_123 : Cond.methodLink "KiteMeet$Flyers" (34) yX1_told ∈ wsG := wsG_t2 (List.mem_of_getElem? (i := 123) rfl) rfl
theorem k2_124 : Cond.methodLink "KiteMeet" (126) yX1_stand ∈ wsG := wsG_t2 (List.mem_of_getElem? (i := 124) rfl) rfl
theorem k2_125 : Cond.methodLink "KiteMeetLaw" (31) yX10_line ∈ wsG := wsG_t2 (List.mem_of_getElem? (i := 125) rfl) rfl
theorem k2_126 : Cond.instanceMethod yX10_line ∈ wsG := wsG_t2 (List.mem_of_getElem? (i := 126) rfl) rfl
theorem k2_127 : Cond.selects "KiteMeet" yX10_line yX10_line ∈ wsG := wsG_t2 (List.mem_of_getElem? (i := 127) rfl) rfl
theorem k2_128 : Cond.code yX10_line prog_1_method_6_code (4) (Option.some FieldType.int) ∈ wsG := wsG_t2 (List.mem_of_getElem? (i := 128) rfl) rfl
theorem k2_129 : Cond.methodLink "KiteMeet" (130) yX1_tell ∈ wsG := wsG_t2 (List.mem_of_getElem? (i := 129) rfl) rfl
theorem k2_130 : Cond.methodLink "KiteMeetLaw" (35) yX10_wind ∈ wsG := wsG_t2 (List.mem_of_getElem? (i := 130) rfl) rfl
theorem k2_131 : Cond.instanceMethod yX10_wind ∈ wsG := wsG_t2 (List.mem_of_getElem? (i := 131) rfl) rfl
theorem k2_132 : Cond.selects "KiteMeet" yX10_wind yX10_wind ∈ wsG := wsG_t2 (List.mem_of_getElem? (i := 132) rfl) rfl
theorem k2_133 : Cond.code yX10_wind prog_1_method_7_code (5) (Option.some FieldType.int) ∈ wsG := wsG_t2 (List.mem_of_getElem? (i := 133) rfl) rfl
theorem k2_134 : Cond.methodLink "KiteMeet" (134) yX10_isMinute ∈ wsG := wsG_t2 (List.mem_of_getElem? (i := 134) rfl) rfl
theorem k2_135 : Cond.static yX10_isMinute ∈ wsG := wsG_t2 (List.mem_of_getElem? (i := 135) rfl) rfl
theorem k2_136 : Cond.code yX10_isMinute prog_1_method_43_code (1) (Option.some FieldType.boolean) ∈ wsG := wsG_t2 (List.mem_of_getElem? (i := 136) rfl) rfl
theorem k2_137 : Cond.methodLink "KiteMeet" (141) yX8_turn ∈ wsG := wsG_t2 (List.mem_of_getElem? (i := 137) rfl) rfl
theorem k2_138 : Cond.instanceMethod yX8_turn ∈ wsG := wsG_t2 (List.mem_of_getElem? (i := 138) rfl) rfl
theorem k2_139 : Cond.selects "KiteMeet$Winds" yX8_turn yX8_turn ∈ wsG := wsG_t2 (List.mem_of_getElem? (i := 139) rfl) rfl
theorem k2_140 : Cond.code yX8_turn prog_10_method_4_code (4) (Option.none : Option Jvm.ClassFile.FieldType) ∈ wsG := wsG_t2 (List.mem_of_getElem? (i := 140) rfl) rfl
theorem k2_141 : Cond.methodLink "KiteMeet" (146) yX8_blow ∈ wsG := wsG_t2 (List.mem_of_getElem? (i := 141) rfl) rfl
theorem k2_142 : Cond.instanceMethod yX8_blow ∈ wsG := wsG_t2 (List.mem_of_getElem? (i := 142) rfl) rfl
theorem k2_143 : Cond.selects "KiteMeet$Winds" yX8_blow yX8_blow ∈ wsG := wsG_t2 (List.mem_of_getElem? (i := 143) rfl) rfl
theorem k2_144 : Cond.code yX8_blow prog_10_method_5_code (4) (Option.none : Option Jvm.ClassFile.FieldType) ∈ wsG := wsG_t2 (List.mem_of_getElem? (i := 144) rfl) rfl
theorem k2_145 : Cond.methodLink "KiteMeetLaw" (40) yX10_windAt ∈ wsG := wsG_t2 (List.mem_of_getElem? (i := 145) rfl) rfl
theorem k2_146 : Cond.instanceMethod yX10_windAt ∈ wsG := wsG_t2 (List.mem_of_getElem? (i := 146) rfl) rfl
theorem k2_147 : Cond.selects "KiteMeet" yX10_windAt yX10_windAt ∈ wsG := wsG_t2 (List.mem_of_getElem? (i := 147) rfl) rfl
theorem k2_148 : Cond.code yX10_windAt prog_1_method_8_code (4) (Option.some FieldType.int) ∈ wsG := wsG_t2 (List.mem_of_getElem? (i := 148) rfl) rfl
theorem k2_149 : Cond.methodLink "KiteMeet" (149) yX8_directionOf ∈ wsG := wsG_t2 (List.mem_of_getElem? (i := 149) rfl) rfl
theorem k2_150 : Cond.instanceMethod yX8_directionOf ∈ wsG := wsG_t2 (List.mem_of_getElem? (i := 150) rfl) rfl
theorem k2_151 : Cond.selects "KiteMeet$Winds" yX8_directionOf yX8_directionOf ∈ wsG := wsG_t2 (List.mem_of_getElem? (i := 151) rfl) rfl
theorem k2_152 : Cond.code yX8_directionOf prog_10_method_2_code (3) (Option.some FieldType.int) ∈ wsG := wsG_t2 (List.mem_of_getElem? (i := 152) rfl) rfl
theorem k2_153 : Cond.methodLink "KiteMeet" (152) yX8_forceOf ∈ wsG := wsG_t2 (List.mem_of_getElem? (i := 153) rfl) rfl
theorem k2_154 : Cond.instanceMethod yX8_forceOf ∈ wsG := wsG_t2 (List.mem_of_getElem? (i := 154) rfl) rfl
theorem k2_155 : Cond.selects "KiteMeet$Winds" yX8_forceOf yX8_forceOf ∈ wsG := wsG_t2 (List.mem_of_getElem? (i := 155) rfl) rfl
theorem k2_156 : Cond.code yX8_forceOf prog_10_method_3_code (3) (Option.some FieldType.int) ∈ wsG := wsG_t2 (List.mem_of_getElem? (i := 156) rfl) rfl
theorem k2_157 : Cond.methodLink "KiteMeetLaw" (45) yX10_flies ∈ wsG := wsG_t2 (List.mem_of_getElem? (i := 157) rfl) rfl
theorem k2_158 : Cond.instanceMethod yX10_flies ∈ wsG := wsG_t2 (List.mem_of_getElem? (i := 158) rfl) rfl
theorem k2_159 : Cond.selects "KiteMeet" yX10_flies yX10_flies ∈ wsG := wsG_t2 (List.mem_of_getElem? (i := 159) rfl) rfl
theorem k2_160 : Cond.code yX10_flies prog_1_method_9_code (3) (Option.some FieldType.int) ∈ wsG := wsG_t2 (List.mem_of_getElem? (i := 160) rfl) rfl
theorem k2_161 : Cond.methodLink "KiteMeet" (155) yX0_carries ∈ wsG := wsG_t2 (List.mem_of_getElem? (i := 161) rfl) rfl
theorem k2_162 : Cond.instanceMethod yX0_carries ∈ wsG := wsG_t2 (List.mem_of_getElem? (i := 162) rfl) rfl
theorem k2_163 : Cond.selects "KiteMeet$Air" yX0_carries yX0_carries ∈ wsG := wsG_t2 (List.mem_of_getElem? (i := 163) rfl) rfl
theorem k2_164 : Cond.code yX0_carries prog_2_method_2_code (8) (Option.some FieldType.boolean) ∈ wsG := wsG_t2 (List.mem_of_getElem? (i := 164) rfl) rfl
theorem k2_165 : Cond.methodLink "KiteMeet$Air" (29) yX1_told ∈ wsG := wsG_t2 (List.mem_of_getElem? (i := 165) rfl) rfl
theorem k2_166 : Cond.methodLink "KiteMeet$Air" (33) yX8_forceOf ∈ wsG := wsG_t2 (List.mem_of_getElem? (i := 166) rfl) rfl
theorem k2_168 : Cond.methodLink "KiteMeet$Air" (40) yX0_isSteady ∈ wsG := wsG_t2 (List.mem_of_getElem? (i := 168) rfl) rfl
theorem k2_170 : Cond.instanceMethod yX0_isSteady ∈ wsG := wsG_t2 (List.mem_of_getElem? (i := 170) rfl) rfl
theorem k2_171 : Cond.code yX0_isSteady prog_2_method_3_code (4) (Option.some FieldType.boolean) ∈ wsG := wsG_t2 (List.mem_of_getElem? (i := 171) rfl) rfl
theorem k2_172 : Cond.methodLink "KiteMeet$Air" (43) yJ9_abs_0f7a4 ∈ wsG := wsG_t2 (List.mem_of_getElem? (i := 172) rfl) rfl
theorem k2_173 : Cond.static yJ9_abs_0f7a4 ∈ wsG := wsG_t2 (List.mem_of_getElem? (i := 173) rfl) rfl
theorem k2_174 : Cond.code yJ9_abs_0f7a4 prog_15_method_59_code (1) (Option.some FieldType.int) ∈ wsG := wsG_t2 (List.mem_of_getElem? (i := 174) rfl) rfl
theorem k2_175 : Cond.methodLink "KiteMeet" (158) yX10_oneIf ∈ wsG := wsG_t2 (List.mem_of_getElem? (i := 175) rfl) rfl
theorem k2_176 : Cond.static yX10_oneIf ∈ wsG := wsG_t2 (List.mem_of_getElem? (i := 176) rfl) rfl
theorem k2_177 : Cond.code yX10_oneIf prog_1_method_34_code (1) (Option.some FieldType.int) ∈ wsG := wsG_t2 (List.mem_of_getElem? (i := 177) rfl) rfl
theorem k2_178 : Cond.methodLink "KiteMeetLaw" (49) yX10_kite ∈ wsG := wsG_t2 (List.mem_of_getElem? (i := 178) rfl) rfl
theorem k2_179 : Cond.instanceMethod yX10_kite ∈ wsG := wsG_t2 (List.mem_of_getElem? (i := 179) rfl) rfl
theorem k2_180 : Cond.selects "KiteMeet" yX10_kite yX10_kite ∈ wsG := wsG_t2 (List.mem_of_getElem? (i := 180) rfl) rfl
theorem k2_181 : Cond.code yX10_kite prog_1_method_10_code (4) (Option.some FieldType.int) ∈ wsG := wsG_t2 (List.mem_of_getElem? (i := 181) rfl) rfl
theorem k2_182 : Cond.constant "KiteMeet" (162) (-100006 : Int32) ∈ wsG := wsG_t2 (List.mem_of_getElem? (i := 182) rfl) rfl
theorem k2_183 : Cond.methodLink "KiteMeet" (163) yX0_kiteY ∈ wsG := wsG_t2 (List.mem_of_getElem? (i := 183) rfl) rfl
theorem k2_184 : Cond.instanceMethod yX0_kiteY ∈ wsG := wsG_t2 (List.mem_of_getElem? (i := 184) rfl) rfl
theorem k2_185 : Cond.selects "KiteMeet$Air" yX0_kiteY yX0_kiteY ∈ wsG := wsG_t2 (List.mem_of_getElem? (i := 185) rfl) rfl
theorem k2_186 : Cond.code yX0_kiteY prog_2_method_5_code (4) (Option.some FieldType.int) ∈ wsG := wsG_t2 (List.mem_of_getElem? (i := 186) rfl) rfl
theorem k2_189 : Cond.methodLink "KiteMeet$Air" (52) yX0_directionFor ∈ wsG := wsG_t2 (List.mem_of_getElem? (i := 189) rfl) rfl
theorem k2_191 : Cond.instanceMethod yX0_directionFor ∈ wsG := wsG_t2 (List.mem_of_getElem? (i := 191) rfl) rfl
theorem k2_192 : Cond.code yX0_directionFor prog_2_method_6_code (3) (Option.some FieldType.int) ∈ wsG := wsG_t2 (List.mem_of_getElem? (i := 192) rfl) rfl
theorem k2_193 : Cond.methodLink "KiteMeet$Air" (58) yX8_directionOf ∈ wsG := wsG_t2 (List.mem_of_getElem? (i := 193) rfl) rfl
theorem k2_194 : Cond.methodLink "KiteMeet" (166) yX0_kiteX ∈ wsG := wsG_t2 (List.mem_of_getElem? (i := 194) rfl) rfl
theorem k2_195 : Cond.instanceMethod yX0_kiteX ∈ wsG := wsG_t2 (List.mem_of_getElem? (i := 195) rfl) rfl
theorem k2_196 : Cond.selects "KiteMeet$Air" yX0_kiteX yX0_kiteX ∈ wsG := wsG_t2 (List.mem_of_getElem? (i := 196) rfl) rfl
theorem k2_197 : Cond.code yX0_kiteX prog_2_method_4_code (4) (Option.some FieldType.int) ∈ wsG := wsG_t2 (List.mem_of_getElem? (i := 197) rfl) rfl
theorem k2_200 : Cond.methodLink "KiteMeetLaw" (53) yX10_meet ∈ wsG := wsG_t2 (List.mem_of_getElem? (i := 200) rfl) rfl
theorem k2_201 : Cond.instanceMethod yX10_meet ∈ wsG := wsG_t2 (List.mem_of_getElem? (i := 201) rfl) rfl
theorem k2_202 : Cond.selects "KiteMeet" yX10_meet yX10_meet ∈ wsG := wsG_t2 (List.mem_of_getElem? (i := 202) rfl) rfl
theorem k2_203 : Cond.code yX10_meet prog_1_method_11_code (5) (Option.some FieldType.int) ∈ wsG := wsG_t2 (List.mem_of_getElem? (i := 203) rfl) rfl
theorem k2_204 : Cond.methodLink "KiteMeet" (169) yX0_areTooNear ∈ wsG := wsG_t2 (List.mem_of_getElem? (i := 204) rfl) rfl
theorem k2_205 : Cond.instanceMethod yX0_areTooNear ∈ wsG := wsG_t2 (List.mem_of_getElem? (i := 205) rfl) rfl
theorem k2_206 : Cond.selects "KiteMeet$Air" yX0_areTooNear yX0_areTooNear ∈ wsG := wsG_t2 (List.mem_of_getElem? (i := 206) rfl) rfl
theorem k2_207 : Cond.code yX0_areTooNear prog_2_method_7_code (5) (Option.some FieldType.boolean) ∈ wsG := wsG_t2 (List.mem_of_getElem? (i := 207) rfl) rfl
theorem k2_208 : Cond.methodLink "KiteMeet$Air" (61) yX0_carries ∈ wsG := wsG_t2 (List.mem_of_getElem? (i := 208) rfl) rfl
theorem k2_209 : Cond.methodLink "KiteMeet$Air" (64) yX0_kiteX ∈ wsG := wsG_t2 (List.mem_of_getElem? (i := 209) rfl) rfl
theorem k2_210 : Cond.methodLink "KiteMeet$Air" (67) yX0_kiteY ∈ wsG := wsG_t2 (List.mem_of_getElem? (i := 210) rfl) rfl
theorem k2_211 : Cond.methodLink "KiteMeetLaw" (58) yX10_meets ∈ wsG := wsG_t2 (List.mem_of_getElem? (i := 211) rfl) rfl
theorem k2_212 : Cond.instanceMethod yX10_meets ∈ wsG := wsG_t2 (List.mem_of_getElem? (i := 212) rfl) rfl
theorem k2_213 : Cond.selects "KiteMeet" yX10_meets yX10_meets ∈ wsG := wsG_t2 (List.mem_of_getElem? (i := 213) rfl) rfl
theorem k2_214 : Cond.code yX10_meets prog_1_method_12_code (2) (Option.some FieldType.int) ∈ wsG := wsG_t2 (List.mem_of_getElem? (i := 214) rfl) rfl
theorem k2_215 : Cond.methodLink "KiteMeet" (173) yX0_pairsTooNear ∈ wsG := wsG_t2 (List.mem_of_getElem? (i := 215) rfl) rfl
theorem k2_216 : Cond.instanceMethod yX0_pairsTooNear ∈ wsG := wsG_t2 (List.mem_of_getElem? (i := 216) rfl) rfl
theorem k2_217 : Cond.selects "KiteMeet$Air" yX0_pairsTooNear yX0_pairsTooNear ∈ wsG := wsG_t2 (List.mem_of_getElem? (i := 217) rfl) rfl
theorem k2_218 : Cond.code yX0_pairsTooNear prog_2_method_8_code (5) (Option.some FieldType.int) ∈ wsG := wsG_t2 (List.mem_of_getElem? (i := 218) rfl) rfl
theorem k2_219 : Cond.methodLink "KiteMeet$Air" (74) yX0_areTooNear ∈ wsG := wsG_t2 (List.mem_of_getElem? (i := 219) rfl) rfl
theorem k2_221 : Cond.methodLink "KiteMeetLaw" (63) yX10_field ∈ wsG := wsG_t2 (List.mem_of_getElem? (i := 221) rfl) rfl
theorem k2_222 : Cond.instanceMethod yX10_field ∈ wsG := wsG_t2 (List.mem_of_getElem? (i := 222) rfl) rfl
theorem k2_223 : Cond.selects "KiteMeet" yX10_field yX10_field ∈ wsG := wsG_t2 (List.mem_of_getElem? (i := 223) rfl) rfl
theorem k2_224 : Cond.code yX10_field prog_1_method_13_code (2) (Option.some FieldType.int) ∈ wsG := wsG_t2 (List.mem_of_getElem? (i := 224) rfl) rfl
theorem k2_225 : Cond.methodLink "KiteMeet" (176) yX0_largestApart ∈ wsG := wsG_t2 (List.mem_of_getElem? (i := 225) rfl) rfl
theorem k2_226 : Cond.instanceMethod yX0_largestApart ∈ wsG := wsG_t2 (List.mem_of_getElem? (i := 226) rfl) rfl
theorem k2_227 : Cond.selects "KiteMeet$Air" yX0_largestApart yX0_largestApart ∈ wsG := wsG_t2 (List.mem_of_getElem? (i := 227) rfl) rfl
theorem k2_228 : Cond.code yX0_largestApart prog_2_method_9_code (6) (Option.some FieldType.int) ∈ wsG := wsG_t2 (List.mem_of_getElem? (i := 228) rfl) rfl
theorem k2_229 : Cond.methodLink "KiteMeet$Air" (82) yX0_lookAround ∈ wsG := wsG_t2 (List.mem_of_getElem? (i := 229) rfl) rfl
theorem k2_231 : Cond.instanceMethod yX0_lookAround ∈ wsG := wsG_t2 (List.mem_of_getElem? (i := 231) rfl) rfl
theorem k2_232 : Cond.code yX0_lookAround prog_2_method_10_code (5) (Option.some FieldType.int) ∈ wsG := wsG_t2 (List.mem_of_getElem? (i := 232) rfl) rfl
theorem k2_233 : Cond.methodLink "KiteMeet$Air" (85) yJ6_bitCount_0f7a4 ∈ wsG := wsG_t2 (List.mem_of_getElem? (i := 233) rfl) rfl
theorem k2_234 : Cond.static yJ6_bitCount_0f7a4 ∈ wsG := wsG_t2 (List.mem_of_getElem? (i := 234) rfl) rfl
theorem k2_235 : Cond.code yJ6_bitCount_0f7a4 prog_14_method_49_code (1) (Option.some FieldType.int) ∈ wsG := wsG_t2 (List.mem_of_getElem? (i := 235) rfl) rfl
theorem k2_236 : Cond.constant "java/lang/Integer" (265) (1431655765 : Int32) ∈ wsG := wsG_t2 (List.mem_of_getElem? (i := 236) rfl) rfl
theorem k2_237 : Cond.constant "java/lang/Integer" (266) (858993459 : Int32) ∈ wsG := wsG_t2 (List.mem_of_getElem? (i := 237) rfl) rfl
theorem k2_238 : Cond.constant "java/lang/Integer" (267) (252645135 : Int32) ∈ wsG := wsG_t2 (List.mem_of_getElem? (i := 238) rfl) rfl
theorem k2_239 : Cond.methodLink "KiteMeet$Air" (90) yX0_areApart ∈ wsG := wsG_t2 (List.mem_of_getElem? (i := 239) rfl) rfl
theorem k3_1 : Cond.instanceMethod yX0_areApart ∈ wsG := wsG_t3 (List.mem_of_getElem? (i := 1) rfl) rfl
theorem k3_2 : Cond.code yX0_areApart prog_2_method_11_code (3) (Option.some FieldType.boolean) ∈ wsG := wsG_t3 (List.mem_of_getElem? (i := 2) rfl) rfl
theorem k3_3 : Cond.methodLink "KiteMeetLaw" (67) yX10_best ∈ wsG := wsG_t3 (List.mem_of_getElem? (i := 3) rfl) rfl
theorem k3_4 : Cond.instanceMethod yX10_best ∈ wsG := wsG_t3 (List.mem_of_getElem? (i := 4) rfl) rfl
theorem k3_5 : Cond.selects "KiteMeet" yX10_best yX10_best ∈ wsG := wsG_t3 (List.mem_of_getElem? (i := 5) rfl) rfl
theorem k3_6 : Cond.code yX10_best prog_1_method_14_code (7) (Option.some FieldType.int) ∈ wsG := wsG_t3 (List.mem_of_getElem? (i := 6) rfl) rfl
theorem k3_7 : Cond.methodLink "KiteMeet" (179) yJ6_bitCount_0f7a4 ∈ wsG := wsG_t3 (List.mem_of_getElem? (i := 7) rfl) rfl
theorem k3_8 : Cond.methodLink "KiteMeetLaw" (71) yX10_row ∈ wsG := wsG_t3 (List.mem_of_getElem? (i := 8) rfl) rfl
theorem k3_9 : Cond.instanceMethod yX10_row ∈ wsG := wsG_t3 (List.mem_of_getElem? (i := 9) rfl) rfl
theorem k3_10 : Cond.selects "KiteMeet" yX10_row yX10_row ∈ wsG := wsG_t3 (List.mem_of_getElem? (i := 10) rfl) rfl
theorem k3_11 : Cond.code yX10_row prog_1_method_15_code (3) (Option.some FieldType.int) ∈ wsG := wsG_t3 (List.mem_of_getElem? (i := 11) rfl) rfl
theorem k3_12 : Cond.methodLink "KiteMeet" (184) yX10_isRowSize ∈ wsG := wsG_t3 (List.mem_of_getElem? (i := 12) rfl) rfl
theorem k3_13 : Cond.static yX10_isRowSize ∈ wsG := wsG_t3 (List.mem_of_getElem? (i := 13) rfl) rfl
theorem k3_14 : Cond.code yX10_isRowSize prog_1_method_44_code (1) (Option.some FieldType.boolean) ∈ wsG := wsG_t3 (List.mem_of_getElem? (i := 14) rfl) rfl
theorem k3_15 : Cond.methodLink "KiteMeet" (197) yX4_begin ∈ wsG := wsG_t3 (List.mem_of_getElem? (i := 15) rfl) rfl
theorem k3_16 : Cond.methodLink "KiteMeetLaw" (75) yX10_walk ∈ wsG := wsG_t3 (List.mem_of_getElem? (i := 16) rfl) rfl
theorem k3_17 : Cond.instanceMethod yX10_walk ∈ wsG := wsG_t3 (List.mem_of_getElem? (i := 17) rfl) rfl
theorem k3_18 : Cond.selects "KiteMeet" yX10_walk yX10_walk ∈ wsG := wsG_t3 (List.mem_of_getElem? (i := 18) rfl) rfl
theorem k3_19 : Cond.code yX10_walk prog_1_method_16_code (4) (Option.some FieldType.int) ∈ wsG := wsG_t3 (List.mem_of_getElem? (i := 19) rfl) rfl
theorem k3_20 : Cond.methodLink "KiteMeet" (208) yX4_isCut ∈ wsG := wsG_t3 (List.mem_of_getElem? (i := 20) rfl) rfl
theorem k3_21 : Cond.instanceMethod yX4_isCut ∈ wsG := wsG_t3 (List.mem_of_getElem? (i := 21) rfl) rfl
theorem k3_22 : Cond.selects "KiteMeet$Row" yX4_isCut yX4_isCut ∈ wsG := wsG_t3 (List.mem_of_getElem? (i := 22) rfl) rfl
theorem k3_23 : Cond.code yX4_isCut prog_6_method_4_code (2) (Option.some FieldType.boolean) ∈ wsG := wsG_t3 (List.mem_of_getElem? (i := 23) rfl) rfl
theorem k3_24 : Cond.constant "KiteMeet" (211) (-100007 : Int32) ∈ wsG := wsG_t3 (List.mem_of_getElem? (i := 24) rfl) rfl
theorem k3_25 : Cond.methodLink "KiteMeet" (215) yX9_canPass ∈ wsG := wsG_t3 (List.mem_of_getElem? (i := 25) rfl) rfl
theorem k3_26 : Cond.instanceMethod yX9_canPass ∈ wsG := wsG_t3 (List.mem_of_getElem? (i := 26) rfl) rfl
theorem k3_27 : Cond.selects "KiteMeet$Words" yX9_canPass yX9_canPass ∈ wsG := wsG_t3 (List.mem_of_getElem? (i := 27) rfl) rfl
theorem k3_28 : Cond.code yX9_canPass prog_11_method_4_code (4) (Option.some FieldType.boolean) ∈ wsG := wsG_t3 (List.mem_of_getElem? (i := 28) rfl) rfl
theorem k3_29 : Cond.methodLink "KiteMeet$Words" (22) yX3_begin ∈ wsG := wsG_t3 (List.mem_of_getElem? (i := 29) rfl) rfl
theorem k3_30 : Cond.instanceMethod yX3_begin ∈ wsG := wsG_t3 (List.mem_of_getElem? (i := 30) rfl) rfl
theorem k3_31 : Cond.selects "KiteMeet$Joining" yX3_begin yX3_begin ∈ wsG := wsG_t3 (List.mem_of_getElem? (i := 31) rfl) rfl
theorem k3_32 : Cond.code yX3_begin prog_5_method_2_code (1) (Option.none : Option Jvm.ClassFile.FieldType) ∈ wsG := wsG_t3 (List.mem_of_getElem? (i := 32) rfl) rfl
theorem k3_33 : Cond.methodLink "KiteMeet$Words" (27) yX3_addWord ∈ wsG := wsG_t3 (List.mem_of_getElem? (i := 33) rfl) rfl
theorem k3_34 : Cond.instanceMethod yX3_addWord ∈ wsG := wsG_t3 (List.mem_of_getElem? (i := 34) rfl) rfl
theorem k3_35 : Cond.selects "KiteMeet$Joining" yX3_addWord yX3_addWord ∈ wsG := wsG_t3 (List.mem_of_getElem? (i := 35) rfl) rfl
theorem k3_36 : Cond.code yX3_addWord prog_5_method_3_code (4) (Option.none : Option Jvm.ClassFile.FieldType) ∈ wsG := wsG_t3 (List.mem_of_getElem? (i := 36) rfl) rfl
theorem k3_37 : Cond.methodLink "KiteMeet$Joining" (24) yX9_told ∈ wsG := wsG_t3 (List.mem_of_getElem? (i := 37) rfl) rfl
theorem k3_38 : Cond.instanceMethod yX9_told ∈ wsG := wsG_t3 (List.mem_of_getElem? (i := 38) rfl) rfl
theorem k3_39 : Cond.selects "KiteMeet$Words" yX9_told yX9_told ∈ wsG := wsG_t3 (List.mem_of_getElem? (i := 39) rfl) rfl
theorem k3_40 : Cond.code yX9_told prog_11_method_3_code (3) (Option.some FieldType.int) ∈ wsG := wsG_t3 (List.mem_of_getElem? (i := 40) rfl) rfl
theorem k3_41 : Cond.methodLink "KiteMeet$Joining" (28) yX3_add ∈ wsG := wsG_t3 (List.mem_of_getElem? (i := 41) rfl) rfl
theorem k3_43 : Cond.instanceMethod yX3_add ∈ wsG := wsG_t3 (List.mem_of_getElem? (i := 43) rfl) rfl
theorem k3_44 : Cond.code yX3_add prog_5_method_5_code (2) (Option.none : Option Jvm.ClassFile.FieldType) ∈ wsG := wsG_t3 (List.mem_of_getElem? (i := 44) rfl) rfl
theorem k3_45 : Cond.methodLink "KiteMeet$Joining" (32) yX3_turned ∈ wsG := wsG_t3 (List.mem_of_getElem? (i := 45) rfl) rfl
theorem k3_46 : Cond.static yX3_turned ∈ wsG := wsG_t3 (List.mem_of_getElem? (i := 46) rfl) rfl
theorem k3_47 : Cond.code yX3_turned prog_5_method_6_code (1) (Option.some FieldType.int) ∈ wsG := wsG_t3 (List.mem_of_getElem? (i := 47) rfl) rfl
theorem k3_48 : Cond.methodLink "KiteMeet$Words" (31) yX3_addTurned ∈ wsG := wsG_t3 (List.mem_of_getElem? (i := 48) rfl) rfl
theorem k3_49 : Cond.instanceMethod yX3_addTurned ∈ wsG := wsG_t3 (List.mem_of_getElem? (i := 49) rfl) rfl
theorem k3_50 : Cond.selects "KiteMeet$Joining" yX3_addTurned yX3_addTurned ∈ wsG := wsG_t3 (List.mem_of_getElem? (i := 50) rfl) rfl
theorem k3_51 : Cond.code yX3_addTurned prog_5_method_4_code (4) (Option.none : Option Jvm.ClassFile.FieldType) ∈ wsG := wsG_t3 (List.mem_of_getElem? (i := 51) rfl) rfl
theorem k3_52 : Cond.methodLink "KiteMeet" (219) yX4_settle ∈ wsG := wsG_t3 (List.mem_of_getElem? (i := 52) rfl) rfl
theorem k3_53 : Cond.instanceMethod yX4_settle ∈ wsG := wsG_t3 (List.mem_of_getElem? (i := 53) rfl) rfl
theorem k3_54 : Cond.selects "KiteMeet$Row" yX4_settle yX4_settle ∈ wsG := wsG_t3 (List.mem_of_getElem? (i := 54) rfl) rfl
theorem k3_55 : Cond.code yX4_settle prog_6_method_7_code (7) (Option.none : Option Jvm.ClassFile.FieldType) ∈ wsG := wsG_t3 (List.mem_of_getElem? (i := 55) rfl) rfl
theorem k3_56 : Cond.methodLink "KiteMeet$Row" (55) yX9_settle ∈ wsG := wsG_t3 (List.mem_of_getElem? (i := 56) rfl) rfl
theorem k3_57 : Cond.instanceMethod yX9_settle ∈ wsG := wsG_t3 (List.mem_of_getElem? (i := 57) rfl) rfl
theorem k3_58 : Cond.selects "KiteMeet$Words" yX9_settle yX9_settle ∈ wsG := wsG_t3 (List.mem_of_getElem? (i := 58) rfl) rfl
theorem k3_59 : Cond.code yX9_settle prog_11_method_6_code (6) (Option.none : Option Jvm.ClassFile.FieldType) ∈ wsG := wsG_t3 (List.mem_of_getElem? (i := 59) rfl) rfl
theorem k3_60 : Cond.methodLink "KiteMeet$Row" (43) yX4_pair ∈ wsG := wsG_t3 (List.mem_of_getElem? (i := 60) rfl) rfl
theorem k3_61 : Cond.static yX4_pair ∈ wsG := wsG_t3 (List.mem_of_getElem? (i := 61) rfl) rfl
theorem k3_62 : Cond.code yX4_pair prog_6_method_6_code (2) (Option.some FieldType.int) ∈ wsG := wsG_t3 (List.mem_of_getElem? (i := 62) rfl) rfl
theorem k3_63 : Cond.methodLink "KiteMeet$Row" (47) yJ9_min_7cf53 ∈ wsG := wsG_t3 (List.mem_of_getElem? (i := 63) rfl) rfl
theorem k3_64 : Cond.methodLink "KiteMeet$Row" (52) yJ9_max_7cf53 ∈ wsG := wsG_t3 (List.mem_of_getElem? (i := 64) rfl) rfl
theorem k3_65 : Cond.static yJ9_max_7cf53 ∈ wsG := wsG_t3 (List.mem_of_getElem? (i := 65) rfl) rfl
theorem k3_66 : Cond.code yJ9_max_7cf53 prog_15_method_65_code (2) (Option.some FieldType.int) ∈ wsG := wsG_t3 (List.mem_of_getElem? (i := 66) rfl) rfl
theorem k3_67 : Cond.methodLink "KiteMeet$Row" (59) yX4_biteOf ∈ wsG := wsG_t3 (List.mem_of_getElem? (i := 67) rfl) rfl
theorem k3_69 : Cond.instanceMethod yX4_biteOf ∈ wsG := wsG_t3 (List.mem_of_getElem? (i := 69) rfl) rfl
theorem k3_70 : Cond.code yX4_biteOf prog_6_method_8_code (3) (Option.some FieldType.int) ∈ wsG := wsG_t3 (List.mem_of_getElem? (i := 70) rfl) rfl
theorem k3_71 : Cond.methodLink "KiteMeet$Row" (63) yX1_fight ∈ wsG := wsG_t3 (List.mem_of_getElem? (i := 71) rfl) rfl
theorem k3_72 : Cond.instanceMethod yX1_fight ∈ wsG := wsG_t3 (List.mem_of_getElem? (i := 72) rfl) rfl
theorem k3_73 : Cond.selects "KiteMeet$Flyers" yX1_fight yX1_fight ∈ wsG := wsG_t3 (List.mem_of_getElem? (i := 73) rfl) rfl
theorem k3_74 : Cond.code yX1_fight prog_3_method_10_code (2) (Option.some FieldType.boolean) ∈ wsG := wsG_t3 (List.mem_of_getElem? (i := 74) rfl) rfl
theorem k3_75 : Cond.methodLink "KiteMeet$Flyers" (38) yX1_have ∈ wsG := wsG_t3 (List.mem_of_getElem? (i := 75) rfl) rfl
theorem k3_76 : Cond.methodLink "KiteMeet" (223) yX9_tangled ∈ wsG := wsG_t3 (List.mem_of_getElem? (i := 76) rfl) rfl
theorem k3_77 : Cond.instanceMethod yX9_tangled ∈ wsG := wsG_t3 (List.mem_of_getElem? (i := 77) rfl) rfl
theorem k3_78 : Cond.selects "KiteMeet$Words" yX9_tangled yX9_tangled ∈ wsG := wsG_t3 (List.mem_of_getElem? (i := 78) rfl) rfl
theorem k3_79 : Cond.code yX9_tangled prog_11_method_8_code (3) (Option.some FieldType.int) ∈ wsG := wsG_t3 (List.mem_of_getElem? (i := 79) rfl) rfl
theorem k3_80 : Cond.methodLink "KiteMeetLaw" (80) yX10_at ∈ wsG := wsG_t3 (List.mem_of_getElem? (i := 80) rfl) rfl
theorem k3_81 : Cond.instanceMethod yX10_at ∈ wsG := wsG_t3 (List.mem_of_getElem? (i := 81) rfl) rfl
theorem k3_82 : Cond.selects "KiteMeet" yX10_at yX10_at ∈ wsG := wsG_t3 (List.mem_of_getElem? (i := 82) rfl) rfl
theorem k3_83 : Cond.code yX10_at prog_1_method_17_code (2) (Option.some FieldType.int) ∈ wsG := wsG_t3 (List.mem_of_getElem? (i := 83) rfl) rfl
theorem k3_84 : Cond.methodLink "KiteMeet" (227) yX4_has ∈ wsG := wsG_t3 (List.mem_of_getElem? (i := 84) rfl) rfl
theorem k3_85 : Cond.instanceMethod yX4_has ∈ wsG := wsG_t3 (List.mem_of_getElem? (i := 85) rfl) rfl
theorem k3_86 : Cond.selects "KiteMeet$Row" yX4_has yX4_has ∈ wsG := wsG_t3 (List.mem_of_getElem? (i := 86) rfl) rfl
theorem k3_87 : Cond.code yX4_has prog_6_method_3_code (2) (Option.some FieldType.boolean) ∈ wsG := wsG_t3 (List.mem_of_getElem? (i := 87) rfl) rfl
theorem k3_88 : Cond.methodLink "KiteMeetLaw" (84) yX10_letter ∈ wsG := wsG_t3 (List.mem_of_getElem? (i := 88) rfl) rfl
theorem k3_89 : Cond.instanceMethod yX10_letter ∈ wsG := wsG_t3 (List.mem_of_getElem? (i := 89) rfl) rfl
theorem k3_90 : Cond.selects "KiteMeet" yX10_letter yX10_letter ∈ wsG := wsG_t3 (List.mem_of_getElem? (i := 90) rfl) rfl
theorem k3_91 : Cond.code yX10_letter prog_1_method_18_code (4) (Option.some FieldType.int) ∈ wsG := wsG_t3 (List.mem_of_getElem? (i := 91) rfl) rfl
theorem k3_92 : Cond.methodLink "KiteMeet" (233) yX9_told ∈ wsG := wsG_t3 (List.mem_of_getElem? (i := 92) rfl) rfl
theorem k3_93 : Cond.methodLink "KiteMeetLaw" (88) yX10_tangle ∈ wsG := wsG_t3 (List.mem_of_getElem? (i := 93) rfl) rfl
theorem k3_94 : Cond.instanceMethod yX10_tangle ∈ wsG := wsG_t3 (List.mem_of_getElem? (i := 94) rfl) rfl
theorem k3_95 : Cond.selects "KiteMeet" yX10_tangle yX10_tangle ∈ wsG := wsG_t3 (List.mem_of_getElem? (i := 95) rfl) rfl
theorem k3_96 : Cond.code yX10_tangle prog_1_method_19_code (1) (Option.some FieldType.int) ∈ wsG := wsG_t3 (List.mem_of_getElem? (i := 96) rfl) rfl
theorem k3_97 : Cond.methodLink "KiteMeetLaw" (93) yX10_twist ∈ wsG := wsG_t3 (List.mem_of_getElem? (i := 97) rfl) rfl
theorem k3_98 : Cond.instanceMethod yX10_twist ∈ wsG := wsG_t3 (List.mem_of_getElem? (i := 98) rfl) rfl
theorem k3_99 : Cond.selects "KiteMeet" yX10_twist yX10_twist ∈ wsG := wsG_t3 (List.mem_of_getElem? (i := 99) rfl) rfl
theorem k3_100 : Cond.code yX10_twist prog_1_method_20_code (3) (Option.some FieldType.int) ∈ wsG := wsG_t3 (List.mem_of_getElem? (i := 100) rfl) rfl
theorem k3_101 : Cond.methodLink "KiteMeet" (234) yX4_twistOf ∈ wsG := wsG_t3 (List.mem_of_getElem? (i := 101) rfl) rfl
theorem k3_102 : Cond.instanceMethod yX4_twistOf ∈ wsG := wsG_t3 (List.mem_of_getElem? (i := 102) rfl) rfl
theorem k3_103 : Cond.selects "KiteMeet$Row" yX4_twistOf yX4_twistOf ∈ wsG := wsG_t3 (List.mem_of_getElem? (i := 103) rfl) rfl
theorem k3_104 : Cond.code yX4_twistOf prog_6_method_5_code (3) (Option.some FieldType.int) ∈ wsG := wsG_t3 (List.mem_of_getElem? (i := 104) rfl) rfl
theorem k3_105 : Cond.methodLink "KiteMeetLaw" (97) yX10_fewest ∈ wsG := wsG_t3 (List.mem_of_getElem? (i := 105) rfl) rfl
theorem k3_106 : Cond.instanceMethod yX10_fewest ∈ wsG := wsG_t3 (List.mem_of_getElem? (i := 106) rfl) rfl
theorem k3_107 : Cond.selects "KiteMeet" yX10_fewest yX10_fewest ∈ wsG := wsG_t3 (List.mem_of_getElem? (i := 107) rfl) rfl
theorem k3_108 : Cond.code yX10_fewest prog_1_method_21_code (3) (Option.some FieldType.int) ∈ wsG := wsG_t3 (List.mem_of_getElem? (i := 108) rfl) rfl
theorem k3_109 : Cond.methodLink "KiteMeet" (237) yX9_takeFrom ∈ wsG := wsG_t3 (List.mem_of_getElem? (i := 109) rfl) rfl
theorem k3_110 : Cond.methodLink "KiteMeet" (241) yX7_shortest ∈ wsG := wsG_t3 (List.mem_of_getElem? (i := 110) rfl) rfl
theorem k3_111 : Cond.instanceMethod yX7_shortest ∈ wsG := wsG_t3 (List.mem_of_getElem? (i := 111) rfl) rfl
theorem k3_112 : Cond.selects "KiteMeet$Untangling" yX7_shortest yX7_shortest ∈ wsG := wsG_t3 (List.mem_of_getElem? (i := 112) rfl) rfl
theorem k3_113 : Cond.code yX7_shortest prog_9_method_2_code (4) (Option.some FieldType.int) ∈ wsG := wsG_t3 (List.mem_of_getElem? (i := 113) rfl) rfl
theorem k3_114 : Cond.methodLink "KiteMeet$Untangling" (15) yX7_untangles ∈ wsG := wsG_t3 (List.mem_of_getElem? (i := 114) rfl) rfl
theorem k3_116 : Cond.instanceMethod yX7_untangles ∈ wsG := wsG_t3 (List.mem_of_getElem? (i := 116) rfl) rfl
theorem k3_117 : Cond.code yX7_untangles prog_9_method_3_code (8) (Option.some FieldType.boolean) ∈ wsG := wsG_t3 (List.mem_of_getElem? (i := 117) rfl) rfl
theorem k3_118 : Cond.methodLink "KiteMeet$Untangling" (19) yX9_longest ∈ wsG := wsG_t3 (List.mem_of_getElem? (i := 118) rfl) rfl
theorem k3_119 : Cond.instanceMethod yX9_longest ∈ wsG := wsG_t3 (List.mem_of_getElem? (i := 119) rfl) rfl
theorem k3_120 : Cond.selects "KiteMeet$Words" yX9_longest yX9_longest ∈ wsG := wsG_t3 (List.mem_of_getElem? (i := 120) rfl) rfl
theorem k3_121 : Cond.code yX9_longest prog_11_method_9_code (3) (Option.some FieldType.int) ∈ wsG := wsG_t3 (List.mem_of_getElem? (i := 121) rfl) rfl
theorem k3_122 : Cond.methodLink "KiteMeet$Words" (56) yJ9_max_7cf53 ∈ wsG := wsG_t3 (List.mem_of_getElem? (i := 122) rfl) rfl
theorem k3_123 : Cond.fieldLink "KiteMeet$Untangling" (25) "KiteMeet$Untangling" "LONGEST" "[I" ∈ wsG := wsG_t3 (List.mem_of_getElem? (i := 123) rfl) rfl
theorem k3_125 : Cond.methodLink "KiteMeet$Untangling" (28) yX9_areAsAtFirst ∈ wsG := wsG_t3 (List.mem_of_getElem? (i := 125) rfl) rfl
theorem k3_126 : Cond.instanceMethod yX9_areAsAtFirst ∈ wsG := wsG_t3 (List.mem_of_getElem? (i := 126) rfl) rfl
theorem k3_127 : Cond.selects "KiteMeet$Words" yX9_areAsAtFirst yX9_areAsAtFirst ∈ wsG := wsG_t3 (List.mem_of_getElem? (i := 127) rfl) rfl
theorem k3_128 : Cond.code yX9_areAsAtFirst prog_11_method_10_code (2) (Option.some FieldType.boolean) ∈ wsG := wsG_t3 (List.mem_of_getElem? (i := 128) rfl) rfl
theorem k3_129 : Cond.methodLink "KiteMeet$Words" (62) yX9_told ∈ wsG := wsG_t3 (List.mem_of_getElem? (i := 129) rfl) rfl
theorem k3_131 : Cond.static yX10_walksOf ∈ wsG := wsG_t3 (List.mem_of_getElem? (i := 131) rfl) rfl
theorem k3_132 : Cond.code yX10_walksOf prog_1_method_46_code (1) (Option.some FieldType.int) ∈ wsG := wsG_t3 (List.mem_of_getElem? (i := 132) rfl) rfl
theorem k3_134 : Cond.static yX10_placeOf ∈ wsG := wsG_t3 (List.mem_of_getElem? (i := 134) rfl) rfl
theorem k3_135 : Cond.code yX10_placeOf prog_1_method_47_code (1) (Option.some FieldType.int) ∈ wsG := wsG_t3 (List.mem_of_getElem? (i := 135) rfl) rfl
theorem k3_137 : Cond.static yX10_isFront ∈ wsG := wsG_t3 (List.mem_of_getElem? (i := 137) rfl) rfl
theorem k3_138 : Cond.code yX10_isFront prog_1_method_48_code (1) (Option.some FieldType.boolean) ∈ wsG := wsG_t3 (List.mem_of_getElem? (i := 138) rfl) rfl
theorem k3_139 : Cond.methodLink "KiteMeet$Untangling" (47) yX9_pass ∈ wsG := wsG_t3 (List.mem_of_getElem? (i := 139) rfl) rfl
theorem k3_140 : Cond.instanceMethod yX9_pass ∈ wsG := wsG_t3 (List.mem_of_getElem? (i := 140) rfl) rfl
theorem k3_141 : Cond.selects "KiteMeet$Words" yX9_pass yX9_pass ∈ wsG := wsG_t3 (List.mem_of_getElem? (i := 141) rfl) rfl
theorem k3_142 : Cond.code yX9_pass prog_11_method_5_code (4) (Option.some FieldType.boolean) ∈ wsG := wsG_t3 (List.mem_of_getElem? (i := 142) rfl) rfl
theorem k3_143 : Cond.methodLink "KiteMeet$Words" (37) yX9_canPass ∈ wsG := wsG_t3 (List.mem_of_getElem? (i := 143) rfl) rfl
theorem k3_144 : Cond.methodLink "KiteMeet$Words" (41) yX9_settle ∈ wsG := wsG_t3 (List.mem_of_getElem? (i := 144) rfl) rfl
theorem k3_145 : Cond.methodLink "KiteMeetLaw" (101) yX10_same ∈ wsG := wsG_t3 (List.mem_of_getElem? (i := 145) rfl) rfl
theorem k3_146 : Cond.instanceMethod yX10_same ∈ wsG := wsG_t3 (List.mem_of_getElem? (i := 146) rfl) rfl
theorem k3_147 : Cond.selects "KiteMeet" yX10_same yX10_same ∈ wsG := wsG_t3 (List.mem_of_getElem? (i := 147) rfl) rfl
theorem k3_148 : Cond.code yX10_same prog_1_method_22_code (5) (Option.some FieldType.int) ∈ wsG := wsG_t3 (List.mem_of_getElem? (i := 148) rfl) rfl
theorem k3_149 : Cond.methodLink "KiteMeet" (247) yX10_isSheet ∈ wsG := wsG_t3 (List.mem_of_getElem? (i := 149) rfl) rfl
theorem k3_150 : Cond.static yX10_isSheet ∈ wsG := wsG_t3 (List.mem_of_getElem? (i := 150) rfl) rfl
theorem k3_151 : Cond.code yX10_isSheet prog_1_method_45_code (1) (Option.some FieldType.boolean) ∈ wsG := wsG_t3 (List.mem_of_getElem? (i := 151) rfl) rfl
theorem k3_152 : Cond.methodLink "KiteMeet" (250) yX5_isMissing ∈ wsG := wsG_t3 (List.mem_of_getElem? (i := 152) rfl) rfl
theorem k3_153 : Cond.instanceMethod yX5_isMissing ∈ wsG := wsG_t3 (List.mem_of_getElem? (i := 153) rfl) rfl
theorem k3_154 : Cond.selects "KiteMeet$Sheet" yX5_isMissing yX5_isMissing ∈ wsG := wsG_t3 (List.mem_of_getElem? (i := 154) rfl) rfl
theorem k3_155 : Cond.code yX5_isMissing prog_7_method_3_code (1) (Option.some FieldType.boolean) ∈ wsG := wsG_t3 (List.mem_of_getElem? (i := 155) rfl) rfl
theorem k3_156 : Cond.constant "KiteMeet" (253) (-100002 : Int32) ∈ wsG := wsG_t3 (List.mem_of_getElem? (i := 156) rfl) rfl
theorem k3_157 : Cond.methodLink "KiteMeet" (254) yX10_walksOf ∈ wsG := wsG_t3 (List.mem_of_getElem? (i := 157) rfl) rfl
theorem k3_158 : Cond.methodLink "KiteMeet" (257) yX5_isWithin ∈ wsG := wsG_t3 (List.mem_of_getElem? (i := 158) rfl) rfl
theorem k3_159 : Cond.instanceMethod yX5_isWithin ∈ wsG := wsG_t3 (List.mem_of_getElem? (i := 159) rfl) rfl
theorem k3_160 : Cond.selects "KiteMeet$Sheet" yX5_isWithin yX5_isWithin ∈ wsG := wsG_t3 (List.mem_of_getElem? (i := 160) rfl) rfl
theorem k3_161 : Cond.code yX5_isWithin prog_7_method_5_code (3) (Option.some FieldType.boolean) ∈ wsG := wsG_t3 (List.mem_of_getElem? (i := 161) rfl) rfl
theorem k3_162 : Cond.methodLink "KiteMeet" (260) yX10_follow ∈ wsG := wsG_t3 (List.mem_of_getElem? (i := 162) rfl) rfl
theorem k3_164 : Cond.instanceMethod yX10_follow ∈ wsG := wsG_t3 (List.mem_of_getElem? (i := 164) rfl) rfl
theorem k3_165 : Cond.code yX10_follow prog_1_method_33_code (5) (Option.some FieldType.boolean) ∈ wsG := wsG_t3 (List.mem_of_getElem? (i := 165) rfl) rfl
theorem k3_166 : Cond.methodLink "KiteMeet" (308) yX9_begin ∈ wsG := wsG_t3 (List.mem_of_getElem? (i := 166) rfl) rfl
theorem k3_167 : Cond.methodLink "KiteMeet" (309) yX10_placeOf ∈ wsG := wsG_t3 (List.mem_of_getElem? (i := 167) rfl) rfl
theorem k3_168 : Cond.methodLink "KiteMeet" (312) yX10_isFront ∈ wsG := wsG_t3 (List.mem_of_getElem? (i := 168) rfl) rfl
theorem k3_169 : Cond.methodLink "KiteMeet" (315) yX9_pass ∈ wsG := wsG_t3 (List.mem_of_getElem? (i := 169) rfl) rfl
theorem k3_170 : Cond.methodLink "KiteMeet" (264) yX9_areThoseOf ∈ wsG := wsG_t3 (List.mem_of_getElem? (i := 170) rfl) rfl
theorem k3_171 : Cond.instanceMethod yX9_areThoseOf ∈ wsG := wsG_t3 (List.mem_of_getElem? (i := 171) rfl) rfl
theorem k3_172 : Cond.selects "KiteMeet$Words" yX9_areThoseOf yX9_areThoseOf ∈ wsG := wsG_t3 (List.mem_of_getElem? (i := 172) rfl) rfl
theorem k3_173 : Cond.code yX9_areThoseOf prog_11_method_11_code (3) (Option.some FieldType.boolean) ∈ wsG := wsG_t3 (List.mem_of_getElem? (i := 173) rfl) rfl
theorem k3_174 : Cond.methodLink "KiteMeet$Words" (65) yX9_hasWordOf ∈ wsG := wsG_t3 (List.mem_of_getElem? (i := 174) rfl) rfl
theorem k3_176 : Cond.instanceMethod yX9_hasWordOf ∈ wsG := wsG_t3 (List.mem_of_getElem? (i := 176) rfl) rfl
theorem k3_177 : Cond.code yX9_hasWordOf prog_11_method_12_code (4) (Option.some FieldType.boolean) ∈ wsG := wsG_t3 (List.mem_of_getElem? (i := 177) rfl) rfl
theorem k3_178 : Cond.methodLink "KiteMeetLaw" (105) yX10_sharp ∈ wsG := wsG_t3 (List.mem_of_getElem? (i := 178) rfl) rfl
theorem k3_179 : Cond.instanceMethod yX10_sharp ∈ wsG := wsG_t3 (List.mem_of_getElem? (i := 179) rfl) rfl
theorem k3_180 : Cond.selects "KiteMeet" yX10_sharp yX10_sharp ∈ wsG := wsG_t3 (List.mem_of_getElem? (i := 180) rfl) rfl
theorem k3_181 : Cond.code yX10_sharp prog_1_method_23_code (4) (Option.some FieldType.int) ∈ wsG := wsG_t3 (List.mem_of_getElem? (i := 181) rfl) rfl
theorem k3_182 : Cond.methodLink "KiteMeetLaw" (109) yX10_wear ∈ wsG := wsG_t3 (List.mem_of_getElem? (i := 182) rfl) rfl
theorem k3_183 : Cond.instanceMethod yX10_wear ∈ wsG := wsG_t3 (List.mem_of_getElem? (i := 183) rfl) rfl
theorem k3_184 : Cond.selects "KiteMeet" yX10_wear yX10_wear ∈ wsG := wsG_t3 (List.mem_of_getElem? (i := 184) rfl) rfl
theorem k3_185 : Cond.code yX10_wear prog_1_method_24_code (2) (Option.some FieldType.int) ∈ wsG := wsG_t3 (List.mem_of_getElem? (i := 185) rfl) rfl
theorem k3_186 : Cond.methodLink "KiteMeetLaw" (113) yX10_lost ∈ wsG := wsG_t3 (List.mem_of_getElem? (i := 186) rfl) rfl
theorem k3_187 : Cond.instanceMethod yX10_lost ∈ wsG := wsG_t3 (List.mem_of_getElem? (i := 187) rfl) rfl
theorem k3_188 : Cond.selects "KiteMeet" yX10_lost yX10_lost ∈ wsG := wsG_t3 (List.mem_of_getElem? (i := 188) rfl) rfl
theorem k3_189 : Cond.code yX10_lost prog_1_method_25_code (3) (Option.some FieldType.int) ∈ wsG := wsG_t3 (List.mem_of_getElem? (i := 189) rfl) rfl
theorem k3_190 : Cond.methodLink "KiteMeetLaw" (117) yX10_sheet ∈ wsG := wsG_t3 (List.mem_of_getElem? (i := 190) rfl) rfl
theorem k3_191 : Cond.instanceMethod yX10_sheet ∈ wsG := wsG_t3 (List.mem_of_getElem? (i := 191) rfl) rfl
theorem k3_192 : Cond.selects "KiteMeet" yX10_sheet yX10_sheet ∈ wsG := wsG_t3 (List.mem_of_getElem? (i := 192) rfl) rfl
theorem k3_193 : Cond.code yX10_sheet prog_1_method_26_code (4) (Option.some FieldType.int) ∈ wsG := wsG_t3 (List.mem_of_getElem? (i := 193) rfl) rfl
theorem k3_194 : Cond.methodLink "KiteMeet" (274) yX5_begin ∈ wsG := wsG_t3 (List.mem_of_getElem? (i := 194) rfl) rfl
theorem k3_195 : Cond.instanceMethod yX5_begin ∈ wsG := wsG_t3 (List.mem_of_getElem? (i := 195) rfl) rfl
theorem k3_196 : Cond.selects "KiteMeet$Sheet" yX5_begin yX5_begin ∈ wsG := wsG_t3 (List.mem_of_getElem? (i := 196) rfl) rfl
theorem k3_197 : Cond.code yX5_begin prog_7_method_2_code (4) (Option.none : Option Jvm.ClassFile.FieldType) ∈ wsG := wsG_t3 (List.mem_of_getElem? (i := 197) rfl) rfl
theorem k3_198 : Cond.methodLink "KiteMeetLaw" (121) yX10_put ∈ wsG := wsG_t3 (List.mem_of_getElem? (i := 198) rfl) rfl
theorem k3_199 : Cond.instanceMethod yX10_put ∈ wsG := wsG_t3 (List.mem_of_getElem? (i := 199) rfl) rfl
theorem k3_200 : Cond.selects "KiteMeet" yX10_put yX10_put ∈ wsG := wsG_t3 (List.mem_of_getElem? (i := 200) rfl) rfl
theorem k3_201 : Cond.code yX10_put prog_1_method_27_code (4) (Option.some FieldType.int) ∈ wsG := wsG_t3 (List.mem_of_getElem? (i := 201) rfl) rfl
theorem k3_202 : Cond.methodLink "KiteMeet" (279) yX5_write ∈ wsG := wsG_t3 (List.mem_of_getElem? (i := 202) rfl) rfl
theorem k3_203 : Cond.instanceMethod yX5_write ∈ wsG := wsG_t3 (List.mem_of_getElem? (i := 203) rfl) rfl
theorem k3_204 : Cond.selects "KiteMeet$Sheet" yX5_write yX5_write ∈ wsG := wsG_t3 (List.mem_of_getElem? (i := 204) rfl) rfl
theorem k3_205 : Cond.code yX5_write prog_7_method_4_code (4) (Option.none : Option Jvm.ClassFile.FieldType) ∈ wsG := wsG_t3 (List.mem_of_getElem? (i := 205) rfl) rfl
theorem k3_206 : Cond.methodLink "KiteMeetLaw" (125) yX10_copy ∈ wsG := wsG_t3 (List.mem_of_getElem? (i := 206) rfl) rfl
theorem k3_207 : Cond.instanceMethod yX10_copy ∈ wsG := wsG_t3 (List.mem_of_getElem? (i := 207) rfl) rfl
theorem k3_208 : Cond.selects "KiteMeet" yX10_copy yX10_copy ∈ wsG := wsG_t3 (List.mem_of_getElem? (i := 208) rfl) rfl
theorem k3_209 : Cond.code yX10_copy prog_1_method_28_code (6) (Option.some FieldType.int) ∈ wsG := wsG_t3 (List.mem_of_getElem? (i := 209) rfl) rfl
theorem k3_210 : Cond.methodLink "KiteMeet" (285) yX5_reaches ∈ wsG := wsG_t3 (List.mem_of_getElem? (i := 210) rfl) rfl
theorem k3_211 : Cond.instanceMethod yX5_reaches ∈ wsG := wsG_t3 (List.mem_of_getElem? (i := 211) rfl) rfl
theorem k3_212 : Cond.selects "KiteMeet$Sheet" yX5_reaches yX5_reaches ∈ wsG := wsG_t3 (List.mem_of_getElem? (i := 212) rfl) rfl
theorem k3_213 : Cond.code yX5_reaches prog_7_method_6_code (3) (Option.some FieldType.boolean) ∈ wsG := wsG_t3 (List.mem_of_getElem? (i := 213) rfl) rfl
theorem k3_214 : Cond.methodLink "KiteMeet" (291) (⟨"java/lang/System", "arraycopy", "(Ljava/lang/Object;ILjava/lang/Object;II)V"⟩ : MethodName) ∈ wsG := wsG_t3 (List.mem_of_getElem? (i := 214) rfl) rfl
theorem k3_215 : Cond.methodLink "KiteMeetLaw" (130) yX10_gusts ∈ wsG := wsG_t3 (List.mem_of_getElem? (i := 215) rfl) rfl
theorem k3_216 : Cond.instanceMethod yX10_gusts ∈ wsG := wsG_t3 (List.mem_of_getElem? (i := 216) rfl) rfl
theorem k3_217 : Cond.selects "KiteMeet" yX10_gusts yX10_gusts ∈ wsG := wsG_t3 (List.mem_of_getElem? (i := 217) rfl) rfl
theorem k3_218 : Cond.code yX10_gusts prog_1_method_29_code (6) (Option.some FieldType.int) ∈ wsG := wsG_t3 (List.mem_of_getElem? (i := 218) rfl) rfl
theorem k3_219 : Cond.methodLink "KiteMeetLaw" (134) yX10_undo ∈ wsG := wsG_t3 (List.mem_of_getElem? (i := 219) rfl) rfl
theorem k3_220 : Cond.instanceMethod yX10_undo ∈ wsG := wsG_t3 (List.mem_of_getElem? (i := 220) rfl) rfl
theorem k3_221 : Cond.selects "KiteMeet" yX10_undo yX10_undo ∈ wsG := wsG_t3 (List.mem_of_getElem? (i := 221) rfl) rfl
theorem k3_222 : Cond.code yX10_undo prog_1_method_30_code (1) (Option.some FieldType.int) ∈ wsG := wsG_t3 (List.mem_of_getElem? (i := 222) rfl) rfl
theorem k3_223 : Cond.methodLink "KiteMeet" (298) yX2_giveBack ∈ wsG := wsG_t3 (List.mem_of_getElem? (i := 223) rfl) rfl
theorem k3_224 : Cond.instanceMethod yX2_giveBack ∈ wsG := wsG_t3 (List.mem_of_getElem? (i := 224) rfl) rfl
theorem k3_225 : Cond.selects "KiteMeet$History" yX2_giveBack yX2_giveBack ∈ wsG := wsG_t3 (List.mem_of_getElem? (i := 225) rfl) rfl
theorem k3_226 : Cond.code yX2_giveBack prog_4_method_3_code (3) (Option.none : Option Jvm.ClassFile.FieldType) ∈ wsG := wsG_t3 (List.mem_of_getElem? (i := 226) rfl) rfl
theorem k3_227 : Cond.methodLink "KiteMeetLaw" (138) yX10_all ∈ wsG := wsG_t3 (List.mem_of_getElem? (i := 227) rfl) rfl
theorem k3_228 : Cond.instanceMethod yX10_all ∈ wsG := wsG_t3 (List.mem_of_getElem? (i := 228) rfl) rfl
theorem k3_229 : Cond.selects "KiteMeet" yX10_all yX10_all ∈ wsG := wsG_t3 (List.mem_of_getElem? (i := 229) rfl) rfl
theorem k3_230 : Cond.code yX10_all prog_1_method_31_code (2) (Option.some FieldType.int) ∈ wsG := wsG_t3 (List.mem_of_getElem? (i := 230) rfl) rfl
theorem k3_231 : Cond.methodLink "KiteMeet" (302) yX9_areAsAtFirst ∈ wsG := wsG_t3 (List.mem_of_getElem? (i := 231) rfl) rfl
theorem k3_232 : Cond.classLink "KiteMeetLaw" (10) "KiteMeetModel" ∈ wsG := wsG_t3 (List.mem_of_getElem? (i := 232) rfl) rfl
theorem k3_233 : Cond.instantiable "KiteMeetModel" (17) ∈ wsG := wsG_t3 (List.mem_of_getElem? (i := 233) rfl) rfl
theorem k3_234 : Cond.methodLink "KiteMeetLaw" (12) yX11_init ∈ wsG := wsG_t3 (List.mem_of_getElem? (i := 234) rfl) rfl
theorem k3_235 : Cond.instanceMethod yX11_init ∈ wsG := wsG_t3 (List.mem_of_getElem? (i := 235) rfl) rfl
theorem k3_236 : Cond.code yX11_init prog_13_method_1_code (1) (Option.none : Option Jvm.ClassFile.FieldType) ∈ wsG := wsG_t3 (List.mem_of_getElem? (i := 236) rfl) rfl
theorem k3_237 : Cond.methodLink "KiteMeetModel" (1) objectInit ∈ wsG := wsG_t3 (List.mem_of_getElem? (i := 237) rfl) rfl
theorem k3_238 : Cond.methodLink "KiteMeetModel" (49) yX11_begin ∈ wsG := wsG_t3 (List.mem_of_getElem? (i := 238) rfl) rfl
theorem k4_0 : Cond.instanceMethod yX11_begin ∈ wsG := wsG_t4 (List.mem_of_getElem? (i := 0) rfl) rfl
theorem k4_1 : Cond.code yX11_begin prog_13_method_40_code (3) (Option.none : Option Jvm.ClassFile.FieldType) ∈ wsG := wsG_t4 (List.mem_of_getElem? (i := 1) rfl) rfl
theorem k4_2 : Cond.methodLink "KiteMeetModel" (132) yX11_firstWords ∈ wsG := wsG_t4 (List.mem_of_getElem? (i := 2) rfl) rfl
theorem k4_4 : Cond.instanceMethod yX11_firstWords ∈ wsG := wsG_t4 (List.mem_of_getElem? (i := 4) rfl) rfl
theorem k4_5 : Cond.code yX11_firstWords prog_13_method_36_code (3) (Option.none : Option Jvm.ClassFile.FieldType) ∈ wsG := wsG_t4 (List.mem_of_getElem? (i := 5) rfl) rfl
theorem k4_6 : Cond.methodLink "KiteMeetModel" (135) yX11_toNow ∈ wsG := wsG_t4 (List.mem_of_getElem? (i := 6) rfl) rfl
theorem k4_8 : Cond.instanceMethod yX11_toNow ∈ wsG := wsG_t4 (List.mem_of_getElem? (i := 8) rfl) rfl
theorem k4_9 : Cond.code yX11_toNow prog_13_method_38_code (3) (Option.none : Option Jvm.ClassFile.FieldType) ∈ wsG := wsG_t4 (List.mem_of_getElem? (i := 9) rfl) rfl
theorem k4_10 : Cond.fieldLink "KiteMeetModel" (7) "KiteMeetModel" "now" "[I" ∈ wsG := wsG_t4 (List.mem_of_getElem? (i := 10) rfl) rfl
theorem k4_11 : Cond.fieldLink "KiteMeetModel" (13) "KiteMeetModel" "kept" "[I" ∈ wsG := wsG_t4 (List.mem_of_getElem? (i := 11) rfl) rfl
theorem k4_12 : Cond.fieldLink "KiteMeetModel" (57) "KiteMeetModel" "keptEnd" "I" ∈ wsG := wsG_t4 (List.mem_of_getElem? (i := 12) rfl) rfl
theorem k4_13 : Cond.fieldLink "KiteMeetModel" (60) "KiteMeetModel" "keptMany" "I" ∈ wsG := wsG_t4 (List.mem_of_getElem? (i := 13) rfl) rfl
theorem k4_14 : Cond.fieldLink "KiteMeetModel" (53) "KiteMeetModel" "findings" "I" ∈ wsG := wsG_t4 (List.mem_of_getElem? (i := 14) rfl) rfl
theorem k4_15 : Cond.fieldLink "KiteMeetModel" (16) "KiteMeetModel" "sheetBits" "[I" ∈ wsG := wsG_t4 (List.mem_of_getElem? (i := 15) rfl) rfl
theorem k4_16 : Cond.fieldLink "KiteMeetModel" (19) "KiteMeetModel" "sheetSize" "[I" ∈ wsG := wsG_t4 (List.mem_of_getElem? (i := 16) rfl) rfl
theorem k4_17 : Cond.fieldLink "KiteMeetModel" (22) "KiteMeetModel" "sheets" "[I" ∈ wsG := wsG_t4 (List.mem_of_getElem? (i := 17) rfl) rfl
theorem k4_18 : Cond.fieldLink "KiteMeetModel" (25) "KiteMeetModel" "eastward" "[I" ∈ wsG := wsG_t4 (List.mem_of_getElem? (i := 18) rfl) rfl
theorem k4_19 : Cond.fieldLink "KiteMeetModel" (28) "KiteMeetModel" "northward" "[I" ∈ wsG := wsG_t4 (List.mem_of_getElem? (i := 19) rfl) rfl
theorem k4_20 : Cond.fieldLink "KiteMeetModel" (31) "KiteMeetModel" "near" "[I" ∈ wsG := wsG_t4 (List.mem_of_getElem? (i := 20) rfl) rfl
theorem k4_21 : Cond.fieldLink "KiteMeetModel" (34) "KiteMeetModel" "banks" "[I" ∈ wsG := wsG_t4 (List.mem_of_getElem? (i := 21) rfl) rfl
theorem k4_22 : Cond.fieldLink "KiteMeetModel" (37) "KiteMeetModel" "longs" "[I" ∈ wsG := wsG_t4 (List.mem_of_getElem? (i := 22) rfl) rfl
theorem k4_23 : Cond.fieldLink "KiteMeetModel" (40) "KiteMeetModel" "made" "[I" ∈ wsG := wsG_t4 (List.mem_of_getElem? (i := 23) rfl) rfl
theorem k4_24 : Cond.fieldLink "KiteMeetModel" (116) "KiteMeetModel" "madeMany" "I" ∈ wsG := wsG_t4 (List.mem_of_getElem? (i := 24) rfl) rfl
theorem k4_25 : Cond.fieldLink "KiteMeetModel" (43) "KiteMeetModel" "found" "[I" ∈ wsG := wsG_t4 (List.mem_of_getElem? (i := 25) rfl) rfl
theorem k4_26 : Cond.fieldLink "KiteMeetModel" (46) "KiteMeetModel" "carried" "[I" ∈ wsG := wsG_t4 (List.mem_of_getElem? (i := 26) rfl) rfl
theorem k4_27 : Cond.laysFinal "KiteMeetModel" "KiteMeetModel" "now" "[I" ∈ wsG := wsG_t4 (List.mem_of_getElem? (i := 27) rfl) rfl
theorem k4_29 : Cond.laysFinal "KiteMeetModel" "KiteMeetModel" "kept" "[I" ∈ wsG := wsG_t4 (List.mem_of_getElem? (i := 29) rfl) rfl
theorem k4_31 : Cond.lays "KiteMeetModel" "KiteMeetModel" "keptEnd" "I" ∈ wsG := wsG_t4 (List.mem_of_getElem? (i := 31) rfl) rfl
theorem k4_33 : Cond.lays "KiteMeetModel" "KiteMeetModel" "keptMany" "I" ∈ wsG := wsG_t4 (List.mem_of_getElem? (i := 33) rfl) rfl
theorem k4_35 : Cond.lays "KiteMeetModel" "KiteMeetModel" "findings" "I" ∈ wsG := wsG_t4 (List.mem_of_getElem? (i := 35) rfl) rfl
theorem k4_37 : Cond.laysFinal "KiteMeetModel" "KiteMeetModel" "sheetBits" "[I" ∈ wsG := wsG_t4 (List.mem_of_getElem? (i := 37) rfl) rfl
theorem k4_39 : Cond.laysFinal "KiteMeetModel" "KiteMeetModel" "sheetSize" "[I" ∈ wsG := wsG_t4 (List.mem_of_getElem? (i := 39) rfl) rfl
theorem k4_41 : Cond.laysFinal "KiteMeetModel" "KiteMeetModel" "sheets" "[I" ∈ wsG := wsG_t4 (List.mem_of_getElem? (i := 41) rfl) rfl
theorem k4_43 : Cond.laysFinal "KiteMeetModel" "KiteMeetModel" "eastward" "[I" ∈ wsG := wsG_t4 (List.mem_of_getElem? (i := 43) rfl) rfl
theorem k4_45 : Cond.laysFinal "KiteMeetModel" "KiteMeetModel" "northward" "[I" ∈ wsG := wsG_t4 (List.mem_of_getElem? (i := 45) rfl) rfl
theorem k4_47 : Cond.laysFinal "KiteMeetModel" "KiteMeetModel" "near" "[I" ∈ wsG := wsG_t4 (List.mem_of_getElem? (i := 47) rfl) rfl
theorem k4_49 : Cond.laysFinal "KiteMeetModel" "KiteMeetModel" "banks" "[I" ∈ wsG := wsG_t4 (List.mem_of_getElem? (i := 49) rfl) rfl
theorem k4_51 : Cond.laysFinal "KiteMeetModel" "KiteMeetModel" "longs" "[I" ∈ wsG := wsG_t4 (List.mem_of_getElem? (i := 51) rfl) rfl
theorem k4_53 : Cond.laysFinal "KiteMeetModel" "KiteMeetModel" "made" "[I" ∈ wsG := wsG_t4 (List.mem_of_getElem? (i := 53) rfl) rfl
theorem k4_55 : Cond.lays "KiteMeetModel" "KiteMeetModel" "madeMany" "I" ∈ wsG := wsG_t4 (List.mem_of_getElem? (i := 55) rfl) rfl
theorem k4_57 : Cond.laysFinal "KiteMeetModel" "KiteMeetModel" "found" "[I" ∈ wsG := wsG_t4 (List.mem_of_getElem? (i := 57) rfl) rfl
theorem k4_59 : Cond.laysFinal "KiteMeetModel" "KiteMeetModel" "carried" "[I" ∈ wsG := wsG_t4 (List.mem_of_getElem? (i := 59) rfl) rfl
theorem k4_62 : Cond.methodLink "KiteMeetLaw" (137) yX11_undo ∈ wsG := wsG_t4 (List.mem_of_getElem? (i := 62) rfl) rfl
theorem k4_63 : Cond.instanceMethod yX11_undo ∈ wsG := wsG_t4 (List.mem_of_getElem? (i := 63) rfl) rfl
theorem k4_64 : Cond.selects "KiteMeetModel" yX11_undo yX11_undo ∈ wsG := wsG_t4 (List.mem_of_getElem? (i := 64) rfl) rfl
theorem k4_65 : Cond.code yX11_undo prog_13_method_6_code (2) (Option.some FieldType.int) ∈ wsG := wsG_t4 (List.mem_of_getElem? (i := 65) rfl) rfl
theorem k4_66 : Cond.constant "KiteMeetModel" (63) (-100006 : Int32) ∈ wsG := wsG_t4 (List.mem_of_getElem? (i := 66) rfl) rfl
theorem k4_67 : Cond.methodLink "KiteMeetModel" (64) yX11_finds ∈ wsG := wsG_t4 (List.mem_of_getElem? (i := 67) rfl) rfl
theorem k4_69 : Cond.instanceMethod yX11_finds ∈ wsG := wsG_t4 (List.mem_of_getElem? (i := 69) rfl) rfl
theorem k4_70 : Cond.code yX11_finds prog_13_method_4_code (2) (Option.some FieldType.int) ∈ wsG := wsG_t4 (List.mem_of_getElem? (i := 70) rfl) rfl
theorem k4_71 : Cond.methodLink "KiteMeetLaw" (17) yX11_flyer ∈ wsG := wsG_t4 (List.mem_of_getElem? (i := 71) rfl) rfl
theorem k4_72 : Cond.instanceMethod yX11_flyer ∈ wsG := wsG_t4 (List.mem_of_getElem? (i := 72) rfl) rfl
theorem k4_73 : Cond.selects "KiteMeetModel" yX11_flyer yX11_flyer ∈ wsG := wsG_t4 (List.mem_of_getElem? (i := 73) rfl) rfl
theorem k4_74 : Cond.code yX11_flyer prog_13_method_11_code (9) (Option.some FieldType.int) ∈ wsG := wsG_t4 (List.mem_of_getElem? (i := 74) rfl) rfl
theorem k4_75 : Cond.methodLink "KiteMeetModel" (68) yX11_in ∈ wsG := wsG_t4 (List.mem_of_getElem? (i := 75) rfl) rfl
theorem k4_76 : Cond.static yX11_in ∈ wsG := wsG_t4 (List.mem_of_getElem? (i := 76) rfl) rfl
theorem k4_77 : Cond.code yX11_in prog_13_method_3_code (3) (Option.some FieldType.boolean) ∈ wsG := wsG_t4 (List.mem_of_getElem? (i := 77) rfl) rfl
theorem k4_78 : Cond.methodLink "KiteMeetModel" (72) yX11_isHeight ∈ wsG := wsG_t4 (List.mem_of_getElem? (i := 78) rfl) rfl
theorem k4_79 : Cond.static yX11_isHeight ∈ wsG := wsG_t4 (List.mem_of_getElem? (i := 79) rfl) rfl
theorem k4_80 : Cond.code yX11_isHeight prog_13_method_9_code (1) (Option.some FieldType.boolean) ∈ wsG := wsG_t4 (List.mem_of_getElem? (i := 80) rfl) rfl
theorem k4_81 : Cond.constant "KiteMeetModel" (76) (-100001 : Int32) ∈ wsG := wsG_t4 (List.mem_of_getElem? (i := 81) rfl) rfl
theorem k4_82 : Cond.constant "KiteMeetModel" (77) (-100003 : Int32) ∈ wsG := wsG_t4 (List.mem_of_getElem? (i := 82) rfl) rfl
theorem k4_83 : Cond.constant "KiteMeetModel" (78) (-100005 : Int32) ∈ wsG := wsG_t4 (List.mem_of_getElem? (i := 83) rfl) rfl
theorem k4_84 : Cond.methodLink "KiteMeetModel" (79) yX11_keep ∈ wsG := wsG_t4 (List.mem_of_getElem? (i := 84) rfl) rfl
theorem k4_86 : Cond.instanceMethod yX11_keep ∈ wsG := wsG_t4 (List.mem_of_getElem? (i := 86) rfl) rfl
theorem k4_87 : Cond.code yX11_keep prog_13_method_5_code (2) (Option.none : Option Jvm.ClassFile.FieldType) ∈ wsG := wsG_t4 (List.mem_of_getElem? (i := 87) rfl) rfl
theorem k4_88 : Cond.methodLink "KiteMeetLaw" (22) yX11_as ∈ wsG := wsG_t4 (List.mem_of_getElem? (i := 88) rfl) rfl
theorem k4_89 : Cond.instanceMethod yX11_as ∈ wsG := wsG_t4 (List.mem_of_getElem? (i := 89) rfl) rfl
theorem k4_90 : Cond.selects "KiteMeetModel" yX11_as yX11_as ∈ wsG := wsG_t4 (List.mem_of_getElem? (i := 90) rfl) rfl
theorem k4_91 : Cond.code yX11_as prog_13_method_12_code (4) (Option.some FieldType.int) ∈ wsG := wsG_t4 (List.mem_of_getElem? (i := 91) rfl) rfl
theorem k4_92 : Cond.methodLink "KiteMeetModel" (82) yX11_isFlyer ∈ wsG := wsG_t4 (List.mem_of_getElem? (i := 92) rfl) rfl
theorem k4_94 : Cond.instanceMethod yX11_isFlyer ∈ wsG := wsG_t4 (List.mem_of_getElem? (i := 94) rfl) rfl
theorem k4_95 : Cond.code yX11_isFlyer prog_13_method_7_code (2) (Option.some FieldType.boolean) ∈ wsG := wsG_t4 (List.mem_of_getElem? (i := 95) rfl) rfl
theorem k4_96 : Cond.methodLink "KiteMeetModel" (85) yX11_ofFlyer ∈ wsG := wsG_t4 (List.mem_of_getElem? (i := 96) rfl) rfl
theorem k4_98 : Cond.instanceMethod yX11_ofFlyer ∈ wsG := wsG_t4 (List.mem_of_getElem? (i := 98) rfl) rfl
theorem k4_99 : Cond.code yX11_ofFlyer prog_13_method_8_code (3) (Option.some FieldType.int) ∈ wsG := wsG_t4 (List.mem_of_getElem? (i := 99) rfl) rfl
theorem k4_100 : Cond.constant "KiteMeetModel" (89) (-100004 : Int32) ∈ wsG := wsG_t4 (List.mem_of_getElem? (i := 100) rfl) rfl
theorem k4_101 : Cond.methodLink "KiteMeetLaw" (26) yX11_of ∈ wsG := wsG_t4 (List.mem_of_getElem? (i := 101) rfl) rfl
theorem k4_102 : Cond.instanceMethod yX11_of ∈ wsG := wsG_t4 (List.mem_of_getElem? (i := 102) rfl) rfl
theorem k4_103 : Cond.selects "KiteMeetModel" yX11_of yX11_of ∈ wsG := wsG_t4 (List.mem_of_getElem? (i := 103) rfl) rfl
theorem k4_104 : Cond.code yX11_of prog_13_method_13_code (3) (Option.some FieldType.int) ∈ wsG := wsG_t4 (List.mem_of_getElem? (i := 104) rfl) rfl
theorem k4_105 : Cond.methodLink "KiteMeetLaw" (30) yX11_go ∈ wsG := wsG_t4 (List.mem_of_getElem? (i := 105) rfl) rfl
theorem k4_106 : Cond.instanceMethod yX11_go ∈ wsG := wsG_t4 (List.mem_of_getElem? (i := 106) rfl) rfl
theorem k4_107 : Cond.selects "KiteMeetModel" yX11_go yX11_go ∈ wsG := wsG_t4 (List.mem_of_getElem? (i := 107) rfl) rfl
theorem k4_108 : Cond.code yX11_go prog_13_method_14_code (4) (Option.some FieldType.int) ∈ wsG := wsG_t4 (List.mem_of_getElem? (i := 108) rfl) rfl
theorem k4_109 : Cond.methodLink "KiteMeetLaw" (34) yX11_line ∈ wsG := wsG_t4 (List.mem_of_getElem? (i := 109) rfl) rfl
theorem k4_110 : Cond.instanceMethod yX11_line ∈ wsG := wsG_t4 (List.mem_of_getElem? (i := 110) rfl) rfl
theorem k4_111 : Cond.selects "KiteMeetModel" yX11_line yX11_line ∈ wsG := wsG_t4 (List.mem_of_getElem? (i := 111) rfl) rfl
theorem k4_112 : Cond.code yX11_line prog_13_method_15_code (4) (Option.some FieldType.int) ∈ wsG := wsG_t4 (List.mem_of_getElem? (i := 112) rfl) rfl
theorem k4_113 : Cond.methodLink "KiteMeetLaw" (39) yX11_wind ∈ wsG := wsG_t4 (List.mem_of_getElem? (i := 113) rfl) rfl
theorem k4_114 : Cond.instanceMethod yX11_wind ∈ wsG := wsG_t4 (List.mem_of_getElem? (i := 114) rfl) rfl
theorem k4_115 : Cond.selects "KiteMeetModel" yX11_wind yX11_wind ∈ wsG := wsG_t4 (List.mem_of_getElem? (i := 115) rfl) rfl
theorem k4_116 : Cond.code yX11_wind prog_13_method_18_code (5) (Option.some FieldType.int) ∈ wsG := wsG_t4 (List.mem_of_getElem? (i := 116) rfl) rfl
theorem k4_117 : Cond.methodLink "KiteMeetModel" (93) yX11_isMinute ∈ wsG := wsG_t4 (List.mem_of_getElem? (i := 117) rfl) rfl
theorem k4_118 : Cond.static yX11_isMinute ∈ wsG := wsG_t4 (List.mem_of_getElem? (i := 118) rfl) rfl
theorem k4_119 : Cond.code yX11_isMinute prog_13_method_10_code (1) (Option.some FieldType.boolean) ∈ wsG := wsG_t4 (List.mem_of_getElem? (i := 119) rfl) rfl
theorem k4_120 : Cond.methodLink "KiteMeetModel" (90) yX11_windOf ∈ wsG := wsG_t4 (List.mem_of_getElem? (i := 120) rfl) rfl
theorem k4_121 : Cond.static yX11_windOf ∈ wsG := wsG_t4 (List.mem_of_getElem? (i := 121) rfl) rfl
theorem k4_122 : Cond.code yX11_windOf prog_13_method_16_code (2) (Option.some FieldType.int) ∈ wsG := wsG_t4 (List.mem_of_getElem? (i := 122) rfl) rfl
theorem k4_123 : Cond.methodLink "KiteMeetLaw" (44) yX11_windAt ∈ wsG := wsG_t4 (List.mem_of_getElem? (i := 123) rfl) rfl
theorem k4_124 : Cond.instanceMethod yX11_windAt ∈ wsG := wsG_t4 (List.mem_of_getElem? (i := 124) rfl) rfl
theorem k4_125 : Cond.selects "KiteMeetModel" yX11_windAt yX11_windAt ∈ wsG := wsG_t4 (List.mem_of_getElem? (i := 125) rfl) rfl
theorem k4_126 : Cond.code yX11_windAt prog_13_method_19_code (4) (Option.some FieldType.int) ∈ wsG := wsG_t4 (List.mem_of_getElem? (i := 126) rfl) rfl
theorem k4_127 : Cond.methodLink "KiteMeetLaw" (48) yX11_flies ∈ wsG := wsG_t4 (List.mem_of_getElem? (i := 127) rfl) rfl
theorem k4_128 : Cond.instanceMethod yX11_flies ∈ wsG := wsG_t4 (List.mem_of_getElem? (i := 128) rfl) rfl
theorem k4_129 : Cond.selects "KiteMeetModel" yX11_flies yX11_flies ∈ wsG := wsG_t4 (List.mem_of_getElem? (i := 129) rfl) rfl
theorem k4_130 : Cond.code yX11_flies prog_13_method_21_code (3) (Option.some FieldType.int) ∈ wsG := wsG_t4 (List.mem_of_getElem? (i := 130) rfl) rfl
theorem k4_131 : Cond.methodLink "KiteMeetModel" (99) yX11_doesFly ∈ wsG := wsG_t4 (List.mem_of_getElem? (i := 131) rfl) rfl
theorem k4_133 : Cond.instanceMethod yX11_doesFly ∈ wsG := wsG_t4 (List.mem_of_getElem? (i := 133) rfl) rfl
theorem k4_134 : Cond.code yX11_doesFly prog_13_method_20_code (6) (Option.some FieldType.boolean) ∈ wsG := wsG_t4 (List.mem_of_getElem? (i := 134) rfl) rfl
theorem k4_135 : Cond.methodLink "KiteMeetModel" (96) yX11_force ∈ wsG := wsG_t4 (List.mem_of_getElem? (i := 135) rfl) rfl
theorem k4_137 : Cond.instanceMethod yX11_force ∈ wsG := wsG_t4 (List.mem_of_getElem? (i := 137) rfl) rfl
theorem k4_138 : Cond.code yX11_force prog_13_method_17_code (3) (Option.some FieldType.int) ∈ wsG := wsG_t4 (List.mem_of_getElem? (i := 138) rfl) rfl
theorem k4_139 : Cond.methodLink "KiteMeetLaw" (52) yX11_kite ∈ wsG := wsG_t4 (List.mem_of_getElem? (i := 139) rfl) rfl
theorem k4_140 : Cond.instanceMethod yX11_kite ∈ wsG := wsG_t4 (List.mem_of_getElem? (i := 140) rfl) rfl
theorem k4_141 : Cond.selects "KiteMeetModel" yX11_kite yX11_kite ∈ wsG := wsG_t4 (List.mem_of_getElem? (i := 141) rfl) rfl
theorem k4_142 : Cond.code yX11_kite prog_13_method_23_code (4) (Option.some FieldType.int) ∈ wsG := wsG_t4 (List.mem_of_getElem? (i := 142) rfl) rfl
theorem k4_143 : Cond.methodLink "KiteMeetModel" (103) yX11_whereIs ∈ wsG := wsG_t4 (List.mem_of_getElem? (i := 143) rfl) rfl
theorem k4_145 : Cond.instanceMethod yX11_whereIs ∈ wsG := wsG_t4 (List.mem_of_getElem? (i := 145) rfl) rfl
theorem k4_146 : Cond.code yX11_whereIs prog_13_method_22_code (5) (Option.some FieldType.int) ∈ wsG := wsG_t4 (List.mem_of_getElem? (i := 146) rfl) rfl
theorem k4_147 : Cond.methodLink "KiteMeetLaw" (57) yX11_meet ∈ wsG := wsG_t4 (List.mem_of_getElem? (i := 147) rfl) rfl
theorem k4_148 : Cond.instanceMethod yX11_meet ∈ wsG := wsG_t4 (List.mem_of_getElem? (i := 148) rfl) rfl
theorem k4_149 : Cond.selects "KiteMeetModel" yX11_meet yX11_meet ∈ wsG := wsG_t4 (List.mem_of_getElem? (i := 149) rfl) rfl
theorem k4_150 : Cond.code yX11_meet prog_13_method_25_code (5) (Option.some FieldType.int) ∈ wsG := wsG_t4 (List.mem_of_getElem? (i := 150) rfl) rfl
theorem k4_151 : Cond.methodLink "KiteMeetModel" (107) yX11_doMeet ∈ wsG := wsG_t4 (List.mem_of_getElem? (i := 151) rfl) rfl
theorem k4_153 : Cond.instanceMethod yX11_doMeet ∈ wsG := wsG_t4 (List.mem_of_getElem? (i := 153) rfl) rfl
theorem k4_154 : Cond.code yX11_doMeet prog_13_method_24_code (5) (Option.some FieldType.boolean) ∈ wsG := wsG_t4 (List.mem_of_getElem? (i := 154) rfl) rfl
theorem k4_155 : Cond.methodLink "KiteMeetLaw" (62) yX11_meets ∈ wsG := wsG_t4 (List.mem_of_getElem? (i := 155) rfl) rfl
theorem k4_156 : Cond.instanceMethod yX11_meets ∈ wsG := wsG_t4 (List.mem_of_getElem? (i := 156) rfl) rfl
theorem k4_157 : Cond.selects "KiteMeetModel" yX11_meets yX11_meets ∈ wsG := wsG_t4 (List.mem_of_getElem? (i := 157) rfl) rfl
theorem k4_158 : Cond.code yX11_meets prog_13_method_26_code (5) (Option.some FieldType.int) ∈ wsG := wsG_t4 (List.mem_of_getElem? (i := 158) rfl) rfl
theorem k4_159 : Cond.methodLink "KiteMeetLaw" (66) yX11_field ∈ wsG := wsG_t4 (List.mem_of_getElem? (i := 159) rfl) rfl
theorem k4_160 : Cond.instanceMethod yX11_field ∈ wsG := wsG_t4 (List.mem_of_getElem? (i := 160) rfl) rfl
theorem k4_161 : Cond.selects "KiteMeetModel" yX11_field yX11_field ∈ wsG := wsG_t4 (List.mem_of_getElem? (i := 161) rfl) rfl
theorem k4_162 : Cond.code yX11_field prog_13_method_29_code (2) (Option.some FieldType.int) ∈ wsG := wsG_t4 (List.mem_of_getElem? (i := 162) rfl) rfl
theorem k4_163 : Cond.methodLink "KiteMeetModel" (113) yX11_fieldOf ∈ wsG := wsG_t4 (List.mem_of_getElem? (i := 163) rfl) rfl
theorem k4_165 : Cond.instanceMethod yX11_fieldOf ∈ wsG := wsG_t4 (List.mem_of_getElem? (i := 165) rfl) rfl
theorem k4_166 : Cond.code yX11_fieldOf prog_13_method_28_code (7) (Option.some FieldType.int) ∈ wsG := wsG_t4 (List.mem_of_getElem? (i := 166) rfl) rfl
theorem k4_167 : Cond.methodLink "KiteMeetModel" (110) yX11_ones ∈ wsG := wsG_t4 (List.mem_of_getElem? (i := 167) rfl) rfl
theorem k4_168 : Cond.static yX11_ones ∈ wsG := wsG_t4 (List.mem_of_getElem? (i := 168) rfl) rfl
theorem k4_169 : Cond.code yX11_ones prog_13_method_27_code (3) (Option.some FieldType.int) ∈ wsG := wsG_t4 (List.mem_of_getElem? (i := 169) rfl) rfl
theorem k4_170 : Cond.methodLink "KiteMeetLaw" (70) yX11_best ∈ wsG := wsG_t4 (List.mem_of_getElem? (i := 170) rfl) rfl
theorem k4_171 : Cond.instanceMethod yX11_best ∈ wsG := wsG_t4 (List.mem_of_getElem? (i := 171) rfl) rfl
theorem k4_172 : Cond.selects "KiteMeetModel" yX11_best yX11_best ∈ wsG := wsG_t4 (List.mem_of_getElem? (i := 172) rfl) rfl
theorem k4_173 : Cond.code yX11_best prog_13_method_30_code (7) (Option.some FieldType.int) ∈ wsG := wsG_t4 (List.mem_of_getElem? (i := 173) rfl) rfl
theorem k4_174 : Cond.methodLink "KiteMeetLaw" (74) yX11_row ∈ wsG := wsG_t4 (List.mem_of_getElem? (i := 174) rfl) rfl
theorem k4_175 : Cond.instanceMethod yX11_row ∈ wsG := wsG_t4 (List.mem_of_getElem? (i := 175) rfl) rfl
theorem k4_176 : Cond.selects "KiteMeetModel" yX11_row yX11_row ∈ wsG := wsG_t4 (List.mem_of_getElem? (i := 176) rfl) rfl
theorem k4_177 : Cond.code yX11_row prog_13_method_41_code (3) (Option.some FieldType.int) ∈ wsG := wsG_t4 (List.mem_of_getElem? (i := 177) rfl) rfl
theorem k4_178 : Cond.methodLink "KiteMeetLaw" (79) yX11_walk ∈ wsG := wsG_t4 (List.mem_of_getElem? (i := 178) rfl) rfl
theorem k4_179 : Cond.instanceMethod yX11_walk ∈ wsG := wsG_t4 (List.mem_of_getElem? (i := 179) rfl) rfl
theorem k4_180 : Cond.selects "KiteMeetModel" yX11_walk yX11_walk ∈ wsG := wsG_t4 (List.mem_of_getElem? (i := 180) rfl) rfl
theorem k4_181 : Cond.code yX11_walk prog_13_method_45_code (6) (Option.some FieldType.int) ∈ wsG := wsG_t4 (List.mem_of_getElem? (i := 181) rfl) rfl
theorem k4_182 : Cond.methodLink "KiteMeetModel" (138) yX11_isLost ∈ wsG := wsG_t4 (List.mem_of_getElem? (i := 182) rfl) rfl
theorem k4_184 : Cond.instanceMethod yX11_isLost ∈ wsG := wsG_t4 (List.mem_of_getElem? (i := 184) rfl) rfl
theorem k4_185 : Cond.code yX11_isLost prog_13_method_43_code (2) (Option.some FieldType.boolean) ∈ wsG := wsG_t4 (List.mem_of_getElem? (i := 185) rfl) rfl
theorem k4_186 : Cond.constant "KiteMeetModel" (141) (-100007 : Int32) ∈ wsG := wsG_t4 (List.mem_of_getElem? (i := 186) rfl) rfl
theorem k4_187 : Cond.methodLink "KiteMeetModel" (142) yX11_fromNow ∈ wsG := wsG_t4 (List.mem_of_getElem? (i := 187) rfl) rfl
theorem k4_189 : Cond.instanceMethod yX11_fromNow ∈ wsG := wsG_t4 (List.mem_of_getElem? (i := 189) rfl) rfl
theorem k4_190 : Cond.code yX11_fromNow prog_13_method_37_code (2) (Option.none : Option Jvm.ClassFile.FieldType) ∈ wsG := wsG_t4 (List.mem_of_getElem? (i := 190) rfl) rfl
theorem k4_191 : Cond.methodLink "KiteMeetModel" (145) yX11_walks ∈ wsG := wsG_t4 (List.mem_of_getElem? (i := 191) rfl) rfl
theorem k4_193 : Cond.instanceMethod yX11_walks ∈ wsG := wsG_t4 (List.mem_of_getElem? (i := 193) rfl) rfl
theorem k4_194 : Cond.code yX11_walks prog_13_method_35_code (7) (Option.some FieldType.boolean) ∈ wsG := wsG_t4 (List.mem_of_getElem? (i := 194) rfl) rfl
theorem k4_195 : Cond.methodLink "KiteMeetModel" (125) yX11_takes ∈ wsG := wsG_t4 (List.mem_of_getElem? (i := 195) rfl) rfl
theorem k4_197 : Cond.instanceMethod yX11_takes ∈ wsG := wsG_t4 (List.mem_of_getElem? (i := 197) rfl) rfl
theorem k4_198 : Cond.code yX11_takes prog_13_method_33_code (7) (Option.none : Option Jvm.ClassFile.FieldType) ∈ wsG := wsG_t4 (List.mem_of_getElem? (i := 198) rfl) rfl
theorem k4_199 : Cond.methodLink "KiteMeetModel" (119) yX11_turned ∈ wsG := wsG_t4 (List.mem_of_getElem? (i := 199) rfl) rfl
theorem k4_200 : Cond.static yX11_turned ∈ wsG := wsG_t4 (List.mem_of_getElem? (i := 200) rfl) rfl
theorem k4_201 : Cond.code yX11_turned prog_13_method_31_code (1) (Option.some FieldType.int) ∈ wsG := wsG_t4 (List.mem_of_getElem? (i := 201) rfl) rfl
theorem k4_202 : Cond.methodLink "KiteMeetModel" (122) yX11_one ∈ wsG := wsG_t4 (List.mem_of_getElem? (i := 202) rfl) rfl
theorem k4_204 : Cond.instanceMethod yX11_one ∈ wsG := wsG_t4 (List.mem_of_getElem? (i := 204) rfl) rfl
theorem k4_205 : Cond.code yX11_one prog_13_method_32_code (2) (Option.none : Option Jvm.ClassFile.FieldType) ∈ wsG := wsG_t4 (List.mem_of_getElem? (i := 205) rfl) rfl
theorem k4_206 : Cond.methodLink "KiteMeetModel" (129) yX11_lays ∈ wsG := wsG_t4 (List.mem_of_getElem? (i := 206) rfl) rfl
theorem k4_208 : Cond.instanceMethod yX11_lays ∈ wsG := wsG_t4 (List.mem_of_getElem? (i := 208) rfl) rfl
theorem k4_209 : Cond.code yX11_lays prog_13_method_34_code (4) (Option.some FieldType.boolean) ∈ wsG := wsG_t4 (List.mem_of_getElem? (i := 209) rfl) rfl
theorem k4_210 : Cond.methodLink "KiteMeetModel" (149) yX11_wears ∈ wsG := wsG_t4 (List.mem_of_getElem? (i := 210) rfl) rfl
theorem k4_212 : Cond.instanceMethod yX11_wears ∈ wsG := wsG_t4 (List.mem_of_getElem? (i := 212) rfl) rfl
theorem k4_213 : Cond.code yX11_wears prog_13_method_44_code (2) (Option.some FieldType.int) ∈ wsG := wsG_t4 (List.mem_of_getElem? (i := 213) rfl) rfl
theorem k4_214 : Cond.methodLink "KiteMeetModel" (152) yX11_tangleOf ∈ wsG := wsG_t4 (List.mem_of_getElem? (i := 214) rfl) rfl
theorem k4_216 : Cond.instanceMethod yX11_tangleOf ∈ wsG := wsG_t4 (List.mem_of_getElem? (i := 216) rfl) rfl
theorem k4_217 : Cond.code yX11_tangleOf prog_13_method_48_code (3) (Option.some FieldType.int) ∈ wsG := wsG_t4 (List.mem_of_getElem? (i := 217) rfl) rfl
theorem k4_218 : Cond.methodLink "KiteMeetLaw" (83) yX11_at ∈ wsG := wsG_t4 (List.mem_of_getElem? (i := 218) rfl) rfl
theorem k4_219 : Cond.instanceMethod yX11_at ∈ wsG := wsG_t4 (List.mem_of_getElem? (i := 219) rfl) rfl
theorem k4_220 : Cond.selects "KiteMeetModel" yX11_at yX11_at ∈ wsG := wsG_t4 (List.mem_of_getElem? (i := 220) rfl) rfl
theorem k4_221 : Cond.code yX11_at prog_13_method_46_code (2) (Option.some FieldType.int) ∈ wsG := wsG_t4 (List.mem_of_getElem? (i := 221) rfl) rfl
theorem k4_222 : Cond.methodLink "KiteMeetModel" (156) yX11_isPlace ∈ wsG := wsG_t4 (List.mem_of_getElem? (i := 222) rfl) rfl
theorem k4_224 : Cond.instanceMethod yX11_isPlace ∈ wsG := wsG_t4 (List.mem_of_getElem? (i := 224) rfl) rfl
theorem k4_225 : Cond.code yX11_isPlace prog_13_method_42_code (2) (Option.some FieldType.boolean) ∈ wsG := wsG_t4 (List.mem_of_getElem? (i := 225) rfl) rfl
theorem k4_226 : Cond.methodLink "KiteMeetLaw" (87) yX11_letter ∈ wsG := wsG_t4 (List.mem_of_getElem? (i := 226) rfl) rfl
theorem k4_227 : Cond.instanceMethod yX11_letter ∈ wsG := wsG_t4 (List.mem_of_getElem? (i := 227) rfl) rfl
theorem k4_228 : Cond.selects "KiteMeetModel" yX11_letter yX11_letter ∈ wsG := wsG_t4 (List.mem_of_getElem? (i := 228) rfl) rfl
theorem k4_229 : Cond.code yX11_letter prog_13_method_47_code (3) (Option.some FieldType.int) ∈ wsG := wsG_t4 (List.mem_of_getElem? (i := 229) rfl) rfl
theorem k4_230 : Cond.methodLink "KiteMeetLaw" (92) yX11_tangle ∈ wsG := wsG_t4 (List.mem_of_getElem? (i := 230) rfl) rfl
theorem k4_231 : Cond.instanceMethod yX11_tangle ∈ wsG := wsG_t4 (List.mem_of_getElem? (i := 231) rfl) rfl
theorem k4_232 : Cond.selects "KiteMeetModel" yX11_tangle yX11_tangle ∈ wsG := wsG_t4 (List.mem_of_getElem? (i := 232) rfl) rfl
theorem k4_233 : Cond.code yX11_tangle prog_13_method_49_code (1) (Option.some FieldType.int) ∈ wsG := wsG_t4 (List.mem_of_getElem? (i := 233) rfl) rfl
theorem k4_234 : Cond.methodLink "KiteMeetLaw" (96) yX11_twist ∈ wsG := wsG_t4 (List.mem_of_getElem? (i := 234) rfl) rfl
theorem k4_235 : Cond.instanceMethod yX11_twist ∈ wsG := wsG_t4 (List.mem_of_getElem? (i := 235) rfl) rfl
theorem k4_236 : Cond.selects "KiteMeetModel" yX11_twist yX11_twist ∈ wsG := wsG_t4 (List.mem_of_getElem? (i := 236) rfl) rfl
theorem k4_237 : Cond.code yX11_twist prog_13_method_50_code (3) (Option.some FieldType.int) ∈ wsG := wsG_t4 (List.mem_of_getElem? (i := 237) rfl) rfl
theorem k4_238 : Cond.methodLink "KiteMeetLaw" (100) yX11_fewest ∈ wsG := wsG_t4 (List.mem_of_getElem? (i := 238) rfl) rfl
theorem k4_239 : Cond.instanceMethod yX11_fewest ∈ wsG := wsG_t4 (List.mem_of_getElem? (i := 239) rfl) rfl
theorem k5_0 : Cond.selects "KiteMeetModel" yX11_fewest yX11_fewest ∈ wsG := wsG_t5 (List.mem_of_getElem? (i := 0) rfl) rfl
theorem k5_1 : Cond.code yX11_fewest prog_13_method_52_code (3) (Option.some FieldType.int) ∈ wsG := wsG_t5 (List.mem_of_getElem? (i := 1) rfl) rfl
theorem k5_2 : Cond.methodLink "KiteMeetModel" (162) yX11_findFewest ∈ wsG := wsG_t5 (List.mem_of_getElem? (i := 2) rfl) rfl
theorem k5_4 : Cond.instanceMethod yX11_findFewest ∈ wsG := wsG_t5 (List.mem_of_getElem? (i := 4) rfl) rfl
theorem k5_5 : Cond.code yX11_findFewest prog_13_method_51_code (7) (Option.some FieldType.int) ∈ wsG := wsG_t5 (List.mem_of_getElem? (i := 5) rfl) rfl
theorem k5_6 : Cond.methodLink "KiteMeetModel" (159) yX11_isFirst ∈ wsG := wsG_t5 (List.mem_of_getElem? (i := 6) rfl) rfl
theorem k5_8 : Cond.instanceMethod yX11_isFirst ∈ wsG := wsG_t5 (List.mem_of_getElem? (i := 8) rfl) rfl
theorem k5_9 : Cond.code yX11_isFirst prog_13_method_39_code (4) (Option.some FieldType.boolean) ∈ wsG := wsG_t5 (List.mem_of_getElem? (i := 9) rfl) rfl
theorem k5_10 : Cond.methodLink "KiteMeetLaw" (104) yX11_same ∈ wsG := wsG_t5 (List.mem_of_getElem? (i := 10) rfl) rfl
theorem k5_11 : Cond.instanceMethod yX11_same ∈ wsG := wsG_t5 (List.mem_of_getElem? (i := 11) rfl) rfl
theorem k5_12 : Cond.selects "KiteMeetModel" yX11_same yX11_same ∈ wsG := wsG_t5 (List.mem_of_getElem? (i := 12) rfl) rfl
theorem k5_13 : Cond.code yX11_same prog_13_method_56_code (6) (Option.some FieldType.int) ∈ wsG := wsG_t5 (List.mem_of_getElem? (i := 13) rfl) rfl
theorem k5_14 : Cond.methodLink "KiteMeetModel" (165) yX11_isSheet ∈ wsG := wsG_t5 (List.mem_of_getElem? (i := 14) rfl) rfl
theorem k5_15 : Cond.static yX11_isSheet ∈ wsG := wsG_t5 (List.mem_of_getElem? (i := 15) rfl) rfl
theorem k5_16 : Cond.code yX11_isSheet prog_13_method_53_code (1) (Option.some FieldType.boolean) ∈ wsG := wsG_t5 (List.mem_of_getElem? (i := 16) rfl) rfl
theorem k5_17 : Cond.constant "KiteMeetModel" (168) (-100002 : Int32) ∈ wsG := wsG_t5 (List.mem_of_getElem? (i := 17) rfl) rfl
theorem k5_18 : Cond.methodLink "KiteMeetModel" (169) yX11_tellsWalks ∈ wsG := wsG_t5 (List.mem_of_getElem? (i := 18) rfl) rfl
theorem k5_20 : Cond.instanceMethod yX11_tellsWalks ∈ wsG := wsG_t5 (List.mem_of_getElem? (i := 20) rfl) rfl
theorem k5_21 : Cond.code yX11_tellsWalks prog_13_method_54_code (4) (Option.some FieldType.boolean) ∈ wsG := wsG_t5 (List.mem_of_getElem? (i := 21) rfl) rfl
theorem k5_22 : Cond.methodLink "KiteMeetModel" (172) yX11_does ∈ wsG := wsG_t5 (List.mem_of_getElem? (i := 22) rfl) rfl
theorem k5_24 : Cond.instanceMethod yX11_does ∈ wsG := wsG_t5 (List.mem_of_getElem? (i := 24) rfl) rfl
theorem k5_25 : Cond.code yX11_does prog_13_method_55_code (7) (Option.some FieldType.boolean) ∈ wsG := wsG_t5 (List.mem_of_getElem? (i := 25) rfl) rfl
theorem k5_26 : Cond.methodLink "KiteMeetLaw" (108) yX11_sharp ∈ wsG := wsG_t5 (List.mem_of_getElem? (i := 26) rfl) rfl
theorem k5_27 : Cond.instanceMethod yX11_sharp ∈ wsG := wsG_t5 (List.mem_of_getElem? (i := 27) rfl) rfl
theorem k5_28 : Cond.selects "KiteMeetModel" yX11_sharp yX11_sharp ∈ wsG := wsG_t5 (List.mem_of_getElem? (i := 28) rfl) rfl
theorem k5_29 : Cond.code yX11_sharp prog_13_method_57_code (4) (Option.some FieldType.int) ∈ wsG := wsG_t5 (List.mem_of_getElem? (i := 29) rfl) rfl
theorem k5_30 : Cond.methodLink "KiteMeetLaw" (112) yX11_wear ∈ wsG := wsG_t5 (List.mem_of_getElem? (i := 30) rfl) rfl
theorem k5_31 : Cond.instanceMethod yX11_wear ∈ wsG := wsG_t5 (List.mem_of_getElem? (i := 31) rfl) rfl
theorem k5_32 : Cond.selects "KiteMeetModel" yX11_wear yX11_wear ∈ wsG := wsG_t5 (List.mem_of_getElem? (i := 32) rfl) rfl
theorem k5_33 : Cond.code yX11_wear prog_13_method_58_code (2) (Option.some FieldType.int) ∈ wsG := wsG_t5 (List.mem_of_getElem? (i := 33) rfl) rfl
theorem k5_34 : Cond.methodLink "KiteMeetLaw" (116) yX11_lost ∈ wsG := wsG_t5 (List.mem_of_getElem? (i := 34) rfl) rfl
theorem k5_35 : Cond.instanceMethod yX11_lost ∈ wsG := wsG_t5 (List.mem_of_getElem? (i := 35) rfl) rfl
theorem k5_36 : Cond.selects "KiteMeetModel" yX11_lost yX11_lost ∈ wsG := wsG_t5 (List.mem_of_getElem? (i := 36) rfl) rfl
theorem k5_37 : Cond.code yX11_lost prog_13_method_59_code (3) (Option.some FieldType.int) ∈ wsG := wsG_t5 (List.mem_of_getElem? (i := 37) rfl) rfl
theorem k5_38 : Cond.methodLink "KiteMeetLaw" (120) yX11_sheet ∈ wsG := wsG_t5 (List.mem_of_getElem? (i := 38) rfl) rfl
theorem k5_39 : Cond.instanceMethod yX11_sheet ∈ wsG := wsG_t5 (List.mem_of_getElem? (i := 39) rfl) rfl
theorem k5_40 : Cond.selects "KiteMeetModel" yX11_sheet yX11_sheet ∈ wsG := wsG_t5 (List.mem_of_getElem? (i := 40) rfl) rfl
theorem k5_41 : Cond.code yX11_sheet prog_13_method_60_code (5) (Option.some FieldType.int) ∈ wsG := wsG_t5 (List.mem_of_getElem? (i := 41) rfl) rfl
theorem k5_42 : Cond.methodLink "KiteMeetLaw" (124) yX11_put ∈ wsG := wsG_t5 (List.mem_of_getElem? (i := 42) rfl) rfl
theorem k5_43 : Cond.instanceMethod yX11_put ∈ wsG := wsG_t5 (List.mem_of_getElem? (i := 43) rfl) rfl
theorem k5_44 : Cond.selects "KiteMeetModel" yX11_put yX11_put ∈ wsG := wsG_t5 (List.mem_of_getElem? (i := 44) rfl) rfl
theorem k5_45 : Cond.code yX11_put prog_13_method_61_code (4) (Option.some FieldType.int) ∈ wsG := wsG_t5 (List.mem_of_getElem? (i := 45) rfl) rfl
theorem k5_46 : Cond.methodLink "KiteMeetLaw" (129) yX11_copy ∈ wsG := wsG_t5 (List.mem_of_getElem? (i := 46) rfl) rfl
theorem k5_47 : Cond.instanceMethod yX11_copy ∈ wsG := wsG_t5 (List.mem_of_getElem? (i := 47) rfl) rfl
theorem k5_48 : Cond.selects "KiteMeetModel" yX11_copy yX11_copy ∈ wsG := wsG_t5 (List.mem_of_getElem? (i := 48) rfl) rfl
theorem k5_49 : Cond.code yX11_copy prog_13_method_62_code (7) (Option.some FieldType.int) ∈ wsG := wsG_t5 (List.mem_of_getElem? (i := 49) rfl) rfl
theorem k5_50 : Cond.methodLink "KiteMeetLaw" (133) yX11_gusts ∈ wsG := wsG_t5 (List.mem_of_getElem? (i := 50) rfl) rfl
theorem k5_51 : Cond.instanceMethod yX11_gusts ∈ wsG := wsG_t5 (List.mem_of_getElem? (i := 51) rfl) rfl
theorem k5_52 : Cond.selects "KiteMeetModel" yX11_gusts yX11_gusts ∈ wsG := wsG_t5 (List.mem_of_getElem? (i := 52) rfl) rfl
theorem k5_53 : Cond.code yX11_gusts prog_13_method_63_code (5) (Option.some FieldType.int) ∈ wsG := wsG_t5 (List.mem_of_getElem? (i := 53) rfl) rfl
theorem k5_54 : Cond.methodLink "KiteMeetLaw" (141) yX11_all ∈ wsG := wsG_t5 (List.mem_of_getElem? (i := 54) rfl) rfl
theorem k5_55 : Cond.instanceMethod yX11_all ∈ wsG := wsG_t5 (List.mem_of_getElem? (i := 55) rfl) rfl
theorem k5_56 : Cond.selects "KiteMeetModel" yX11_all yX11_all ∈ wsG := wsG_t5 (List.mem_of_getElem? (i := 56) rfl) rfl
theorem k5_57 : Cond.code yX11_all prog_13_method_64_code (2) (Option.some FieldType.int) ∈ wsG := wsG_t5 (List.mem_of_getElem? (i := 57) rfl) rfl
theorem kp_0 : Cond.selects "KiteMeet" yX10_finding yX10_finding ∈ wsG := wsG_p (List.mem_of_getElem? (i := 0) rfl) rfl
theorem kp_1 : Cond.selects "KiteMeet$Words" yX9_setWord yX9_setWord ∈ wsG := wsG_p (List.mem_of_getElem? (i := 1) rfl) rfl
theorem kp_2 : Cond.selects "KiteMeet$Air" yX0_isSteady yX0_isSteady ∈ wsG := wsG_p (List.mem_of_getElem? (i := 2) rfl) rfl
theorem kp_3 : Cond.selects "KiteMeet$Air" yX0_directionFor yX0_directionFor ∈ wsG := wsG_p (List.mem_of_getElem? (i := 3) rfl) rfl
theorem kp_4 : Cond.selects "KiteMeet$Air" yX0_lookAround yX0_lookAround ∈ wsG := wsG_p (List.mem_of_getElem? (i := 4) rfl) rfl
theorem kp_5 : Cond.selects "KiteMeet$Air" yX0_areApart yX0_areApart ∈ wsG := wsG_p (List.mem_of_getElem? (i := 5) rfl) rfl
theorem kp_6 : Cond.selects "KiteMeet$Joining" yX3_add yX3_add ∈ wsG := wsG_p (List.mem_of_getElem? (i := 6) rfl) rfl
theorem kp_7 : Cond.selects "KiteMeet$Row" yX4_biteOf yX4_biteOf ∈ wsG := wsG_p (List.mem_of_getElem? (i := 7) rfl) rfl
theorem kp_8 : Cond.selects "KiteMeet$Untangling" yX7_untangles yX7_untangles ∈ wsG := wsG_p (List.mem_of_getElem? (i := 8) rfl) rfl
theorem kp_9 : Cond.selects "KiteMeet" yX10_follow yX10_follow ∈ wsG := wsG_p (List.mem_of_getElem? (i := 9) rfl) rfl
theorem kp_10 : Cond.selects "KiteMeet$Words" yX9_hasWordOf yX9_hasWordOf ∈ wsG := wsG_p (List.mem_of_getElem? (i := 10) rfl) rfl
theorem kp_11 : Cond.selects "KiteMeetModel" yX11_begin yX11_begin ∈ wsG := wsG_p (List.mem_of_getElem? (i := 11) rfl) rfl
theorem kp_12 : Cond.selects "KiteMeetModel" yX11_firstWords yX11_firstWords ∈ wsG := wsG_p (List.mem_of_getElem? (i := 12) rfl) rfl
theorem kp_13 : Cond.selects "KiteMeetModel" yX11_toNow yX11_toNow ∈ wsG := wsG_p (List.mem_of_getElem? (i := 13) rfl) rfl
theorem kp_14 : Cond.selects "KiteMeetModel" yX11_finds yX11_finds ∈ wsG := wsG_p (List.mem_of_getElem? (i := 14) rfl) rfl
theorem kp_15 : Cond.selects "KiteMeetModel" yX11_keep yX11_keep ∈ wsG := wsG_p (List.mem_of_getElem? (i := 15) rfl) rfl
theorem kp_16 : Cond.selects "KiteMeetModel" yX11_isFlyer yX11_isFlyer ∈ wsG := wsG_p (List.mem_of_getElem? (i := 16) rfl) rfl
theorem kp_17 : Cond.selects "KiteMeetModel" yX11_ofFlyer yX11_ofFlyer ∈ wsG := wsG_p (List.mem_of_getElem? (i := 17) rfl) rfl
theorem kp_18 : Cond.selects "KiteMeetModel" yX11_doesFly yX11_doesFly ∈ wsG := wsG_p (List.mem_of_getElem? (i := 18) rfl) rfl
theorem kp_19 : Cond.selects "KiteMeetModel" yX11_force yX11_force ∈ wsG := wsG_p (List.mem_of_getElem? (i := 19) rfl) rfl
theorem kp_20 : Cond.selects "KiteMeetModel" yX11_whereIs yX11_whereIs ∈ wsG := wsG_p (List.mem_of_getElem? (i := 20) rfl) rfl
theorem kp_21 : Cond.selects "KiteMeetModel" yX11_doMeet yX11_doMeet ∈ wsG := wsG_p (List.mem_of_getElem? (i := 21) rfl) rfl
theorem kp_22 : Cond.selects "KiteMeetModel" yX11_fieldOf yX11_fieldOf ∈ wsG := wsG_p (List.mem_of_getElem? (i := 22) rfl) rfl
theorem kp_23 : Cond.selects "KiteMeetModel" yX11_isLost yX11_isLost ∈ wsG := wsG_p (List.mem_of_getElem? (i := 23) rfl) rfl
theorem kp_24 : Cond.selects "KiteMeetModel" yX11_fromNow yX11_fromNow ∈ wsG := wsG_p (List.mem_of_getElem? (i := 24) rfl) rfl
theorem kp_25 : Cond.selects "KiteMeetModel" yX11_walks yX11_walks ∈ wsG := wsG_p (List.mem_of_getElem? (i := 25) rfl) rfl
theorem kp_26 : Cond.selects "KiteMeetModel" yX11_takes yX11_takes ∈ wsG := wsG_p (List.mem_of_getElem? (i := 26) rfl) rfl
theorem kp_27 : Cond.selects "KiteMeetModel" yX11_one yX11_one ∈ wsG := wsG_p (List.mem_of_getElem? (i := 27) rfl) rfl
theorem kp_28 : Cond.selects "KiteMeetModel" yX11_lays yX11_lays ∈ wsG := wsG_p (List.mem_of_getElem? (i := 28) rfl) rfl
theorem kp_29 : Cond.selects "KiteMeetModel" yX11_wears yX11_wears ∈ wsG := wsG_p (List.mem_of_getElem? (i := 29) rfl) rfl
theorem kp_30 : Cond.selects "KiteMeetModel" yX11_tangleOf yX11_tangleOf ∈ wsG := wsG_p (List.mem_of_getElem? (i := 30) rfl) rfl
theorem kp_31 : Cond.selects "KiteMeetModel" yX11_isPlace yX11_isPlace ∈ wsG := wsG_p (List.mem_of_getElem? (i := 31) rfl) rfl
theorem kp_32 : Cond.selects "KiteMeetModel" yX11_findFewest yX11_findFewest ∈ wsG := wsG_p (List.mem_of_getElem? (i := 32) rfl) rfl
theorem kp_33 : Cond.selects "KiteMeetModel" yX11_isFirst yX11_isFirst ∈ wsG := wsG_p (List.mem_of_getElem? (i := 33) rfl) rfl
theorem kp_34 : Cond.selects "KiteMeetModel" yX11_tellsWalks yX11_tellsWalks ∈ wsG := wsG_p (List.mem_of_getElem? (i := 34) rfl) rfl
theorem kp_35 : Cond.selects "KiteMeetModel" yX11_does yX11_does ∈ wsG := wsG_p (List.mem_of_getElem? (i := 35) rfl) rfl
theorem inX0 : ∀ w ∈ u_ws RX0 TX0 3, w ∈ wsG := List.forall_mem_cons.mpr ⟨k1_72, List.forall_mem_cons.mpr ⟨k1_74, List.forall_mem_cons.mpr ⟨k1_76, fun _ h => absurd h List.not_mem_nil⟩⟩⟩
theorem inX1 : ∀ w ∈ u_ws RX1 TX1 2, w ∈ wsG := List.forall_mem_cons.mpr ⟨k1_46, List.forall_mem_cons.mpr ⟨k1_48, fun _ h => absurd h List.not_mem_nil⟩⟩
theorem inX2 : ∀ w ∈ u_ws RX2 TX2 3, w ∈ wsG := List.forall_mem_cons.mpr ⟨k1_161, List.forall_mem_cons.mpr ⟨k1_163, List.forall_mem_cons.mpr ⟨k1_165, fun _ h => absurd h List.not_mem_nil⟩⟩⟩
theorem inX3 : ∀ w ∈ u_ws RX3 TX3 2, w ∈ wsG := List.forall_mem_cons.mpr ⟨k1_180, List.forall_mem_cons.mpr ⟨k1_182, fun _ h => absurd h List.not_mem_nil⟩⟩
theorem inX4 : ∀ w ∈ u_ws RX4 TX4 7, w ∈ wsG := List.forall_mem_cons.mpr ⟨k1_125, List.forall_mem_cons.mpr ⟨k1_127, List.forall_mem_cons.mpr ⟨k1_129, List.forall_mem_cons.mpr ⟨k1_131, List.forall_mem_cons.mpr ⟨k1_133, List.forall_mem_cons.mpr ⟨k1_135, List.forall_mem_cons.mpr ⟨k1_137, fun _ h => absurd h List.not_mem_nil⟩⟩⟩⟩⟩⟩⟩
theorem inX5 : ∀ w ∈ u_ws RX5 TX5 3, w ∈ wsG := List.forall_mem_cons.mpr ⟨k1_209, List.forall_mem_cons.mpr ⟨k1_211, List.forall_mem_cons.mpr ⟨k1_213, fun _ h => absurd h List.not_mem_nil⟩⟩⟩
theorem inX6 : ∀ w ∈ u_ws RX6 TX6 2, w ∈ wsG := List.forall_mem_cons.mpr ⟨k1_144, List.forall_mem_cons.mpr ⟨k1_146, fun _ h => absurd h List.not_mem_nil⟩⟩
theorem inX7 : ∀ w ∈ u_ws RX7 TX7 1, w ∈ wsG := List.forall_mem_cons.mpr ⟨k1_193, fun _ h => absurd h List.not_mem_nil⟩
theorem inX8 : ∀ w ∈ u_ws RX8 TX8 2, w ∈ wsG := List.forall_mem_cons.mpr ⟨k1_60, List.forall_mem_cons.mpr ⟨k1_62, fun _ h => absurd h List.not_mem_nil⟩⟩
theorem inX9 : ∀ w ∈ u_ws RX9 TX9 3, w ∈ wsG := List.forall_mem_cons.mpr ⟨k1_97, List.forall_mem_cons.mpr ⟨k1_99, List.forall_mem_cons.mpr ⟨k1_101, fun _ h => absurd h List.not_mem_nil⟩⟩⟩
theorem inX10 : ∀ w ∈ u_ws RX10 TX10 8, w ∈ wsG := List.forall_mem_cons.mpr ⟨k1_224, List.forall_mem_cons.mpr ⟨k1_226, List.forall_mem_cons.mpr ⟨k1_228, List.forall_mem_cons.mpr ⟨k1_230, List.forall_mem_cons.mpr ⟨k1_232, List.forall_mem_cons.mpr ⟨k1_234, List.forall_mem_cons.mpr ⟨k1_236, List.forall_mem_cons.mpr ⟨k1_238, fun _ h => absurd h List.not_mem_nil⟩⟩⟩⟩⟩⟩⟩⟩
theorem inX11 : ∀ w ∈ u_ws RX11 TX11 17, w ∈ wsG := List.forall_mem_cons.mpr ⟨k4_27, List.forall_mem_cons.mpr ⟨k4_29, List.forall_mem_cons.mpr ⟨k4_31, List.forall_mem_cons.mpr ⟨k4_33, List.forall_mem_cons.mpr ⟨k4_35, List.forall_mem_cons.mpr ⟨k4_37, List.forall_mem_cons.mpr ⟨k4_39, List.forall_mem_cons.mpr ⟨k4_41, List.forall_mem_cons.mpr ⟨k4_43, List.forall_mem_cons.mpr ⟨k4_45, List.forall_mem_cons.mpr ⟨k4_47, List.forall_mem_cons.mpr ⟨k4_49, List.forall_mem_cons.mpr ⟨k4_51, List.forall_mem_cons.mpr ⟨k4_53, List.forall_mem_cons.mpr ⟨k4_55, List.forall_mem_cons.mpr ⟨k4_57, List.forall_mem_cons.mpr ⟨k4_59, fun _ h => absurd h List.not_mem_nil⟩⟩⟩⟩⟩⟩⟩⟩⟩⟩⟩⟩⟩⟩⟩⟩⟩
abbrev ckD (y : MethodName) (n : Nat) : Prop := y.cls ≠ "java/lang/invoke/MethodHandle" ∧ y.cls ≠ "java/lang/invoke/VarHandle" ∧ (parseMethodDescriptor y.desc).map (fun d => d.parameters.length) = some n
abbrev ckMi (y : MethodName) (bytes : ByteArray) (maxL : Nat) (ret : Option FieldType) (n : Nat) : Prop := (Cond.instanceMethod y ∈ wsG ∧ Cond.selects y.cls y y ∈ wsG ∧ Cond.initialized y.cls ∈ wsG ∧ Cond.code y bytes maxL ret ∈ wsG) ∧ ckD y n
abbrev ckMs (y : MethodName) (bytes : ByteArray) (maxL : Nat) (ret : Option FieldType) (n : Nat) : Prop := (Cond.static y ∈ wsG ∧ Cond.initialized y.cls ∈ wsG ∧ Cond.code y bytes maxL ret ∈ wsG) ∧ ckD y n
abbrev ckMo (y : MethodName) (bytes : ByteArray) (maxL : Nat) (n : Nat) : Prop := (Cond.instanceMethod y ∈ wsG ∧ Cond.initialized y.cls ∈ wsG ∧ Cond.code y bytes maxL none ∈ wsG ∧ y.name = "<init>") ∧ ckD y n
theorem ck_gW {y : MethodName} {bytes : ByteArray} {maxL : Nat} {ret : Option FieldType} (h : Cond.code y bytes maxL ret ∈ wsG) : GoodIn wsG (Cond.code y bytes maxL ret :: wsG) := fun w hw => (List.mem_cons.mp hw).elim (fun e => e ▸ wsG_good _ h) (wsG_good w)
theorem ck_gV {y : MethodName} {bytes : ByteArray} {maxL n : Nat} {ret : Option FieldType} {own : String} {idx : Nat} (hm : ckMi y bytes maxL ret n) (hl : Cond.methodLink own idx y ∈ wsG) : GoodIn wsG (wsV own idx y.cls y (Cond.code y bytes maxL ret :: wsG)) := by
  intro w hw
  simp only [wsV, List.mem_append, List.mem_cons, List.not_mem_nil, or_false] at hw
  rcases hw with (rfl | rfl | rfl | rfl) | (rfl | hw)
  · exact wsG_good _ hl
  · exact wsG_good _ hm.1.1
  · exact wsG_good _ hm.1.2.1
  · exact wsG_good _ hm.1.2.2.1
  · exact wsG_good _ hm.1.2.2.2
  · exact wsG_good _ hw
theorem ck_gS {y : MethodName} {bytes : ByteArray} {maxL n : Nat} {ret : Option FieldType} {own : String} {idx : Nat} (hm : ckMs y bytes maxL ret n) (hl : Cond.methodLink own idx y ∈ wsG) : GoodIn wsG (va_wsS own idx y (Cond.code y bytes maxL ret :: wsG)) := by
  intro w hw
  simp only [va_wsS, List.mem_append, List.mem_cons, List.not_mem_nil, or_false] at hw
  rcases hw with (rfl | rfl | rfl) | (rfl | hw)
  · exact wsG_good _ hl
  · exact wsG_good _ hm.1.1
  · exact wsG_good _ hm.1.2.1
  · exact wsG_good _ hm.1.2.2
  · exact wsG_good _ hw
theorem myX0_init : ckMo yX0_init prog_2_method_1_code 1  0 := ⟨⟨k1_33, k1_3, k1_34, rfl⟩, by decide +kernel⟩
theorem myX0_carries : ckMi yX0_carries prog_2_method_2_code 8 (some FieldType.boolean) 2 := ⟨⟨k2_162, k2_163, k1_3, k2_164⟩, by decide +kernel⟩
theorem myX0_isSteady : ckMi yX0_isSteady prog_2_method_3_code 4 (some FieldType.boolean) 2 := ⟨⟨k2_170, kp_2, k1_3, k2_171⟩, by decide +kernel⟩
theorem myX0_kiteX : ckMi yX0_kiteX prog_2_method_4_code 4 (some FieldType.int) 2 := ⟨⟨k2_195, k2_196, k1_3, k2_197⟩, by decide +kernel⟩
theorem myX0_kiteY : ckMi yX0_kiteY prog_2_method_5_code 4 (some FieldType.int) 2 := ⟨⟨k2_184, k2_185, k1_3, k2_186⟩, by decide +kernel⟩
theorem myX0_directionFor : ckMi yX0_directionFor prog_2_method_6_code 3 (some FieldType.int) 2 := ⟨⟨k2_191, kp_3, k1_3, k2_192⟩, by decide +kernel⟩
theorem myX0_areTooNear : ckMi yX0_areTooNear prog_2_method_7_code 5 (some FieldType.boolean) 3 := ⟨⟨k2_205, k2_206, k1_3, k2_207⟩, by decide +kernel⟩
theorem myX0_pairsTooNear : ckMi yX0_pairsTooNear prog_2_method_8_code 5 (some FieldType.int) 1 := ⟨⟨k2_216, k2_217, k1_3, k2_218⟩, by decide +kernel⟩
theorem myX0_largestApart : ckMi yX0_largestApart prog_2_method_9_code 6 (some FieldType.int) 1 := ⟨⟨k2_226, k2_227, k1_3, k2_228⟩, by decide +kernel⟩
theorem myX0_lookAround : ckMi yX0_lookAround prog_2_method_10_code 5 (some FieldType.int) 1 := ⟨⟨k2_231, kp_4, k1_3, k2_232⟩, by decide +kernel⟩
theorem myX0_areApart : ckMi yX0_areApart prog_2_method_11_code 3 (some FieldType.boolean) 1 := ⟨⟨k3_1, kp_5, k1_3, k3_2⟩, by decide +kernel⟩
theorem myX1_init : ckMo yX1_init prog_3_method_1_code 1  0 := ⟨⟨k1_39, k1_4, k1_40, rfl⟩, by decide +kernel⟩
theorem myX1_have : ckMi yX1_have prog_3_method_2_code 2 (some FieldType.boolean) 1 := ⟨⟨k2_98, k2_99, k1_4, k2_100⟩, by decide +kernel⟩
theorem myX1_areFull : ckMi yX1_areFull prog_3_method_3_code 1 (some FieldType.boolean) 0 := ⟨⟨k2_33, k2_34, k1_4, k2_35⟩, by decide +kernel⟩
theorem myX1_told : ckMi yX1_told prog_3_method_4_code 3 (some FieldType.int) 2 := ⟨⟨k2_102, k2_103, k1_4, k2_104⟩, by decide +kernel⟩
theorem myX1_tell : ckMi yX1_tell prog_3_method_5_code 4 none 3 := ⟨⟨k2_80, k2_81, k1_4, k2_82⟩, by decide +kernel⟩
theorem myX1_add : ckMi yX1_add prog_3_method_6_code 5 (some FieldType.int) 3 := ⟨⟨k2_76, k2_77, k1_4, k2_78⟩, by decide +kernel⟩
theorem myX1_equip : ckMi yX1_equip prog_3_method_7_code 5 none 4 := ⟨⟨k2_88, k2_89, k1_4, k2_90⟩, by decide +kernel⟩
theorem myX1_spotOf : ckMi yX1_spotOf prog_3_method_8_code 2 (some FieldType.int) 1 := ⟨⟨k2_120, k2_121, k1_4, k2_122⟩, by decide +kernel⟩
theorem myX1_stand : ckMi yX1_stand prog_3_method_9_code 3 none 2 := ⟨⟨k2_84, k2_85, k1_4, k2_86⟩, by decide +kernel⟩
theorem myX1_fight : ckMi yX1_fight prog_3_method_10_code 2 (some FieldType.boolean) 1 := ⟨⟨k3_72, k3_73, k1_4, k3_74⟩, by decide +kernel⟩
theorem myX1_takeFrom : ckMi yX1_takeFrom prog_3_method_11_code 2 none 1 := ⟨⟨k2_47, k2_48, k1_4, k2_49⟩, by decide +kernel⟩
theorem myX2_init : ckMo yX2_init prog_4_method_1_code 1  0 := ⟨⟨k1_152, k1_8, k1_153, rfl⟩, by decide +kernel⟩
theorem myX2_keep : ckMi yX2_keep prog_4_method_2_code 2 none 1 := ⟨⟨k2_38, k2_39, k1_8, k2_40⟩, by decide +kernel⟩
theorem myX2_giveBack : ckMi yX2_giveBack prog_4_method_3_code 3 none 1 := ⟨⟨k3_224, k3_225, k1_8, k3_226⟩, by decide +kernel⟩
theorem myX3_init : ckMo yX3_init prog_5_method_1_code 1  0 := ⟨⟨k1_173, k1_9, k1_174, rfl⟩, by decide +kernel⟩
theorem myX3_begin : ckMi yX3_begin prog_5_method_2_code 1 none 0 := ⟨⟨k3_30, k3_31, k1_9, k3_32⟩, by decide +kernel⟩
theorem myX3_addWord : ckMi yX3_addWord prog_5_method_3_code 4 none 2 := ⟨⟨k3_34, k3_35, k1_9, k3_36⟩, by decide +kernel⟩
theorem myX3_addTurned : ckMi yX3_addTurned prog_5_method_4_code 4 none 2 := ⟨⟨k3_49, k3_50, k1_9, k3_51⟩, by decide +kernel⟩
theorem myX3_add : ckMi yX3_add prog_5_method_5_code 2 none 1 := ⟨⟨k3_43, kp_6, k1_9, k3_44⟩, by decide +kernel⟩
theorem myX3_turned : ckMs yX3_turned prog_5_method_6_code 1 (some FieldType.int) 1 := ⟨⟨k3_46, k1_9, k3_47⟩, by decide +kernel⟩
theorem myX4_init : ckMo yX4_init prog_6_method_1_code 1  0 := ⟨⟨k1_82, k1_6, k1_83, rfl⟩, by decide +kernel⟩
theorem myX4_begin : ckMi yX4_begin prog_6_method_2_code 3 none 1 := ⟨⟨k1_105, k1_106, k1_6, k1_107⟩, by decide +kernel⟩
theorem myX4_has : ckMi yX4_has prog_6_method_3_code 2 (some FieldType.boolean) 1 := ⟨⟨k3_85, k3_86, k1_6, k3_87⟩, by decide +kernel⟩
theorem myX4_isCut : ckMi yX4_isCut prog_6_method_4_code 2 (some FieldType.boolean) 1 := ⟨⟨k3_21, k3_22, k1_6, k3_23⟩, by decide +kernel⟩
theorem myX4_twistOf : ckMi yX4_twistOf prog_6_method_5_code 3 (some FieldType.int) 2 := ⟨⟨k3_102, k3_103, k1_6, k3_104⟩, by decide +kernel⟩
theorem myX4_pair : ckMs yX4_pair prog_6_method_6_code 2 (some FieldType.int) 2 := ⟨⟨k3_61, k1_6, k3_62⟩, by decide +kernel⟩
theorem myX4_settle : ckMi yX4_settle prog_6_method_7_code 7 none 4 := ⟨⟨k3_53, k3_54, k1_6, k3_55⟩, by decide +kernel⟩
theorem myX4_biteOf : ckMi yX4_biteOf prog_6_method_8_code 3 (some FieldType.int) 2 := ⟨⟨k3_69, kp_7, k1_6, k3_70⟩, by decide +kernel⟩
theorem myX4_takeFrom : ckMi yX4_takeFrom prog_6_method_9_code 2 none 1 := ⟨⟨k2_59, k2_60, k1_6, k2_61⟩, by decide +kernel⟩
theorem myX5_init : ckMo yX5_init prog_7_method_1_code 1  0 := ⟨⟨k1_200, k1_11, k1_201, rfl⟩, by decide +kernel⟩
theorem myX5_begin : ckMi yX5_begin prog_7_method_2_code 4 none 2 := ⟨⟨k3_195, k3_196, k1_11, k3_197⟩, by decide +kernel⟩
theorem myX5_isMissing : ckMi yX5_isMissing prog_7_method_3_code 1 (some FieldType.boolean) 0 := ⟨⟨k3_153, k3_154, k1_11, k3_155⟩, by decide +kernel⟩
theorem myX5_write : ckMi yX5_write prog_7_method_4_code 4 none 2 := ⟨⟨k3_203, k3_204, k1_11, k3_205⟩, by decide +kernel⟩
theorem myX5_isWithin : ckMi yX5_isWithin prog_7_method_5_code 3 (some FieldType.boolean) 1 := ⟨⟨k3_159, k3_160, k1_11, k3_161⟩, by decide +kernel⟩
theorem myX5_reaches : ckMi yX5_reaches prog_7_method_6_code 3 (some FieldType.boolean) 2 := ⟨⟨k3_211, k3_212, k1_11, k3_213⟩, by decide +kernel⟩
theorem myX6_init : ckMo yX6_init prog_8_method_1_code 1  0 := ⟨⟨k1_27, k1_2, k1_28, rfl⟩, by decide +kernel⟩
theorem myX6_takeFrom : ckMi yX6_takeFrom prog_8_method_2_code 2 none 1 := ⟨⟨k2_43, k2_44, k1_2, k2_45⟩, by decide +kernel⟩
theorem myX7_init : ckMo yX7_init prog_9_method_1_code 1  0 := ⟨⟨k1_188, k1_10, k1_189, rfl⟩, by decide +kernel⟩
theorem myX7_shortest : ckMi yX7_shortest prog_9_method_2_code 4 (some FieldType.int) 2 := ⟨⟨k3_111, k3_112, k1_10, k3_113⟩, by decide +kernel⟩
theorem myX7_untangles : ckMi yX7_untangles prog_9_method_3_code 8 (some FieldType.boolean) 4 := ⟨⟨k3_116, kp_8, k1_10, k3_117⟩, by decide +kernel⟩
theorem myX8_init : ckMo yX8_init prog_10_method_1_code 1  0 := ⟨⟨k1_55, k1_5, k1_56, rfl⟩, by decide +kernel⟩
theorem myX8_directionOf : ckMi yX8_directionOf prog_10_method_2_code 3 (some FieldType.int) 2 := ⟨⟨k2_150, k2_151, k1_5, k2_152⟩, by decide +kernel⟩
theorem myX8_forceOf : ckMi yX8_forceOf prog_10_method_3_code 3 (some FieldType.int) 2 := ⟨⟨k2_154, k2_155, k1_5, k2_156⟩, by decide +kernel⟩
theorem myX8_turn : ckMi yX8_turn prog_10_method_4_code 4 none 3 := ⟨⟨k2_138, k2_139, k1_5, k2_140⟩, by decide +kernel⟩
theorem myX8_blow : ckMi yX8_blow prog_10_method_5_code 4 none 3 := ⟨⟨k2_142, k2_143, k1_5, k2_144⟩, by decide +kernel⟩
theorem myX8_takeFrom : ckMi yX8_takeFrom prog_10_method_6_code 2 none 1 := ⟨⟨k2_54, k2_55, k1_5, k2_56⟩, by decide +kernel⟩
theorem myX9_init : ckMo yX9_init prog_11_method_1_code 1  0 := ⟨⟨k1_88, k1_7, k1_89, rfl⟩, by decide +kernel⟩
theorem myX9_begin : ckMi yX9_begin prog_11_method_2_code 3 none 1 := ⟨⟨k1_109, k1_110, k1_7, k1_111⟩, by decide +kernel⟩
theorem myX9_told : ckMi yX9_told prog_11_method_3_code 3 (some FieldType.int) 2 := ⟨⟨k3_38, k3_39, k1_7, k3_40⟩, by decide +kernel⟩
theorem myX9_canPass : ckMi yX9_canPass prog_11_method_4_code 4 (some FieldType.boolean) 3 := ⟨⟨k3_26, k3_27, k1_7, k3_28⟩, by decide +kernel⟩
theorem myX9_pass : ckMi yX9_pass prog_11_method_5_code 4 (some FieldType.boolean) 3 := ⟨⟨k3_140, k3_141, k1_7, k3_142⟩, by decide +kernel⟩
theorem myX9_settle : ckMi yX9_settle prog_11_method_6_code 6 none 3 := ⟨⟨k3_57, k3_58, k1_7, k3_59⟩, by decide +kernel⟩
theorem myX9_setWord : ckMi yX9_setWord prog_11_method_7_code 5 none 4 := ⟨⟨k2_68, kp_1, k1_7, k2_69⟩, by decide +kernel⟩
theorem myX9_tangled : ckMi yX9_tangled prog_11_method_8_code 3 (some FieldType.int) 0 := ⟨⟨k3_77, k3_78, k1_7, k3_79⟩, by decide +kernel⟩
theorem myX9_longest : ckMi yX9_longest prog_11_method_9_code 3 (some FieldType.int) 0 := ⟨⟨k3_119, k3_120, k1_7, k3_121⟩, by decide +kernel⟩
theorem myX9_areAsAtFirst : ckMi yX9_areAsAtFirst prog_11_method_10_code 2 (some FieldType.boolean) 0 := ⟨⟨k3_126, k3_127, k1_7, k3_128⟩, by decide +kernel⟩
theorem myX9_areThoseOf : ckMi yX9_areThoseOf prog_11_method_11_code 3 (some FieldType.boolean) 1 := ⟨⟨k3_171, k3_172, k1_7, k3_173⟩, by decide +kernel⟩
theorem myX9_hasWordOf : ckMi yX9_hasWordOf prog_11_method_12_code 4 (some FieldType.boolean) 2 := ⟨⟨k3_176, kp_10, k1_7, k3_177⟩, by decide +kernel⟩
theorem myX9_takeFrom : ckMi yX9_takeFrom prog_11_method_13_code 3 none 1 := ⟨⟨k2_63, k2_64, k1_7, k2_65⟩, by decide +kernel⟩
theorem myX10_init : ckMo yX10_init prog_1_method_1_code 2  0 := ⟨⟨k1_19, k1_1, k1_20, rfl⟩, by decide +kernel⟩
theorem myX10_flyer : ckMi yX10_flyer prog_1_method_2_code 8 (some FieldType.int) 6 := ⟨⟨k2_2, k2_3, k1_1, k2_4⟩, by decide +kernel⟩
theorem myX10_as : ckMi yX10_as prog_1_method_3_code 3 (some FieldType.int) 2 := ⟨⟨k2_94, k2_95, k1_1, k2_96⟩, by decide +kernel⟩
theorem myX10_of : ckMi yX10_of prog_1_method_4_code 3 (some FieldType.int) 2 := ⟨⟨k2_112, k2_113, k1_1, k2_114⟩, by decide +kernel⟩
theorem myX10_go : ckMi yX10_go prog_1_method_5_code 4 (some FieldType.int) 2 := ⟨⟨k2_116, k2_117, k1_1, k2_118⟩, by decide +kernel⟩
theorem myX10_line : ckMi yX10_line prog_1_method_6_code 4 (some FieldType.int) 2 := ⟨⟨k2_126, k2_127, k1_1, k2_128⟩, by decide +kernel⟩
theorem myX10_wind : ckMi yX10_wind prog_1_method_7_code 5 (some FieldType.int) 4 := ⟨⟨k2_131, k2_132, k1_1, k2_133⟩, by decide +kernel⟩
theorem myX10_windAt : ckMi yX10_windAt prog_1_method_8_code 4 (some FieldType.int) 3 := ⟨⟨k2_146, k2_147, k1_1, k2_148⟩, by decide +kernel⟩
theorem myX10_flies : ckMi yX10_flies prog_1_method_9_code 3 (some FieldType.int) 2 := ⟨⟨k2_158, k2_159, k1_1, k2_160⟩, by decide +kernel⟩
theorem myX10_kite : ckMi yX10_kite prog_1_method_10_code 4 (some FieldType.int) 3 := ⟨⟨k2_179, k2_180, k1_1, k2_181⟩, by decide +kernel⟩
theorem myX10_meet : ckMi yX10_meet prog_1_method_11_code 5 (some FieldType.int) 3 := ⟨⟨k2_201, k2_202, k1_1, k2_203⟩, by decide +kernel⟩
theorem myX10_meets : ckMi yX10_meets prog_1_method_12_code 2 (some FieldType.int) 1 := ⟨⟨k2_212, k2_213, k1_1, k2_214⟩, by decide +kernel⟩
theorem myX10_field : ckMi yX10_field prog_1_method_13_code 2 (some FieldType.int) 1 := ⟨⟨k2_222, k2_223, k1_1, k2_224⟩, by decide +kernel⟩
theorem myX10_best : ckMi yX10_best prog_1_method_14_code 7 (some FieldType.int) 2 := ⟨⟨k3_4, k3_5, k1_1, k3_6⟩, by decide +kernel⟩
theorem myX10_row : ckMi yX10_row prog_1_method_15_code 3 (some FieldType.int) 1 := ⟨⟨k3_9, k3_10, k1_1, k3_11⟩, by decide +kernel⟩
theorem myX10_walk : ckMi yX10_walk prog_1_method_16_code 4 (some FieldType.int) 2 := ⟨⟨k3_17, k3_18, k1_1, k3_19⟩, by decide +kernel⟩
theorem myX10_at : ckMi yX10_at prog_1_method_17_code 2 (some FieldType.int) 1 := ⟨⟨k3_81, k3_82, k1_1, k3_83⟩, by decide +kernel⟩
theorem myX10_letter : ckMi yX10_letter prog_1_method_18_code 4 (some FieldType.int) 2 := ⟨⟨k3_89, k3_90, k1_1, k3_91⟩, by decide +kernel⟩
theorem myX10_tangle : ckMi yX10_tangle prog_1_method_19_code 1 (some FieldType.int) 0 := ⟨⟨k3_94, k3_95, k1_1, k3_96⟩, by decide +kernel⟩
theorem myX10_twist : ckMi yX10_twist prog_1_method_20_code 3 (some FieldType.int) 2 := ⟨⟨k3_98, k3_99, k1_1, k3_100⟩, by decide +kernel⟩
theorem myX10_fewest : ckMi yX10_fewest prog_1_method_21_code 3 (some FieldType.int) 1 := ⟨⟨k3_106, k3_107, k1_1, k3_108⟩, by decide +kernel⟩
theorem myX10_same : ckMi yX10_same prog_1_method_22_code 5 (some FieldType.int) 3 := ⟨⟨k3_146, k3_147, k1_1, k3_148⟩, by decide +kernel⟩
theorem myX10_sharp : ckMi yX10_sharp prog_1_method_23_code 4 (some FieldType.int) 2 := ⟨⟨k3_179, k3_180, k1_1, k3_181⟩, by decide +kernel⟩
theorem myX10_wear : ckMi yX10_wear prog_1_method_24_code 2 (some FieldType.int) 1 := ⟨⟨k3_183, k3_184, k1_1, k3_185⟩, by decide +kernel⟩
theorem myX10_lost : ckMi yX10_lost prog_1_method_25_code 3 (some FieldType.int) 0 := ⟨⟨k3_187, k3_188, k1_1, k3_189⟩, by decide +kernel⟩
theorem myX10_sheet : ckMi yX10_sheet prog_1_method_26_code 4 (some FieldType.int) 3 := ⟨⟨k3_191, k3_192, k1_1, k3_193⟩, by decide +kernel⟩
theorem myX10_put : ckMi yX10_put prog_1_method_27_code 4 (some FieldType.int) 3 := ⟨⟨k3_199, k3_200, k1_1, k3_201⟩, by decide +kernel⟩
theorem myX10_copy : ckMi yX10_copy prog_1_method_28_code 6 (some FieldType.int) 5 := ⟨⟨k3_207, k3_208, k1_1, k3_209⟩, by decide +kernel⟩
theorem myX10_gusts : ckMi yX10_gusts prog_1_method_29_code 6 (some FieldType.int) 3 := ⟨⟨k3_216, k3_217, k1_1, k3_218⟩, by decide +kernel⟩
theorem myX10_undo : ckMi yX10_undo prog_1_method_30_code 1 (some FieldType.int) 0 := ⟨⟨k3_220, k3_221, k1_1, k3_222⟩, by decide +kernel⟩
theorem myX10_all : ckMi yX10_all prog_1_method_31_code 2 (some FieldType.int) 1 := ⟨⟨k3_228, k3_229, k1_1, k3_230⟩, by decide +kernel⟩
theorem myX10_finding : ckMi yX10_finding prog_1_method_32_code 2 (some FieldType.int) 1 := ⟨⟨k2_17, kp_0, k1_1, k2_18⟩, by decide +kernel⟩
theorem myX10_follow : ckMi yX10_follow prog_1_method_33_code 5 (some FieldType.boolean) 3 := ⟨⟨k3_164, kp_9, k1_1, k3_165⟩, by decide +kernel⟩
theorem myX10_oneIf : ckMs yX10_oneIf prog_1_method_34_code 1 (some FieldType.int) 1 := ⟨⟨k2_176, k1_1, k2_177⟩, by decide +kernel⟩
theorem myX10_isKind : ckMs yX10_isKind prog_1_method_35_code 1 (some FieldType.boolean) 1 := ⟨⟨k2_6, k1_1, k2_7⟩, by decide +kernel⟩
theorem myX10_isUnder : ckMs yX10_isUnder prog_1_method_36_code 4 (some FieldType.boolean) 2 := ⟨⟨k2_106, k1_1, k2_107⟩, by decide +kernel⟩
theorem myX10_isSpot : ckMs yX10_isSpot prog_1_method_37_code 1 (some FieldType.boolean) 1 := ⟨⟨k2_9, k1_1, k2_10⟩, by decide +kernel⟩
theorem myX10_isHeight : ckMs yX10_isHeight prog_1_method_38_code 1 (some FieldType.boolean) 1 := ⟨⟨k2_12, k1_1, k2_13⟩, by decide +kernel⟩
theorem myX10_isLine : ckMs yX10_isLine prog_1_method_39_code 1 (some FieldType.boolean) 1 := ⟨⟨k2_20, k1_1, k2_21⟩, by decide +kernel⟩
theorem myX10_isForce : ckMs yX10_isForce prog_1_method_40_code 1 (some FieldType.boolean) 1 := ⟨⟨k2_26, k1_1, k2_27⟩, by decide +kernel⟩
theorem myX10_leastOf : ckMs yX10_leastOf prog_1_method_41_code 1 (some FieldType.int) 1 := ⟨⟨k2_23, k1_1, k2_24⟩, by decide +kernel⟩
theorem myX10_mostOf : ckMs yX10_mostOf prog_1_method_42_code 1 (some FieldType.int) 1 := ⟨⟨k2_29, k1_1, k2_30⟩, by decide +kernel⟩
theorem myX10_isMinute : ckMs yX10_isMinute prog_1_method_43_code 1 (some FieldType.boolean) 1 := ⟨⟨k2_135, k1_1, k2_136⟩, by decide +kernel⟩
theorem myX10_isRowSize : ckMs yX10_isRowSize prog_1_method_44_code 1 (some FieldType.boolean) 1 := ⟨⟨k3_13, k1_1, k3_14⟩, by decide +kernel⟩
theorem myX10_isSheet : ckMs yX10_isSheet prog_1_method_45_code 1 (some FieldType.boolean) 1 := ⟨⟨k3_150, k1_1, k3_151⟩, by decide +kernel⟩
theorem myX10_walksOf : ckMs yX10_walksOf prog_1_method_46_code 1 (some FieldType.int) 1 := ⟨⟨k3_131, k1_1, k3_132⟩, by decide +kernel⟩
theorem myX10_placeOf : ckMs yX10_placeOf prog_1_method_47_code 1 (some FieldType.int) 1 := ⟨⟨k3_134, k1_1, k3_135⟩, by decide +kernel⟩
theorem myX10_isFront : ckMs yX10_isFront prog_1_method_48_code 1 (some FieldType.boolean) 1 := ⟨⟨k3_137, k1_1, k3_138⟩, by decide +kernel⟩
theorem myX11_init : ckMo yX11_init prog_13_method_1_code 1  0 := ⟨⟨k3_235, k1_12, k3_236, rfl⟩, by decide +kernel⟩
theorem myX11_in : ckMs yX11_in prog_13_method_3_code 3 (some FieldType.boolean) 3 := ⟨⟨k4_76, k1_12, k4_77⟩, by decide +kernel⟩
theorem myX11_finds : ckMi yX11_finds prog_13_method_4_code 2 (some FieldType.int) 1 := ⟨⟨k4_69, kp_14, k1_12, k4_70⟩, by decide +kernel⟩
theorem myX11_keep : ckMi yX11_keep prog_13_method_5_code 2 none 0 := ⟨⟨k4_86, kp_15, k1_12, k4_87⟩, by decide +kernel⟩
theorem myX11_undo : ckMi yX11_undo prog_13_method_6_code 2 (some FieldType.int) 0 := ⟨⟨k4_63, k4_64, k1_12, k4_65⟩, by decide +kernel⟩
theorem myX11_isFlyer : ckMi yX11_isFlyer prog_13_method_7_code 2 (some FieldType.boolean) 1 := ⟨⟨k4_94, kp_16, k1_12, k4_95⟩, by decide +kernel⟩
theorem myX11_ofFlyer : ckMi yX11_ofFlyer prog_13_method_8_code 3 (some FieldType.int) 2 := ⟨⟨k4_98, kp_17, k1_12, k4_99⟩, by decide +kernel⟩
theorem myX11_isHeight : ckMs yX11_isHeight prog_13_method_9_code 1 (some FieldType.boolean) 1 := ⟨⟨k4_79, k1_12, k4_80⟩, by decide +kernel⟩
theorem myX11_isMinute : ckMs yX11_isMinute prog_13_method_10_code 1 (some FieldType.boolean) 1 := ⟨⟨k4_118, k1_12, k4_119⟩, by decide +kernel⟩
theorem myX11_flyer : ckMi yX11_flyer prog_13_method_11_code 9 (some FieldType.int) 6 := ⟨⟨k4_72, k4_73, k1_12, k4_74⟩, by decide +kernel⟩
theorem myX11_as : ckMi yX11_as prog_13_method_12_code 4 (some FieldType.int) 2 := ⟨⟨k4_89, k4_90, k1_12, k4_91⟩, by decide +kernel⟩
theorem myX11_of : ckMi yX11_of prog_13_method_13_code 3 (some FieldType.int) 2 := ⟨⟨k4_102, k4_103, k1_12, k4_104⟩, by decide +kernel⟩
theorem myX11_go : ckMi yX11_go prog_13_method_14_code 4 (some FieldType.int) 2 := ⟨⟨k4_106, k4_107, k1_12, k4_108⟩, by decide +kernel⟩
theorem myX11_line : ckMi yX11_line prog_13_method_15_code 4 (some FieldType.int) 2 := ⟨⟨k4_110, k4_111, k1_12, k4_112⟩, by decide +kernel⟩
theorem myX11_windOf : ckMs yX11_windOf prog_13_method_16_code 2 (some FieldType.int) 2 := ⟨⟨k4_121, k1_12, k4_122⟩, by decide +kernel⟩
theorem myX11_force : ckMi yX11_force prog_13_method_17_code 3 (some FieldType.int) 2 := ⟨⟨k4_137, kp_19, k1_12, k4_138⟩, by decide +kernel⟩
theorem myX11_wind : ckMi yX11_wind prog_13_method_18_code 5 (some FieldType.int) 4 := ⟨⟨k4_114, k4_115, k1_12, k4_116⟩, by decide +kernel⟩
theorem myX11_windAt : ckMi yX11_windAt prog_13_method_19_code 4 (some FieldType.int) 3 := ⟨⟨k4_124, k4_125, k1_12, k4_126⟩, by decide +kernel⟩
theorem myX11_doesFly : ckMi yX11_doesFly prog_13_method_20_code 6 (some FieldType.boolean) 2 := ⟨⟨k4_133, kp_18, k1_12, k4_134⟩, by decide +kernel⟩
theorem myX11_flies : ckMi yX11_flies prog_13_method_21_code 3 (some FieldType.int) 2 := ⟨⟨k4_128, k4_129, k1_12, k4_130⟩, by decide +kernel⟩
theorem myX11_whereIs : ckMi yX11_whereIs prog_13_method_22_code 5 (some FieldType.int) 3 := ⟨⟨k4_145, kp_20, k1_12, k4_146⟩, by decide +kernel⟩
theorem myX11_kite : ckMi yX11_kite prog_13_method_23_code 4 (some FieldType.int) 3 := ⟨⟨k4_140, k4_141, k1_12, k4_142⟩, by decide +kernel⟩
theorem myX11_doMeet : ckMi yX11_doMeet prog_13_method_24_code 5 (some FieldType.boolean) 3 := ⟨⟨k4_153, kp_21, k1_12, k4_154⟩, by decide +kernel⟩
theorem myX11_meet : ckMi yX11_meet prog_13_method_25_code 5 (some FieldType.int) 3 := ⟨⟨k4_148, k4_149, k1_12, k4_150⟩, by decide +kernel⟩
theorem myX11_meets : ckMi yX11_meets prog_13_method_26_code 5 (some FieldType.int) 1 := ⟨⟨k4_156, k4_157, k1_12, k4_158⟩, by decide +kernel⟩
theorem myX11_ones : ckMs yX11_ones prog_13_method_27_code 3 (some FieldType.int) 1 := ⟨⟨k4_168, k1_12, k4_169⟩, by decide +kernel⟩
theorem myX11_fieldOf : ckMi yX11_fieldOf prog_13_method_28_code 7 (some FieldType.int) 1 := ⟨⟨k4_165, kp_22, k1_12, k4_166⟩, by decide +kernel⟩
theorem myX11_field : ckMi yX11_field prog_13_method_29_code 2 (some FieldType.int) 1 := ⟨⟨k4_160, k4_161, k1_12, k4_162⟩, by decide +kernel⟩
theorem myX11_best : ckMi yX11_best prog_13_method_30_code 7 (some FieldType.int) 2 := ⟨⟨k4_171, k4_172, k1_12, k4_173⟩, by decide +kernel⟩
theorem myX11_turned : ckMs yX11_turned prog_13_method_31_code 1 (some FieldType.int) 1 := ⟨⟨k4_200, k1_12, k4_201⟩, by decide +kernel⟩
theorem myX11_one : ckMi yX11_one prog_13_method_32_code 2 none 1 := ⟨⟨k4_204, kp_27, k1_12, k4_205⟩, by decide +kernel⟩
theorem myX11_takes : ckMi yX11_takes prog_13_method_33_code 7 none 3 := ⟨⟨k4_197, kp_26, k1_12, k4_198⟩, by decide +kernel⟩
theorem myX11_lays : ckMi yX11_lays prog_13_method_34_code 4 (some FieldType.boolean) 2 := ⟨⟨k4_208, kp_28, k1_12, k4_209⟩, by decide +kernel⟩
theorem myX11_walks : ckMi yX11_walks prog_13_method_35_code 7 (some FieldType.boolean) 5 := ⟨⟨k4_193, kp_25, k1_12, k4_194⟩, by decide +kernel⟩
theorem myX11_firstWords : ckMi yX11_firstWords prog_13_method_36_code 3 none 1 := ⟨⟨k4_4, kp_12, k1_12, k4_5⟩, by decide +kernel⟩
theorem myX11_fromNow : ckMi yX11_fromNow prog_13_method_37_code 2 none 0 := ⟨⟨k4_189, kp_24, k1_12, k4_190⟩, by decide +kernel⟩
theorem myX11_toNow : ckMi yX11_toNow prog_13_method_38_code 3 none 1 := ⟨⟨k4_8, kp_13, k1_12, k4_9⟩, by decide +kernel⟩
theorem myX11_isFirst : ckMi yX11_isFirst prog_13_method_39_code 4 (some FieldType.boolean) 2 := ⟨⟨k5_8, kp_33, k1_12, k5_9⟩, by decide +kernel⟩
theorem myX11_begin : ckMi yX11_begin prog_13_method_40_code 3 none 1 := ⟨⟨k4_0, kp_11, k1_12, k4_1⟩, by decide +kernel⟩
theorem myX11_row : ckMi yX11_row prog_13_method_41_code 3 (some FieldType.int) 1 := ⟨⟨k4_175, k4_176, k1_12, k4_177⟩, by decide +kernel⟩
theorem myX11_isPlace : ckMi yX11_isPlace prog_13_method_42_code 2 (some FieldType.boolean) 1 := ⟨⟨k4_224, kp_31, k1_12, k4_225⟩, by decide +kernel⟩
theorem myX11_isLost : ckMi yX11_isLost prog_13_method_43_code 2 (some FieldType.boolean) 1 := ⟨⟨k4_184, kp_23, k1_12, k4_185⟩, by decide +kernel⟩
theorem myX11_wears : ckMi yX11_wears prog_13_method_44_code 2 (some FieldType.int) 1 := ⟨⟨k4_212, kp_29, k1_12, k4_213⟩, by decide +kernel⟩
theorem myX11_walk : ckMi yX11_walk prog_13_method_45_code 6 (some FieldType.int) 2 := ⟨⟨k4_179, k4_180, k1_12, k4_181⟩, by decide +kernel⟩
theorem myX11_at : ckMi yX11_at prog_13_method_46_code 2 (some FieldType.int) 1 := ⟨⟨k4_219, k4_220, k1_12, k4_221⟩, by decide +kernel⟩
theorem myX11_letter : ckMi yX11_letter prog_13_method_47_code 3 (some FieldType.int) 2 := ⟨⟨k4_227, k4_228, k1_12, k4_229⟩, by decide +kernel⟩
theorem myX11_tangleOf : ckMi yX11_tangleOf prog_13_method_48_code 3 (some FieldType.int) 0 := ⟨⟨k4_216, kp_30, k1_12, k4_217⟩, by decide +kernel⟩
theorem myX11_tangle : ckMi yX11_tangle prog_13_method_49_code 1 (some FieldType.int) 0 := ⟨⟨k4_231, k4_232, k1_12, k4_233⟩, by decide +kernel⟩
theorem myX11_twist : ckMi yX11_twist prog_13_method_50_code 3 (some FieldType.int) 2 := ⟨⟨k4_235, k4_236, k1_12, k4_237⟩, by decide +kernel⟩
theorem myX11_findFewest : ckMi yX11_findFewest prog_13_method_51_code 7 (some FieldType.int) 0 := ⟨⟨k5_4, kp_32, k1_12, k5_5⟩, by decide +kernel⟩
theorem myX11_fewest : ckMi yX11_fewest prog_13_method_52_code 3 (some FieldType.int) 1 := ⟨⟨k4_239, k5_0, k1_12, k5_1⟩, by decide +kernel⟩
theorem myX11_isSheet : ckMs yX11_isSheet prog_13_method_53_code 1 (some FieldType.boolean) 1 := ⟨⟨k5_15, k1_12, k5_16⟩, by decide +kernel⟩
theorem myX11_tellsWalks : ckMi yX11_tellsWalks prog_13_method_54_code 4 (some FieldType.boolean) 2 := ⟨⟨k5_20, kp_34, k1_12, k5_21⟩, by decide +kernel⟩
theorem myX11_does : ckMi yX11_does prog_13_method_55_code 7 (some FieldType.boolean) 3 := ⟨⟨k5_24, kp_35, k1_12, k5_25⟩, by decide +kernel⟩
theorem myX11_same : ckMi yX11_same prog_13_method_56_code 6 (some FieldType.int) 3 := ⟨⟨k5_11, k5_12, k1_12, k5_13⟩, by decide +kernel⟩
theorem myX11_sharp : ckMi yX11_sharp prog_13_method_57_code 4 (some FieldType.int) 2 := ⟨⟨k5_27, k5_28, k1_12, k5_29⟩, by decide +kernel⟩
theorem myX11_wear : ckMi yX11_wear prog_13_method_58_code 2 (some FieldType.int) 1 := ⟨⟨k5_31, k5_32, k1_12, k5_33⟩, by decide +kernel⟩
theorem myX11_lost : ckMi yX11_lost prog_13_method_59_code 3 (some FieldType.int) 0 := ⟨⟨k5_35, k5_36, k1_12, k5_37⟩, by decide +kernel⟩
theorem myX11_sheet : ckMi yX11_sheet prog_13_method_60_code 5 (some FieldType.int) 3 := ⟨⟨k5_39, k5_40, k1_12, k5_41⟩, by decide +kernel⟩
theorem myX11_put : ckMi yX11_put prog_13_method_61_code 4 (some FieldType.int) 3 := ⟨⟨k5_43, k5_44, k1_12, k5_45⟩, by decide +kernel⟩
theorem myX11_copy : ckMi yX11_copy prog_13_method_62_code 7 (some FieldType.int) 5 := ⟨⟨k5_47, k5_48, k1_12, k5_49⟩, by decide +kernel⟩
theorem myX11_gusts : ckMi yX11_gusts prog_13_method_63_code 5 (some FieldType.int) 3 := ⟨⟨k5_51, k5_52, k1_12, k5_53⟩, by decide +kernel⟩
theorem myX11_all : ckMi yX11_all prog_13_method_64_code 2 (some FieldType.int) 1 := ⟨⟨k5_55, k5_56, k1_12, k5_57⟩, by decide +kernel⟩
theorem myJ6_bitCount_0f7a4 : ckMs yJ6_bitCount_0f7a4 prog_14_method_49_code 1 (some FieldType.int) 1 := ⟨⟨k2_234, k1_15, k2_235⟩, by decide +kernel⟩
theorem myJ9_abs_0f7a4 : ckMs yJ9_abs_0f7a4 prog_15_method_59_code 1 (some FieldType.int) 1 := ⟨⟨k2_173, k1_14, k2_174⟩, by decide +kernel⟩
theorem myJ9_max_7cf53 : ckMs yJ9_max_7cf53 prog_15_method_65_code 2 (some FieldType.int) 2 := ⟨⟨k3_65, k1_14, k3_66⟩, by decide +kernel⟩
theorem myJ9_min_7cf53 : ckMs yJ9_min_7cf53 prog_15_method_69_code 2 (some FieldType.int) 2 := ⟨⟨k2_73, k1_14, k2_74⟩, by decide +kernel⟩
