/-! the tables' words that keep, and each one's place -/
def mk_WL : List Cond := lw_tbl.filter goodWord
theorem mk_WL_good : ∀ w ∈ mk_WL, goodWord w = true := fun _ h => (List.mem_filter.mp h).2
theorem mk_WL_in : ∀ w ∈ mk_WL, w ∈ lw_tbl := fun _ h => (List.mem_filter.mp h).1
theorem mk_inT {w : Cond} (h : w ∈ tables_1) (hg : goodWord w = true) : w ∈ mk_WL := List.mem_filter.mpr ⟨List.mem_append_right _ h, hg⟩
theorem mk_t1 {w : Cond} (k : Nat) (h : tables_1_1[k]? = some w) (hg : goodWord w = true) : w ∈ mk_WL := mk_inT (List.mem_append_left _ (List.mem_of_getElem? h)) hg
theorem mk_t2 {w : Cond} (k : Nat) (h : tables_1_2[k]? = some w) (hg : goodWord w = true) : w ∈ mk_WL := mk_inT (List.mem_append_right _ (List.mem_append_left _ (List.mem_of_getElem? h))) hg
theorem mk_t3 {w : Cond} (k : Nat) (h : tables_1_3[k]? = some w) (hg : goodWord w = true) : w ∈ mk_WL := mk_inT (List.mem_append_right _ (List.mem_append_right _ (List.mem_append_left _ (List.mem_of_getElem? h)))) hg
theorem mk_t4 {w : Cond} (k : Nat) (h : tables_1_4[k]? = some w) (hg : goodWord w = true) : w ∈ mk_WL := mk_inT (List.mem_append_right _ (List.mem_append_right _ (List.mem_append_right _ (List.mem_append_left _ (List.mem_of_getElem? h))))) hg
theorem mk_t5 {w : Cond} (k : Nat) (h : tables_1_5[k]? = some w) (hg : goodWord w = true) : w ∈ mk_WL := mk_inT (List.mem_append_right _ (List.mem_append_right _ (List.mem_append_right _ (List.mem_append_right _ (List.mem_append_left _ (List.mem_of_getElem? h)))))) hg
theorem mk_t6 {w : Cond} (k : Nat) (h : tables_1_6[k]? = some w) (hg : goodWord w = true) : w ∈ mk_WL := mk_inT (List.mem_append_right _ (List.mem_append_right _ (List.mem_append_right _ (List.mem_append_right _ (List.mem_append_right _ (List.mem_of_getElem? h)))))) hg
theorem mw_0 : (Jvm.Cond.initialized "SplitChannelLaw") ∈ mk_WL := mk_t1 0 rfl rfl
theorem mw_1 : (Jvm.Cond.initialized "SplitChannel") ∈ mk_WL := mk_t1 1 rfl rfl
theorem mw_2 : (Jvm.Cond.initialized "SplitChannel$Reader") ∈ mk_WL := mk_t1 2 rfl rfl
theorem mw_3 : (Jvm.Cond.initialized "SplitChannel$Tape") ∈ mk_WL := mk_t1 3 rfl rfl
theorem mw_4 : (Jvm.Cond.initialized "SplitChannel$Plan") ∈ mk_WL := mk_t1 4 rfl rfl
theorem mw_5 : (Jvm.Cond.initialized "SplitChannel$Play") ∈ mk_WL := mk_t1 5 rfl rfl
theorem mw_6 : (Jvm.Cond.initialized "SplitChannel$Stack") ∈ mk_WL := mk_t1 6 rfl rfl
theorem mw_7 : (Jvm.Cond.initialized "SplitChannel$Course") ∈ mk_WL := mk_t1 7 rfl rfl
theorem mw_8 : (Jvm.Cond.initialized "SplitChannel$Acts") ∈ mk_WL := mk_t1 8 rfl rfl
theorem mw_9 : (Jvm.Cond.initialized "SplitChannel$Means") ∈ mk_WL := mk_t1 9 rfl rfl
theorem mw_10 : (Jvm.Cond.initialized "SplitChannelModel") ∈ mk_WL := mk_t1 10 rfl rfl
theorem mw_11 : (Jvm.Cond.initialized "java/lang/String") ∈ mk_WL := mk_t1 11 rfl rfl
theorem mw_12 : (Jvm.Cond.initialized "java/lang/StringLatin1") ∈ mk_WL := mk_t1 12 rfl rfl
theorem mw_13 : (Jvm.Cond.initialized "jdk/internal/util/Preconditions") ∈ mk_WL := mk_t1 13 rfl rfl
theorem mw_14 : (Jvm.Cond.initialized "java/lang/StringUTF16") ∈ mk_WL := mk_t1 14 rfl rfl
theorem mw_15 : (Jvm.Cond.initialized "java/util/Arrays") ∈ mk_WL := mk_t1 15 rfl rfl
theorem mw_16 : (Jvm.Cond.initialized "java/lang/Integer") ∈ mk_WL := mk_t1 16 rfl rfl
theorem mw_17 : (Jvm.Cond.initialized "java/lang/Math") ∈ mk_WL := mk_t1 17 rfl rfl
theorem mw_18 : (Jvm.Cond.classLink "SplitChannelLaw" (7 : Nat) "SplitChannel") ∈ mk_WL := mk_t1 18 rfl rfl
theorem mw_19 : (Jvm.Cond.instantiable "SplitChannel" (9 : Nat)) ∈ mk_WL := mk_t1 19 rfl rfl
theorem mw_20 : (Jvm.Cond.methodLink "SplitChannelLaw" (9 : Nat) ({ cls := "SplitChannel", name := "<init>", desc := "()V" } : Jvm.MethodName)) ∈ mk_WL := mk_t1 20 rfl rfl
theorem mw_21 : (Jvm.Cond.instanceMethod ({ cls := "SplitChannel", name := "<init>", desc := "()V" } : Jvm.MethodName)) ∈ mk_WL := mk_t1 21 rfl rfl
theorem mw_22 : (Jvm.Cond.code ({ cls := "SplitChannel", name := "<init>", desc := "()V" } : Jvm.MethodName) prog_1_method_1_code (1 : Nat) (Option.none : Option Jvm.ClassFile.FieldType)) ∈ mk_WL := mk_t1 22 rfl rfl
theorem mw_23 : (Jvm.Cond.methodLink "SplitChannel" (1 : Nat) ({ cls := "java/lang/Object", name := "<init>", desc := "()V" } : Jvm.MethodName)) ∈ mk_WL := mk_t1 23 rfl rfl
theorem mw_24 : (Jvm.Cond.instanceMethod ({ cls := "java/lang/Object", name := "<init>", desc := "()V" } : Jvm.MethodName)) ∈ mk_WL := mk_t1 24 rfl rfl
theorem mw_25 : (Jvm.Cond.code ({ cls := "java/lang/Object", name := "<init>", desc := "()V" } : Jvm.MethodName) object_method_1_code (1 : Nat) (Option.none : Option Jvm.ClassFile.FieldType)) ∈ mk_WL := mk_t1 25 rfl rfl
theorem mw_26 : (Jvm.Cond.classLink "SplitChannel" (7 : Nat) "SplitChannel$Reader") ∈ mk_WL := mk_t1 26 rfl rfl
theorem mw_27 : (Jvm.Cond.instantiable "SplitChannel$Reader" (8 : Nat)) ∈ mk_WL := mk_t1 27 rfl rfl
theorem mw_29 : (Jvm.Cond.instanceMethod ({ cls := "SplitChannel$Reader", name := "<init>", desc := "()V" } : Jvm.MethodName)) ∈ mk_WL := mk_t1 29 rfl rfl
theorem mw_30 : (Jvm.Cond.code ({ cls := "SplitChannel$Reader", name := "<init>", desc := "()V" } : Jvm.MethodName) prog_7_method_1_code (1 : Nat) (Option.none : Option Jvm.ClassFile.FieldType)) ∈ mk_WL := mk_t1 30 rfl rfl
theorem mw_31 : (Jvm.Cond.methodLink "SplitChannel$Reader" (3 : Nat) ({ cls := "java/lang/Object", name := "<init>", desc := "()V" } : Jvm.MethodName)) ∈ mk_WL := mk_t1 31 rfl rfl
theorem mw_32 : (Jvm.Cond.classLink "SplitChannel$Reader" (9 : Nat) "SplitChannel$Tape") ∈ mk_WL := mk_t1 32 rfl rfl
theorem mw_33 : (Jvm.Cond.instantiable "SplitChannel$Tape" (2 : Nat)) ∈ mk_WL := mk_t1 33 rfl rfl
theorem mw_35 : (Jvm.Cond.instanceMethod ({ cls := "SplitChannel$Tape", name := "<init>", desc := "()V" } : Jvm.MethodName)) ∈ mk_WL := mk_t1 35 rfl rfl
theorem mw_36 : (Jvm.Cond.code ({ cls := "SplitChannel$Tape", name := "<init>", desc := "()V" } : Jvm.MethodName) prog_9_method_1_code (1 : Nat) (Option.none : Option Jvm.ClassFile.FieldType)) ∈ mk_WL := mk_t1 36 rfl rfl
theorem mw_37 : (Jvm.Cond.methodLink "SplitChannel$Tape" (3 : Nat) ({ cls := "java/lang/Object", name := "<init>", desc := "()V" } : Jvm.MethodName)) ∈ mk_WL := mk_t1 37 rfl rfl
theorem mw_38 : (Jvm.Cond.fieldLink "SplitChannel$Tape" (9 : Nat) "SplitChannel$Tape" "bytes" "[I") ∈ mk_WL := mk_t1 38 rfl rfl
theorem mw_39 : (Jvm.Cond.fieldLink "SplitChannel$Reader" (135 : Nat) "SplitChannel$Tape" "bytes" "[I") ∈ mk_WL := mk_t1 39 rfl rfl
theorem mw_40 : (Jvm.Cond.fieldLink "SplitChannel" (64 : Nat) "SplitChannel$Tape" "length" "I") ∈ mk_WL := mk_t1 40 rfl rfl
theorem mw_41 : (Jvm.Cond.fieldLink "SplitChannel$Tape" (15 : Nat) "SplitChannel$Tape" "length" "I") ∈ mk_WL := mk_t1 41 rfl rfl
theorem mw_42 : (Jvm.Cond.fieldLink "SplitChannel$Reader" (159 : Nat) "SplitChannel$Tape" "length" "I") ∈ mk_WL := mk_t1 42 rfl rfl
theorem mw_43 : (Jvm.Cond.laysFinal "SplitChannel$Tape" "SplitChannel$Tape" "bytes" "[I") ∈ mk_WL := mk_t1 43 rfl rfl
theorem mw_45 : (Jvm.Cond.lays "SplitChannel$Tape" "SplitChannel$Tape" "length" "I") ∈ mk_WL := mk_t1 45 rfl rfl
theorem mw_48 : (Jvm.Cond.arrayClass Jvm.ClassFile.FieldType.int) ∈ mk_WL := mk_t1 48 rfl rfl
theorem mw_49 : (Jvm.Cond.classLink "SplitChannel$Reader" (18 : Nat) "SplitChannel$Plan") ∈ mk_WL := mk_t1 49 rfl rfl
theorem mw_50 : (Jvm.Cond.instantiable "SplitChannel$Plan" (12 : Nat)) ∈ mk_WL := mk_t1 50 rfl rfl
theorem mw_52 : (Jvm.Cond.instanceMethod ({ cls := "SplitChannel$Plan", name := "<init>", desc := "()V" } : Jvm.MethodName)) ∈ mk_WL := mk_t1 52 rfl rfl
theorem mw_53 : (Jvm.Cond.code ({ cls := "SplitChannel$Plan", name := "<init>", desc := "()V" } : Jvm.MethodName) prog_5_method_1_code (1 : Nat) (Option.none : Option Jvm.ClassFile.FieldType)) ∈ mk_WL := mk_t1 53 rfl rfl
theorem mw_54 : (Jvm.Cond.methodLink "SplitChannel$Plan" (3 : Nat) ({ cls := "java/lang/Object", name := "<init>", desc := "()V" } : Jvm.MethodName)) ∈ mk_WL := mk_t1 54 rfl rfl
theorem mw_55 : (Jvm.Cond.fieldLink "SplitChannel$Plan" (27 : Nat) "SplitChannel$Plan" "law" "I") ∈ mk_WL := mk_t1 55 rfl rfl
theorem mw_56 : (Jvm.Cond.fieldLink "SplitChannel$Acts" (38 : Nat) "SplitChannel$Plan" "law" "I") ∈ mk_WL := mk_t1 56 rfl rfl
theorem mw_57 : (Jvm.Cond.fieldLink "SplitChannel$Reader" (86 : Nat) "SplitChannel$Plan" "law" "I") ∈ mk_WL := mk_t1 57 rfl rfl
theorem mw_58 : (Jvm.Cond.fieldLink "SplitChannel" (87 : Nat) "SplitChannel$Plan" "law" "I") ∈ mk_WL := mk_t1 58 rfl rfl
theorem mw_59 : (Jvm.Cond.fieldLink "SplitChannel$Plan" (31 : Nat) "SplitChannel$Plan" "slots" "I") ∈ mk_WL := mk_t1 59 rfl rfl
theorem mw_60 : (Jvm.Cond.fieldLink "SplitChannel$Play" (77 : Nat) "SplitChannel$Plan" "slots" "I") ∈ mk_WL := mk_t1 60 rfl rfl
theorem mw_61 : (Jvm.Cond.fieldLink "SplitChannel$Reader" (90 : Nat) "SplitChannel$Plan" "slots" "I") ∈ mk_WL := mk_t1 61 rfl rfl
theorem mw_62 : (Jvm.Cond.fieldLink "SplitChannel" (103 : Nat) "SplitChannel$Plan" "slots" "I") ∈ mk_WL := mk_t1 62 rfl rfl
theorem mw_63 : (Jvm.Cond.fieldLink "SplitChannel$Plan" (34 : Nat) "SplitChannel$Plan" "skips" "I") ∈ mk_WL := mk_t1 63 rfl rfl
theorem mw_64 : (Jvm.Cond.fieldLink "SplitChannel$Reader" (94 : Nat) "SplitChannel$Plan" "skips" "I") ∈ mk_WL := mk_t1 64 rfl rfl
theorem mw_65 : (Jvm.Cond.fieldLink "SplitChannel$Play" (137 : Nat) "SplitChannel$Plan" "skips" "I") ∈ mk_WL := mk_t1 65 rfl rfl
theorem mw_66 : (Jvm.Cond.fieldLink "SplitChannel" (106 : Nat) "SplitChannel$Plan" "skips" "I") ∈ mk_WL := mk_t1 66 rfl rfl
theorem mw_67 : (Jvm.Cond.fieldLink "SplitChannel$Plan" (37 : Nat) "SplitChannel$Plan" "window" "I") ∈ mk_WL := mk_t1 67 rfl rfl
theorem mw_68 : (Jvm.Cond.fieldLink "SplitChannel$Reader" (98 : Nat) "SplitChannel$Plan" "window" "I") ∈ mk_WL := mk_t1 68 rfl rfl
theorem mw_69 : (Jvm.Cond.fieldLink "SplitChannel$Play" (140 : Nat) "SplitChannel$Plan" "window" "I") ∈ mk_WL := mk_t1 69 rfl rfl
theorem mw_70 : (Jvm.Cond.fieldLink "SplitChannel" (109 : Nat) "SplitChannel$Plan" "window" "I") ∈ mk_WL := mk_t1 70 rfl rfl
theorem mw_71 : (Jvm.Cond.fieldLink "SplitChannel$Plan" (40 : Nat) "SplitChannel$Plan" "lines" "I") ∈ mk_WL := mk_t1 71 rfl rfl
theorem mw_72 : (Jvm.Cond.fieldLink "SplitChannel$Reader" (48 : Nat) "SplitChannel$Plan" "lines" "I") ∈ mk_WL := mk_t1 72 rfl rfl
theorem mw_73 : (Jvm.Cond.fieldLink "SplitChannel" (94 : Nat) "SplitChannel$Plan" "lines" "I") ∈ mk_WL := mk_t1 73 rfl rfl
theorem mw_74 : (Jvm.Cond.fieldLink "SplitChannel$Plan" (43 : Nat) "SplitChannel$Plan" "senders" "I") ∈ mk_WL := mk_t1 74 rfl rfl
theorem mw_75 : (Jvm.Cond.fieldLink "SplitChannel$Play" (93 : Nat) "SplitChannel$Plan" "senders" "I") ∈ mk_WL := mk_t1 75 rfl rfl
theorem mw_76 : (Jvm.Cond.fieldLink "SplitChannel$Acts" (30 : Nat) "SplitChannel$Plan" "senders" "I") ∈ mk_WL := mk_t1 76 rfl rfl
theorem mw_77 : (Jvm.Cond.fieldLink "SplitChannel$Reader" (103 : Nat) "SplitChannel$Plan" "senders" "I") ∈ mk_WL := mk_t1 77 rfl rfl
theorem mw_78 : (Jvm.Cond.fieldLink "SplitChannel" (112 : Nat) "SplitChannel$Plan" "senders" "I") ∈ mk_WL := mk_t1 78 rfl rfl
theorem mw_79 : (Jvm.Cond.fieldLink "SplitChannel$Plan" (46 : Nat) "SplitChannel$Plan" "noises" "I") ∈ mk_WL := mk_t1 79 rfl rfl
theorem mw_80 : (Jvm.Cond.fieldLink "SplitChannel$Acts" (35 : Nat) "SplitChannel$Plan" "noises" "I") ∈ mk_WL := mk_t1 80 rfl rfl
theorem mw_81 : (Jvm.Cond.fieldLink "SplitChannel$Reader" (120 : Nat) "SplitChannel$Plan" "noises" "I") ∈ mk_WL := mk_t1 81 rfl rfl
theorem mw_82 : (Jvm.Cond.fieldLink "SplitChannel" (115 : Nat) "SplitChannel$Plan" "noises" "I") ∈ mk_WL := mk_t1 82 rfl rfl
theorem mw_83 : (Jvm.Cond.fieldLink "SplitChannel$Play" (211 : Nat) "SplitChannel$Plan" "noises" "I") ∈ mk_WL := mk_t1 83 rfl rfl
theorem mw_84 : (Jvm.Cond.fieldLink "SplitChannel$Plan" (9 : Nat) "SplitChannel$Plan" "comes" "[I") ∈ mk_WL := mk_t1 84 rfl rfl
theorem mw_85 : (Jvm.Cond.fieldLink "SplitChannel$Play" (96 : Nat) "SplitChannel$Plan" "comes" "[I") ∈ mk_WL := mk_t1 85 rfl rfl
theorem mw_86 : (Jvm.Cond.fieldLink "SplitChannel" (122 : Nat) "SplitChannel$Plan" "comes" "[I") ∈ mk_WL := mk_t1 86 rfl rfl
theorem mw_87 : (Jvm.Cond.fieldLink "SplitChannel$Plan" (15 : Nat) "SplitChannel$Plan" "bitCounts" "[I") ∈ mk_WL := mk_t1 87 rfl rfl
theorem mw_88 : (Jvm.Cond.fieldLink "SplitChannel" (130 : Nat) "SplitChannel$Plan" "bitCounts" "[I") ∈ mk_WL := mk_t1 88 rfl rfl
theorem mw_89 : (Jvm.Cond.fieldLink "SplitChannel$Play" (185 : Nat) "SplitChannel$Plan" "bitCounts" "[I") ∈ mk_WL := mk_t1 89 rfl rfl
theorem mw_90 : (Jvm.Cond.fieldLink "SplitChannel$Plan" (18 : Nat) "SplitChannel$Plan" "bits" "[I") ∈ mk_WL := mk_t1 90 rfl rfl
theorem mw_91 : (Jvm.Cond.fieldLink "SplitChannel$Play" (188 : Nat) "SplitChannel$Plan" "bits" "[I") ∈ mk_WL := mk_t1 91 rfl rfl
theorem mw_92 : (Jvm.Cond.fieldLink "SplitChannel$Plan" (21 : Nat) "SplitChannel$Plan" "noiseSlots" "[I") ∈ mk_WL := mk_t1 92 rfl rfl
theorem mw_93 : (Jvm.Cond.fieldLink "SplitChannel$Play" (214 : Nat) "SplitChannel$Plan" "noiseSlots" "[I") ∈ mk_WL := mk_t1 93 rfl rfl
theorem mw_94 : (Jvm.Cond.fieldLink "SplitChannel" (212 : Nat) "SplitChannel$Plan" "noiseSlots" "[I") ∈ mk_WL := mk_t1 94 rfl rfl
theorem mw_95 : (Jvm.Cond.fieldLink "SplitChannel$Plan" (24 : Nat) "SplitChannel$Plan" "noiseKinds" "[I") ∈ mk_WL := mk_t1 95 rfl rfl
theorem mw_96 : (Jvm.Cond.fieldLink "SplitChannel$Play" (217 : Nat) "SplitChannel$Plan" "noiseKinds" "[I") ∈ mk_WL := mk_t1 96 rfl rfl
theorem mw_97 : (Jvm.Cond.fieldLink "SplitChannel" (215 : Nat) "SplitChannel$Plan" "noiseKinds" "[I") ∈ mk_WL := mk_t1 97 rfl rfl
theorem mw_98 : (Jvm.Cond.lays "SplitChannel$Plan" "SplitChannel$Plan" "law" "I") ∈ mk_WL := mk_t1 98 rfl rfl
theorem mw_100 : (Jvm.Cond.lays "SplitChannel$Plan" "SplitChannel$Plan" "slots" "I") ∈ mk_WL := mk_t1 100 rfl rfl
theorem mw_102 : (Jvm.Cond.lays "SplitChannel$Plan" "SplitChannel$Plan" "skips" "I") ∈ mk_WL := mk_t1 102 rfl rfl
theorem mw_104 : (Jvm.Cond.lays "SplitChannel$Plan" "SplitChannel$Plan" "window" "I") ∈ mk_WL := mk_t1 104 rfl rfl
theorem mw_106 : (Jvm.Cond.lays "SplitChannel$Plan" "SplitChannel$Plan" "lines" "I") ∈ mk_WL := mk_t1 106 rfl rfl
theorem mw_108 : (Jvm.Cond.lays "SplitChannel$Plan" "SplitChannel$Plan" "senders" "I") ∈ mk_WL := mk_t1 108 rfl rfl
theorem mw_110 : (Jvm.Cond.lays "SplitChannel$Plan" "SplitChannel$Plan" "noises" "I") ∈ mk_WL := mk_t1 110 rfl rfl
theorem mw_112 : (Jvm.Cond.laysFinal "SplitChannel$Plan" "SplitChannel$Plan" "comes" "[I") ∈ mk_WL := mk_t1 112 rfl rfl
theorem mw_114 : (Jvm.Cond.laysFinal "SplitChannel$Plan" "SplitChannel$Plan" "bitCounts" "[I") ∈ mk_WL := mk_t1 114 rfl rfl
theorem mw_116 : (Jvm.Cond.laysFinal "SplitChannel$Plan" "SplitChannel$Plan" "bits" "[I") ∈ mk_WL := mk_t1 116 rfl rfl
theorem mw_118 : (Jvm.Cond.laysFinal "SplitChannel$Plan" "SplitChannel$Plan" "noiseSlots" "[I") ∈ mk_WL := mk_t1 118 rfl rfl
theorem mw_120 : (Jvm.Cond.laysFinal "SplitChannel$Plan" "SplitChannel$Plan" "noiseKinds" "[I") ∈ mk_WL := mk_t1 120 rfl rfl
theorem mw_123 : (Jvm.Cond.fieldLink "SplitChannel$Reader" (12 : Nat) "SplitChannel$Reader" "tape" "LSplitChannel$Tape;") ∈ mk_WL := mk_t1 123 rfl rfl
theorem mw_124 : (Jvm.Cond.fieldLink "SplitChannel" (16 : Nat) "SplitChannel$Reader" "tape" "LSplitChannel$Tape;") ∈ mk_WL := mk_t1 124 rfl rfl
theorem mw_125 : (Jvm.Cond.fieldLink "SplitChannel$Reader" (21 : Nat) "SplitChannel$Reader" "draft" "LSplitChannel$Plan;") ∈ mk_WL := mk_t1 125 rfl rfl
theorem mw_126 : (Jvm.Cond.fieldLink "SplitChannel" (21 : Nat) "SplitChannel$Reader" "draft" "LSplitChannel$Plan;") ∈ mk_WL := mk_t1 126 rfl rfl
theorem mw_127 : (Jvm.Cond.fieldLink "SplitChannel$Reader" (41 : Nat) "SplitChannel$Reader" "kind" "I") ∈ mk_WL := mk_t1 127 rfl rfl
theorem mw_128 : (Jvm.Cond.fieldLink "SplitChannel$Reader" (113 : Nat) "SplitChannel$Reader" "start" "I") ∈ mk_WL := mk_t1 128 rfl rfl
theorem mw_129 : (Jvm.Cond.fieldLink "SplitChannel$Reader" (35 : Nat) "SplitChannel$Reader" "next" "I") ∈ mk_WL := mk_t1 129 rfl rfl
theorem mw_130 : (Jvm.Cond.fieldLink "SplitChannel$Reader" (83 : Nat) "SplitChannel$Reader" "value" "I") ∈ mk_WL := mk_t1 130 rfl rfl
theorem mw_131 : (Jvm.Cond.fieldLink "SplitChannel$Reader" (32 : Nat) "SplitChannel$Reader" "fault" "I") ∈ mk_WL := mk_t1 131 rfl rfl
theorem mw_132 : (Jvm.Cond.fieldLink "SplitChannel" (97 : Nat) "SplitChannel$Reader" "fault" "I") ∈ mk_WL := mk_t1 132 rfl rfl
theorem mw_133 : (Jvm.Cond.fieldLink "SplitChannel$Reader" (25 : Nat) "SplitChannel$Reader" "place" "I") ∈ mk_WL := mk_t1 133 rfl rfl
theorem mw_134 : (Jvm.Cond.fieldLink "SplitChannel" (100 : Nat) "SplitChannel$Reader" "place" "I") ∈ mk_WL := mk_t1 134 rfl rfl
theorem mw_135 : (Jvm.Cond.laysFinal "SplitChannel$Reader" "SplitChannel$Reader" "tape" "LSplitChannel$Tape;") ∈ mk_WL := mk_t1 135 rfl rfl
theorem mw_137 : (Jvm.Cond.laysFinal "SplitChannel$Reader" "SplitChannel$Reader" "draft" "LSplitChannel$Plan;") ∈ mk_WL := mk_t1 137 rfl rfl
theorem mw_139 : (Jvm.Cond.lays "SplitChannel$Reader" "SplitChannel$Reader" "kind" "I") ∈ mk_WL := mk_t1 139 rfl rfl
theorem mw_141 : (Jvm.Cond.lays "SplitChannel$Reader" "SplitChannel$Reader" "start" "I") ∈ mk_WL := mk_t1 141 rfl rfl
theorem mw_143 : (Jvm.Cond.lays "SplitChannel$Reader" "SplitChannel$Reader" "next" "I") ∈ mk_WL := mk_t1 143 rfl rfl
theorem mw_145 : (Jvm.Cond.lays "SplitChannel$Reader" "SplitChannel$Reader" "value" "I") ∈ mk_WL := mk_t1 145 rfl rfl
theorem mw_147 : (Jvm.Cond.lays "SplitChannel$Reader" "SplitChannel$Reader" "fault" "I") ∈ mk_WL := mk_t1 147 rfl rfl
theorem mw_149 : (Jvm.Cond.lays "SplitChannel$Reader" "SplitChannel$Reader" "place" "I") ∈ mk_WL := mk_t1 149 rfl rfl
theorem mw_152 : (Jvm.Cond.classLink "SplitChannel" (26 : Nat) "SplitChannel$Play") ∈ mk_WL := mk_t1 152 rfl rfl
theorem mw_153 : (Jvm.Cond.instantiable "SplitChannel$Play" (13 : Nat)) ∈ mk_WL := mk_t1 153 rfl rfl
theorem mw_155 : (Jvm.Cond.instanceMethod ({ cls := "SplitChannel$Play", name := "<init>", desc := "()V" } : Jvm.MethodName)) ∈ mk_WL := mk_t1 155 rfl rfl
theorem mw_156 : (Jvm.Cond.code ({ cls := "SplitChannel$Play", name := "<init>", desc := "()V" } : Jvm.MethodName) prog_6_method_1_code (1 : Nat) (Option.none : Option Jvm.ClassFile.FieldType)) ∈ mk_WL := mk_t1 156 rfl rfl
theorem mw_157 : (Jvm.Cond.methodLink "SplitChannel$Play" (3 : Nat) ({ cls := "java/lang/Object", name := "<init>", desc := "()V" } : Jvm.MethodName)) ∈ mk_WL := mk_t1 157 rfl rfl
theorem mw_158 : (Jvm.Cond.classLink "SplitChannel$Play" (9 : Nat) "SplitChannel$Plan") ∈ mk_WL := mk_t1 158 rfl rfl
theorem mw_160 : (Jvm.Cond.classLink "SplitChannel$Play" (18 : Nat) "SplitChannel$Stack") ∈ mk_WL := mk_t1 160 rfl rfl
theorem mw_161 : (Jvm.Cond.instantiable "SplitChannel$Stack" (4 : Nat)) ∈ mk_WL := mk_t1 161 rfl rfl
theorem mw_163 : (Jvm.Cond.instanceMethod ({ cls := "SplitChannel$Stack", name := "<init>", desc := "()V" } : Jvm.MethodName)) ∈ mk_WL := mk_t1 163 rfl rfl
theorem mw_164 : (Jvm.Cond.code ({ cls := "SplitChannel$Stack", name := "<init>", desc := "()V" } : Jvm.MethodName) prog_8_method_1_code (1 : Nat) (Option.none : Option Jvm.ClassFile.FieldType)) ∈ mk_WL := mk_t1 164 rfl rfl
theorem mw_165 : (Jvm.Cond.methodLink "SplitChannel$Stack" (3 : Nat) ({ cls := "java/lang/Object", name := "<init>", desc := "()V" } : Jvm.MethodName)) ∈ mk_WL := mk_t1 165 rfl rfl
theorem mw_166 : (Jvm.Cond.fieldLink "SplitChannel$Stack" (11 : Nat) "SplitChannel$Stack" "who" "[I") ∈ mk_WL := mk_t1 166 rfl rfl
theorem mw_167 : (Jvm.Cond.fieldLink "SplitChannel$Stack" (15 : Nat) "SplitChannel$Stack" "from" "[I") ∈ mk_WL := mk_t1 167 rfl rfl
theorem mw_168 : (Jvm.Cond.fieldLink "SplitChannel$Play" (170 : Nat) "SplitChannel$Stack" "from" "[I") ∈ mk_WL := mk_t1 168 rfl rfl
theorem mw_169 : (Jvm.Cond.fieldLink "SplitChannel$Stack" (18 : Nat) "SplitChannel$Stack" "to" "[I") ∈ mk_WL := mk_t1 169 rfl rfl
theorem mw_170 : (Jvm.Cond.fieldLink "SplitChannel$Play" (173 : Nat) "SplitChannel$Stack" "to" "[I") ∈ mk_WL := mk_t1 170 rfl rfl
theorem mw_171 : (Jvm.Cond.fieldLink "SplitChannel$Stack" (21 : Nat) "SplitChannel$Stack" "size" "I") ∈ mk_WL := mk_t1 171 rfl rfl
theorem mw_172 : (Jvm.Cond.fieldLink "SplitChannel$Play" (65 : Nat) "SplitChannel$Stack" "size" "I") ∈ mk_WL := mk_t1 172 rfl rfl
theorem mw_173 : (Jvm.Cond.laysFinal "SplitChannel$Stack" "SplitChannel$Stack" "who" "[I") ∈ mk_WL := mk_t1 173 rfl rfl
theorem mw_175 : (Jvm.Cond.laysFinal "SplitChannel$Stack" "SplitChannel$Stack" "from" "[I") ∈ mk_WL := mk_t1 175 rfl rfl
theorem mw_177 : (Jvm.Cond.laysFinal "SplitChannel$Stack" "SplitChannel$Stack" "to" "[I") ∈ mk_WL := mk_t1 177 rfl rfl
theorem mw_179 : (Jvm.Cond.lays "SplitChannel$Stack" "SplitChannel$Stack" "size" "I") ∈ mk_WL := mk_t1 179 rfl rfl
theorem mw_182 : (Jvm.Cond.classLink "SplitChannel$Play" (29 : Nat) "SplitChannel$Course") ∈ mk_WL := mk_t1 182 rfl rfl
theorem mw_183 : (Jvm.Cond.instantiable "SplitChannel$Course" (14 : Nat)) ∈ mk_WL := mk_t1 183 rfl rfl
theorem mw_185 : (Jvm.Cond.instanceMethod ({ cls := "SplitChannel$Course", name := "<init>", desc := "()V" } : Jvm.MethodName)) ∈ mk_WL := mk_t1 185 rfl rfl
theorem mw_186 : (Jvm.Cond.code ({ cls := "SplitChannel$Course", name := "<init>", desc := "()V" } : Jvm.MethodName) prog_3_method_1_code (1 : Nat) (Option.none : Option Jvm.ClassFile.FieldType)) ∈ mk_WL := mk_t1 186 rfl rfl
theorem mw_187 : (Jvm.Cond.methodLink "SplitChannel$Course" (3 : Nat) ({ cls := "java/lang/Object", name := "<init>", desc := "()V" } : Jvm.MethodName)) ∈ mk_WL := mk_t1 187 rfl rfl
theorem mw_188 : (Jvm.Cond.fieldLink "SplitChannel$Course" (9 : Nat) "SplitChannel$Course" "sent" "[I") ∈ mk_WL := mk_t1 188 rfl rfl
theorem mw_189 : (Jvm.Cond.fieldLink "SplitChannel" (140 : Nat) "SplitChannel$Course" "sent" "[I") ∈ mk_WL := mk_t1 189 rfl rfl
theorem mw_190 : (Jvm.Cond.fieldLink "SplitChannel$Play" (199 : Nat) "SplitChannel$Course" "sent" "[I") ∈ mk_WL := mk_t1 190 rfl rfl
theorem mw_191 : (Jvm.Cond.fieldLink "SplitChannel$Course" (15 : Nat) "SplitChannel$Course" "heard" "[I") ∈ mk_WL := mk_t1 191 rfl rfl
theorem mw_192 : (Jvm.Cond.fieldLink "SplitChannel" (149 : Nat) "SplitChannel$Course" "heard" "[I") ∈ mk_WL := mk_t1 192 rfl rfl
theorem mw_193 : (Jvm.Cond.fieldLink "SplitChannel$Play" (202 : Nat) "SplitChannel$Course" "heard" "[I") ∈ mk_WL := mk_t1 193 rfl rfl
theorem mw_194 : (Jvm.Cond.fieldLink "SplitChannel$Course" (18 : Nat) "SplitChannel$Course" "through" "[I") ∈ mk_WL := mk_t1 194 rfl rfl
theorem mw_195 : (Jvm.Cond.fieldLink "SplitChannel" (152 : Nat) "SplitChannel$Course" "through" "[I") ∈ mk_WL := mk_t1 195 rfl rfl
theorem mw_196 : (Jvm.Cond.fieldLink "SplitChannel$Course" (21 : Nat) "SplitChannel$Course" "depth" "[I") ∈ mk_WL := mk_t1 196 rfl rfl
theorem mw_197 : (Jvm.Cond.fieldLink "SplitChannel$Play" (134 : Nat) "SplitChannel$Course" "depth" "[I") ∈ mk_WL := mk_t1 197 rfl rfl
theorem mw_198 : (Jvm.Cond.fieldLink "SplitChannel" (155 : Nat) "SplitChannel$Course" "depth" "[I") ∈ mk_WL := mk_t1 198 rfl rfl
theorem mw_199 : (Jvm.Cond.fieldLink "SplitChannel$Course" (24 : Nat) "SplitChannel$Course" "skipped" "[I") ∈ mk_WL := mk_t1 199 rfl rfl
theorem mw_200 : (Jvm.Cond.fieldLink "SplitChannel$Play" (124 : Nat) "SplitChannel$Course" "skipped" "[I") ∈ mk_WL := mk_t1 200 rfl rfl
theorem mw_201 : (Jvm.Cond.fieldLink "SplitChannel" (158 : Nat) "SplitChannel$Course" "skipped" "[I") ∈ mk_WL := mk_t1 201 rfl rfl
theorem mw_202 : (Jvm.Cond.fieldLink "SplitChannel$Course" (27 : Nat) "SplitChannel$Course" "slotThrough" "[I") ∈ mk_WL := mk_t1 202 rfl rfl
theorem mw_203 : (Jvm.Cond.fieldLink "SplitChannel" (161 : Nat) "SplitChannel$Course" "slotThrough" "[I") ∈ mk_WL := mk_t1 203 rfl rfl
theorem mw_204 : (Jvm.Cond.fieldLink "SplitChannel$Course" (30 : Nat) "SplitChannel$Course" "tried" "[I") ∈ mk_WL := mk_t1 204 rfl rfl
theorem mw_205 : (Jvm.Cond.fieldLink "SplitChannel" (164 : Nat) "SplitChannel$Course" "tried" "[I") ∈ mk_WL := mk_t1 205 rfl rfl
theorem mw_206 : (Jvm.Cond.fieldLink "SplitChannel$Play" (205 : Nat) "SplitChannel$Course" "tried" "[I") ∈ mk_WL := mk_t1 206 rfl rfl
theorem mw_207 : (Jvm.Cond.fieldLink "SplitChannel$Course" (33 : Nat) "SplitChannel$Course" "bitsTaken" "[I") ∈ mk_WL := mk_t1 207 rfl rfl
theorem mw_208 : (Jvm.Cond.fieldLink "SplitChannel$Play" (182 : Nat) "SplitChannel$Course" "bitsTaken" "[I") ∈ mk_WL := mk_t1 208 rfl rfl
theorem mw_209 : (Jvm.Cond.fieldLink "SplitChannel" (167 : Nat) "SplitChannel$Course" "bitsTaken" "[I") ∈ mk_WL := mk_t1 209 rfl rfl
theorem mw_210 : (Jvm.Cond.fieldLink "SplitChannel$Course" (36 : Nat) "SplitChannel$Course" "throughOrder" "[I") ∈ mk_WL := mk_t1 210 rfl rfl
theorem mw_211 : (Jvm.Cond.fieldLink "SplitChannel" (176 : Nat) "SplitChannel$Course" "throughOrder" "[I") ∈ mk_WL := mk_t1 211 rfl rfl
theorem mw_212 : (Jvm.Cond.fieldLink "SplitChannel$Course" (54 : Nat) "SplitChannel$Course" "throughCount" "I") ∈ mk_WL := mk_t1 212 rfl rfl
theorem mw_213 : (Jvm.Cond.fieldLink "SplitChannel$Play" (90 : Nat) "SplitChannel$Course" "throughCount" "I") ∈ mk_WL := mk_t1 213 rfl rfl
theorem mw_214 : (Jvm.Cond.fieldLink "SplitChannel" (173 : Nat) "SplitChannel$Course" "throughCount" "I") ∈ mk_WL := mk_t1 214 rfl rfl
theorem mw_215 : (Jvm.Cond.fieldLink "SplitChannel$Course" (39 : Nat) "SplitChannel$Course" "epochFirst" "[I") ∈ mk_WL := mk_t1 215 rfl rfl
theorem mw_216 : (Jvm.Cond.fieldLink "SplitChannel" (197 : Nat) "SplitChannel$Course" "epochFirst" "[I") ∈ mk_WL := mk_t1 216 rfl rfl
theorem mw_217 : (Jvm.Cond.fieldLink "SplitChannel$Course" (42 : Nat) "SplitChannel$Course" "epochLast" "[I") ∈ mk_WL := mk_t1 217 rfl rfl
theorem mw_218 : (Jvm.Cond.fieldLink "SplitChannel$Play" (160 : Nat) "SplitChannel$Course" "epochLast" "[I") ∈ mk_WL := mk_t1 218 rfl rfl
theorem mw_219 : (Jvm.Cond.fieldLink "SplitChannel" (200 : Nat) "SplitChannel$Course" "epochLast" "[I") ∈ mk_WL := mk_t1 219 rfl rfl
theorem mw_220 : (Jvm.Cond.fieldLink "SplitChannel$Course" (45 : Nat) "SplitChannel$Course" "epochWho" "[I") ∈ mk_WL := mk_t1 220 rfl rfl
theorem mw_221 : (Jvm.Cond.fieldLink "SplitChannel" (203 : Nat) "SplitChannel$Course" "epochWho" "[I") ∈ mk_WL := mk_t1 221 rfl rfl
theorem mw_222 : (Jvm.Cond.fieldLink "SplitChannel$Course" (58 : Nat) "SplitChannel$Course" "epochCount" "I") ∈ mk_WL := mk_t1 222 rfl rfl
theorem mw_223 : (Jvm.Cond.fieldLink "SplitChannel$Play" (163 : Nat) "SplitChannel$Course" "epochCount" "I") ∈ mk_WL := mk_t1 223 rfl rfl
theorem mw_224 : (Jvm.Cond.fieldLink "SplitChannel" (194 : Nat) "SplitChannel$Course" "epochCount" "I") ∈ mk_WL := mk_t1 224 rfl rfl
theorem mw_225 : (Jvm.Cond.laysFinal "SplitChannel$Course" "SplitChannel$Course" "sent" "[I") ∈ mk_WL := mk_t1 225 rfl rfl
theorem mw_227 : (Jvm.Cond.laysFinal "SplitChannel$Course" "SplitChannel$Course" "heard" "[I") ∈ mk_WL := mk_t1 227 rfl rfl
theorem mw_229 : (Jvm.Cond.laysFinal "SplitChannel$Course" "SplitChannel$Course" "through" "[I") ∈ mk_WL := mk_t1 229 rfl rfl
theorem mw_231 : (Jvm.Cond.laysFinal "SplitChannel$Course" "SplitChannel$Course" "depth" "[I") ∈ mk_WL := mk_t1 231 rfl rfl
theorem mw_233 : (Jvm.Cond.laysFinal "SplitChannel$Course" "SplitChannel$Course" "skipped" "[I") ∈ mk_WL := mk_t1 233 rfl rfl
theorem mw_235 : (Jvm.Cond.laysFinal "SplitChannel$Course" "SplitChannel$Course" "slotThrough" "[I") ∈ mk_WL := mk_t1 235 rfl rfl
theorem mw_237 : (Jvm.Cond.laysFinal "SplitChannel$Course" "SplitChannel$Course" "tried" "[I") ∈ mk_WL := mk_t1 237 rfl rfl
theorem mw_239 : (Jvm.Cond.laysFinal "SplitChannel$Course" "SplitChannel$Course" "bitsTaken" "[I") ∈ mk_WL := mk_t1 239 rfl rfl
theorem mw_241 : (Jvm.Cond.laysFinal "SplitChannel$Course" "SplitChannel$Course" "throughOrder" "[I") ∈ mk_WL := mk_t2 1 rfl rfl
theorem mw_243 : (Jvm.Cond.lays "SplitChannel$Course" "SplitChannel$Course" "throughCount" "I") ∈ mk_WL := mk_t2 3 rfl rfl
theorem mw_245 : (Jvm.Cond.laysFinal "SplitChannel$Course" "SplitChannel$Course" "epochFirst" "[I") ∈ mk_WL := mk_t2 5 rfl rfl
theorem mw_247 : (Jvm.Cond.laysFinal "SplitChannel$Course" "SplitChannel$Course" "epochLast" "[I") ∈ mk_WL := mk_t2 7 rfl rfl
theorem mw_249 : (Jvm.Cond.laysFinal "SplitChannel$Course" "SplitChannel$Course" "epochWho" "[I") ∈ mk_WL := mk_t2 9 rfl rfl
theorem mw_251 : (Jvm.Cond.lays "SplitChannel$Course" "SplitChannel$Course" "epochCount" "I") ∈ mk_WL := mk_t2 11 rfl rfl
theorem mw_254 : (Jvm.Cond.fieldLink "SplitChannel$Play" (12 : Nat) "SplitChannel$Play" "plan" "LSplitChannel$Plan;") ∈ mk_WL := mk_t2 14 rfl rfl
theorem mw_255 : (Jvm.Cond.fieldLink "SplitChannel" (33 : Nat) "SplitChannel$Play" "plan" "LSplitChannel$Plan;") ∈ mk_WL := mk_t2 15 rfl rfl
theorem mw_256 : (Jvm.Cond.fieldLink "SplitChannel$Play" (21 : Nat) "SplitChannel$Play" "groups" "LSplitChannel$Stack;") ∈ mk_WL := mk_t2 16 rfl rfl
theorem mw_257 : (Jvm.Cond.fieldLink "SplitChannel$Play" (25 : Nat) "SplitChannel$Play" "counters" "[I") ∈ mk_WL := mk_t2 17 rfl rfl
theorem mw_258 : (Jvm.Cond.fieldLink "SplitChannel$Play" (32 : Nat) "SplitChannel$Play" "course" "LSplitChannel$Course;") ∈ mk_WL := mk_t2 18 rfl rfl
theorem mw_259 : (Jvm.Cond.fieldLink "SplitChannel" (37 : Nat) "SplitChannel$Play" "course" "LSplitChannel$Course;") ∈ mk_WL := mk_t2 19 rfl rfl
theorem mw_260 : (Jvm.Cond.fieldLink "SplitChannel$Play" (36 : Nat) "SplitChannel$Play" "law" "I") ∈ mk_WL := mk_t2 20 rfl rfl
theorem mw_261 : (Jvm.Cond.fieldLink "SplitChannel$Play" (40 : Nat) "SplitChannel$Play" "noNoise" "I") ∈ mk_WL := mk_t2 21 rfl rfl
theorem mw_262 : (Jvm.Cond.fieldLink "SplitChannel$Play" (43 : Nat) "SplitChannel$Play" "noSender" "I") ∈ mk_WL := mk_t2 22 rfl rfl
theorem mw_263 : (Jvm.Cond.fieldLink "SplitChannel$Play" (46 : Nat) "SplitChannel$Play" "present" "I") ∈ mk_WL := mk_t2 23 rfl rfl
theorem mw_264 : (Jvm.Cond.fieldLink "SplitChannel$Play" (49 : Nat) "SplitChannel$Play" "windowed" "I") ∈ mk_WL := mk_t2 24 rfl rfl
theorem mw_265 : (Jvm.Cond.fieldLink "SplitChannel$Play" (52 : Nat) "SplitChannel$Play" "edge" "I") ∈ mk_WL := mk_t2 25 rfl rfl
theorem mw_266 : (Jvm.Cond.fieldLink "SplitChannel$Play" (55 : Nat) "SplitChannel$Play" "justSplit" "Z") ∈ mk_WL := mk_t2 26 rfl rfl
theorem mw_267 : (Jvm.Cond.fieldLink "SplitChannel$Play" (59 : Nat) "SplitChannel$Play" "skipsInRow" "I") ∈ mk_WL := mk_t2 27 rfl rfl
theorem mw_268 : (Jvm.Cond.fieldLink "SplitChannel$Play" (62 : Nat) "SplitChannel$Play" "epochCounted" "Z") ∈ mk_WL := mk_t2 28 rfl rfl
theorem mw_269 : (Jvm.Cond.laysFinal "SplitChannel$Play" "SplitChannel$Play" "plan" "LSplitChannel$Plan;") ∈ mk_WL := mk_t2 29 rfl rfl
theorem mw_271 : (Jvm.Cond.laysFinal "SplitChannel$Play" "SplitChannel$Play" "groups" "LSplitChannel$Stack;") ∈ mk_WL := mk_t2 31 rfl rfl
theorem mw_273 : (Jvm.Cond.laysFinal "SplitChannel$Play" "SplitChannel$Play" "counters" "[I") ∈ mk_WL := mk_t2 33 rfl rfl
theorem mw_275 : (Jvm.Cond.lays "SplitChannel$Play" "SplitChannel$Play" "course" "LSplitChannel$Course;") ∈ mk_WL := mk_t2 35 rfl rfl
theorem mw_277 : (Jvm.Cond.lays "SplitChannel$Play" "SplitChannel$Play" "law" "I") ∈ mk_WL := mk_t2 37 rfl rfl
theorem mw_279 : (Jvm.Cond.lays "SplitChannel$Play" "SplitChannel$Play" "noNoise" "I") ∈ mk_WL := mk_t2 39 rfl rfl
theorem mw_281 : (Jvm.Cond.lays "SplitChannel$Play" "SplitChannel$Play" "noSender" "I") ∈ mk_WL := mk_t2 41 rfl rfl
theorem mw_283 : (Jvm.Cond.lays "SplitChannel$Play" "SplitChannel$Play" "present" "I") ∈ mk_WL := mk_t2 43 rfl rfl
theorem mw_285 : (Jvm.Cond.lays "SplitChannel$Play" "SplitChannel$Play" "windowed" "I") ∈ mk_WL := mk_t2 45 rfl rfl
theorem mw_287 : (Jvm.Cond.lays "SplitChannel$Play" "SplitChannel$Play" "edge" "I") ∈ mk_WL := mk_t2 47 rfl rfl
theorem mw_289 : (Jvm.Cond.lays "SplitChannel$Play" "SplitChannel$Play" "justSplit" "Z") ∈ mk_WL := mk_t2 49 rfl rfl
theorem mw_291 : (Jvm.Cond.lays "SplitChannel$Play" "SplitChannel$Play" "skipsInRow" "I") ∈ mk_WL := mk_t2 51 rfl rfl
theorem mw_293 : (Jvm.Cond.lays "SplitChannel$Play" "SplitChannel$Play" "epochCounted" "Z") ∈ mk_WL := mk_t2 53 rfl rfl
theorem mw_296 : (Jvm.Cond.classLink "SplitChannel" (44 : Nat) "SplitChannel$Course") ∈ mk_WL := mk_t2 56 rfl rfl
theorem mw_298 : (Jvm.Cond.classLink "SplitChannel" (50 : Nat) "SplitChannel$Acts") ∈ mk_WL := mk_t2 58 rfl rfl
theorem mw_299 : (Jvm.Cond.instantiable "SplitChannel$Acts" (3 : Nat)) ∈ mk_WL := mk_t2 59 rfl rfl
theorem mw_301 : (Jvm.Cond.instanceMethod ({ cls := "SplitChannel$Acts", name := "<init>", desc := "()V" } : Jvm.MethodName)) ∈ mk_WL := mk_t2 61 rfl rfl
theorem mw_302 : (Jvm.Cond.code ({ cls := "SplitChannel$Acts", name := "<init>", desc := "()V" } : Jvm.MethodName) prog_2_method_1_code (1 : Nat) (Option.none : Option Jvm.ClassFile.FieldType)) ∈ mk_WL := mk_t2 62 rfl rfl
theorem mw_303 : (Jvm.Cond.methodLink "SplitChannel$Acts" (3 : Nat) ({ cls := "java/lang/Object", name := "<init>", desc := "()V" } : Jvm.MethodName)) ∈ mk_WL := mk_t2 63 rfl rfl
theorem mw_304 : (Jvm.Cond.fieldLink "SplitChannel$Acts" (9 : Nat) "SplitChannel$Acts" "kinds" "[I") ∈ mk_WL := mk_t2 64 rfl rfl
theorem mw_305 : (Jvm.Cond.fieldLink "SplitChannel$Acts" (15 : Nat) "SplitChannel$Acts" "lawsBefore" "[I") ∈ mk_WL := mk_t2 65 rfl rfl
theorem mw_306 : (Jvm.Cond.fieldLink "SplitChannel$Acts" (18 : Nat) "SplitChannel$Acts" "made" "I") ∈ mk_WL := mk_t2 66 rfl rfl
theorem mw_307 : (Jvm.Cond.fieldLink "SplitChannel" (84 : Nat) "SplitChannel$Acts" "made" "I") ∈ mk_WL := mk_t2 67 rfl rfl
theorem mw_308 : (Jvm.Cond.laysFinal "SplitChannel$Acts" "SplitChannel$Acts" "kinds" "[I") ∈ mk_WL := mk_t2 68 rfl rfl
theorem mw_310 : (Jvm.Cond.laysFinal "SplitChannel$Acts" "SplitChannel$Acts" "lawsBefore" "[I") ∈ mk_WL := mk_t2 70 rfl rfl
theorem mw_312 : (Jvm.Cond.lays "SplitChannel$Acts" "SplitChannel$Acts" "made" "I") ∈ mk_WL := mk_t2 72 rfl rfl
theorem mw_315 : (Jvm.Cond.classLink "SplitChannel" (57 : Nat) "SplitChannel$Means") ∈ mk_WL := mk_t2 75 rfl rfl
theorem mw_316 : (Jvm.Cond.instantiable "SplitChannel$Means" (5 : Nat)) ∈ mk_WL := mk_t2 76 rfl rfl
theorem mw_318 : (Jvm.Cond.instanceMethod ({ cls := "SplitChannel$Means", name := "<init>", desc := "()V" } : Jvm.MethodName)) ∈ mk_WL := mk_t2 78 rfl rfl
theorem mw_319 : (Jvm.Cond.code ({ cls := "SplitChannel$Means", name := "<init>", desc := "()V" } : Jvm.MethodName) prog_4_method_1_code (1 : Nat) (Option.none : Option Jvm.ClassFile.FieldType)) ∈ mk_WL := mk_t2 79 rfl rfl
theorem mw_320 : (Jvm.Cond.methodLink "SplitChannel$Means" (3 : Nat) ({ cls := "java/lang/Object", name := "<init>", desc := "()V" } : Jvm.MethodName)) ∈ mk_WL := mk_t2 80 rfl rfl
theorem mw_321 : (Jvm.Cond.fieldLink "SplitChannel$Means" (11 : Nat) "SplitChannel$Means" "above" "[J") ∈ mk_WL := mk_t2 81 rfl rfl
theorem mw_322 : (Jvm.Cond.fieldLink "SplitChannel" (230 : Nat) "SplitChannel$Means" "above" "[J") ∈ mk_WL := mk_t2 82 rfl rfl
theorem mw_323 : (Jvm.Cond.fieldLink "SplitChannel$Means" (15 : Nat) "SplitChannel$Means" "below" "[J") ∈ mk_WL := mk_t2 83 rfl rfl
theorem mw_324 : (Jvm.Cond.fieldLink "SplitChannel" (237 : Nat) "SplitChannel$Means" "below" "[J") ∈ mk_WL := mk_t2 84 rfl rfl
theorem mw_325 : (Jvm.Cond.fieldLink "SplitChannel$Means" (18 : Nat) "SplitChannel$Means" "ways" "[J") ∈ mk_WL := mk_t2 85 rfl rfl
theorem mw_326 : (Jvm.Cond.fieldLink "SplitChannel$Means" (29 : Nat) "SplitChannel$Means" "sumAbove" "J") ∈ mk_WL := mk_t2 86 rfl rfl
theorem mw_327 : (Jvm.Cond.fieldLink "SplitChannel" (244 : Nat) "SplitChannel$Means" "sumAbove" "J") ∈ mk_WL := mk_t2 87 rfl rfl
theorem mw_328 : (Jvm.Cond.fieldLink "SplitChannel$Means" (37 : Nat) "SplitChannel$Means" "sumBelow" "J") ∈ mk_WL := mk_t2 88 rfl rfl
theorem mw_329 : (Jvm.Cond.fieldLink "SplitChannel" (248 : Nat) "SplitChannel$Means" "sumBelow" "J") ∈ mk_WL := mk_t2 89 rfl rfl
theorem mw_330 : (Jvm.Cond.laysFinal "SplitChannel$Means" "SplitChannel$Means" "above" "[J") ∈ mk_WL := mk_t2 90 rfl rfl
theorem mw_332 : (Jvm.Cond.laysFinal "SplitChannel$Means" "SplitChannel$Means" "below" "[J") ∈ mk_WL := mk_t2 92 rfl rfl
theorem mw_334 : (Jvm.Cond.laysFinal "SplitChannel$Means" "SplitChannel$Means" "ways" "[J") ∈ mk_WL := mk_t2 94 rfl rfl
theorem mw_336 : (Jvm.Cond.lays "SplitChannel$Means" "SplitChannel$Means" "sumAbove" "J") ∈ mk_WL := mk_t2 96 rfl rfl
theorem mw_338 : (Jvm.Cond.lays "SplitChannel$Means" "SplitChannel$Means" "sumBelow" "J") ∈ mk_WL := mk_t2 98 rfl rfl
theorem mw_341 : (Jvm.Cond.arrayClass Jvm.ClassFile.FieldType.long) ∈ mk_WL := mk_t2 101 rfl rfl
theorem mw_342 : (Jvm.Cond.fieldLink "SplitChannel" (10 : Nat) "SplitChannel" "reader" "LSplitChannel$Reader;") ∈ mk_WL := mk_t2 102 rfl rfl
theorem mw_343 : (Jvm.Cond.fieldLink "SplitChannel" (20 : Nat) "SplitChannel" "tape" "LSplitChannel$Tape;") ∈ mk_WL := mk_t2 103 rfl rfl
theorem mw_344 : (Jvm.Cond.fieldLink "SplitChannel" (25 : Nat) "SplitChannel" "draft" "LSplitChannel$Plan;") ∈ mk_WL := mk_t2 104 rfl rfl
theorem mw_345 : (Jvm.Cond.fieldLink "SplitChannel" (29 : Nat) "SplitChannel" "play" "LSplitChannel$Play;") ∈ mk_WL := mk_t2 105 rfl rfl
theorem mw_346 : (Jvm.Cond.fieldLink "SplitChannel" (36 : Nat) "SplitChannel" "plan" "LSplitChannel$Plan;") ∈ mk_WL := mk_t2 106 rfl rfl
theorem mw_347 : (Jvm.Cond.fieldLink "SplitChannel" (41 : Nat) "SplitChannel" "now" "LSplitChannel$Course;") ∈ mk_WL := mk_t2 107 rfl rfl
theorem mw_348 : (Jvm.Cond.fieldLink "SplitChannel" (47 : Nat) "SplitChannel" "other" "LSplitChannel$Course;") ∈ mk_WL := mk_t2 108 rfl rfl
theorem mw_349 : (Jvm.Cond.fieldLink "SplitChannel" (53 : Nat) "SplitChannel" "acts" "LSplitChannel$Acts;") ∈ mk_WL := mk_t2 109 rfl rfl
theorem mw_350 : (Jvm.Cond.fieldLink "SplitChannel" (60 : Nat) "SplitChannel" "means" "LSplitChannel$Means;") ∈ mk_WL := mk_t2 110 rfl rfl
theorem mw_351 : (Jvm.Cond.laysFinal "SplitChannel" "SplitChannel" "reader" "LSplitChannel$Reader;") ∈ mk_WL := mk_t2 111 rfl rfl
theorem mw_353 : (Jvm.Cond.laysFinal "SplitChannel" "SplitChannel" "tape" "LSplitChannel$Tape;") ∈ mk_WL := mk_t2 113 rfl rfl
theorem mw_355 : (Jvm.Cond.laysFinal "SplitChannel" "SplitChannel" "draft" "LSplitChannel$Plan;") ∈ mk_WL := mk_t2 115 rfl rfl
theorem mw_357 : (Jvm.Cond.laysFinal "SplitChannel" "SplitChannel" "play" "LSplitChannel$Play;") ∈ mk_WL := mk_t2 117 rfl rfl
theorem mw_359 : (Jvm.Cond.laysFinal "SplitChannel" "SplitChannel" "plan" "LSplitChannel$Plan;") ∈ mk_WL := mk_t2 119 rfl rfl
theorem mw_361 : (Jvm.Cond.laysFinal "SplitChannel" "SplitChannel" "now" "LSplitChannel$Course;") ∈ mk_WL := mk_t2 121 rfl rfl
theorem mw_363 : (Jvm.Cond.laysFinal "SplitChannel" "SplitChannel" "other" "LSplitChannel$Course;") ∈ mk_WL := mk_t2 123 rfl rfl
theorem mw_365 : (Jvm.Cond.laysFinal "SplitChannel" "SplitChannel" "acts" "LSplitChannel$Acts;") ∈ mk_WL := mk_t2 125 rfl rfl
theorem mw_367 : (Jvm.Cond.laysFinal "SplitChannel" "SplitChannel" "means" "LSplitChannel$Means;") ∈ mk_WL := mk_t2 127 rfl rfl
theorem mw_370 : (Jvm.Cond.methodLink "SplitChannelLaw" (13 : Nat) ({ cls := "SplitChannel", name := "feed", desc := "(IIIII)I" } : Jvm.MethodName)) ∈ mk_WL := mk_t2 130 rfl rfl
theorem mw_371 : (Jvm.Cond.instanceMethod ({ cls := "SplitChannel", name := "feed", desc := "(IIIII)I" } : Jvm.MethodName)) ∈ mk_WL := mk_t2 131 rfl rfl
theorem mw_372 : (Jvm.Cond.selects "SplitChannel" ({ cls := "SplitChannel", name := "feed", desc := "(IIIII)I" } : Jvm.MethodName) ({ cls := "SplitChannel", name := "feed", desc := "(IIIII)I" } : Jvm.MethodName)) ∈ mk_WL := mk_t2 132 rfl rfl
theorem mw_373 : (Jvm.Cond.code ({ cls := "SplitChannel", name := "feed", desc := "(IIIII)I" } : Jvm.MethodName) prog_1_method_2_code (6 : Nat) (Option.some Jvm.ClassFile.FieldType.int)) ∈ mk_WL := mk_t2 133 rfl rfl
theorem mw_374 : (Jvm.Cond.methodLink "SplitChannel" (70 : Nat) ({ cls := "SplitChannel$Tape", name := "append", desc := "(I)V" } : Jvm.MethodName)) ∈ mk_WL := mk_t2 134 rfl rfl
theorem mw_375 : (Jvm.Cond.instanceMethod ({ cls := "SplitChannel$Tape", name := "append", desc := "(I)V" } : Jvm.MethodName)) ∈ mk_WL := mk_t2 135 rfl rfl
theorem mw_376 : (Jvm.Cond.selects "SplitChannel$Tape" ({ cls := "SplitChannel$Tape", name := "append", desc := "(I)V" } : Jvm.MethodName) ({ cls := "SplitChannel$Tape", name := "append", desc := "(I)V" } : Jvm.MethodName)) ∈ mk_WL := mk_t2 136 rfl rfl
theorem mw_377 : (Jvm.Cond.code ({ cls := "SplitChannel$Tape", name := "append", desc := "(I)V" } : Jvm.MethodName) prog_9_method_2_code (3 : Nat) (Option.none : Option Jvm.ClassFile.FieldType)) ∈ mk_WL := mk_t2 137 rfl rfl
theorem mw_379 : (Jvm.Cond.static ({ cls := "SplitChannel", name := "put", desc := "([III)V" } : Jvm.MethodName)) ∈ mk_WL := mk_t2 139 rfl rfl
theorem mw_380 : (Jvm.Cond.code ({ cls := "SplitChannel", name := "put", desc := "([III)V" } : Jvm.MethodName) prog_1_method_41_code (3 : Nat) (Option.none : Option Jvm.ClassFile.FieldType)) ∈ mk_WL := mk_t2 140 rfl rfl
theorem mw_381 : (Jvm.Cond.methodLink "SplitChannelLaw" (18 : Nat) ({ cls := "SplitChannel", name := "end", desc := "(I)I" } : Jvm.MethodName)) ∈ mk_WL := mk_t2 141 rfl rfl
theorem mw_382 : (Jvm.Cond.instanceMethod ({ cls := "SplitChannel", name := "end", desc := "(I)I" } : Jvm.MethodName)) ∈ mk_WL := mk_t2 142 rfl rfl
theorem mw_383 : (Jvm.Cond.selects "SplitChannel" ({ cls := "SplitChannel", name := "end", desc := "(I)I" } : Jvm.MethodName) ({ cls := "SplitChannel", name := "end", desc := "(I)I" } : Jvm.MethodName)) ∈ mk_WL := mk_t2 143 rfl rfl
theorem mw_384 : (Jvm.Cond.code ({ cls := "SplitChannel", name := "end", desc := "(I)I" } : Jvm.MethodName) prog_1_method_3_code (2 : Nat) (Option.some Jvm.ClassFile.FieldType.int)) ∈ mk_WL := mk_t2 144 rfl rfl
theorem mw_385 : (Jvm.Cond.methodLink "SplitChannelLaw" (23 : Nat) ({ cls := "SplitChannel", name := "channel", desc := "()I" } : Jvm.MethodName)) ∈ mk_WL := mk_t2 145 rfl rfl
theorem mw_386 : (Jvm.Cond.instanceMethod ({ cls := "SplitChannel", name := "channel", desc := "()I" } : Jvm.MethodName)) ∈ mk_WL := mk_t2 146 rfl rfl
theorem mw_387 : (Jvm.Cond.selects "SplitChannel" ({ cls := "SplitChannel", name := "channel", desc := "()I" } : Jvm.MethodName) ({ cls := "SplitChannel", name := "channel", desc := "()I" } : Jvm.MethodName)) ∈ mk_WL := mk_t2 147 rfl rfl
theorem mw_388 : (Jvm.Cond.code ({ cls := "SplitChannel", name := "channel", desc := "()I" } : Jvm.MethodName) prog_1_method_4_code (2 : Nat) (Option.some Jvm.ClassFile.FieldType.int)) ∈ mk_WL := mk_t2 148 rfl rfl
theorem mw_389 : (Jvm.Cond.methodLink "SplitChannel" (74 : Nat) ({ cls := "SplitChannel$Reader", name := "read", desc := "()Z" } : Jvm.MethodName)) ∈ mk_WL := mk_t2 149 rfl rfl
theorem mw_390 : (Jvm.Cond.instanceMethod ({ cls := "SplitChannel$Reader", name := "read", desc := "()Z" } : Jvm.MethodName)) ∈ mk_WL := mk_t2 150 rfl rfl
theorem mw_391 : (Jvm.Cond.selects "SplitChannel$Reader" ({ cls := "SplitChannel$Reader", name := "read", desc := "()Z" } : Jvm.MethodName) ({ cls := "SplitChannel$Reader", name := "read", desc := "()Z" } : Jvm.MethodName)) ∈ mk_WL := mk_t2 151 rfl rfl
theorem mw_392 : (Jvm.Cond.code ({ cls := "SplitChannel$Reader", name := "read", desc := "()Z" } : Jvm.MethodName) prog_7_method_2_code (2 : Nat) (Option.some Jvm.ClassFile.FieldType.boolean)) ∈ mk_WL := mk_t2 152 rfl rfl
theorem mw_393 : (Jvm.Cond.methodLink "SplitChannel$Reader" (29 : Nat) ({ cls := "SplitChannel$Plan", name := "clear", desc := "()V" } : Jvm.MethodName)) ∈ mk_WL := mk_t2 153 rfl rfl
theorem mw_394 : (Jvm.Cond.instanceMethod ({ cls := "SplitChannel$Plan", name := "clear", desc := "()V" } : Jvm.MethodName)) ∈ mk_WL := mk_t2 154 rfl rfl
theorem mw_395 : (Jvm.Cond.selects "SplitChannel$Plan" ({ cls := "SplitChannel$Plan", name := "clear", desc := "()V" } : Jvm.MethodName) ({ cls := "SplitChannel$Plan", name := "clear", desc := "()V" } : Jvm.MethodName)) ∈ mk_WL := mk_t2 155 rfl rfl
theorem mw_396 : (Jvm.Cond.code ({ cls := "SplitChannel$Plan", name := "clear", desc := "()V" } : Jvm.MethodName) prog_5_method_2_code (1 : Nat) (Option.none : Option Jvm.ClassFile.FieldType)) ∈ mk_WL := mk_t2 156 rfl rfl
theorem mw_397 : (Jvm.Cond.methodLink "SplitChannel$Reader" (38 : Nat) ({ cls := "SplitChannel$Reader", name := "step", desc := "()V" } : Jvm.MethodName)) ∈ mk_WL := mk_t2 157 rfl rfl
theorem mw_398 : (Jvm.Cond.instanceMethod ({ cls := "SplitChannel$Reader", name := "step", desc := "()V" } : Jvm.MethodName)) ∈ mk_WL := mk_t2 158 rfl rfl
theorem mw_399 : (Jvm.Cond.selects "SplitChannel$Reader" ({ cls := "SplitChannel$Reader", name := "step", desc := "()V" } : Jvm.MethodName) ({ cls := "SplitChannel$Reader", name := "step", desc := "()V" } : Jvm.MethodName)) ∈ mk_WL := mk_t2 159 rfl rfl
theorem mw_400 : (Jvm.Cond.code ({ cls := "SplitChannel$Reader", name := "step", desc := "()V" } : Jvm.MethodName) prog_7_method_14_code (2 : Nat) (Option.none : Option Jvm.ClassFile.FieldType)) ∈ mk_WL := mk_t2 160 rfl rfl
theorem mw_402 : (Jvm.Cond.static ({ cls := "SplitChannel", name := "at", desc := "([II)I" } : Jvm.MethodName)) ∈ mk_WL := mk_t2 162 rfl rfl
theorem mw_403 : (Jvm.Cond.code ({ cls := "SplitChannel", name := "at", desc := "([II)I" } : Jvm.MethodName) prog_1_method_40_code (2 : Nat) (Option.some Jvm.ClassFile.FieldType.int)) ∈ mk_WL := mk_t2 163 rfl rfl
theorem mw_404 : (Jvm.Cond.methodLink "SplitChannel$Reader" (161 : Nat) ({ cls := "SplitChannel$Reader", name := "isBlank", desc := "(I)Z" } : Jvm.MethodName)) ∈ mk_WL := mk_t2 164 rfl rfl
theorem mw_405 : (Jvm.Cond.static ({ cls := "SplitChannel$Reader", name := "isBlank", desc := "(I)Z" } : Jvm.MethodName)) ∈ mk_WL := mk_t2 165 rfl rfl
theorem mw_406 : (Jvm.Cond.code ({ cls := "SplitChannel$Reader", name := "isBlank", desc := "(I)Z" } : Jvm.MethodName) prog_7_method_15_code (1 : Nat) (Option.some Jvm.ClassFile.FieldType.boolean)) ∈ mk_WL := mk_t2 166 rfl rfl
theorem mw_407 : (Jvm.Cond.methodLink "SplitChannel$Reader" (164 : Nat) ({ cls := "SplitChannel$Reader", name := "kindOf", desc := "(I)I" } : Jvm.MethodName)) ∈ mk_WL := mk_t2 167 rfl rfl
theorem mw_408 : (Jvm.Cond.static ({ cls := "SplitChannel$Reader", name := "kindOf", desc := "(I)I" } : Jvm.MethodName)) ∈ mk_WL := mk_t2 168 rfl rfl
theorem mw_409 : (Jvm.Cond.code ({ cls := "SplitChannel$Reader", name := "kindOf", desc := "(I)I" } : Jvm.MethodName) prog_7_method_16_code (1 : Nat) (Option.some Jvm.ClassFile.FieldType.int)) ∈ mk_WL := mk_t2 169 rfl rfl
theorem mw_410 : (Jvm.Cond.methodLink "SplitChannel$Reader" (44 : Nat) ({ cls := "SplitChannel$Reader", name := "readLine", desc := "()Z" } : Jvm.MethodName)) ∈ mk_WL := mk_t2 170 rfl rfl
theorem mw_411 : (Jvm.Cond.instanceMethod ({ cls := "SplitChannel$Reader", name := "readLine", desc := "()Z" } : Jvm.MethodName)) ∈ mk_WL := mk_t2 171 rfl rfl
theorem mw_412 : (Jvm.Cond.selects "SplitChannel$Reader" ({ cls := "SplitChannel$Reader", name := "readLine", desc := "()Z" } : Jvm.MethodName) ({ cls := "SplitChannel$Reader", name := "readLine", desc := "()Z" } : Jvm.MethodName)) ∈ mk_WL := mk_t2 172 rfl rfl
theorem mw_413 : (Jvm.Cond.code ({ cls := "SplitChannel$Reader", name := "readLine", desc := "()Z" } : Jvm.MethodName) prog_7_method_3_code (1 : Nat) (Option.some Jvm.ClassFile.FieldType.boolean)) ∈ mk_WL := mk_t2 173 rfl rfl
theorem mw_415 : (Jvm.Cond.methodLink "SplitChannel$Reader" (53 : Nat) ({ cls := "SplitChannel$Reader", name := "isWord", desc := "(Ljava/lang/String;)Z" } : Jvm.MethodName)) ∈ mk_WL := mk_t2 175 rfl rfl
theorem mw_416 : (Jvm.Cond.instanceMethod ({ cls := "SplitChannel$Reader", name := "isWord", desc := "(Ljava/lang/String;)Z" } : Jvm.MethodName)) ∈ mk_WL := mk_t2 176 rfl rfl
theorem mw_417 : (Jvm.Cond.selects "SplitChannel$Reader" ({ cls := "SplitChannel$Reader", name := "isWord", desc := "(Ljava/lang/String;)Z" } : Jvm.MethodName) ({ cls := "SplitChannel$Reader", name := "isWord", desc := "(Ljava/lang/String;)Z" } : Jvm.MethodName)) ∈ mk_WL := mk_t2 177 rfl rfl
theorem mw_418 : (Jvm.Cond.code ({ cls := "SplitChannel$Reader", name := "isWord", desc := "(Ljava/lang/String;)Z" } : Jvm.MethodName) prog_7_method_13_code (3 : Nat) (Option.some Jvm.ClassFile.FieldType.boolean)) ∈ mk_WL := mk_t2 178 rfl rfl
theorem mw_419 : (Jvm.Cond.methodLink "SplitChannel$Reader" (149 : Nat) ({ cls := "java/lang/String", name := "length", desc := "()I" } : Jvm.MethodName)) ∈ mk_WL := mk_t2 179 rfl rfl
theorem mw_420 : (Jvm.Cond.instanceMethod ({ cls := "java/lang/String", name := "length", desc := "()I" } : Jvm.MethodName)) ∈ mk_WL := mk_t2 180 rfl rfl
theorem mw_421 : (Jvm.Cond.selects "java/lang/String" ({ cls := "java/lang/String", name := "length", desc := "()I" } : Jvm.MethodName) ({ cls := "java/lang/String", name := "length", desc := "()I" } : Jvm.MethodName)) ∈ mk_WL := mk_t2 181 rfl rfl
theorem mw_422 : (Jvm.Cond.code ({ cls := "java/lang/String", name := "length", desc := "()I" } : Jvm.MethodName) prog_14_method_54_code (1 : Nat) (Option.some Jvm.ClassFile.FieldType.int)) ∈ mk_WL := mk_t2 182 rfl rfl
theorem mw_423 : (Jvm.Cond.methodLink "java/lang/String" (335 : Nat) ({ cls := "java/lang/String", name := "coder", desc := "()B" } : Jvm.MethodName)) ∈ mk_WL := mk_t2 183 rfl rfl
theorem mw_424 : (Jvm.Cond.instanceMethod ({ cls := "java/lang/String", name := "coder", desc := "()B" } : Jvm.MethodName)) ∈ mk_WL := mk_t2 184 rfl rfl
theorem mw_425 : (Jvm.Cond.selects "java/lang/String" ({ cls := "java/lang/String", name := "coder", desc := "()B" } : Jvm.MethodName) ({ cls := "java/lang/String", name := "coder", desc := "()B" } : Jvm.MethodName)) ∈ mk_WL := mk_t2 185 rfl rfl
theorem mw_426 : (Jvm.Cond.code ({ cls := "java/lang/String", name := "coder", desc := "()B" } : Jvm.MethodName) prog_14_method_152_code (1 : Nat) (Option.some Jvm.ClassFile.FieldType.byte)) ∈ mk_WL := mk_t2 186 rfl rfl
theorem mw_427 : (Jvm.Cond.fieldLink "java/lang/String" (38 : Nat) "java/lang/String" "COMPACT_STRINGS" "Z") ∈ mk_WL := mk_t2 187 rfl rfl
theorem mw_429 : (Jvm.Cond.methodLink "SplitChannel$Reader" (155 : Nat) ({ cls := "java/lang/String", name := "charAt", desc := "(I)C" } : Jvm.MethodName)) ∈ mk_WL := mk_t2 189 rfl rfl
theorem mw_430 : (Jvm.Cond.instanceMethod ({ cls := "java/lang/String", name := "charAt", desc := "(I)C" } : Jvm.MethodName)) ∈ mk_WL := mk_t2 190 rfl rfl
theorem mw_431 : (Jvm.Cond.selects "java/lang/String" ({ cls := "java/lang/String", name := "charAt", desc := "(I)C" } : Jvm.MethodName) ({ cls := "java/lang/String", name := "charAt", desc := "(I)C" } : Jvm.MethodName)) ∈ mk_WL := mk_t2 191 rfl rfl
theorem mw_432 : (Jvm.Cond.code ({ cls := "java/lang/String", name := "charAt", desc := "(I)C" } : Jvm.MethodName) prog_14_method_56_code (2 : Nat) (Option.some Jvm.ClassFile.FieldType.char)) ∈ mk_WL := mk_t2 192 rfl rfl
theorem mw_433 : (Jvm.Cond.methodLink "java/lang/String" (492 : Nat) ({ cls := "java/lang/String", name := "isLatin1", desc := "()Z" } : Jvm.MethodName)) ∈ mk_WL := mk_t2 193 rfl rfl
theorem mw_434 : (Jvm.Cond.instanceMethod ({ cls := "java/lang/String", name := "isLatin1", desc := "()Z" } : Jvm.MethodName)) ∈ mk_WL := mk_t2 194 rfl rfl
theorem mw_435 : (Jvm.Cond.selects "java/lang/String" ({ cls := "java/lang/String", name := "isLatin1", desc := "()Z" } : Jvm.MethodName) ({ cls := "java/lang/String", name := "isLatin1", desc := "()Z" } : Jvm.MethodName)) ∈ mk_WL := mk_t2 195 rfl rfl
theorem mw_436 : (Jvm.Cond.code ({ cls := "java/lang/String", name := "isLatin1", desc := "()Z" } : Jvm.MethodName) prog_14_method_154_code (1 : Nat) (Option.some Jvm.ClassFile.FieldType.boolean)) ∈ mk_WL := mk_t2 196 rfl rfl
theorem mw_437 : (Jvm.Cond.methodLink "java/lang/String" (495 : Nat) ({ cls := "java/lang/StringLatin1", name := "charAt", desc := "([BI)C" } : Jvm.MethodName)) ∈ mk_WL := mk_t2 197 rfl rfl
theorem mw_438 : (Jvm.Cond.static ({ cls := "java/lang/StringLatin1", name := "charAt", desc := "([BI)C" } : Jvm.MethodName)) ∈ mk_WL := mk_t2 198 rfl rfl
theorem mw_439 : (Jvm.Cond.code ({ cls := "java/lang/StringLatin1", name := "charAt", desc := "([BI)C" } : Jvm.MethodName) prog_15_method_2_code (2 : Nat) (Option.some Jvm.ClassFile.FieldType.char)) ∈ mk_WL := mk_t2 199 rfl rfl
theorem mw_440 : (Jvm.Cond.methodLink "java/lang/StringLatin1" (9 : Nat) ({ cls := "java/lang/String", name := "checkIndex", desc := "(II)V" } : Jvm.MethodName)) ∈ mk_WL := mk_t2 200 rfl rfl
theorem mw_441 : (Jvm.Cond.static ({ cls := "java/lang/String", name := "checkIndex", desc := "(II)V" } : Jvm.MethodName)) ∈ mk_WL := mk_t2 201 rfl rfl
theorem mw_442 : (Jvm.Cond.code ({ cls := "java/lang/String", name := "checkIndex", desc := "(II)V" } : Jvm.MethodName) prog_14_method_155_code (2 : Nat) (Option.none : Option Jvm.ClassFile.FieldType)) ∈ mk_WL := mk_t2 202 rfl rfl
theorem mw_443 : (Jvm.Cond.fieldLink "java/lang/String" (1053 : Nat) "jdk/internal/util/Preconditions" "SIOOBE_FORMATTER" "Ljava/util/function/BiFunction;") ∈ mk_WL := mk_t2 203 rfl rfl
theorem mw_445 : (Jvm.Cond.methodLink "java/lang/String" (1059 : Nat) ({ cls := "jdk/internal/util/Preconditions", name := "checkIndex", desc := "(IILjava/util/function/BiFunction;)I" } : Jvm.MethodName)) ∈ mk_WL := mk_t2 205 rfl rfl
theorem mw_446 : (Jvm.Cond.static ({ cls := "jdk/internal/util/Preconditions", name := "checkIndex", desc := "(IILjava/util/function/BiFunction;)I" } : Jvm.MethodName)) ∈ mk_WL := mk_t2 206 rfl rfl
theorem mw_447 : (Jvm.Cond.code ({ cls := "jdk/internal/util/Preconditions", name := "checkIndex", desc := "(IILjava/util/function/BiFunction;)I" } : Jvm.MethodName) prog_18_method_11_code (3 : Nat) (Option.some Jvm.ClassFile.FieldType.int)) ∈ mk_WL := mk_t2 207 rfl rfl
theorem mw_448 : (Jvm.Cond.methodLink "java/lang/String" (498 : Nat) ({ cls := "java/lang/StringUTF16", name := "charAt", desc := "([BI)C" } : Jvm.MethodName)) ∈ mk_WL := mk_t2 208 rfl rfl
theorem mw_449 : (Jvm.Cond.static ({ cls := "java/lang/StringUTF16", name := "charAt", desc := "([BI)C" } : Jvm.MethodName)) ∈ mk_WL := mk_t2 209 rfl rfl
theorem mw_450 : (Jvm.Cond.code ({ cls := "java/lang/StringUTF16", name := "charAt", desc := "([BI)C" } : Jvm.MethodName) prog_16_method_83_code (2 : Nat) (Option.some Jvm.ClassFile.FieldType.char)) ∈ mk_WL := mk_t2 210 rfl rfl
theorem mw_451 : (Jvm.Cond.methodLink "java/lang/StringUTF16" (67 : Nat) ({ cls := "java/lang/StringUTF16", name := "checkIndex", desc := "(I[B)V" } : Jvm.MethodName)) ∈ mk_WL := mk_t2 211 rfl rfl
theorem mw_452 : (Jvm.Cond.static ({ cls := "java/lang/StringUTF16", name := "checkIndex", desc := "(I[B)V" } : Jvm.MethodName)) ∈ mk_WL := mk_t2 212 rfl rfl
theorem mw_453 : (Jvm.Cond.code ({ cls := "java/lang/StringUTF16", name := "checkIndex", desc := "(I[B)V" } : Jvm.MethodName) prog_16_method_91_code (2 : Nat) (Option.none : Option Jvm.ClassFile.FieldType)) ∈ mk_WL := mk_t2 213 rfl rfl
theorem mw_454 : (Jvm.Cond.methodLink "java/lang/StringUTF16" (48 : Nat) ({ cls := "java/lang/StringUTF16", name := "length", desc := "([B)I" } : Jvm.MethodName)) ∈ mk_WL := mk_t2 214 rfl rfl
theorem mw_455 : (Jvm.Cond.static ({ cls := "java/lang/StringUTF16", name := "length", desc := "([B)I" } : Jvm.MethodName)) ∈ mk_WL := mk_t2 215 rfl rfl
theorem mw_456 : (Jvm.Cond.code ({ cls := "java/lang/StringUTF16", name := "length", desc := "([B)I" } : Jvm.MethodName) prog_16_method_6_code (1 : Nat) (Option.some Jvm.ClassFile.FieldType.int)) ∈ mk_WL := mk_t2 216 rfl rfl
theorem mw_457 : (Jvm.Cond.methodLink "java/lang/StringUTF16" (414 : Nat) ({ cls := "java/lang/String", name := "checkIndex", desc := "(II)V" } : Jvm.MethodName)) ∈ mk_WL := mk_t2 217 rfl rfl
theorem mw_458 : (Jvm.Cond.methodLink "java/lang/StringUTF16" (71 : Nat) ({ cls := "java/lang/StringUTF16", name := "getChar", desc := "([BI)C" } : Jvm.MethodName)) ∈ mk_WL := mk_t2 218 rfl rfl
theorem mw_459 : (Jvm.Cond.static ({ cls := "java/lang/StringUTF16", name := "getChar", desc := "([BI)C" } : Jvm.MethodName)) ∈ mk_WL := mk_t2 219 rfl rfl
theorem mw_460 : (Jvm.Cond.code ({ cls := "java/lang/StringUTF16", name := "getChar", desc := "([BI)C" } : Jvm.MethodName) prog_16_method_5_code (2 : Nat) (Option.some Jvm.ClassFile.FieldType.char)) ∈ mk_WL := mk_t2 220 rfl rfl
theorem mw_461 : (Jvm.Cond.fieldLink "java/lang/StringUTF16" (44 : Nat) "java/lang/StringUTF16" "$assertionsDisabled" "Z") ∈ mk_WL := mk_t2 221 rfl rfl
theorem mw_463 : (Jvm.Cond.fieldLink "java/lang/StringUTF16" (59 : Nat) "java/lang/StringUTF16" "HI_BYTE_SHIFT" "I") ∈ mk_WL := mk_t2 223 rfl rfl
theorem mw_465 : (Jvm.Cond.fieldLink "java/lang/StringUTF16" (63 : Nat) "java/lang/StringUTF16" "LO_BYTE_SHIFT" "I") ∈ mk_WL := mk_t2 225 rfl rfl
theorem mw_467 : (Jvm.Cond.methodLink "SplitChannel$Reader" (57 : Nat) ({ cls := "SplitChannel$Reader", name := "readChannel", desc := "()Z" } : Jvm.MethodName)) ∈ mk_WL := mk_t2 227 rfl rfl
theorem mw_468 : (Jvm.Cond.instanceMethod ({ cls := "SplitChannel$Reader", name := "readChannel", desc := "()Z" } : Jvm.MethodName)) ∈ mk_WL := mk_t2 228 rfl rfl
theorem mw_469 : (Jvm.Cond.selects "SplitChannel$Reader" ({ cls := "SplitChannel$Reader", name := "readChannel", desc := "()Z" } : Jvm.MethodName) ({ cls := "SplitChannel$Reader", name := "readChannel", desc := "()Z" } : Jvm.MethodName)) ∈ mk_WL := mk_t2 229 rfl rfl
theorem mw_470 : (Jvm.Cond.code ({ cls := "SplitChannel$Reader", name := "readChannel", desc := "()Z" } : Jvm.MethodName) prog_7_method_4_code (1 : Nat) (Option.some Jvm.ClassFile.FieldType.boolean)) ∈ mk_WL := mk_t2 230 rfl rfl
theorem mw_472 : (Jvm.Cond.methodLink "SplitChannel$Reader" (76 : Nat) ({ cls := "SplitChannel$Reader", name := "readWord", desc := "(Ljava/lang/String;)Z" } : Jvm.MethodName)) ∈ mk_WL := mk_t2 232 rfl rfl
theorem mw_473 : (Jvm.Cond.instanceMethod ({ cls := "SplitChannel$Reader", name := "readWord", desc := "(Ljava/lang/String;)Z" } : Jvm.MethodName)) ∈ mk_WL := mk_t2 233 rfl rfl
theorem mw_474 : (Jvm.Cond.selects "SplitChannel$Reader" ({ cls := "SplitChannel$Reader", name := "readWord", desc := "(Ljava/lang/String;)Z" } : Jvm.MethodName) ({ cls := "SplitChannel$Reader", name := "readWord", desc := "(Ljava/lang/String;)Z" } : Jvm.MethodName)) ∈ mk_WL := mk_t2 234 rfl rfl
theorem mw_475 : (Jvm.Cond.code ({ cls := "SplitChannel$Reader", name := "readWord", desc := "(Ljava/lang/String;)Z" } : Jvm.MethodName) prog_7_method_7_code (2 : Nat) (Option.some Jvm.ClassFile.FieldType.boolean)) ∈ mk_WL := mk_t2 235 rfl rfl
theorem mw_476 : (Jvm.Cond.methodLink "SplitChannel$Reader" (60 : Nat) ({ cls := "SplitChannel$Reader", name := "refuse", desc := "(I)Z" } : Jvm.MethodName)) ∈ mk_WL := mk_t2 236 rfl rfl
theorem mw_477 : (Jvm.Cond.instanceMethod ({ cls := "SplitChannel$Reader", name := "refuse", desc := "(I)Z" } : Jvm.MethodName)) ∈ mk_WL := mk_t2 237 rfl rfl
theorem mw_478 : (Jvm.Cond.selects "SplitChannel$Reader" ({ cls := "SplitChannel$Reader", name := "refuse", desc := "(I)Z" } : Jvm.MethodName) ({ cls := "SplitChannel$Reader", name := "refuse", desc := "(I)Z" } : Jvm.MethodName)) ∈ mk_WL := mk_t2 238 rfl rfl
theorem mw_479 : (Jvm.Cond.code ({ cls := "SplitChannel$Reader", name := "refuse", desc := "(I)Z" } : Jvm.MethodName) prog_7_method_12_code (2 : Nat) (Option.some Jvm.ClassFile.FieldType.boolean)) ∈ mk_WL := mk_t2 239 rfl rfl
theorem mw_480 : (Jvm.Cond.methodLink "SplitChannel$Reader" (79 : Nat) ({ cls := "SplitChannel$Reader", name := "readNumber", desc := "(II)Z" } : Jvm.MethodName)) ∈ mk_WL := mk_t3 0 rfl rfl
theorem mw_481 : (Jvm.Cond.instanceMethod ({ cls := "SplitChannel$Reader", name := "readNumber", desc := "(II)Z" } : Jvm.MethodName)) ∈ mk_WL := mk_t3 1 rfl rfl
theorem mw_482 : (Jvm.Cond.selects "SplitChannel$Reader" ({ cls := "SplitChannel$Reader", name := "readNumber", desc := "(II)Z" } : Jvm.MethodName) ({ cls := "SplitChannel$Reader", name := "readNumber", desc := "(II)Z" } : Jvm.MethodName)) ∈ mk_WL := mk_t3 2 rfl rfl
theorem mw_483 : (Jvm.Cond.code ({ cls := "SplitChannel$Reader", name := "readNumber", desc := "(II)Z" } : Jvm.MethodName) prog_7_method_8_code (4 : Nat) (Option.some Jvm.ClassFile.FieldType.boolean)) ∈ mk_WL := mk_t3 3 rfl rfl
theorem mw_484 : (Jvm.Cond.constant "SplitChannel$Reader" (142 : Nat) (1000000 : Int32)) ∈ mk_WL := mk_t3 4 rfl rfl
theorem mw_488 : (Jvm.Cond.methodLink "SplitChannel$Reader" (100 : Nat) ({ cls := "SplitChannel$Reader", name := "readSign", desc := "()Z" } : Jvm.MethodName)) ∈ mk_WL := mk_t3 8 rfl rfl
theorem mw_489 : (Jvm.Cond.instanceMethod ({ cls := "SplitChannel$Reader", name := "readSign", desc := "()Z" } : Jvm.MethodName)) ∈ mk_WL := mk_t3 9 rfl rfl
theorem mw_490 : (Jvm.Cond.selects "SplitChannel$Reader" ({ cls := "SplitChannel$Reader", name := "readSign", desc := "()Z" } : Jvm.MethodName) ({ cls := "SplitChannel$Reader", name := "readSign", desc := "()Z" } : Jvm.MethodName)) ∈ mk_WL := mk_t3 10 rfl rfl
theorem mw_491 : (Jvm.Cond.code ({ cls := "SplitChannel$Reader", name := "readSign", desc := "()Z" } : Jvm.MethodName) prog_7_method_11_code (1 : Nat) (Option.some Jvm.ClassFile.FieldType.boolean)) ∈ mk_WL := mk_t3 11 rfl rfl
theorem mw_493 : (Jvm.Cond.methodLink "SplitChannel$Reader" (66 : Nat) ({ cls := "SplitChannel$Reader", name := "readSender", desc := "()Z" } : Jvm.MethodName)) ∈ mk_WL := mk_t3 13 rfl rfl
theorem mw_494 : (Jvm.Cond.instanceMethod ({ cls := "SplitChannel$Reader", name := "readSender", desc := "()Z" } : Jvm.MethodName)) ∈ mk_WL := mk_t3 14 rfl rfl
theorem mw_495 : (Jvm.Cond.selects "SplitChannel$Reader" ({ cls := "SplitChannel$Reader", name := "readSender", desc := "()Z" } : Jvm.MethodName) ({ cls := "SplitChannel$Reader", name := "readSender", desc := "()Z" } : Jvm.MethodName)) ∈ mk_WL := mk_t3 15 rfl rfl
theorem mw_496 : (Jvm.Cond.code ({ cls := "SplitChannel$Reader", name := "readSender", desc := "()Z" } : Jvm.MethodName) prog_7_method_5_code (2 : Nat) (Option.some Jvm.ClassFile.FieldType.boolean)) ∈ mk_WL := mk_t3 16 rfl rfl
theorem mw_499 : (Jvm.Cond.methodLink "SplitChannel$Reader" (110 : Nat) ({ cls := "SplitChannel$Reader", name := "readBits", desc := "()Z" } : Jvm.MethodName)) ∈ mk_WL := mk_t3 19 rfl rfl
theorem mw_500 : (Jvm.Cond.instanceMethod ({ cls := "SplitChannel$Reader", name := "readBits", desc := "()Z" } : Jvm.MethodName)) ∈ mk_WL := mk_t3 20 rfl rfl
theorem mw_501 : (Jvm.Cond.selects "SplitChannel$Reader" ({ cls := "SplitChannel$Reader", name := "readBits", desc := "()Z" } : Jvm.MethodName) ({ cls := "SplitChannel$Reader", name := "readBits", desc := "()Z" } : Jvm.MethodName)) ∈ mk_WL := mk_t3 21 rfl rfl
theorem mw_502 : (Jvm.Cond.code ({ cls := "SplitChannel$Reader", name := "readBits", desc := "()Z" } : Jvm.MethodName) prog_7_method_9_code (3 : Nat) (Option.some Jvm.ClassFile.FieldType.boolean)) ∈ mk_WL := mk_t3 22 rfl rfl
theorem mw_503 : (Jvm.Cond.methodLink "SplitChannel$Reader" (116 : Nat) ({ cls := "SplitChannel$Plan", name := "addSender", desc := "(III)V" } : Jvm.MethodName)) ∈ mk_WL := mk_t3 23 rfl rfl
theorem mw_504 : (Jvm.Cond.instanceMethod ({ cls := "SplitChannel$Plan", name := "addSender", desc := "(III)V" } : Jvm.MethodName)) ∈ mk_WL := mk_t3 24 rfl rfl
theorem mw_505 : (Jvm.Cond.selects "SplitChannel$Plan" ({ cls := "SplitChannel$Plan", name := "addSender", desc := "(III)V" } : Jvm.MethodName) ({ cls := "SplitChannel$Plan", name := "addSender", desc := "(III)V" } : Jvm.MethodName)) ∈ mk_WL := mk_t3 25 rfl rfl
theorem mw_506 : (Jvm.Cond.code ({ cls := "SplitChannel$Plan", name := "addSender", desc := "(III)V" } : Jvm.MethodName) prog_5_method_4_code (4 : Nat) (Option.none : Option Jvm.ClassFile.FieldType)) ∈ mk_WL := mk_t3 26 rfl rfl
theorem mw_509 : (Jvm.Cond.methodLink "SplitChannel$Reader" (71 : Nat) ({ cls := "SplitChannel$Reader", name := "readNoise", desc := "()Z" } : Jvm.MethodName)) ∈ mk_WL := mk_t3 29 rfl rfl
theorem mw_510 : (Jvm.Cond.instanceMethod ({ cls := "SplitChannel$Reader", name := "readNoise", desc := "()Z" } : Jvm.MethodName)) ∈ mk_WL := mk_t3 30 rfl rfl
theorem mw_511 : (Jvm.Cond.selects "SplitChannel$Reader" ({ cls := "SplitChannel$Reader", name := "readNoise", desc := "()Z" } : Jvm.MethodName) ({ cls := "SplitChannel$Reader", name := "readNoise", desc := "()Z" } : Jvm.MethodName)) ∈ mk_WL := mk_t3 31 rfl rfl
theorem mw_512 : (Jvm.Cond.code ({ cls := "SplitChannel$Reader", name := "readNoise", desc := "()Z" } : Jvm.MethodName) prog_7_method_6_code (2 : Nat) (Option.some Jvm.ClassFile.FieldType.boolean)) ∈ mk_WL := mk_t3 32 rfl rfl
theorem mw_513 : (Jvm.Cond.methodLink "SplitChannel$Reader" (123 : Nat) ({ cls := "SplitChannel$Plan", name := "isNoisy", desc := "(I)Z" } : Jvm.MethodName)) ∈ mk_WL := mk_t3 33 rfl rfl
theorem mw_514 : (Jvm.Cond.instanceMethod ({ cls := "SplitChannel$Plan", name := "isNoisy", desc := "(I)Z" } : Jvm.MethodName)) ∈ mk_WL := mk_t3 34 rfl rfl
theorem mw_515 : (Jvm.Cond.selects "SplitChannel$Plan" ({ cls := "SplitChannel$Plan", name := "isNoisy", desc := "(I)Z" } : Jvm.MethodName) ({ cls := "SplitChannel$Plan", name := "isNoisy", desc := "(I)Z" } : Jvm.MethodName)) ∈ mk_WL := mk_t3 35 rfl rfl
theorem mw_516 : (Jvm.Cond.code ({ cls := "SplitChannel$Plan", name := "isNoisy", desc := "(I)Z" } : Jvm.MethodName) prog_5_method_10_code (3 : Nat) (Option.some Jvm.ClassFile.FieldType.boolean)) ∈ mk_WL := mk_t3 36 rfl rfl
theorem mw_519 : (Jvm.Cond.methodLink "SplitChannel$Reader" (128 : Nat) ({ cls := "SplitChannel$Reader", name := "readKind", desc := "()Z" } : Jvm.MethodName)) ∈ mk_WL := mk_t3 39 rfl rfl
theorem mw_520 : (Jvm.Cond.instanceMethod ({ cls := "SplitChannel$Reader", name := "readKind", desc := "()Z" } : Jvm.MethodName)) ∈ mk_WL := mk_t3 40 rfl rfl
theorem mw_521 : (Jvm.Cond.selects "SplitChannel$Reader" ({ cls := "SplitChannel$Reader", name := "readKind", desc := "()Z" } : Jvm.MethodName) ({ cls := "SplitChannel$Reader", name := "readKind", desc := "()Z" } : Jvm.MethodName)) ∈ mk_WL := mk_t3 41 rfl rfl
theorem mw_522 : (Jvm.Cond.code ({ cls := "SplitChannel$Reader", name := "readKind", desc := "()Z" } : Jvm.MethodName) prog_7_method_10_code (1 : Nat) (Option.some Jvm.ClassFile.FieldType.boolean)) ∈ mk_WL := mk_t3 42 rfl rfl
theorem mw_526 : (Jvm.Cond.methodLink "SplitChannel$Reader" (131 : Nat) ({ cls := "SplitChannel$Plan", name := "addNoise", desc := "(II)V" } : Jvm.MethodName)) ∈ mk_WL := mk_t3 46 rfl rfl
theorem mw_527 : (Jvm.Cond.instanceMethod ({ cls := "SplitChannel$Plan", name := "addNoise", desc := "(II)V" } : Jvm.MethodName)) ∈ mk_WL := mk_t3 47 rfl rfl
theorem mw_528 : (Jvm.Cond.selects "SplitChannel$Plan" ({ cls := "SplitChannel$Plan", name := "addNoise", desc := "(II)V" } : Jvm.MethodName) ({ cls := "SplitChannel$Plan", name := "addNoise", desc := "(II)V" } : Jvm.MethodName)) ∈ mk_WL := mk_t3 48 rfl rfl
theorem mw_529 : (Jvm.Cond.code ({ cls := "SplitChannel$Plan", name := "addNoise", desc := "(II)V" } : Jvm.MethodName) prog_5_method_5_code (3 : Nat) (Option.none : Option Jvm.ClassFile.FieldType)) ∈ mk_WL := mk_t3 49 rfl rfl
theorem mw_530 : (Jvm.Cond.methodLink "SplitChannel" (78 : Nat) ({ cls := "SplitChannel$Plan", name := "become", desc := "(LSplitChannel$Plan;)V" } : Jvm.MethodName)) ∈ mk_WL := mk_t3 50 rfl rfl
theorem mw_531 : (Jvm.Cond.instanceMethod ({ cls := "SplitChannel$Plan", name := "become", desc := "(LSplitChannel$Plan;)V" } : Jvm.MethodName)) ∈ mk_WL := mk_t3 51 rfl rfl
theorem mw_532 : (Jvm.Cond.selects "SplitChannel$Plan" ({ cls := "SplitChannel$Plan", name := "become", desc := "(LSplitChannel$Plan;)V" } : Jvm.MethodName) ({ cls := "SplitChannel$Plan", name := "become", desc := "(LSplitChannel$Plan;)V" } : Jvm.MethodName)) ∈ mk_WL := mk_t3 52 rfl rfl
theorem mw_533 : (Jvm.Cond.code ({ cls := "SplitChannel$Plan", name := "become", desc := "(LSplitChannel$Plan;)V" } : Jvm.MethodName) prog_5_method_3_code (3 : Nat) (Option.none : Option Jvm.ClassFile.FieldType)) ∈ mk_WL := mk_t3 53 rfl rfl
theorem mw_534 : (Jvm.Cond.methodLink "SplitChannel$Plan" (49 : Nat) ({ cls := "SplitChannel$Plan", name := "clear", desc := "()V" } : Jvm.MethodName)) ∈ mk_WL := mk_t3 54 rfl rfl
theorem mw_535 : (Jvm.Cond.methodLink "SplitChannel$Plan" (56 : Nat) ({ cls := "SplitChannel$Plan", name := "addSender", desc := "(III)V" } : Jvm.MethodName)) ∈ mk_WL := mk_t3 55 rfl rfl
theorem mw_536 : (Jvm.Cond.methodLink "SplitChannel$Plan" (60 : Nat) ({ cls := "SplitChannel$Plan", name := "addNoise", desc := "(II)V" } : Jvm.MethodName)) ∈ mk_WL := mk_t3 56 rfl rfl
theorem mw_537 : (Jvm.Cond.methodLink "SplitChannel" (90 : Nat) ({ cls := "SplitChannel$Play", name := "run", desc := "(LSplitChannel$Course;III)I" } : Jvm.MethodName)) ∈ mk_WL := mk_t3 57 rfl rfl
theorem mw_538 : (Jvm.Cond.instanceMethod ({ cls := "SplitChannel$Play", name := "run", desc := "(LSplitChannel$Course;III)I" } : Jvm.MethodName)) ∈ mk_WL := mk_t3 58 rfl rfl
theorem mw_539 : (Jvm.Cond.selects "SplitChannel$Play" ({ cls := "SplitChannel$Play", name := "run", desc := "(LSplitChannel$Course;III)I" } : Jvm.MethodName) ({ cls := "SplitChannel$Play", name := "run", desc := "(LSplitChannel$Course;III)I" } : Jvm.MethodName)) ∈ mk_WL := mk_t3 59 rfl rfl
theorem mw_540 : (Jvm.Cond.code ({ cls := "SplitChannel$Play", name := "run", desc := "(LSplitChannel$Course;III)I" } : Jvm.MethodName) prog_6_method_2_code (6 : Nat) (Option.some Jvm.ClassFile.FieldType.int)) ∈ mk_WL := mk_t3 60 rfl rfl
theorem mw_541 : (Jvm.Cond.methodLink "SplitChannel$Play" (68 : Nat) ({ cls := "java/util/Arrays", name := "fill", desc := "([II)V" } : Jvm.MethodName)) ∈ mk_WL := mk_t3 61 rfl rfl
theorem mw_542 : (Jvm.Cond.static ({ cls := "java/util/Arrays", name := "fill", desc := "([II)V" } : Jvm.MethodName)) ∈ mk_WL := mk_t3 62 rfl rfl
theorem mw_543 : (Jvm.Cond.code ({ cls := "java/util/Arrays", name := "fill", desc := "([II)V" } : Jvm.MethodName) prog_17_method_103_code (4 : Nat) (Option.none : Option Jvm.ClassFile.FieldType)) ∈ mk_WL := mk_t3 63 rfl rfl
theorem mw_544 : (Jvm.Cond.methodLink "SplitChannel$Play" (74 : Nat) ({ cls := "SplitChannel$Course", name := "clear", desc := "()V" } : Jvm.MethodName)) ∈ mk_WL := mk_t3 64 rfl rfl
theorem mw_545 : (Jvm.Cond.instanceMethod ({ cls := "SplitChannel$Course", name := "clear", desc := "()V" } : Jvm.MethodName)) ∈ mk_WL := mk_t3 65 rfl rfl
theorem mw_546 : (Jvm.Cond.selects "SplitChannel$Course" ({ cls := "SplitChannel$Course", name := "clear", desc := "()V" } : Jvm.MethodName) ({ cls := "SplitChannel$Course", name := "clear", desc := "()V" } : Jvm.MethodName)) ∈ mk_WL := mk_t3 66 rfl rfl
theorem mw_547 : (Jvm.Cond.code ({ cls := "SplitChannel$Course", name := "clear", desc := "()V" } : Jvm.MethodName) prog_3_method_2_code (1 : Nat) (Option.none : Option Jvm.ClassFile.FieldType)) ∈ mk_WL := mk_t3 67 rfl rfl
theorem mw_548 : (Jvm.Cond.methodLink "SplitChannel$Course" (48 : Nat) ({ cls := "java/util/Arrays", name := "fill", desc := "([II)V" } : Jvm.MethodName)) ∈ mk_WL := mk_t3 68 rfl rfl
theorem mw_549 : (Jvm.Cond.methodLink "SplitChannel$Play" (80 : Nat) ({ cls := "SplitChannel$Play", name := "welcome", desc := "(I)V" } : Jvm.MethodName)) ∈ mk_WL := mk_t3 69 rfl rfl
theorem mw_550 : (Jvm.Cond.instanceMethod ({ cls := "SplitChannel$Play", name := "welcome", desc := "(I)V" } : Jvm.MethodName)) ∈ mk_WL := mk_t3 70 rfl rfl
theorem mw_551 : (Jvm.Cond.selects "SplitChannel$Play" ({ cls := "SplitChannel$Play", name := "welcome", desc := "(I)V" } : Jvm.MethodName) ({ cls := "SplitChannel$Play", name := "welcome", desc := "(I)V" } : Jvm.MethodName)) ∈ mk_WL := mk_t3 71 rfl rfl
theorem mw_552 : (Jvm.Cond.code ({ cls := "SplitChannel$Play", name := "welcome", desc := "(I)V" } : Jvm.MethodName) prog_6_method_3_code (3 : Nat) (Option.none : Option Jvm.ClassFile.FieldType)) ∈ mk_WL := mk_t3 72 rfl rfl
theorem mw_554 : (Jvm.Cond.methodLink "SplitChannel$Play" (84 : Nat) ({ cls := "SplitChannel$Play", name := "playByCounters", desc := "(I)V" } : Jvm.MethodName)) ∈ mk_WL := mk_t3 74 rfl rfl
theorem mw_555 : (Jvm.Cond.instanceMethod ({ cls := "SplitChannel$Play", name := "playByCounters", desc := "(I)V" } : Jvm.MethodName)) ∈ mk_WL := mk_t3 75 rfl rfl
theorem mw_556 : (Jvm.Cond.selects "SplitChannel$Play" ({ cls := "SplitChannel$Play", name := "playByCounters", desc := "(I)V" } : Jvm.MethodName) ({ cls := "SplitChannel$Play", name := "playByCounters", desc := "(I)V" } : Jvm.MethodName)) ∈ mk_WL := mk_t3 76 rfl rfl
theorem mw_557 : (Jvm.Cond.code ({ cls := "SplitChannel$Play", name := "playByCounters", desc := "(I)V" } : Jvm.MethodName) prog_6_method_14_code (6 : Nat) (Option.none : Option Jvm.ClassFile.FieldType)) ∈ mk_WL := mk_t3 77 rfl rfl
theorem mw_558 : (Jvm.Cond.methodLink "SplitChannel$Play" (110 : Nat) ({ cls := "SplitChannel$Play", name := "listen", desc := "(II)I" } : Jvm.MethodName)) ∈ mk_WL := mk_t3 78 rfl rfl
theorem mw_559 : (Jvm.Cond.instanceMethod ({ cls := "SplitChannel$Play", name := "listen", desc := "(II)I" } : Jvm.MethodName)) ∈ mk_WL := mk_t3 79 rfl rfl
theorem mw_560 : (Jvm.Cond.selects "SplitChannel$Play" ({ cls := "SplitChannel$Play", name := "listen", desc := "(II)I" } : Jvm.MethodName) ({ cls := "SplitChannel$Play", name := "listen", desc := "(II)I" } : Jvm.MethodName)) ∈ mk_WL := mk_t3 80 rfl rfl
theorem mw_561 : (Jvm.Cond.code ({ cls := "SplitChannel$Play", name := "listen", desc := "(II)I" } : Jvm.MethodName) prog_6_method_12_code (7 : Nat) (Option.some Jvm.ClassFile.FieldType.int)) ∈ mk_WL := mk_t3 81 rfl rfl
theorem mw_562 : (Jvm.Cond.methodLink "SplitChannel$Play" (191 : Nat) ({ cls := "java/lang/Integer", name := "bitCount", desc := "(I)I" } : Jvm.MethodName)) ∈ mk_WL := mk_t3 82 rfl rfl
theorem mw_563 : (Jvm.Cond.static ({ cls := "java/lang/Integer", name := "bitCount", desc := "(I)I" } : Jvm.MethodName)) ∈ mk_WL := mk_t3 83 rfl rfl
theorem mw_564 : (Jvm.Cond.code ({ cls := "java/lang/Integer", name := "bitCount", desc := "(I)I" } : Jvm.MethodName) prog_12_method_49_code (1 : Nat) (Option.some Jvm.ClassFile.FieldType.int)) ∈ mk_WL := mk_t3 84 rfl rfl
theorem mw_565 : (Jvm.Cond.constant "java/lang/Integer" (265 : Nat) (1431655765 : Int32)) ∈ mk_WL := mk_t3 85 rfl rfl
theorem mw_566 : (Jvm.Cond.constant "java/lang/Integer" (266 : Nat) (858993459 : Int32)) ∈ mk_WL := mk_t3 86 rfl rfl
theorem mw_567 : (Jvm.Cond.constant "java/lang/Integer" (267 : Nat) (252645135 : Int32)) ∈ mk_WL := mk_t3 87 rfl rfl
theorem mw_568 : (Jvm.Cond.methodLink "SplitChannel$Play" (143 : Nat) ({ cls := "java/lang/Math", name := "min", desc := "(II)I" } : Jvm.MethodName)) ∈ mk_WL := mk_t3 88 rfl rfl
theorem mw_569 : (Jvm.Cond.static ({ cls := "java/lang/Math", name := "min", desc := "(II)I" } : Jvm.MethodName)) ∈ mk_WL := mk_t3 89 rfl rfl
theorem mw_570 : (Jvm.Cond.code ({ cls := "java/lang/Math", name := "min", desc := "(II)I" } : Jvm.MethodName) prog_13_method_69_code (2 : Nat) (Option.some Jvm.ClassFile.FieldType.int)) ∈ mk_WL := mk_t3 90 rfl rfl
theorem mw_571 : (Jvm.Cond.methodLink "SplitChannel$Play" (196 : Nat) ({ cls := "SplitChannel$Play", name := "heardAt", desc := "(II)I" } : Jvm.MethodName)) ∈ mk_WL := mk_t3 91 rfl rfl
theorem mw_572 : (Jvm.Cond.instanceMethod ({ cls := "SplitChannel$Play", name := "heardAt", desc := "(II)I" } : Jvm.MethodName)) ∈ mk_WL := mk_t3 92 rfl rfl
theorem mw_573 : (Jvm.Cond.selects "SplitChannel$Play" ({ cls := "SplitChannel$Play", name := "heardAt", desc := "(II)I" } : Jvm.MethodName) ({ cls := "SplitChannel$Play", name := "heardAt", desc := "(II)I" } : Jvm.MethodName)) ∈ mk_WL := mk_t3 93 rfl rfl
theorem mw_574 : (Jvm.Cond.code ({ cls := "SplitChannel$Play", name := "heardAt", desc := "(II)I" } : Jvm.MethodName) prog_6_method_13_code (4 : Nat) (Option.some Jvm.ClassFile.FieldType.int)) ∈ mk_WL := mk_t3 94 rfl rfl
theorem mw_576 : (Jvm.Cond.methodLink "SplitChannel$Play" (208 : Nat) ({ cls := "SplitChannel$Course", name := "deliver", desc := "(II)V" } : Jvm.MethodName)) ∈ mk_WL := mk_t3 96 rfl rfl
theorem mw_577 : (Jvm.Cond.instanceMethod ({ cls := "SplitChannel$Course", name := "deliver", desc := "(II)V" } : Jvm.MethodName)) ∈ mk_WL := mk_t3 97 rfl rfl
theorem mw_578 : (Jvm.Cond.selects "SplitChannel$Course" ({ cls := "SplitChannel$Course", name := "deliver", desc := "(II)V" } : Jvm.MethodName) ({ cls := "SplitChannel$Course", name := "deliver", desc := "(II)V" } : Jvm.MethodName)) ∈ mk_WL := mk_t3 98 rfl rfl
theorem mw_579 : (Jvm.Cond.code ({ cls := "SplitChannel$Course", name := "deliver", desc := "(II)V" } : Jvm.MethodName) prog_3_method_3_code (3 : Nat) (Option.none : Option Jvm.ClassFile.FieldType)) ∈ mk_WL := mk_t3 99 rfl rfl
theorem mw_581 : (Jvm.Cond.methodLink "SplitChannel$Play" (220 : Nat) ({ cls := "SplitChannel$Play", name := "counterBehind", desc := "(IZZ)I" } : Jvm.MethodName)) ∈ mk_WL := mk_t3 101 rfl rfl
theorem mw_582 : (Jvm.Cond.instanceMethod ({ cls := "SplitChannel$Play", name := "counterBehind", desc := "(IZZ)I" } : Jvm.MethodName)) ∈ mk_WL := mk_t3 102 rfl rfl
theorem mw_583 : (Jvm.Cond.selects "SplitChannel$Play" ({ cls := "SplitChannel$Play", name := "counterBehind", desc := "(IZZ)I" } : Jvm.MethodName) ({ cls := "SplitChannel$Play", name := "counterBehind", desc := "(IZZ)I" } : Jvm.MethodName)) ∈ mk_WL := mk_t3 103 rfl rfl
theorem mw_584 : (Jvm.Cond.code ({ cls := "SplitChannel$Play", name := "counterBehind", desc := "(IZZ)I" } : Jvm.MethodName) prog_6_method_15_code (5 : Nat) (Option.some Jvm.ClassFile.FieldType.int)) ∈ mk_WL := mk_t3 104 rfl rfl
theorem mw_585 : (Jvm.Cond.methodLink "SplitChannel$Play" (179 : Nat) ({ cls := "SplitChannel$Play", name := "nextBit", desc := "(I)I" } : Jvm.MethodName)) ∈ mk_WL := mk_t3 105 rfl rfl
theorem mw_586 : (Jvm.Cond.instanceMethod ({ cls := "SplitChannel$Play", name := "nextBit", desc := "(I)I" } : Jvm.MethodName)) ∈ mk_WL := mk_t3 106 rfl rfl
theorem mw_587 : (Jvm.Cond.selects "SplitChannel$Play" ({ cls := "SplitChannel$Play", name := "nextBit", desc := "(I)I" } : Jvm.MethodName) ({ cls := "SplitChannel$Play", name := "nextBit", desc := "(I)I" } : Jvm.MethodName)) ∈ mk_WL := mk_t3 107 rfl rfl
theorem mw_588 : (Jvm.Cond.code ({ cls := "SplitChannel$Play", name := "nextBit", desc := "(I)I" } : Jvm.MethodName) prog_6_method_11_code (4 : Nat) (Option.some Jvm.ClassFile.FieldType.int)) ∈ mk_WL := mk_t3 108 rfl rfl
theorem mw_589 : (Jvm.Cond.methodLink "SplitChannel$Play" (224 : Nat) ({ cls := "java/lang/Math", name := "max", desc := "(II)I" } : Jvm.MethodName)) ∈ mk_WL := mk_t3 109 rfl rfl
theorem mw_590 : (Jvm.Cond.static ({ cls := "java/lang/Math", name := "max", desc := "(II)I" } : Jvm.MethodName)) ∈ mk_WL := mk_t3 110 rfl rfl
theorem mw_591 : (Jvm.Cond.code ({ cls := "java/lang/Math", name := "max", desc := "(II)I" } : Jvm.MethodName) prog_13_method_65_code (2 : Nat) (Option.some Jvm.ClassFile.FieldType.int)) ∈ mk_WL := mk_t3 111 rfl rfl
theorem mw_592 : (Jvm.Cond.methodLink "SplitChannel$Play" (87 : Nat) ({ cls := "SplitChannel$Play", name := "playByGroups", desc := "(I)V" } : Jvm.MethodName)) ∈ mk_WL := mk_t3 112 rfl rfl
theorem mw_593 : (Jvm.Cond.instanceMethod ({ cls := "SplitChannel$Play", name := "playByGroups", desc := "(I)V" } : Jvm.MethodName)) ∈ mk_WL := mk_t3 113 rfl rfl
theorem mw_594 : (Jvm.Cond.selects "SplitChannel$Play" ({ cls := "SplitChannel$Play", name := "playByGroups", desc := "(I)V" } : Jvm.MethodName) ({ cls := "SplitChannel$Play", name := "playByGroups", desc := "(I)V" } : Jvm.MethodName)) ∈ mk_WL := mk_t3 114 rfl rfl
theorem mw_595 : (Jvm.Cond.code ({ cls := "SplitChannel$Play", name := "playByGroups", desc := "(I)V" } : Jvm.MethodName) prog_6_method_4_code (5 : Nat) (Option.none : Option Jvm.ClassFile.FieldType)) ∈ mk_WL := mk_t3 115 rfl rfl
theorem mw_596 : (Jvm.Cond.methodLink "SplitChannel$Play" (103 : Nat) ({ cls := "SplitChannel$Play", name := "beginEpoch", desc := "(I)V" } : Jvm.MethodName)) ∈ mk_WL := mk_t3 116 rfl rfl
theorem mw_597 : (Jvm.Cond.instanceMethod ({ cls := "SplitChannel$Play", name := "beginEpoch", desc := "(I)V" } : Jvm.MethodName)) ∈ mk_WL := mk_t3 117 rfl rfl
theorem mw_598 : (Jvm.Cond.selects "SplitChannel$Play" ({ cls := "SplitChannel$Play", name := "beginEpoch", desc := "(I)V" } : Jvm.MethodName) ({ cls := "SplitChannel$Play", name := "beginEpoch", desc := "(I)V" } : Jvm.MethodName)) ∈ mk_WL := mk_t3 118 rfl rfl
theorem mw_599 : (Jvm.Cond.code ({ cls := "SplitChannel$Play", name := "beginEpoch", desc := "(I)V" } : Jvm.MethodName) prog_6_method_6_code (5 : Nat) (Option.none : Option Jvm.ClassFile.FieldType)) ∈ mk_WL := mk_t3 119 rfl rfl
theorem mw_600 : (Jvm.Cond.methodLink "SplitChannel$Play" (148 : Nat) ({ cls := "SplitChannel$Play", name := "within", desc := "(III)I" } : Jvm.MethodName)) ∈ mk_WL := mk_t3 120 rfl rfl
theorem mw_601 : (Jvm.Cond.instanceMethod ({ cls := "SplitChannel$Play", name := "within", desc := "(III)I" } : Jvm.MethodName)) ∈ mk_WL := mk_t3 121 rfl rfl
theorem mw_602 : (Jvm.Cond.selects "SplitChannel$Play" ({ cls := "SplitChannel$Play", name := "within", desc := "(III)I" } : Jvm.MethodName) ({ cls := "SplitChannel$Play", name := "within", desc := "(III)I" } : Jvm.MethodName)) ∈ mk_WL := mk_t3 122 rfl rfl
theorem mw_603 : (Jvm.Cond.code ({ cls := "SplitChannel$Play", name := "within", desc := "(III)I" } : Jvm.MethodName) prog_6_method_8_code (7 : Nat) (Option.some Jvm.ClassFile.FieldType.int)) ∈ mk_WL := mk_t3 123 rfl rfl
theorem mw_604 : (Jvm.Cond.methodLink "SplitChannel$Play" (166 : Nat) ({ cls := "SplitChannel$Plan", name := "moment", desc := "(I)I" } : Jvm.MethodName)) ∈ mk_WL := mk_t3 124 rfl rfl
theorem mw_605 : (Jvm.Cond.instanceMethod ({ cls := "SplitChannel$Plan", name := "moment", desc := "(I)I" } : Jvm.MethodName)) ∈ mk_WL := mk_t3 125 rfl rfl
theorem mw_606 : (Jvm.Cond.selects "SplitChannel$Plan" ({ cls := "SplitChannel$Plan", name := "moment", desc := "(I)I" } : Jvm.MethodName) ({ cls := "SplitChannel$Plan", name := "moment", desc := "(I)I" } : Jvm.MethodName)) ∈ mk_WL := mk_t3 126 rfl rfl
theorem mw_607 : (Jvm.Cond.code ({ cls := "SplitChannel$Plan", name := "moment", desc := "(I)I" } : Jvm.MethodName) prog_5_method_12_code (2 : Nat) (Option.some Jvm.ClassFile.FieldType.int)) ∈ mk_WL := mk_t3 127 rfl rfl
theorem mw_608 : (Jvm.Cond.methodLink "SplitChannel$Play" (152 : Nat) ({ cls := "SplitChannel$Stack", name := "push", desc := "(III)V" } : Jvm.MethodName)) ∈ mk_WL := mk_t3 128 rfl rfl
theorem mw_609 : (Jvm.Cond.instanceMethod ({ cls := "SplitChannel$Stack", name := "push", desc := "(III)V" } : Jvm.MethodName)) ∈ mk_WL := mk_t3 129 rfl rfl
theorem mw_610 : (Jvm.Cond.selects "SplitChannel$Stack" ({ cls := "SplitChannel$Stack", name := "push", desc := "(III)V" } : Jvm.MethodName) ({ cls := "SplitChannel$Stack", name := "push", desc := "(III)V" } : Jvm.MethodName)) ∈ mk_WL := mk_t3 130 rfl rfl
theorem mw_611 : (Jvm.Cond.code ({ cls := "SplitChannel$Stack", name := "push", desc := "(III)V" } : Jvm.MethodName) prog_8_method_2_code (4 : Nat) (Option.none : Option Jvm.ClassFile.FieldType)) ∈ mk_WL := mk_t3 131 rfl rfl
theorem mw_613 : (Jvm.Cond.methodLink "SplitChannel$Play" (156 : Nat) ({ cls := "SplitChannel$Course", name := "openEpoch", desc := "(II)V" } : Jvm.MethodName)) ∈ mk_WL := mk_t3 133 rfl rfl
theorem mw_614 : (Jvm.Cond.instanceMethod ({ cls := "SplitChannel$Course", name := "openEpoch", desc := "(II)V" } : Jvm.MethodName)) ∈ mk_WL := mk_t3 134 rfl rfl
theorem mw_615 : (Jvm.Cond.selects "SplitChannel$Course" ({ cls := "SplitChannel$Course", name := "openEpoch", desc := "(II)V" } : Jvm.MethodName) ({ cls := "SplitChannel$Course", name := "openEpoch", desc := "(II)V" } : Jvm.MethodName)) ∈ mk_WL := mk_t3 135 rfl rfl
theorem mw_616 : (Jvm.Cond.code ({ cls := "SplitChannel$Course", name := "openEpoch", desc := "(II)V" } : Jvm.MethodName) prog_3_method_4_code (3 : Nat) (Option.none : Option Jvm.ClassFile.FieldType)) ∈ mk_WL := mk_t3 136 rfl rfl
theorem mw_617 : (Jvm.Cond.methodLink "SplitChannel$Play" (106 : Nat) ({ cls := "SplitChannel$Stack", name := "topWho", desc := "()I" } : Jvm.MethodName)) ∈ mk_WL := mk_t3 137 rfl rfl
theorem mw_618 : (Jvm.Cond.instanceMethod ({ cls := "SplitChannel$Stack", name := "topWho", desc := "()I" } : Jvm.MethodName)) ∈ mk_WL := mk_t3 138 rfl rfl
theorem mw_619 : (Jvm.Cond.selects "SplitChannel$Stack" ({ cls := "SplitChannel$Stack", name := "topWho", desc := "()I" } : Jvm.MethodName) ({ cls := "SplitChannel$Stack", name := "topWho", desc := "()I" } : Jvm.MethodName)) ∈ mk_WL := mk_t3 139 rfl rfl
theorem mw_620 : (Jvm.Cond.code ({ cls := "SplitChannel$Stack", name := "topWho", desc := "()I" } : Jvm.MethodName) prog_8_method_4_code (1 : Nat) (Option.some Jvm.ClassFile.FieldType.int)) ∈ mk_WL := mk_t3 140 rfl rfl
theorem mw_622 : (Jvm.Cond.methodLink "SplitChannel$Play" (114 : Nat) ({ cls := "SplitChannel$Play", name := "splitTop", desc := "()V" } : Jvm.MethodName)) ∈ mk_WL := mk_t3 142 rfl rfl
theorem mw_623 : (Jvm.Cond.instanceMethod ({ cls := "SplitChannel$Play", name := "splitTop", desc := "()V" } : Jvm.MethodName)) ∈ mk_WL := mk_t3 143 rfl rfl
theorem mw_624 : (Jvm.Cond.selects "SplitChannel$Play" ({ cls := "SplitChannel$Play", name := "splitTop", desc := "()V" } : Jvm.MethodName) ({ cls := "SplitChannel$Play", name := "splitTop", desc := "()V" } : Jvm.MethodName)) ∈ mk_WL := mk_t3 144 rfl rfl
theorem mw_625 : (Jvm.Cond.code ({ cls := "SplitChannel$Play", name := "splitTop", desc := "()V" } : Jvm.MethodName) prog_6_method_9_code (6 : Nat) (Option.none : Option Jvm.ClassFile.FieldType)) ∈ mk_WL := mk_t3 145 rfl rfl
theorem mw_626 : (Jvm.Cond.methodLink "SplitChannel$Play" (176 : Nat) ({ cls := "SplitChannel$Play", name := "takeBits", desc := "(I)I" } : Jvm.MethodName)) ∈ mk_WL := mk_t3 146 rfl rfl
theorem mw_627 : (Jvm.Cond.instanceMethod ({ cls := "SplitChannel$Play", name := "takeBits", desc := "(I)I" } : Jvm.MethodName)) ∈ mk_WL := mk_t3 147 rfl rfl
theorem mw_628 : (Jvm.Cond.selects "SplitChannel$Play" ({ cls := "SplitChannel$Play", name := "takeBits", desc := "(I)I" } : Jvm.MethodName) ({ cls := "SplitChannel$Play", name := "takeBits", desc := "(I)I" } : Jvm.MethodName)) ∈ mk_WL := mk_t3 148 rfl rfl
theorem mw_629 : (Jvm.Cond.code ({ cls := "SplitChannel$Play", name := "takeBits", desc := "(I)I" } : Jvm.MethodName) prog_6_method_10_code (4 : Nat) (Option.some Jvm.ClassFile.FieldType.int)) ∈ mk_WL := mk_t3 149 rfl rfl
theorem mw_630 : (Jvm.Cond.methodLink "SplitChannel$Play" (121 : Nat) ({ cls := "SplitChannel$Stack", name := "pop", desc := "()V" } : Jvm.MethodName)) ∈ mk_WL := mk_t3 150 rfl rfl
theorem mw_631 : (Jvm.Cond.instanceMethod ({ cls := "SplitChannel$Stack", name := "pop", desc := "()V" } : Jvm.MethodName)) ∈ mk_WL := mk_t3 151 rfl rfl
theorem mw_632 : (Jvm.Cond.selects "SplitChannel$Stack" ({ cls := "SplitChannel$Stack", name := "pop", desc := "()V" } : Jvm.MethodName) ({ cls := "SplitChannel$Stack", name := "pop", desc := "()V" } : Jvm.MethodName)) ∈ mk_WL := mk_t3 152 rfl rfl
theorem mw_633 : (Jvm.Cond.code ({ cls := "SplitChannel$Stack", name := "pop", desc := "()V" } : Jvm.MethodName) prog_8_method_3_code (1 : Nat) (Option.none : Option Jvm.ClassFile.FieldType)) ∈ mk_WL := mk_t3 153 rfl rfl
theorem mw_634 : (Jvm.Cond.methodLink "SplitChannel$Play" (117 : Nat) ({ cls := "SplitChannel$Play", name := "maySkip", desc := "()Z" } : Jvm.MethodName)) ∈ mk_WL := mk_t3 154 rfl rfl
theorem mw_635 : (Jvm.Cond.instanceMethod ({ cls := "SplitChannel$Play", name := "maySkip", desc := "()Z" } : Jvm.MethodName)) ∈ mk_WL := mk_t3 155 rfl rfl
theorem mw_636 : (Jvm.Cond.selects "SplitChannel$Play" ({ cls := "SplitChannel$Play", name := "maySkip", desc := "()Z" } : Jvm.MethodName) ({ cls := "SplitChannel$Play", name := "maySkip", desc := "()Z" } : Jvm.MethodName)) ∈ mk_WL := mk_t3 156 rfl rfl
theorem mw_637 : (Jvm.Cond.code ({ cls := "SplitChannel$Play", name := "maySkip", desc := "()Z" } : Jvm.MethodName) prog_6_method_5_code (1 : Nat) (Option.some Jvm.ClassFile.FieldType.boolean)) ∈ mk_WL := mk_t3 157 rfl rfl
theorem mw_638 : (Jvm.Cond.methodLink "SplitChannel$Play" (131 : Nat) ({ cls := "SplitChannel$Play", name := "endEpoch", desc := "(I)V" } : Jvm.MethodName)) ∈ mk_WL := mk_t3 158 rfl rfl
theorem mw_639 : (Jvm.Cond.instanceMethod ({ cls := "SplitChannel$Play", name := "endEpoch", desc := "(I)V" } : Jvm.MethodName)) ∈ mk_WL := mk_t3 159 rfl rfl
theorem mw_640 : (Jvm.Cond.selects "SplitChannel$Play" ({ cls := "SplitChannel$Play", name := "endEpoch", desc := "(I)V" } : Jvm.MethodName) ({ cls := "SplitChannel$Play", name := "endEpoch", desc := "(I)V" } : Jvm.MethodName)) ∈ mk_WL := mk_t3 160 rfl rfl
theorem mw_641 : (Jvm.Cond.code ({ cls := "SplitChannel$Play", name := "endEpoch", desc := "(I)V" } : Jvm.MethodName) prog_6_method_7_code (4 : Nat) (Option.none : Option Jvm.ClassFile.FieldType)) ∈ mk_WL := mk_t3 161 rfl rfl
theorem mw_642 : (Jvm.Cond.arrayClass Jvm.ClassFile.FieldType.byte) ∈ mk_WL := mk_t3 162 rfl rfl
theorem mw_643 : (Jvm.Cond.methodLink "SplitChannelLaw" (28 : Nat) ({ cls := "SplitChannel", name := "fault", desc := "(I)I" } : Jvm.MethodName)) ∈ mk_WL := mk_t3 163 rfl rfl
theorem mw_644 : (Jvm.Cond.instanceMethod ({ cls := "SplitChannel", name := "fault", desc := "(I)I" } : Jvm.MethodName)) ∈ mk_WL := mk_t3 164 rfl rfl
theorem mw_645 : (Jvm.Cond.selects "SplitChannel" ({ cls := "SplitChannel", name := "fault", desc := "(I)I" } : Jvm.MethodName) ({ cls := "SplitChannel", name := "fault", desc := "(I)I" } : Jvm.MethodName)) ∈ mk_WL := mk_t3 165 rfl rfl
theorem mw_646 : (Jvm.Cond.code ({ cls := "SplitChannel", name := "fault", desc := "(I)I" } : Jvm.MethodName) prog_1_method_5_code (2 : Nat) (Option.some Jvm.ClassFile.FieldType.int)) ∈ mk_WL := mk_t3 166 rfl rfl
theorem mw_647 : (Jvm.Cond.methodLink "SplitChannelLaw" (32 : Nat) ({ cls := "SplitChannel", name := "count", desc := "(I)I" } : Jvm.MethodName)) ∈ mk_WL := mk_t3 167 rfl rfl
theorem mw_648 : (Jvm.Cond.instanceMethod ({ cls := "SplitChannel", name := "count", desc := "(I)I" } : Jvm.MethodName)) ∈ mk_WL := mk_t3 168 rfl rfl
theorem mw_649 : (Jvm.Cond.selects "SplitChannel" ({ cls := "SplitChannel", name := "count", desc := "(I)I" } : Jvm.MethodName) ({ cls := "SplitChannel", name := "count", desc := "(I)I" } : Jvm.MethodName)) ∈ mk_WL := mk_t3 169 rfl rfl
theorem mw_650 : (Jvm.Cond.code ({ cls := "SplitChannel", name := "count", desc := "(I)I" } : Jvm.MethodName) prog_1_method_6_code (2 : Nat) (Option.some Jvm.ClassFile.FieldType.int)) ∈ mk_WL := mk_t3 170 rfl rfl
theorem mw_651 : (Jvm.Cond.methodLink "SplitChannelLaw" (36 : Nat) ({ cls := "SplitChannel", name := "sender", desc := "(II)I" } : Jvm.MethodName)) ∈ mk_WL := mk_t3 171 rfl rfl
theorem mw_652 : (Jvm.Cond.instanceMethod ({ cls := "SplitChannel", name := "sender", desc := "(II)I" } : Jvm.MethodName)) ∈ mk_WL := mk_t3 172 rfl rfl
theorem mw_653 : (Jvm.Cond.selects "SplitChannel" ({ cls := "SplitChannel", name := "sender", desc := "(II)I" } : Jvm.MethodName) ({ cls := "SplitChannel", name := "sender", desc := "(II)I" } : Jvm.MethodName)) ∈ mk_WL := mk_t3 173 rfl rfl
theorem mw_654 : (Jvm.Cond.code ({ cls := "SplitChannel", name := "sender", desc := "(II)I" } : Jvm.MethodName) prog_1_method_7_code (4 : Nat) (Option.some Jvm.ClassFile.FieldType.int)) ∈ mk_WL := mk_t3 174 rfl rfl
theorem mw_655 : (Jvm.Cond.methodLink "SplitChannel" (118 : Nat) ({ cls := "SplitChannel$Plan", name := "hasSender", desc := "(I)Z" } : Jvm.MethodName)) ∈ mk_WL := mk_t3 175 rfl rfl
theorem mw_656 : (Jvm.Cond.instanceMethod ({ cls := "SplitChannel$Plan", name := "hasSender", desc := "(I)Z" } : Jvm.MethodName)) ∈ mk_WL := mk_t3 176 rfl rfl
theorem mw_657 : (Jvm.Cond.selects "SplitChannel$Plan" ({ cls := "SplitChannel$Plan", name := "hasSender", desc := "(I)Z" } : Jvm.MethodName) ({ cls := "SplitChannel$Plan", name := "hasSender", desc := "(I)Z" } : Jvm.MethodName)) ∈ mk_WL := mk_t3 177 rfl rfl
theorem mw_658 : (Jvm.Cond.code ({ cls := "SplitChannel$Plan", name := "hasSender", desc := "(I)Z" } : Jvm.MethodName) prog_5_method_7_code (2 : Nat) (Option.some Jvm.ClassFile.FieldType.boolean)) ∈ mk_WL := mk_t3 178 rfl rfl
theorem mw_659 : (Jvm.Cond.methodLink "SplitChannel" (126 : Nat) ({ cls := "SplitChannel", name := "at", desc := "([II)I" } : Jvm.MethodName)) ∈ mk_WL := mk_t3 179 rfl rfl
theorem mw_660 : (Jvm.Cond.methodLink "SplitChannel" (133 : Nat) ({ cls := "SplitChannel$Plan", name := "bit", desc := "(II)I" } : Jvm.MethodName)) ∈ mk_WL := mk_t3 180 rfl rfl
theorem mw_661 : (Jvm.Cond.instanceMethod ({ cls := "SplitChannel$Plan", name := "bit", desc := "(II)I" } : Jvm.MethodName)) ∈ mk_WL := mk_t3 181 rfl rfl
theorem mw_662 : (Jvm.Cond.selects "SplitChannel$Plan" ({ cls := "SplitChannel$Plan", name := "bit", desc := "(II)I" } : Jvm.MethodName) ({ cls := "SplitChannel$Plan", name := "bit", desc := "(II)I" } : Jvm.MethodName)) ∈ mk_WL := mk_t3 182 rfl rfl
theorem mw_663 : (Jvm.Cond.code ({ cls := "SplitChannel$Plan", name := "bit", desc := "(II)I" } : Jvm.MethodName) prog_5_method_11_code (3 : Nat) (Option.some Jvm.ClassFile.FieldType.int)) ∈ mk_WL := mk_t3 183 rfl rfl
theorem mw_664 : (Jvm.Cond.methodLink "SplitChannelLaw" (41 : Nat) ({ cls := "SplitChannel", name := "slot", desc := "(II)I" } : Jvm.MethodName)) ∈ mk_WL := mk_t3 184 rfl rfl
theorem mw_665 : (Jvm.Cond.instanceMethod ({ cls := "SplitChannel", name := "slot", desc := "(II)I" } : Jvm.MethodName)) ∈ mk_WL := mk_t3 185 rfl rfl
theorem mw_666 : (Jvm.Cond.selects "SplitChannel" ({ cls := "SplitChannel", name := "slot", desc := "(II)I" } : Jvm.MethodName) ({ cls := "SplitChannel", name := "slot", desc := "(II)I" } : Jvm.MethodName)) ∈ mk_WL := mk_t3 186 rfl rfl
theorem mw_667 : (Jvm.Cond.code ({ cls := "SplitChannel", name := "slot", desc := "(II)I" } : Jvm.MethodName) prog_1_method_8_code (3 : Nat) (Option.some Jvm.ClassFile.FieldType.int)) ∈ mk_WL := mk_t3 187 rfl rfl
theorem mw_668 : (Jvm.Cond.methodLink "SplitChannel" (137 : Nat) ({ cls := "SplitChannel$Plan", name := "hasSlot", desc := "(I)Z" } : Jvm.MethodName)) ∈ mk_WL := mk_t3 188 rfl rfl
theorem mw_669 : (Jvm.Cond.instanceMethod ({ cls := "SplitChannel$Plan", name := "hasSlot", desc := "(I)Z" } : Jvm.MethodName)) ∈ mk_WL := mk_t3 189 rfl rfl
theorem mw_670 : (Jvm.Cond.selects "SplitChannel$Plan" ({ cls := "SplitChannel$Plan", name := "hasSlot", desc := "(I)Z" } : Jvm.MethodName) ({ cls := "SplitChannel$Plan", name := "hasSlot", desc := "(I)Z" } : Jvm.MethodName)) ∈ mk_WL := mk_t3 190 rfl rfl
theorem mw_671 : (Jvm.Cond.code ({ cls := "SplitChannel$Plan", name := "hasSlot", desc := "(I)Z" } : Jvm.MethodName) prog_5_method_9_code (2 : Nat) (Option.some Jvm.ClassFile.FieldType.boolean)) ∈ mk_WL := mk_t3 191 rfl rfl
theorem mw_672 : (Jvm.Cond.methodLink "SplitChannel" (143 : Nat) ({ cls := "java/lang/Integer", name := "bitCount", desc := "(I)I" } : Jvm.MethodName)) ∈ mk_WL := mk_t3 192 rfl rfl
theorem mw_673 : (Jvm.Cond.methodLink "SplitChannelLaw" (45 : Nat) ({ cls := "SplitChannel", name := "sends", desc := "(II)I" } : Jvm.MethodName)) ∈ mk_WL := mk_t3 193 rfl rfl
theorem mw_674 : (Jvm.Cond.instanceMethod ({ cls := "SplitChannel", name := "sends", desc := "(II)I" } : Jvm.MethodName)) ∈ mk_WL := mk_t3 194 rfl rfl
theorem mw_675 : (Jvm.Cond.selects "SplitChannel" ({ cls := "SplitChannel", name := "sends", desc := "(II)I" } : Jvm.MethodName) ({ cls := "SplitChannel", name := "sends", desc := "(II)I" } : Jvm.MethodName)) ∈ mk_WL := mk_t3 195 rfl rfl
theorem mw_676 : (Jvm.Cond.code ({ cls := "SplitChannel", name := "sends", desc := "(II)I" } : Jvm.MethodName) prog_1_method_9_code (3 : Nat) (Option.some Jvm.ClassFile.FieldType.int)) ∈ mk_WL := mk_t3 196 rfl rfl
theorem mw_677 : (Jvm.Cond.methodLink "SplitChannelLaw" (49 : Nat) ({ cls := "SplitChannel", name := "delivered", desc := "(I)I" } : Jvm.MethodName)) ∈ mk_WL := mk_t3 197 rfl rfl
theorem mw_678 : (Jvm.Cond.instanceMethod ({ cls := "SplitChannel", name := "delivered", desc := "(I)I" } : Jvm.MethodName)) ∈ mk_WL := mk_t3 198 rfl rfl
theorem mw_679 : (Jvm.Cond.selects "SplitChannel" ({ cls := "SplitChannel", name := "delivered", desc := "(I)I" } : Jvm.MethodName) ({ cls := "SplitChannel", name := "delivered", desc := "(I)I" } : Jvm.MethodName)) ∈ mk_WL := mk_t3 199 rfl rfl
theorem mw_680 : (Jvm.Cond.code ({ cls := "SplitChannel", name := "delivered", desc := "(I)I" } : Jvm.MethodName) prog_1_method_10_code (2 : Nat) (Option.some Jvm.ClassFile.FieldType.int)) ∈ mk_WL := mk_t3 200 rfl rfl
theorem mw_681 : (Jvm.Cond.methodLink "SplitChannelLaw" (53 : Nat) ({ cls := "SplitChannel", name := "tries", desc := "(I)I" } : Jvm.MethodName)) ∈ mk_WL := mk_t3 201 rfl rfl
theorem mw_682 : (Jvm.Cond.instanceMethod ({ cls := "SplitChannel", name := "tries", desc := "(I)I" } : Jvm.MethodName)) ∈ mk_WL := mk_t3 202 rfl rfl
theorem mw_683 : (Jvm.Cond.selects "SplitChannel" ({ cls := "SplitChannel", name := "tries", desc := "(I)I" } : Jvm.MethodName) ({ cls := "SplitChannel", name := "tries", desc := "(I)I" } : Jvm.MethodName)) ∈ mk_WL := mk_t3 203 rfl rfl
theorem mw_684 : (Jvm.Cond.code ({ cls := "SplitChannel", name := "tries", desc := "(I)I" } : Jvm.MethodName) prog_1_method_11_code (2 : Nat) (Option.some Jvm.ClassFile.FieldType.int)) ∈ mk_WL := mk_t3 204 rfl rfl
theorem mw_685 : (Jvm.Cond.methodLink "SplitChannelLaw" (57 : Nat) ({ cls := "SplitChannel", name := "taken", desc := "(I)I" } : Jvm.MethodName)) ∈ mk_WL := mk_t3 205 rfl rfl
theorem mw_686 : (Jvm.Cond.instanceMethod ({ cls := "SplitChannel", name := "taken", desc := "(I)I" } : Jvm.MethodName)) ∈ mk_WL := mk_t3 206 rfl rfl
theorem mw_687 : (Jvm.Cond.selects "SplitChannel" ({ cls := "SplitChannel", name := "taken", desc := "(I)I" } : Jvm.MethodName) ({ cls := "SplitChannel", name := "taken", desc := "(I)I" } : Jvm.MethodName)) ∈ mk_WL := mk_t3 207 rfl rfl
theorem mw_688 : (Jvm.Cond.code ({ cls := "SplitChannel", name := "taken", desc := "(I)I" } : Jvm.MethodName) prog_1_method_12_code (2 : Nat) (Option.some Jvm.ClassFile.FieldType.int)) ∈ mk_WL := mk_t3 208 rfl rfl
theorem mw_689 : (Jvm.Cond.methodLink "SplitChannelLaw" (61 : Nat) ({ cls := "SplitChannel", name := "order", desc := "(I)I" } : Jvm.MethodName)) ∈ mk_WL := mk_t3 209 rfl rfl
theorem mw_690 : (Jvm.Cond.instanceMethod ({ cls := "SplitChannel", name := "order", desc := "(I)I" } : Jvm.MethodName)) ∈ mk_WL := mk_t3 210 rfl rfl
theorem mw_691 : (Jvm.Cond.selects "SplitChannel" ({ cls := "SplitChannel", name := "order", desc := "(I)I" } : Jvm.MethodName) ({ cls := "SplitChannel", name := "order", desc := "(I)I" } : Jvm.MethodName)) ∈ mk_WL := mk_t3 211 rfl rfl
theorem mw_692 : (Jvm.Cond.code ({ cls := "SplitChannel", name := "order", desc := "(I)I" } : Jvm.MethodName) prog_1_method_13_code (2 : Nat) (Option.some Jvm.ClassFile.FieldType.int)) ∈ mk_WL := mk_t3 212 rfl rfl
theorem mw_693 : (Jvm.Cond.methodLink "SplitChannel" (170 : Nat) ({ cls := "SplitChannel$Plan", name := "stands", desc := "()Z" } : Jvm.MethodName)) ∈ mk_WL := mk_t3 213 rfl rfl
theorem mw_694 : (Jvm.Cond.instanceMethod ({ cls := "SplitChannel$Plan", name := "stands", desc := "()Z" } : Jvm.MethodName)) ∈ mk_WL := mk_t3 214 rfl rfl
theorem mw_695 : (Jvm.Cond.selects "SplitChannel$Plan" ({ cls := "SplitChannel$Plan", name := "stands", desc := "()Z" } : Jvm.MethodName) ({ cls := "SplitChannel$Plan", name := "stands", desc := "()Z" } : Jvm.MethodName)) ∈ mk_WL := mk_t3 215 rfl rfl
theorem mw_696 : (Jvm.Cond.code ({ cls := "SplitChannel$Plan", name := "stands", desc := "()Z" } : Jvm.MethodName) prog_5_method_6_code (1 : Nat) (Option.some Jvm.ClassFile.FieldType.boolean)) ∈ mk_WL := mk_t3 216 rfl rfl
theorem mw_697 : (Jvm.Cond.methodLink "SplitChannelLaw" (65 : Nat) ({ cls := "SplitChannel", name := "all", desc := "()I" } : Jvm.MethodName)) ∈ mk_WL := mk_t3 217 rfl rfl
theorem mw_698 : (Jvm.Cond.instanceMethod ({ cls := "SplitChannel", name := "all", desc := "()I" } : Jvm.MethodName)) ∈ mk_WL := mk_t3 218 rfl rfl
theorem mw_699 : (Jvm.Cond.selects "SplitChannel" ({ cls := "SplitChannel", name := "all", desc := "()I" } : Jvm.MethodName) ({ cls := "SplitChannel", name := "all", desc := "()I" } : Jvm.MethodName)) ∈ mk_WL := mk_t3 219 rfl rfl
theorem mw_700 : (Jvm.Cond.code ({ cls := "SplitChannel", name := "all", desc := "()I" } : Jvm.MethodName) prog_1_method_14_code (1 : Nat) (Option.some Jvm.ClassFile.FieldType.int)) ∈ mk_WL := mk_t3 220 rfl rfl
theorem mw_701 : (Jvm.Cond.methodLink "SplitChannelLaw" (69 : Nat) ({ cls := "SplitChannel", name := "done", desc := "()I" } : Jvm.MethodName)) ∈ mk_WL := mk_t3 221 rfl rfl
theorem mw_702 : (Jvm.Cond.instanceMethod ({ cls := "SplitChannel", name := "done", desc := "()I" } : Jvm.MethodName)) ∈ mk_WL := mk_t3 222 rfl rfl
theorem mw_703 : (Jvm.Cond.selects "SplitChannel" ({ cls := "SplitChannel", name := "done", desc := "()I" } : Jvm.MethodName) ({ cls := "SplitChannel", name := "done", desc := "()I" } : Jvm.MethodName)) ∈ mk_WL := mk_t3 223 rfl rfl
theorem mw_704 : (Jvm.Cond.code ({ cls := "SplitChannel", name := "done", desc := "()I" } : Jvm.MethodName) prog_1_method_15_code (1 : Nat) (Option.some Jvm.ClassFile.FieldType.int)) ∈ mk_WL := mk_t3 224 rfl rfl
theorem mw_705 : (Jvm.Cond.methodLink "SplitChannel" (179 : Nat) ({ cls := "SplitChannel$Course", name := "lastSlot", desc := "(I)I" } : Jvm.MethodName)) ∈ mk_WL := mk_t3 225 rfl rfl
theorem mw_706 : (Jvm.Cond.instanceMethod ({ cls := "SplitChannel$Course", name := "lastSlot", desc := "(I)I" } : Jvm.MethodName)) ∈ mk_WL := mk_t3 226 rfl rfl
theorem mw_707 : (Jvm.Cond.selects "SplitChannel$Course" ({ cls := "SplitChannel$Course", name := "lastSlot", desc := "(I)I" } : Jvm.MethodName) ({ cls := "SplitChannel$Course", name := "lastSlot", desc := "(I)I" } : Jvm.MethodName)) ∈ mk_WL := mk_t3 227 rfl rfl
theorem mw_708 : (Jvm.Cond.code ({ cls := "SplitChannel$Course", name := "lastSlot", desc := "(I)I" } : Jvm.MethodName) prog_3_method_5_code (2 : Nat) (Option.some Jvm.ClassFile.FieldType.int)) ∈ mk_WL := mk_t3 228 rfl rfl
theorem mw_710 : (Jvm.Cond.methodLink "SplitChannelLaw" (73 : Nat) ({ cls := "SplitChannel", name := "heard", desc := "(I)I" } : Jvm.MethodName)) ∈ mk_WL := mk_t3 230 rfl rfl
theorem mw_711 : (Jvm.Cond.instanceMethod ({ cls := "SplitChannel", name := "heard", desc := "(I)I" } : Jvm.MethodName)) ∈ mk_WL := mk_t3 231 rfl rfl
theorem mw_712 : (Jvm.Cond.selects "SplitChannel" ({ cls := "SplitChannel", name := "heard", desc := "(I)I" } : Jvm.MethodName) ({ cls := "SplitChannel", name := "heard", desc := "(I)I" } : Jvm.MethodName)) ∈ mk_WL := mk_t3 232 rfl rfl
theorem mw_713 : (Jvm.Cond.code ({ cls := "SplitChannel", name := "heard", desc := "(I)I" } : Jvm.MethodName) prog_1_method_16_code (2 : Nat) (Option.some Jvm.ClassFile.FieldType.int)) ∈ mk_WL := mk_t3 233 rfl rfl
theorem mw_714 : (Jvm.Cond.methodLink "SplitChannel" (182 : Nat) ({ cls := "SplitChannel$Course", name := "slotsHeard", desc := "(II)I" } : Jvm.MethodName)) ∈ mk_WL := mk_t3 234 rfl rfl
theorem mw_715 : (Jvm.Cond.instanceMethod ({ cls := "SplitChannel$Course", name := "slotsHeard", desc := "(II)I" } : Jvm.MethodName)) ∈ mk_WL := mk_t3 235 rfl rfl
theorem mw_716 : (Jvm.Cond.selects "SplitChannel$Course" ({ cls := "SplitChannel$Course", name := "slotsHeard", desc := "(II)I" } : Jvm.MethodName) ({ cls := "SplitChannel$Course", name := "slotsHeard", desc := "(II)I" } : Jvm.MethodName)) ∈ mk_WL := mk_t3 236 rfl rfl
theorem mw_717 : (Jvm.Cond.code ({ cls := "SplitChannel$Course", name := "slotsHeard", desc := "(II)I" } : Jvm.MethodName) prog_3_method_6_code (5 : Nat) (Option.some Jvm.ClassFile.FieldType.int)) ∈ mk_WL := mk_t3 237 rfl rfl
theorem mw_718 : (Jvm.Cond.methodLink "SplitChannelLaw" (77 : Nat) ({ cls := "SplitChannel", name := "collided", desc := "()I" } : Jvm.MethodName)) ∈ mk_WL := mk_t3 238 rfl rfl
theorem mw_719 : (Jvm.Cond.instanceMethod ({ cls := "SplitChannel", name := "collided", desc := "()I" } : Jvm.MethodName)) ∈ mk_WL := mk_t3 239 rfl rfl
theorem mw_720 : (Jvm.Cond.selects "SplitChannel" ({ cls := "SplitChannel", name := "collided", desc := "()I" } : Jvm.MethodName) ({ cls := "SplitChannel", name := "collided", desc := "()I" } : Jvm.MethodName)) ∈ mk_WL := mk_t4 0 rfl rfl
theorem mw_721 : (Jvm.Cond.code ({ cls := "SplitChannel", name := "collided", desc := "()I" } : Jvm.MethodName) prog_1_method_17_code (1 : Nat) (Option.some Jvm.ClassFile.FieldType.int)) ∈ mk_WL := mk_t4 1 rfl rfl
theorem mw_722 : (Jvm.Cond.methodLink "SplitChannel" (185 : Nat) ({ cls := "SplitChannel$Course", name := "collisions", desc := "(I)I" } : Jvm.MethodName)) ∈ mk_WL := mk_t4 2 rfl rfl
theorem mw_723 : (Jvm.Cond.instanceMethod ({ cls := "SplitChannel$Course", name := "collisions", desc := "(I)I" } : Jvm.MethodName)) ∈ mk_WL := mk_t4 3 rfl rfl
theorem mw_724 : (Jvm.Cond.selects "SplitChannel$Course" ({ cls := "SplitChannel$Course", name := "collisions", desc := "(I)I" } : Jvm.MethodName) ({ cls := "SplitChannel$Course", name := "collisions", desc := "(I)I" } : Jvm.MethodName)) ∈ mk_WL := mk_t4 4 rfl rfl
theorem mw_725 : (Jvm.Cond.code ({ cls := "SplitChannel$Course", name := "collisions", desc := "(I)I" } : Jvm.MethodName) prog_3_method_7_code (4 : Nat) (Option.some Jvm.ClassFile.FieldType.int)) ∈ mk_WL := mk_t4 5 rfl rfl
theorem mw_726 : (Jvm.Cond.methodLink "SplitChannel$Course" (69 : Nat) ({ cls := "java/lang/Integer", name := "bitCount", desc := "(I)I" } : Jvm.MethodName)) ∈ mk_WL := mk_t4 6 rfl rfl
theorem mw_727 : (Jvm.Cond.methodLink "SplitChannelLaw" (81 : Nat) ({ cls := "SplitChannel", name := "skips", desc := "()I" } : Jvm.MethodName)) ∈ mk_WL := mk_t4 7 rfl rfl
theorem mw_728 : (Jvm.Cond.instanceMethod ({ cls := "SplitChannel", name := "skips", desc := "()I" } : Jvm.MethodName)) ∈ mk_WL := mk_t4 8 rfl rfl
theorem mw_729 : (Jvm.Cond.selects "SplitChannel" ({ cls := "SplitChannel", name := "skips", desc := "()I" } : Jvm.MethodName) ({ cls := "SplitChannel", name := "skips", desc := "()I" } : Jvm.MethodName)) ∈ mk_WL := mk_t4 9 rfl rfl
theorem mw_730 : (Jvm.Cond.code ({ cls := "SplitChannel", name := "skips", desc := "()I" } : Jvm.MethodName) prog_1_method_18_code (1 : Nat) (Option.some Jvm.ClassFile.FieldType.int)) ∈ mk_WL := mk_t4 10 rfl rfl
theorem mw_731 : (Jvm.Cond.methodLink "SplitChannel" (188 : Nat) ({ cls := "SplitChannel$Course", name := "skipsMade", desc := "(I)I" } : Jvm.MethodName)) ∈ mk_WL := mk_t4 11 rfl rfl
theorem mw_732 : (Jvm.Cond.instanceMethod ({ cls := "SplitChannel$Course", name := "skipsMade", desc := "(I)I" } : Jvm.MethodName)) ∈ mk_WL := mk_t4 12 rfl rfl
theorem mw_733 : (Jvm.Cond.selects "SplitChannel$Course" ({ cls := "SplitChannel$Course", name := "skipsMade", desc := "(I)I" } : Jvm.MethodName) ({ cls := "SplitChannel$Course", name := "skipsMade", desc := "(I)I" } : Jvm.MethodName)) ∈ mk_WL := mk_t4 13 rfl rfl
theorem mw_734 : (Jvm.Cond.code ({ cls := "SplitChannel$Course", name := "skipsMade", desc := "(I)I" } : Jvm.MethodName) prog_3_method_8_code (4 : Nat) (Option.some Jvm.ClassFile.FieldType.int)) ∈ mk_WL := mk_t4 14 rfl rfl
theorem mw_735 : (Jvm.Cond.methodLink "SplitChannelLaw" (85 : Nat) ({ cls := "SplitChannel", name := "deepest", desc := "()I" } : Jvm.MethodName)) ∈ mk_WL := mk_t4 15 rfl rfl
theorem mw_736 : (Jvm.Cond.instanceMethod ({ cls := "SplitChannel", name := "deepest", desc := "()I" } : Jvm.MethodName)) ∈ mk_WL := mk_t4 16 rfl rfl
theorem mw_737 : (Jvm.Cond.selects "SplitChannel" ({ cls := "SplitChannel", name := "deepest", desc := "()I" } : Jvm.MethodName) ({ cls := "SplitChannel", name := "deepest", desc := "()I" } : Jvm.MethodName)) ∈ mk_WL := mk_t4 17 rfl rfl
theorem mw_738 : (Jvm.Cond.code ({ cls := "SplitChannel", name := "deepest", desc := "()I" } : Jvm.MethodName) prog_1_method_19_code (1 : Nat) (Option.some Jvm.ClassFile.FieldType.int)) ∈ mk_WL := mk_t4 18 rfl rfl
theorem mw_739 : (Jvm.Cond.methodLink "SplitChannel" (191 : Nat) ({ cls := "SplitChannel$Course", name := "greatestDepth", desc := "(I)I" } : Jvm.MethodName)) ∈ mk_WL := mk_t4 19 rfl rfl
theorem mw_740 : (Jvm.Cond.instanceMethod ({ cls := "SplitChannel$Course", name := "greatestDepth", desc := "(I)I" } : Jvm.MethodName)) ∈ mk_WL := mk_t4 20 rfl rfl
theorem mw_741 : (Jvm.Cond.selects "SplitChannel$Course" ({ cls := "SplitChannel$Course", name := "greatestDepth", desc := "(I)I" } : Jvm.MethodName) ({ cls := "SplitChannel$Course", name := "greatestDepth", desc := "(I)I" } : Jvm.MethodName)) ∈ mk_WL := mk_t4 21 rfl rfl
theorem mw_742 : (Jvm.Cond.code ({ cls := "SplitChannel$Course", name := "greatestDepth", desc := "(I)I" } : Jvm.MethodName) prog_3_method_9_code (4 : Nat) (Option.some Jvm.ClassFile.FieldType.int)) ∈ mk_WL := mk_t4 22 rfl rfl
theorem mw_743 : (Jvm.Cond.methodLink "SplitChannel$Course" (75 : Nat) ({ cls := "java/lang/Math", name := "max", desc := "(II)I" } : Jvm.MethodName)) ∈ mk_WL := mk_t4 23 rfl rfl
theorem mw_744 : (Jvm.Cond.methodLink "SplitChannelLaw" (89 : Nat) ({ cls := "SplitChannel", name := "epochs", desc := "()I" } : Jvm.MethodName)) ∈ mk_WL := mk_t4 24 rfl rfl
theorem mw_745 : (Jvm.Cond.instanceMethod ({ cls := "SplitChannel", name := "epochs", desc := "()I" } : Jvm.MethodName)) ∈ mk_WL := mk_t4 25 rfl rfl
theorem mw_746 : (Jvm.Cond.selects "SplitChannel" ({ cls := "SplitChannel", name := "epochs", desc := "()I" } : Jvm.MethodName) ({ cls := "SplitChannel", name := "epochs", desc := "()I" } : Jvm.MethodName)) ∈ mk_WL := mk_t4 26 rfl rfl
theorem mw_747 : (Jvm.Cond.code ({ cls := "SplitChannel", name := "epochs", desc := "()I" } : Jvm.MethodName) prog_1_method_20_code (1 : Nat) (Option.some Jvm.ClassFile.FieldType.int)) ∈ mk_WL := mk_t4 27 rfl rfl
theorem mw_748 : (Jvm.Cond.methodLink "SplitChannelLaw" (93 : Nat) ({ cls := "SplitChannel", name := "epoch", desc := "(II)I" } : Jvm.MethodName)) ∈ mk_WL := mk_t4 28 rfl rfl
theorem mw_749 : (Jvm.Cond.instanceMethod ({ cls := "SplitChannel", name := "epoch", desc := "(II)I" } : Jvm.MethodName)) ∈ mk_WL := mk_t4 29 rfl rfl
theorem mw_750 : (Jvm.Cond.selects "SplitChannel" ({ cls := "SplitChannel", name := "epoch", desc := "(II)I" } : Jvm.MethodName) ({ cls := "SplitChannel", name := "epoch", desc := "(II)I" } : Jvm.MethodName)) ∈ mk_WL := mk_t4 30 rfl rfl
theorem mw_751 : (Jvm.Cond.code ({ cls := "SplitChannel", name := "epoch", desc := "(II)I" } : Jvm.MethodName) prog_1_method_21_code (3 : Nat) (Option.some Jvm.ClassFile.FieldType.int)) ∈ mk_WL := mk_t4 31 rfl rfl
theorem mw_752 : (Jvm.Cond.methodLink "SplitChannelLaw" (97 : Nat) ({ cls := "SplitChannel", name := "behind", desc := "(I)I" } : Jvm.MethodName)) ∈ mk_WL := mk_t4 32 rfl rfl
theorem mw_753 : (Jvm.Cond.instanceMethod ({ cls := "SplitChannel", name := "behind", desc := "(I)I" } : Jvm.MethodName)) ∈ mk_WL := mk_t4 33 rfl rfl
theorem mw_754 : (Jvm.Cond.selects "SplitChannel" ({ cls := "SplitChannel", name := "behind", desc := "(I)I" } : Jvm.MethodName) ({ cls := "SplitChannel", name := "behind", desc := "(I)I" } : Jvm.MethodName)) ∈ mk_WL := mk_t4 34 rfl rfl
theorem mw_755 : (Jvm.Cond.code ({ cls := "SplitChannel", name := "behind", desc := "(I)I" } : Jvm.MethodName) prog_1_method_22_code (7 : Nat) (Option.some Jvm.ClassFile.FieldType.int)) ∈ mk_WL := mk_t4 35 rfl rfl
theorem mw_756 : (Jvm.Cond.methodLink "SplitChannelLaw" (101 : Nat) ({ cls := "SplitChannel", name := "by", desc := "(II)I" } : Jvm.MethodName)) ∈ mk_WL := mk_t4 36 rfl rfl
theorem mw_757 : (Jvm.Cond.instanceMethod ({ cls := "SplitChannel", name := "by", desc := "(II)I" } : Jvm.MethodName)) ∈ mk_WL := mk_t4 37 rfl rfl
theorem mw_758 : (Jvm.Cond.selects "SplitChannel" ({ cls := "SplitChannel", name := "by", desc := "(II)I" } : Jvm.MethodName) ({ cls := "SplitChannel", name := "by", desc := "(II)I" } : Jvm.MethodName)) ∈ mk_WL := mk_t4 38 rfl rfl
theorem mw_759 : (Jvm.Cond.code ({ cls := "SplitChannel", name := "by", desc := "(II)I" } : Jvm.MethodName) prog_1_method_23_code (3 : Nat) (Option.some Jvm.ClassFile.FieldType.int)) ∈ mk_WL := mk_t4 39 rfl rfl
theorem mw_760 : (Jvm.Cond.methodLink "SplitChannel" (206 : Nat) ({ cls := "SplitChannel", name := "isLaw", desc := "(I)Z" } : Jvm.MethodName)) ∈ mk_WL := mk_t4 40 rfl rfl
theorem mw_761 : (Jvm.Cond.static ({ cls := "SplitChannel", name := "isLaw", desc := "(I)Z" } : Jvm.MethodName)) ∈ mk_WL := mk_t4 41 rfl rfl
theorem mw_762 : (Jvm.Cond.code ({ cls := "SplitChannel", name := "isLaw", desc := "(I)Z" } : Jvm.MethodName) prog_1_method_37_code (1 : Nat) (Option.some Jvm.ClassFile.FieldType.boolean)) ∈ mk_WL := mk_t4 42 rfl rfl
theorem mw_763 : (Jvm.Cond.methodLink "SplitChannelLaw" (105 : Nat) ({ cls := "SplitChannel", name := "without", desc := "(I)I" } : Jvm.MethodName)) ∈ mk_WL := mk_t4 43 rfl rfl
theorem mw_764 : (Jvm.Cond.instanceMethod ({ cls := "SplitChannel", name := "without", desc := "(I)I" } : Jvm.MethodName)) ∈ mk_WL := mk_t4 44 rfl rfl
theorem mw_765 : (Jvm.Cond.selects "SplitChannel" ({ cls := "SplitChannel", name := "without", desc := "(I)I" } : Jvm.MethodName) ({ cls := "SplitChannel", name := "without", desc := "(I)I" } : Jvm.MethodName)) ∈ mk_WL := mk_t4 45 rfl rfl
theorem mw_766 : (Jvm.Cond.code ({ cls := "SplitChannel", name := "without", desc := "(I)I" } : Jvm.MethodName) prog_1_method_24_code (2 : Nat) (Option.some Jvm.ClassFile.FieldType.int)) ∈ mk_WL := mk_t4 46 rfl rfl
theorem mw_767 : (Jvm.Cond.methodLink "SplitChannel" (209 : Nat) ({ cls := "SplitChannel$Plan", name := "hasNoise", desc := "(I)Z" } : Jvm.MethodName)) ∈ mk_WL := mk_t4 47 rfl rfl
theorem mw_768 : (Jvm.Cond.instanceMethod ({ cls := "SplitChannel$Plan", name := "hasNoise", desc := "(I)Z" } : Jvm.MethodName)) ∈ mk_WL := mk_t4 48 rfl rfl
theorem mw_769 : (Jvm.Cond.selects "SplitChannel$Plan" ({ cls := "SplitChannel$Plan", name := "hasNoise", desc := "(I)Z" } : Jvm.MethodName) ({ cls := "SplitChannel$Plan", name := "hasNoise", desc := "(I)Z" } : Jvm.MethodName)) ∈ mk_WL := mk_t4 49 rfl rfl
theorem mw_770 : (Jvm.Cond.code ({ cls := "SplitChannel$Plan", name := "hasNoise", desc := "(I)Z" } : Jvm.MethodName) prog_5_method_8_code (2 : Nat) (Option.some Jvm.ClassFile.FieldType.boolean)) ∈ mk_WL := mk_t4 50 rfl rfl
theorem mw_771 : (Jvm.Cond.methodLink "SplitChannelLaw" (109 : Nat) ({ cls := "SplitChannel", name := "noise", desc := "(II)I" } : Jvm.MethodName)) ∈ mk_WL := mk_t4 51 rfl rfl
theorem mw_772 : (Jvm.Cond.instanceMethod ({ cls := "SplitChannel", name := "noise", desc := "(II)I" } : Jvm.MethodName)) ∈ mk_WL := mk_t4 52 rfl rfl
theorem mw_773 : (Jvm.Cond.selects "SplitChannel" ({ cls := "SplitChannel", name := "noise", desc := "(II)I" } : Jvm.MethodName) ({ cls := "SplitChannel", name := "noise", desc := "(II)I" } : Jvm.MethodName)) ∈ mk_WL := mk_t4 53 rfl rfl
theorem mw_774 : (Jvm.Cond.code ({ cls := "SplitChannel", name := "noise", desc := "(II)I" } : Jvm.MethodName) prog_1_method_25_code (3 : Nat) (Option.some Jvm.ClassFile.FieldType.int)) ∈ mk_WL := mk_t4 54 rfl rfl
theorem mw_775 : (Jvm.Cond.methodLink "SplitChannelLaw" (113 : Nat) ({ cls := "SplitChannel", name := "alone", desc := "(I)I" } : Jvm.MethodName)) ∈ mk_WL := mk_t4 55 rfl rfl
theorem mw_776 : (Jvm.Cond.instanceMethod ({ cls := "SplitChannel", name := "alone", desc := "(I)I" } : Jvm.MethodName)) ∈ mk_WL := mk_t4 56 rfl rfl
theorem mw_777 : (Jvm.Cond.selects "SplitChannel" ({ cls := "SplitChannel", name := "alone", desc := "(I)I" } : Jvm.MethodName) ({ cls := "SplitChannel", name := "alone", desc := "(I)I" } : Jvm.MethodName)) ∈ mk_WL := mk_t4 57 rfl rfl
theorem mw_778 : (Jvm.Cond.code ({ cls := "SplitChannel", name := "alone", desc := "(I)I" } : Jvm.MethodName) prog_1_method_26_code (2 : Nat) (Option.some Jvm.ClassFile.FieldType.int)) ∈ mk_WL := mk_t4 58 rfl rfl
theorem mw_779 : (Jvm.Cond.methodLink "SplitChannelLaw" (117 : Nat) ({ cls := "SplitChannel", name := "worst", desc := "()I" } : Jvm.MethodName)) ∈ mk_WL := mk_t4 59 rfl rfl
theorem mw_780 : (Jvm.Cond.instanceMethod ({ cls := "SplitChannel", name := "worst", desc := "()I" } : Jvm.MethodName)) ∈ mk_WL := mk_t4 60 rfl rfl
theorem mw_781 : (Jvm.Cond.selects "SplitChannel" ({ cls := "SplitChannel", name := "worst", desc := "()I" } : Jvm.MethodName) ({ cls := "SplitChannel", name := "worst", desc := "()I" } : Jvm.MethodName)) ∈ mk_WL := mk_t4 61 rfl rfl
theorem mw_782 : (Jvm.Cond.code ({ cls := "SplitChannel", name := "worst", desc := "()I" } : Jvm.MethodName) prog_1_method_27_code (5 : Nat) (Option.some Jvm.ClassFile.FieldType.int)) ∈ mk_WL := mk_t4 62 rfl rfl
theorem mw_783 : (Jvm.Cond.methodLink "SplitChannelLaw" (121 : Nat) ({ cls := "SplitChannel", name := "mean", desc := "(III)J" } : Jvm.MethodName)) ∈ mk_WL := mk_t4 63 rfl rfl
theorem mw_784 : (Jvm.Cond.instanceMethod ({ cls := "SplitChannel", name := "mean", desc := "(III)J" } : Jvm.MethodName)) ∈ mk_WL := mk_t4 64 rfl rfl
theorem mw_785 : (Jvm.Cond.selects "SplitChannel" ({ cls := "SplitChannel", name := "mean", desc := "(III)J" } : Jvm.MethodName) ({ cls := "SplitChannel", name := "mean", desc := "(III)J" } : Jvm.MethodName)) ∈ mk_WL := mk_t4 65 rfl rfl
theorem mw_786 : (Jvm.Cond.code ({ cls := "SplitChannel", name := "mean", desc := "(III)J" } : Jvm.MethodName) prog_1_method_28_code (4 : Nat) (Option.some Jvm.ClassFile.FieldType.long)) ∈ mk_WL := mk_t4 66 rfl rfl
theorem mw_787 : (Jvm.Cond.methodLink "SplitChannel" (218 : Nat) ({ cls := "SplitChannel", name := "isTreeLaw", desc := "(I)Z" } : Jvm.MethodName)) ∈ mk_WL := mk_t4 67 rfl rfl
theorem mw_788 : (Jvm.Cond.static ({ cls := "SplitChannel", name := "isTreeLaw", desc := "(I)Z" } : Jvm.MethodName)) ∈ mk_WL := mk_t4 68 rfl rfl
theorem mw_789 : (Jvm.Cond.code ({ cls := "SplitChannel", name := "isTreeLaw", desc := "(I)Z" } : Jvm.MethodName) prog_1_method_38_code (1 : Nat) (Option.some Jvm.ClassFile.FieldType.boolean)) ∈ mk_WL := mk_t4 69 rfl rfl
theorem mw_790 : (Jvm.Cond.methodLink "SplitChannel" (221 : Nat) ({ cls := "SplitChannel", name := "isPart", desc := "(I)Z" } : Jvm.MethodName)) ∈ mk_WL := mk_t4 70 rfl rfl
theorem mw_791 : (Jvm.Cond.static ({ cls := "SplitChannel", name := "isPart", desc := "(I)Z" } : Jvm.MethodName)) ∈ mk_WL := mk_t4 71 rfl rfl
theorem mw_792 : (Jvm.Cond.code ({ cls := "SplitChannel", name := "isPart", desc := "(I)Z" } : Jvm.MethodName) prog_1_method_39_code (1 : Nat) (Option.some Jvm.ClassFile.FieldType.boolean)) ∈ mk_WL := mk_t4 72 rfl rfl
theorem mw_793 : (Jvm.Cond.constantLong "SplitChannel" (224 : Nat) (-2 : Int64)) ∈ mk_WL := mk_t4 73 rfl rfl
theorem mw_794 : (Jvm.Cond.methodLink "SplitChannel" (226 : Nat) ({ cls := "SplitChannel$Means", name := "reckon", desc := "(IIII)V" } : Jvm.MethodName)) ∈ mk_WL := mk_t4 74 rfl rfl
theorem mw_795 : (Jvm.Cond.instanceMethod ({ cls := "SplitChannel$Means", name := "reckon", desc := "(IIII)V" } : Jvm.MethodName)) ∈ mk_WL := mk_t4 75 rfl rfl
theorem mw_796 : (Jvm.Cond.selects "SplitChannel$Means" ({ cls := "SplitChannel$Means", name := "reckon", desc := "(IIII)V" } : Jvm.MethodName) ({ cls := "SplitChannel$Means", name := "reckon", desc := "(IIII)V" } : Jvm.MethodName)) ∈ mk_WL := mk_t4 76 rfl rfl
theorem mw_797 : (Jvm.Cond.code ({ cls := "SplitChannel$Means", name := "reckon", desc := "(IIII)V" } : Jvm.MethodName) prog_4_method_2_code (6 : Nat) (Option.none : Option Jvm.ClassFile.FieldType)) ∈ mk_WL := mk_t4 77 rfl rfl
theorem mw_798 : (Jvm.Cond.methodLink "SplitChannel$Means" (21 : Nat) ({ cls := "SplitChannel$Means", name := "set", desc := "(JJ)V" } : Jvm.MethodName)) ∈ mk_WL := mk_t4 78 rfl rfl
theorem mw_799 : (Jvm.Cond.instanceMethod ({ cls := "SplitChannel$Means", name := "set", desc := "(JJ)V" } : Jvm.MethodName)) ∈ mk_WL := mk_t4 79 rfl rfl
theorem mw_800 : (Jvm.Cond.selects "SplitChannel$Means" ({ cls := "SplitChannel$Means", name := "set", desc := "(JJ)V" } : Jvm.MethodName) ({ cls := "SplitChannel$Means", name := "set", desc := "(JJ)V" } : Jvm.MethodName)) ∈ mk_WL := mk_t4 80 rfl rfl
theorem mw_801 : (Jvm.Cond.code ({ cls := "SplitChannel$Means", name := "set", desc := "(JJ)V" } : Jvm.MethodName) prog_4_method_9_code (7 : Nat) (Option.none : Option Jvm.ClassFile.FieldType)) ∈ mk_WL := mk_t4 81 rfl rfl
theorem mw_802 : (Jvm.Cond.methodLink "SplitChannel$Means" (79 : Nat) ({ cls := "SplitChannel$Means", name := "common", desc := "(JJ)J" } : Jvm.MethodName)) ∈ mk_WL := mk_t4 82 rfl rfl
theorem mw_803 : (Jvm.Cond.static ({ cls := "SplitChannel$Means", name := "common", desc := "(JJ)J" } : Jvm.MethodName)) ∈ mk_WL := mk_t4 83 rfl rfl
theorem mw_804 : (Jvm.Cond.code ({ cls := "SplitChannel$Means", name := "common", desc := "(JJ)J" } : Jvm.MethodName) prog_4_method_11_code (11 : Nat) (Option.some Jvm.ClassFile.FieldType.long)) ∈ mk_WL := mk_t4 84 rfl rfl
theorem mw_805 : (Jvm.Cond.methodLink "SplitChannel$Means" (25 : Nat) ({ cls := "SplitChannel$Means", name := "reckonSplit", desc := "(IIII)V" } : Jvm.MethodName)) ∈ mk_WL := mk_t4 85 rfl rfl
theorem mw_806 : (Jvm.Cond.instanceMethod ({ cls := "SplitChannel$Means", name := "reckonSplit", desc := "(IIII)V" } : Jvm.MethodName)) ∈ mk_WL := mk_t4 86 rfl rfl
theorem mw_807 : (Jvm.Cond.selects "SplitChannel$Means" ({ cls := "SplitChannel$Means", name := "reckonSplit", desc := "(IIII)V" } : Jvm.MethodName) ({ cls := "SplitChannel$Means", name := "reckonSplit", desc := "(IIII)V" } : Jvm.MethodName)) ∈ mk_WL := mk_t4 87 rfl rfl
theorem mw_808 : (Jvm.Cond.code ({ cls := "SplitChannel$Means", name := "reckonSplit", desc := "(IIII)V" } : Jvm.MethodName) prog_4_method_3_code (14 : Nat) (Option.none : Option Jvm.ClassFile.FieldType)) ∈ mk_WL := mk_t4 88 rfl rfl
theorem mw_809 : (Jvm.Cond.methodLink "SplitChannel$Means" (40 : Nat) ({ cls := "SplitChannel$Means", name := "power", desc := "(JI)J" } : Jvm.MethodName)) ∈ mk_WL := mk_t4 89 rfl rfl
theorem mw_810 : (Jvm.Cond.static ({ cls := "SplitChannel$Means", name := "power", desc := "(JI)J" } : Jvm.MethodName)) ∈ mk_WL := mk_t4 90 rfl rfl
theorem mw_811 : (Jvm.Cond.code ({ cls := "SplitChannel$Means", name := "power", desc := "(JI)J" } : Jvm.MethodName) prog_4_method_12_code (6 : Nat) (Option.some Jvm.ClassFile.FieldType.long)) ∈ mk_WL := mk_t4 91 rfl rfl
theorem mw_812 : (Jvm.Cond.methodLink "SplitChannel$Means" (44 : Nat) ({ cls := "SplitChannel$Means", name := "choose", desc := "(II)J" } : Jvm.MethodName)) ∈ mk_WL := mk_t4 92 rfl rfl
theorem mw_813 : (Jvm.Cond.static ({ cls := "SplitChannel$Means", name := "choose", desc := "(II)J" } : Jvm.MethodName)) ∈ mk_WL := mk_t4 93 rfl rfl
theorem mw_814 : (Jvm.Cond.code ({ cls := "SplitChannel$Means", name := "choose", desc := "(II)J" } : Jvm.MethodName) prog_4_method_13_code (5 : Nat) (Option.some Jvm.ClassFile.FieldType.long)) ∈ mk_WL := mk_t4 94 rfl rfl
theorem mw_816 : (Jvm.Cond.static ({ cls := "SplitChannel", name := "at", desc := "([JI)J" } : Jvm.MethodName)) ∈ mk_WL := mk_t4 96 rfl rfl
theorem mw_817 : (Jvm.Cond.code ({ cls := "SplitChannel", name := "at", desc := "([JI)J" } : Jvm.MethodName) prog_1_method_42_code (2 : Nat) (Option.some Jvm.ClassFile.FieldType.long)) ∈ mk_WL := mk_t4 97 rfl rfl
theorem mw_818 : (Jvm.Cond.methodLink "SplitChannel$Means" (52 : Nat) ({ cls := "SplitChannel$Means", name := "plus", desc := "(JJ)V" } : Jvm.MethodName)) ∈ mk_WL := mk_t4 98 rfl rfl
theorem mw_819 : (Jvm.Cond.instanceMethod ({ cls := "SplitChannel$Means", name := "plus", desc := "(JJ)V" } : Jvm.MethodName)) ∈ mk_WL := mk_t4 99 rfl rfl
theorem mw_820 : (Jvm.Cond.selects "SplitChannel$Means" ({ cls := "SplitChannel$Means", name := "plus", desc := "(JJ)V" } : Jvm.MethodName) ({ cls := "SplitChannel$Means", name := "plus", desc := "(JJ)V" } : Jvm.MethodName)) ∈ mk_WL := mk_t4 100 rfl rfl
theorem mw_821 : (Jvm.Cond.code ({ cls := "SplitChannel$Means", name := "plus", desc := "(JJ)V" } : Jvm.MethodName) prog_4_method_10_code (7 : Nat) (Option.none : Option Jvm.ClassFile.FieldType)) ∈ mk_WL := mk_t4 101 rfl rfl
theorem mw_823 : (Jvm.Cond.static ({ cls := "SplitChannel", name := "put", desc := "([JIJ)V" } : Jvm.MethodName)) ∈ mk_WL := mk_t4 103 rfl rfl
theorem mw_824 : (Jvm.Cond.code ({ cls := "SplitChannel", name := "put", desc := "([JIJ)V" } : Jvm.MethodName) prog_1_method_43_code (4 : Nat) (Option.none : Option Jvm.ClassFile.FieldType)) ∈ mk_WL := mk_t4 104 rfl rfl
theorem mw_825 : (Jvm.Cond.methodLink "SplitChannel" (234 : Nat) ({ cls := "SplitChannel", name := "at", desc := "([JI)J" } : Jvm.MethodName)) ∈ mk_WL := mk_t4 105 rfl rfl
theorem mw_826 : (Jvm.Cond.methodLink "SplitChannelLaw" (126 : Nat) ({ cls := "SplitChannel", name := "leaning", desc := "(IIIII)J" } : Jvm.MethodName)) ∈ mk_WL := mk_t4 106 rfl rfl
theorem mw_827 : (Jvm.Cond.instanceMethod ({ cls := "SplitChannel", name := "leaning", desc := "(IIIII)J" } : Jvm.MethodName)) ∈ mk_WL := mk_t4 107 rfl rfl
theorem mw_828 : (Jvm.Cond.selects "SplitChannel" ({ cls := "SplitChannel", name := "leaning", desc := "(IIIII)J" } : Jvm.MethodName) ({ cls := "SplitChannel", name := "leaning", desc := "(IIIII)J" } : Jvm.MethodName)) ∈ mk_WL := mk_t4 108 rfl rfl
theorem mw_829 : (Jvm.Cond.code ({ cls := "SplitChannel", name := "leaning", desc := "(IIIII)J" } : Jvm.MethodName) prog_1_method_29_code (6 : Nat) (Option.some Jvm.ClassFile.FieldType.long)) ∈ mk_WL := mk_t4 109 rfl rfl
theorem mw_830 : (Jvm.Cond.methodLink "SplitChannelLaw" (131 : Nat) ({ cls := "SplitChannel", name := "chance", desc := "(IIII)J" } : Jvm.MethodName)) ∈ mk_WL := mk_t4 110 rfl rfl
theorem mw_831 : (Jvm.Cond.instanceMethod ({ cls := "SplitChannel", name := "chance", desc := "(IIII)J" } : Jvm.MethodName)) ∈ mk_WL := mk_t4 111 rfl rfl
theorem mw_832 : (Jvm.Cond.selects "SplitChannel" ({ cls := "SplitChannel", name := "chance", desc := "(IIII)J" } : Jvm.MethodName) ({ cls := "SplitChannel", name := "chance", desc := "(IIII)J" } : Jvm.MethodName)) ∈ mk_WL := mk_t4 112 rfl rfl
theorem mw_833 : (Jvm.Cond.code ({ cls := "SplitChannel", name := "chance", desc := "(IIII)J" } : Jvm.MethodName) prog_1_method_30_code (5 : Nat) (Option.some Jvm.ClassFile.FieldType.long)) ∈ mk_WL := mk_t4 113 rfl rfl
theorem mw_834 : (Jvm.Cond.methodLink "SplitChannel" (240 : Nat) ({ cls := "SplitChannel$Means", name := "reckonChance", desc := "(III)V" } : Jvm.MethodName)) ∈ mk_WL := mk_t4 114 rfl rfl
theorem mw_835 : (Jvm.Cond.instanceMethod ({ cls := "SplitChannel$Means", name := "reckonChance", desc := "(III)V" } : Jvm.MethodName)) ∈ mk_WL := mk_t4 115 rfl rfl
theorem mw_836 : (Jvm.Cond.selects "SplitChannel$Means" ({ cls := "SplitChannel$Means", name := "reckonChance", desc := "(III)V" } : Jvm.MethodName) ({ cls := "SplitChannel$Means", name := "reckonChance", desc := "(III)V" } : Jvm.MethodName)) ∈ mk_WL := mk_t4 116 rfl rfl
theorem mw_837 : (Jvm.Cond.code ({ cls := "SplitChannel$Means", name := "reckonChance", desc := "(III)V" } : Jvm.MethodName) prog_4_method_4_code (8 : Nat) (Option.none : Option Jvm.ClassFile.FieldType)) ∈ mk_WL := mk_t4 117 rfl rfl
theorem mw_838 : (Jvm.Cond.methodLink "SplitChannel$Means" (55 : Nat) ({ cls := "java/util/Arrays", name := "fill", desc := "([JJ)V" } : Jvm.MethodName)) ∈ mk_WL := mk_t4 118 rfl rfl
theorem mw_839 : (Jvm.Cond.static ({ cls := "java/util/Arrays", name := "fill", desc := "([JJ)V" } : Jvm.MethodName)) ∈ mk_WL := mk_t4 119 rfl rfl
theorem mw_840 : (Jvm.Cond.code ({ cls := "java/util/Arrays", name := "fill", desc := "([JJ)V" } : Jvm.MethodName) prog_17_method_101_code (5 : Nat) (Option.none : Option Jvm.ClassFile.FieldType)) ∈ mk_WL := mk_t4 120 rfl rfl
theorem mw_841 : (Jvm.Cond.constantLong "SplitChannel$Means" (61 : Nat) (8 : Int64)) ∈ mk_WL := mk_t4 121 rfl rfl
theorem mw_842 : (Jvm.Cond.methodLink "SplitChannel$Means" (63 : Nat) ({ cls := "SplitChannel$Means", name := "place", desc := "(II)I" } : Jvm.MethodName)) ∈ mk_WL := mk_t4 122 rfl rfl
theorem mw_843 : (Jvm.Cond.static ({ cls := "SplitChannel$Means", name := "place", desc := "(II)I" } : Jvm.MethodName)) ∈ mk_WL := mk_t4 123 rfl rfl
theorem mw_844 : (Jvm.Cond.code ({ cls := "SplitChannel$Means", name := "place", desc := "(II)I" } : Jvm.MethodName) prog_4_method_7_code (2 : Nat) (Option.some Jvm.ClassFile.FieldType.int)) ∈ mk_WL := mk_t4 124 rfl rfl
theorem mw_845 : (Jvm.Cond.methodLink "SplitChannel$Means" (67 : Nat) ({ cls := "SplitChannel$Means", name := "splitWays", desc := "(III)J" } : Jvm.MethodName)) ∈ mk_WL := mk_t4 125 rfl rfl
theorem mw_846 : (Jvm.Cond.instanceMethod ({ cls := "SplitChannel$Means", name := "splitWays", desc := "(III)J" } : Jvm.MethodName)) ∈ mk_WL := mk_t4 126 rfl rfl
theorem mw_847 : (Jvm.Cond.selects "SplitChannel$Means" ({ cls := "SplitChannel$Means", name := "splitWays", desc := "(III)J" } : Jvm.MethodName) ({ cls := "SplitChannel$Means", name := "splitWays", desc := "(III)J" } : Jvm.MethodName)) ∈ mk_WL := mk_t4 127 rfl rfl
theorem mw_848 : (Jvm.Cond.code ({ cls := "SplitChannel$Means", name := "splitWays", desc := "(III)J" } : Jvm.MethodName) prog_4_method_5_code (8 : Nat) (Option.some Jvm.ClassFile.FieldType.long)) ∈ mk_WL := mk_t4 128 rfl rfl
theorem mw_849 : (Jvm.Cond.methodLink "SplitChannel$Means" (71 : Nat) ({ cls := "SplitChannel$Means", name := "bothWays", desc := "(III)J" } : Jvm.MethodName)) ∈ mk_WL := mk_t4 129 rfl rfl
theorem mw_850 : (Jvm.Cond.instanceMethod ({ cls := "SplitChannel$Means", name := "bothWays", desc := "(III)J" } : Jvm.MethodName)) ∈ mk_WL := mk_t4 130 rfl rfl
theorem mw_851 : (Jvm.Cond.selects "SplitChannel$Means" ({ cls := "SplitChannel$Means", name := "bothWays", desc := "(III)J" } : Jvm.MethodName) ({ cls := "SplitChannel$Means", name := "bothWays", desc := "(III)J" } : Jvm.MethodName)) ∈ mk_WL := mk_t4 131 rfl rfl
theorem mw_852 : (Jvm.Cond.code ({ cls := "SplitChannel$Means", name := "bothWays", desc := "(III)J" } : Jvm.MethodName) prog_4_method_6_code (7 : Nat) (Option.some Jvm.ClassFile.FieldType.long)) ∈ mk_WL := mk_t4 132 rfl rfl
theorem mw_853 : (Jvm.Cond.constantLong "SplitChannel$Means" (74 : Nat) (2 : Int64)) ∈ mk_WL := mk_t4 133 rfl rfl
theorem mw_854 : (Jvm.Cond.methodLink "SplitChannelLaw" (136 : Nat) ({ cls := "SplitChannel", name := "best", desc := "(I)I" } : Jvm.MethodName)) ∈ mk_WL := mk_t4 134 rfl rfl
theorem mw_855 : (Jvm.Cond.instanceMethod ({ cls := "SplitChannel", name := "best", desc := "(I)I" } : Jvm.MethodName)) ∈ mk_WL := mk_t4 135 rfl rfl
theorem mw_856 : (Jvm.Cond.selects "SplitChannel" ({ cls := "SplitChannel", name := "best", desc := "(I)I" } : Jvm.MethodName) ({ cls := "SplitChannel", name := "best", desc := "(I)I" } : Jvm.MethodName)) ∈ mk_WL := mk_t4 136 rfl rfl
theorem mw_857 : (Jvm.Cond.code ({ cls := "SplitChannel", name := "best", desc := "(I)I" } : Jvm.MethodName) prog_1_method_31_code (2 : Nat) (Option.some Jvm.ClassFile.FieldType.int)) ∈ mk_WL := mk_t4 137 rfl rfl
theorem mw_858 : (Jvm.Cond.methodLink "SplitChannel" (251 : Nat) ({ cls := "SplitChannel$Means", name := "bestCount", desc := "(I)I" } : Jvm.MethodName)) ∈ mk_WL := mk_t4 138 rfl rfl
theorem mw_859 : (Jvm.Cond.instanceMethod ({ cls := "SplitChannel$Means", name := "bestCount", desc := "(I)I" } : Jvm.MethodName)) ∈ mk_WL := mk_t4 139 rfl rfl
theorem mw_860 : (Jvm.Cond.selects "SplitChannel$Means" ({ cls := "SplitChannel$Means", name := "bestCount", desc := "(I)I" } : Jvm.MethodName) ({ cls := "SplitChannel$Means", name := "bestCount", desc := "(I)I" } : Jvm.MethodName)) ∈ mk_WL := mk_t4 140 rfl rfl
theorem mw_861 : (Jvm.Cond.code ({ cls := "SplitChannel$Means", name := "bestCount", desc := "(I)I" } : Jvm.MethodName) prog_4_method_8_code (4 : Nat) (Option.some Jvm.ClassFile.FieldType.int)) ∈ mk_WL := mk_t4 141 rfl rfl
theorem mw_862 : (Jvm.Cond.methodLink "SplitChannel$Means" (76 : Nat) ({ cls := "SplitChannel$Means", name := "reckon", desc := "(IIII)V" } : Jvm.MethodName)) ∈ mk_WL := mk_t4 142 rfl rfl
theorem mw_863 : (Jvm.Cond.methodLink "SplitChannelLaw" (140 : Nat) ({ cls := "SplitChannel", name := "add", desc := "(III)I" } : Jvm.MethodName)) ∈ mk_WL := mk_t4 143 rfl rfl
theorem mw_864 : (Jvm.Cond.instanceMethod ({ cls := "SplitChannel", name := "add", desc := "(III)I" } : Jvm.MethodName)) ∈ mk_WL := mk_t4 144 rfl rfl
theorem mw_865 : (Jvm.Cond.selects "SplitChannel" ({ cls := "SplitChannel", name := "add", desc := "(III)I" } : Jvm.MethodName) ({ cls := "SplitChannel", name := "add", desc := "(III)I" } : Jvm.MethodName)) ∈ mk_WL := mk_t4 145 rfl rfl
theorem mw_866 : (Jvm.Cond.code ({ cls := "SplitChannel", name := "add", desc := "(III)I" } : Jvm.MethodName) prog_1_method_32_code (4 : Nat) (Option.some Jvm.ClassFile.FieldType.int)) ∈ mk_WL := mk_t4 146 rfl rfl
theorem mw_867 : (Jvm.Cond.methodLink "SplitChannel" (254 : Nat) ({ cls := "SplitChannel$Plan", name := "addSender", desc := "(III)V" } : Jvm.MethodName)) ∈ mk_WL := mk_t4 147 rfl rfl
theorem mw_868 : (Jvm.Cond.methodLink "SplitChannel" (257 : Nat) ({ cls := "SplitChannel$Acts", name := "note", desc := "(II)V" } : Jvm.MethodName)) ∈ mk_WL := mk_t4 148 rfl rfl
theorem mw_869 : (Jvm.Cond.instanceMethod ({ cls := "SplitChannel$Acts", name := "note", desc := "(II)V" } : Jvm.MethodName)) ∈ mk_WL := mk_t4 149 rfl rfl
theorem mw_870 : (Jvm.Cond.selects "SplitChannel$Acts" ({ cls := "SplitChannel$Acts", name := "note", desc := "(II)V" } : Jvm.MethodName) ({ cls := "SplitChannel$Acts", name := "note", desc := "(II)V" } : Jvm.MethodName)) ∈ mk_WL := mk_t4 150 rfl rfl
theorem mw_871 : (Jvm.Cond.code ({ cls := "SplitChannel$Acts", name := "note", desc := "(II)V" } : Jvm.MethodName) prog_2_method_2_code (3 : Nat) (Option.none : Option Jvm.ClassFile.FieldType)) ∈ mk_WL := mk_t4 151 rfl rfl
theorem mw_873 : (Jvm.Cond.methodLink "SplitChannelLaw" (145 : Nat) ({ cls := "SplitChannel", name := "disturb", desc := "(II)I" } : Jvm.MethodName)) ∈ mk_WL := mk_t4 153 rfl rfl
theorem mw_874 : (Jvm.Cond.instanceMethod ({ cls := "SplitChannel", name := "disturb", desc := "(II)I" } : Jvm.MethodName)) ∈ mk_WL := mk_t4 154 rfl rfl
theorem mw_875 : (Jvm.Cond.selects "SplitChannel" ({ cls := "SplitChannel", name := "disturb", desc := "(II)I" } : Jvm.MethodName) ({ cls := "SplitChannel", name := "disturb", desc := "(II)I" } : Jvm.MethodName)) ∈ mk_WL := mk_t4 155 rfl rfl
theorem mw_876 : (Jvm.Cond.code ({ cls := "SplitChannel", name := "disturb", desc := "(II)I" } : Jvm.MethodName) prog_1_method_33_code (3 : Nat) (Option.some Jvm.ClassFile.FieldType.int)) ∈ mk_WL := mk_t4 156 rfl rfl
theorem mw_877 : (Jvm.Cond.methodLink "SplitChannel" (261 : Nat) ({ cls := "SplitChannel$Plan", name := "isNoisy", desc := "(I)Z" } : Jvm.MethodName)) ∈ mk_WL := mk_t4 157 rfl rfl
theorem mw_878 : (Jvm.Cond.methodLink "SplitChannel" (264 : Nat) ({ cls := "SplitChannel$Plan", name := "addNoise", desc := "(II)V" } : Jvm.MethodName)) ∈ mk_WL := mk_t4 158 rfl rfl
theorem mw_879 : (Jvm.Cond.methodLink "SplitChannelLaw" (149 : Nat) ({ cls := "SplitChannel", name := "rule", desc := "(I)I" } : Jvm.MethodName)) ∈ mk_WL := mk_t4 159 rfl rfl
theorem mw_880 : (Jvm.Cond.instanceMethod ({ cls := "SplitChannel", name := "rule", desc := "(I)I" } : Jvm.MethodName)) ∈ mk_WL := mk_t4 160 rfl rfl
theorem mw_881 : (Jvm.Cond.selects "SplitChannel" ({ cls := "SplitChannel", name := "rule", desc := "(I)I" } : Jvm.MethodName) ({ cls := "SplitChannel", name := "rule", desc := "(I)I" } : Jvm.MethodName)) ∈ mk_WL := mk_t4 161 rfl rfl
theorem mw_882 : (Jvm.Cond.code ({ cls := "SplitChannel", name := "rule", desc := "(I)I" } : Jvm.MethodName) prog_1_method_34_code (2 : Nat) (Option.some Jvm.ClassFile.FieldType.int)) ∈ mk_WL := mk_t4 162 rfl rfl
theorem mw_883 : (Jvm.Cond.methodLink "SplitChannelLaw" (153 : Nat) ({ cls := "SplitChannel", name := "undo", desc := "()I" } : Jvm.MethodName)) ∈ mk_WL := mk_t4 163 rfl rfl
theorem mw_884 : (Jvm.Cond.instanceMethod ({ cls := "SplitChannel", name := "undo", desc := "()I" } : Jvm.MethodName)) ∈ mk_WL := mk_t4 164 rfl rfl
theorem mw_885 : (Jvm.Cond.selects "SplitChannel" ({ cls := "SplitChannel", name := "undo", desc := "()I" } : Jvm.MethodName) ({ cls := "SplitChannel", name := "undo", desc := "()I" } : Jvm.MethodName)) ∈ mk_WL := mk_t4 165 rfl rfl
theorem mw_886 : (Jvm.Cond.code ({ cls := "SplitChannel", name := "undo", desc := "()I" } : Jvm.MethodName) prog_1_method_35_code (1 : Nat) (Option.some Jvm.ClassFile.FieldType.int)) ∈ mk_WL := mk_t4 166 rfl rfl
theorem mw_887 : (Jvm.Cond.methodLink "SplitChannel" (267 : Nat) ({ cls := "SplitChannel$Acts", name := "takeBack", desc := "(LSplitChannel$Plan;)V" } : Jvm.MethodName)) ∈ mk_WL := mk_t4 167 rfl rfl
theorem mw_888 : (Jvm.Cond.instanceMethod ({ cls := "SplitChannel$Acts", name := "takeBack", desc := "(LSplitChannel$Plan;)V" } : Jvm.MethodName)) ∈ mk_WL := mk_t4 168 rfl rfl
theorem mw_889 : (Jvm.Cond.selects "SplitChannel$Acts" ({ cls := "SplitChannel$Acts", name := "takeBack", desc := "(LSplitChannel$Plan;)V" } : Jvm.MethodName) ({ cls := "SplitChannel$Acts", name := "takeBack", desc := "(LSplitChannel$Plan;)V" } : Jvm.MethodName)) ∈ mk_WL := mk_t4 169 rfl rfl
theorem mw_890 : (Jvm.Cond.code ({ cls := "SplitChannel$Acts", name := "takeBack", desc := "(LSplitChannel$Plan;)V" } : Jvm.MethodName) prog_2_method_3_code (3 : Nat) (Option.none : Option Jvm.ClassFile.FieldType)) ∈ mk_WL := mk_t4 170 rfl rfl
theorem mw_892 : (Jvm.Cond.methodLink "SplitChannelLaw" (157 : Nat) ({ cls := "SplitChannel", name := "anew", desc := "()I" } : Jvm.MethodName)) ∈ mk_WL := mk_t4 172 rfl rfl
theorem mw_893 : (Jvm.Cond.instanceMethod ({ cls := "SplitChannel", name := "anew", desc := "()I" } : Jvm.MethodName)) ∈ mk_WL := mk_t4 173 rfl rfl
theorem mw_894 : (Jvm.Cond.selects "SplitChannel" ({ cls := "SplitChannel", name := "anew", desc := "()I" } : Jvm.MethodName) ({ cls := "SplitChannel", name := "anew", desc := "()I" } : Jvm.MethodName)) ∈ mk_WL := mk_t4 174 rfl rfl
theorem mw_895 : (Jvm.Cond.code ({ cls := "SplitChannel", name := "anew", desc := "()I" } : Jvm.MethodName) prog_1_method_36_code (3 : Nat) (Option.some Jvm.ClassFile.FieldType.int)) ∈ mk_WL := mk_t4 175 rfl rfl
theorem mw_896 : (Jvm.Cond.classLink "SplitChannelLaw" (10 : Nat) "SplitChannelModel") ∈ mk_WL := mk_t4 176 rfl rfl
theorem mw_897 : (Jvm.Cond.instantiable "SplitChannelModel" (47 : Nat)) ∈ mk_WL := mk_t4 177 rfl rfl
theorem mw_898 : (Jvm.Cond.methodLink "SplitChannelLaw" (12 : Nat) ({ cls := "SplitChannelModel", name := "<init>", desc := "()V" } : Jvm.MethodName)) ∈ mk_WL := mk_t4 178 rfl rfl
theorem mw_899 : (Jvm.Cond.instanceMethod ({ cls := "SplitChannelModel", name := "<init>", desc := "()V" } : Jvm.MethodName)) ∈ mk_WL := mk_t4 179 rfl rfl
theorem mw_900 : (Jvm.Cond.code ({ cls := "SplitChannelModel", name := "<init>", desc := "()V" } : Jvm.MethodName) prog_11_method_4_code (1 : Nat) (Option.none : Option Jvm.ClassFile.FieldType)) ∈ mk_WL := mk_t4 180 rfl rfl
theorem mw_901 : (Jvm.Cond.methodLink "SplitChannelModel" (3 : Nat) ({ cls := "java/lang/Object", name := "<init>", desc := "()V" } : Jvm.MethodName)) ∈ mk_WL := mk_t4 181 rfl rfl
theorem mw_902 : (Jvm.Cond.fieldLink "SplitChannelModel" (9 : Nat) "SplitChannelModel" "mem" "[I") ∈ mk_WL := mk_t4 182 rfl rfl
theorem mw_903 : (Jvm.Cond.fieldLink "SplitChannelModel" (13 : Nat) "SplitChannelModel" "was" "[I") ∈ mk_WL := mk_t4 183 rfl rfl
theorem mw_904 : (Jvm.Cond.fieldLink "SplitChannelModel" (16 : Nat) "SplitChannelModel" "past" "[I") ∈ mk_WL := mk_t4 184 rfl rfl
theorem mw_905 : (Jvm.Cond.fieldLink "SplitChannelModel" (194 : Nat) "SplitChannelModel" "acted" "I") ∈ mk_WL := mk_t4 185 rfl rfl
theorem mw_906 : (Jvm.Cond.fieldLink "SplitChannelModel" (19 : Nat) "SplitChannelModel" "tape" "[I") ∈ mk_WL := mk_t4 186 rfl rfl
theorem mw_907 : (Jvm.Cond.fieldLink "SplitChannelModel" (81 : Nat) "SplitChannelModel" "taped" "I") ∈ mk_WL := mk_t4 187 rfl rfl
theorem mw_908 : (Jvm.Cond.fieldLink "SplitChannelModel" (191 : Nat) "SplitChannelModel" "faultKind" "I") ∈ mk_WL := mk_t4 188 rfl rfl
theorem mw_909 : (Jvm.Cond.fieldLink "SplitChannelModel" (22 : Nat) "SplitChannelModel" "faultPlace" "I") ∈ mk_WL := mk_t4 189 rfl rfl
theorem mw_910 : (Jvm.Cond.fieldLink "SplitChannelModel" (88 : Nat) "SplitChannelModel" "at" "I") ∈ mk_WL := mk_t4 190 rfl rfl
theorem mw_911 : (Jvm.Cond.fieldLink "SplitChannelModel" (95 : Nat) "SplitChannelModel" "begin" "I") ∈ mk_WL := mk_t4 191 rfl rfl
theorem mw_912 : (Jvm.Cond.fieldLink "SplitChannelModel" (101 : Nat) "SplitChannelModel" "token" "I") ∈ mk_WL := mk_t4 192 rfl rfl
theorem mw_913 : (Jvm.Cond.fieldLink "SplitChannelModel" (98 : Nat) "SplitChannelModel" "value" "I") ∈ mk_WL := mk_t4 193 rfl rfl
theorem mw_914 : (Jvm.Cond.fieldLink "SplitChannelModel" (111 : Nat) "SplitChannelModel" "bad" "Z") ∈ mk_WL := mk_t4 194 rfl rfl
theorem mw_915 : (Jvm.Cond.fieldLink "SplitChannelModel" (115 : Nat) "SplitChannelModel" "badKind" "I") ∈ mk_WL := mk_t4 195 rfl rfl
theorem mw_916 : (Jvm.Cond.fieldLink "SplitChannelModel" (118 : Nat) "SplitChannelModel" "badPlace" "I") ∈ mk_WL := mk_t4 196 rfl rfl
theorem mw_917 : (Jvm.Cond.fieldLink "SplitChannelModel" (209 : Nat) "SplitChannelModel" "rule" "I") ∈ mk_WL := mk_t4 197 rfl rfl
theorem mw_918 : (Jvm.Cond.fieldLink "SplitChannelModel" (212 : Nat) "SplitChannelModel" "silent" "I") ∈ mk_WL := mk_t4 198 rfl rfl
theorem mw_919 : (Jvm.Cond.fieldLink "SplitChannelModel" (215 : Nat) "SplitChannelModel" "absent" "I") ∈ mk_WL := mk_t4 199 rfl rfl
theorem mw_920 : (Jvm.Cond.fieldLink "SplitChannelModel" (26 : Nat) "SplitChannelModel" "who" "[I") ∈ mk_WL := mk_t4 200 rfl rfl
theorem mw_921 : (Jvm.Cond.fieldLink "SplitChannelModel" (29 : Nat) "SplitChannelModel" "from" "[I") ∈ mk_WL := mk_t4 201 rfl rfl
theorem mw_922 : (Jvm.Cond.fieldLink "SplitChannelModel" (32 : Nat) "SplitChannelModel" "to" "[I") ∈ mk_WL := mk_t4 202 rfl rfl
theorem mw_923 : (Jvm.Cond.fieldLink "SplitChannelModel" (218 : Nat) "SplitChannelModel" "groups" "I") ∈ mk_WL := mk_t4 203 rfl rfl
theorem mw_924 : (Jvm.Cond.fieldLink "SplitChannelModel" (221 : Nat) "SplitChannelModel" "isOn" "Z") ∈ mk_WL := mk_t4 204 rfl rfl
theorem mw_925 : (Jvm.Cond.fieldLink "SplitChannelModel" (224 : Nat) "SplitChannelModel" "isFresh" "Z") ∈ mk_WL := mk_t4 205 rfl rfl
theorem mw_926 : (Jvm.Cond.fieldLink "SplitChannelModel" (227 : Nat) "SplitChannelModel" "row" "I") ∈ mk_WL := mk_t4 206 rfl rfl
theorem mw_927 : (Jvm.Cond.fieldLink "SplitChannelModel" (230 : Nat) "SplitChannelModel" "edge" "I") ∈ mk_WL := mk_t4 207 rfl rfl
theorem mw_928 : (Jvm.Cond.fieldLink "SplitChannelModel" (243 : Nat) "SplitChannelModel" "left" "I") ∈ mk_WL := mk_t4 208 rfl rfl
theorem mw_929 : (Jvm.Cond.fieldLink "SplitChannelModel" (35 : Nat) "SplitChannelModel" "bitsTaken" "[I") ∈ mk_WL := mk_t4 209 rfl rfl
theorem mw_930 : (Jvm.Cond.fieldLink "SplitChannelModel" (38 : Nat) "SplitChannelModel" "counter" "[I") ∈ mk_WL := mk_t4 210 rfl rfl
theorem mw_931 : (Jvm.Cond.fieldLink "SplitChannelModel" (41 : Nat) "SplitChannelModel" "when" "[I") ∈ mk_WL := mk_t4 211 rfl rfl
theorem mw_932 : (Jvm.Cond.fieldLink "SplitChannelModel" (44 : Nat) "SplitChannelModel" "slotWho" "[I") ∈ mk_WL := mk_t4 212 rfl rfl
theorem mw_933 : (Jvm.Cond.fieldLink "SplitChannelModel" (47 : Nat) "SplitChannelModel" "slotHeard" "[I") ∈ mk_WL := mk_t4 213 rfl rfl
theorem mw_934 : (Jvm.Cond.fieldLink "SplitChannelModel" (50 : Nat) "SplitChannelModel" "slotGone" "[I") ∈ mk_WL := mk_t4 214 rfl rfl
theorem mw_935 : (Jvm.Cond.fieldLink "SplitChannelModel" (53 : Nat) "SplitChannelModel" "slotDeep" "[I") ∈ mk_WL := mk_t4 215 rfl rfl
theorem mw_936 : (Jvm.Cond.fieldLink "SplitChannelModel" (56 : Nat) "SplitChannelModel" "slotSkips" "[I") ∈ mk_WL := mk_t4 216 rfl rfl
theorem mw_937 : (Jvm.Cond.fieldLink "SplitChannelModel" (59 : Nat) "SplitChannelModel" "epochFirst" "[I") ∈ mk_WL := mk_t4 217 rfl rfl
theorem mw_938 : (Jvm.Cond.fieldLink "SplitChannelModel" (62 : Nat) "SplitChannelModel" "epochLast" "[I") ∈ mk_WL := mk_t4 218 rfl rfl
theorem mw_939 : (Jvm.Cond.fieldLink "SplitChannelModel" (65 : Nat) "SplitChannelModel" "epochWho" "[I") ∈ mk_WL := mk_t4 219 rfl rfl
theorem mw_940 : (Jvm.Cond.fieldLink "SplitChannelModel" (233 : Nat) "SplitChannelModel" "epochs" "I") ∈ mk_WL := mk_t4 220 rfl rfl
theorem mw_941 : (Jvm.Cond.fieldLink "SplitChannelModel" (283 : Nat) "SplitChannelModel" "isCounted" "Z") ∈ mk_WL := mk_t4 221 rfl rfl
theorem mw_942 : (Jvm.Cond.fieldLink "SplitChannelModel" (236 : Nat) "SplitChannelModel" "deliveredAll" "I") ∈ mk_WL := mk_t4 222 rfl rfl
theorem mw_943 : (Jvm.Cond.fieldLink "SplitChannelModel" (323 : Nat) "SplitChannelModel" "above" "J") ∈ mk_WL := mk_t4 223 rfl rfl
theorem mw_944 : (Jvm.Cond.fieldLink "SplitChannelModel" (327 : Nat) "SplitChannelModel" "below" "J") ∈ mk_WL := mk_t4 224 rfl rfl
theorem mw_945 : (Jvm.Cond.fieldLink "SplitChannelModel" (68 : Nat) "SplitChannelModel" "meanAbove" "[J") ∈ mk_WL := mk_t4 225 rfl rfl
theorem mw_946 : (Jvm.Cond.fieldLink "SplitChannelModel" (72 : Nat) "SplitChannelModel" "meanBelow" "[J") ∈ mk_WL := mk_t4 226 rfl rfl
theorem mw_947 : (Jvm.Cond.fieldLink "SplitChannelModel" (75 : Nat) "SplitChannelModel" "chanceAbove" "[J") ∈ mk_WL := mk_t4 227 rfl rfl
theorem mw_948 : (Jvm.Cond.fieldLink "SplitChannelModel" (78 : Nat) "SplitChannelModel" "chanceBelow" "[J") ∈ mk_WL := mk_t4 228 rfl rfl
theorem mw_949 : (Jvm.Cond.laysFinal "SplitChannelModel" "SplitChannelModel" "mem" "[I") ∈ mk_WL := mk_t4 229 rfl rfl
theorem mw_951 : (Jvm.Cond.laysFinal "SplitChannelModel" "SplitChannelModel" "was" "[I") ∈ mk_WL := mk_t4 231 rfl rfl
theorem mw_953 : (Jvm.Cond.laysFinal "SplitChannelModel" "SplitChannelModel" "past" "[I") ∈ mk_WL := mk_t4 233 rfl rfl
theorem mw_955 : (Jvm.Cond.lays "SplitChannelModel" "SplitChannelModel" "acted" "I") ∈ mk_WL := mk_t4 235 rfl rfl
theorem mw_957 : (Jvm.Cond.laysFinal "SplitChannelModel" "SplitChannelModel" "tape" "[I") ∈ mk_WL := mk_t4 237 rfl rfl
theorem mw_959 : (Jvm.Cond.lays "SplitChannelModel" "SplitChannelModel" "taped" "I") ∈ mk_WL := mk_t4 239 rfl rfl
theorem mw_961 : (Jvm.Cond.lays "SplitChannelModel" "SplitChannelModel" "faultKind" "I") ∈ mk_WL := mk_t5 1 rfl rfl
theorem mw_963 : (Jvm.Cond.lays "SplitChannelModel" "SplitChannelModel" "faultPlace" "I") ∈ mk_WL := mk_t5 3 rfl rfl
theorem mw_965 : (Jvm.Cond.lays "SplitChannelModel" "SplitChannelModel" "at" "I") ∈ mk_WL := mk_t5 5 rfl rfl
theorem mw_967 : (Jvm.Cond.lays "SplitChannelModel" "SplitChannelModel" "begin" "I") ∈ mk_WL := mk_t5 7 rfl rfl
theorem mw_969 : (Jvm.Cond.lays "SplitChannelModel" "SplitChannelModel" "token" "I") ∈ mk_WL := mk_t5 9 rfl rfl
theorem mw_971 : (Jvm.Cond.lays "SplitChannelModel" "SplitChannelModel" "value" "I") ∈ mk_WL := mk_t5 11 rfl rfl
theorem mw_973 : (Jvm.Cond.lays "SplitChannelModel" "SplitChannelModel" "bad" "Z") ∈ mk_WL := mk_t5 13 rfl rfl
theorem mw_975 : (Jvm.Cond.lays "SplitChannelModel" "SplitChannelModel" "badKind" "I") ∈ mk_WL := mk_t5 15 rfl rfl
theorem mw_977 : (Jvm.Cond.lays "SplitChannelModel" "SplitChannelModel" "badPlace" "I") ∈ mk_WL := mk_t5 17 rfl rfl
theorem mw_979 : (Jvm.Cond.lays "SplitChannelModel" "SplitChannelModel" "rule" "I") ∈ mk_WL := mk_t5 19 rfl rfl
theorem mw_981 : (Jvm.Cond.lays "SplitChannelModel" "SplitChannelModel" "silent" "I") ∈ mk_WL := mk_t5 21 rfl rfl
theorem mw_983 : (Jvm.Cond.lays "SplitChannelModel" "SplitChannelModel" "absent" "I") ∈ mk_WL := mk_t5 23 rfl rfl
theorem mw_985 : (Jvm.Cond.laysFinal "SplitChannelModel" "SplitChannelModel" "who" "[I") ∈ mk_WL := mk_t5 25 rfl rfl
theorem mw_987 : (Jvm.Cond.laysFinal "SplitChannelModel" "SplitChannelModel" "from" "[I") ∈ mk_WL := mk_t5 27 rfl rfl
theorem mw_989 : (Jvm.Cond.laysFinal "SplitChannelModel" "SplitChannelModel" "to" "[I") ∈ mk_WL := mk_t5 29 rfl rfl
theorem mw_991 : (Jvm.Cond.lays "SplitChannelModel" "SplitChannelModel" "groups" "I") ∈ mk_WL := mk_t5 31 rfl rfl
theorem mw_993 : (Jvm.Cond.lays "SplitChannelModel" "SplitChannelModel" "isOn" "Z") ∈ mk_WL := mk_t5 33 rfl rfl
theorem mw_995 : (Jvm.Cond.lays "SplitChannelModel" "SplitChannelModel" "isFresh" "Z") ∈ mk_WL := mk_t5 35 rfl rfl
theorem mw_997 : (Jvm.Cond.lays "SplitChannelModel" "SplitChannelModel" "row" "I") ∈ mk_WL := mk_t5 37 rfl rfl
theorem mw_999 : (Jvm.Cond.lays "SplitChannelModel" "SplitChannelModel" "edge" "I") ∈ mk_WL := mk_t5 39 rfl rfl
theorem mw_1001 : (Jvm.Cond.lays "SplitChannelModel" "SplitChannelModel" "left" "I") ∈ mk_WL := mk_t5 41 rfl rfl
theorem mw_1003 : (Jvm.Cond.laysFinal "SplitChannelModel" "SplitChannelModel" "bitsTaken" "[I") ∈ mk_WL := mk_t5 43 rfl rfl
theorem mw_1005 : (Jvm.Cond.laysFinal "SplitChannelModel" "SplitChannelModel" "counter" "[I") ∈ mk_WL := mk_t5 45 rfl rfl
theorem mw_1007 : (Jvm.Cond.laysFinal "SplitChannelModel" "SplitChannelModel" "when" "[I") ∈ mk_WL := mk_t5 47 rfl rfl
theorem mw_1009 : (Jvm.Cond.laysFinal "SplitChannelModel" "SplitChannelModel" "slotWho" "[I") ∈ mk_WL := mk_t5 49 rfl rfl
theorem mw_1011 : (Jvm.Cond.laysFinal "SplitChannelModel" "SplitChannelModel" "slotHeard" "[I") ∈ mk_WL := mk_t5 51 rfl rfl
theorem mw_1013 : (Jvm.Cond.laysFinal "SplitChannelModel" "SplitChannelModel" "slotGone" "[I") ∈ mk_WL := mk_t5 53 rfl rfl
theorem mw_1015 : (Jvm.Cond.laysFinal "SplitChannelModel" "SplitChannelModel" "slotDeep" "[I") ∈ mk_WL := mk_t5 55 rfl rfl
theorem mw_1017 : (Jvm.Cond.laysFinal "SplitChannelModel" "SplitChannelModel" "slotSkips" "[I") ∈ mk_WL := mk_t5 57 rfl rfl
theorem mw_1019 : (Jvm.Cond.laysFinal "SplitChannelModel" "SplitChannelModel" "epochFirst" "[I") ∈ mk_WL := mk_t5 59 rfl rfl
theorem mw_1021 : (Jvm.Cond.laysFinal "SplitChannelModel" "SplitChannelModel" "epochLast" "[I") ∈ mk_WL := mk_t5 61 rfl rfl
theorem mw_1023 : (Jvm.Cond.laysFinal "SplitChannelModel" "SplitChannelModel" "epochWho" "[I") ∈ mk_WL := mk_t5 63 rfl rfl
theorem mw_1025 : (Jvm.Cond.lays "SplitChannelModel" "SplitChannelModel" "epochs" "I") ∈ mk_WL := mk_t5 65 rfl rfl
theorem mw_1027 : (Jvm.Cond.lays "SplitChannelModel" "SplitChannelModel" "isCounted" "Z") ∈ mk_WL := mk_t5 67 rfl rfl
theorem mw_1029 : (Jvm.Cond.lays "SplitChannelModel" "SplitChannelModel" "deliveredAll" "I") ∈ mk_WL := mk_t5 69 rfl rfl
theorem mw_1031 : (Jvm.Cond.lays "SplitChannelModel" "SplitChannelModel" "above" "J") ∈ mk_WL := mk_t5 71 rfl rfl
theorem mw_1033 : (Jvm.Cond.lays "SplitChannelModel" "SplitChannelModel" "below" "J") ∈ mk_WL := mk_t5 73 rfl rfl
theorem mw_1035 : (Jvm.Cond.laysFinal "SplitChannelModel" "SplitChannelModel" "meanAbove" "[J") ∈ mk_WL := mk_t5 75 rfl rfl
theorem mw_1037 : (Jvm.Cond.laysFinal "SplitChannelModel" "SplitChannelModel" "meanBelow" "[J") ∈ mk_WL := mk_t5 77 rfl rfl
theorem mw_1039 : (Jvm.Cond.laysFinal "SplitChannelModel" "SplitChannelModel" "chanceAbove" "[J") ∈ mk_WL := mk_t5 79 rfl rfl
theorem mw_1041 : (Jvm.Cond.laysFinal "SplitChannelModel" "SplitChannelModel" "chanceBelow" "[J") ∈ mk_WL := mk_t5 81 rfl rfl
theorem mw_1044 : (Jvm.Cond.methodLink "SplitChannelLaw" (17 : Nat) ({ cls := "SplitChannelModel", name := "feed", desc := "(IIIII)I" } : Jvm.MethodName)) ∈ mk_WL := mk_t5 84 rfl rfl
theorem mw_1045 : (Jvm.Cond.instanceMethod ({ cls := "SplitChannelModel", name := "feed", desc := "(IIIII)I" } : Jvm.MethodName)) ∈ mk_WL := mk_t5 85 rfl rfl
theorem mw_1046 : (Jvm.Cond.selects "SplitChannelModel" ({ cls := "SplitChannelModel", name := "feed", desc := "(IIIII)I" } : Jvm.MethodName) ({ cls := "SplitChannelModel", name := "feed", desc := "(IIIII)I" } : Jvm.MethodName)) ∈ mk_WL := mk_t5 86 rfl rfl
theorem mw_1047 : (Jvm.Cond.code ({ cls := "SplitChannelModel", name := "feed", desc := "(IIIII)I" } : Jvm.MethodName) prog_11_method_5_code (8 : Nat) (Option.some Jvm.ClassFile.FieldType.int)) ∈ mk_WL := mk_t5 87 rfl rfl
theorem mw_1048 : (Jvm.Cond.methodLink "SplitChannelLaw" (22 : Nat) ({ cls := "SplitChannelModel", name := "end", desc := "(I)I" } : Jvm.MethodName)) ∈ mk_WL := mk_t5 88 rfl rfl
theorem mw_1049 : (Jvm.Cond.instanceMethod ({ cls := "SplitChannelModel", name := "end", desc := "(I)I" } : Jvm.MethodName)) ∈ mk_WL := mk_t5 89 rfl rfl
theorem mw_1050 : (Jvm.Cond.selects "SplitChannelModel" ({ cls := "SplitChannelModel", name := "end", desc := "(I)I" } : Jvm.MethodName) ({ cls := "SplitChannelModel", name := "end", desc := "(I)I" } : Jvm.MethodName)) ∈ mk_WL := mk_t5 90 rfl rfl
theorem mw_1051 : (Jvm.Cond.code ({ cls := "SplitChannelModel", name := "end", desc := "(I)I" } : Jvm.MethodName) prog_11_method_6_code (2 : Nat) (Option.some Jvm.ClassFile.FieldType.int)) ∈ mk_WL := mk_t5 91 rfl rfl
theorem mw_1052 : (Jvm.Cond.methodLink "SplitChannelModel" (84 : Nat) ({ cls := "SplitChannelModel", name := "in", desc := "(JJJ)Z" } : Jvm.MethodName)) ∈ mk_WL := mk_t5 92 rfl rfl
theorem mw_1053 : (Jvm.Cond.static ({ cls := "SplitChannelModel", name := "in", desc := "(JJJ)Z" } : Jvm.MethodName)) ∈ mk_WL := mk_t5 93 rfl rfl
theorem mw_1054 : (Jvm.Cond.code ({ cls := "SplitChannelModel", name := "in", desc := "(JJJ)Z" } : Jvm.MethodName) prog_11_method_1_code (6 : Nat) (Option.some Jvm.ClassFile.FieldType.boolean)) ∈ mk_WL := mk_t5 94 rfl rfl
theorem mw_1055 : (Jvm.Cond.methodLink "SplitChannelLaw" (27 : Nat) ({ cls := "SplitChannelModel", name := "channel", desc := "()I" } : Jvm.MethodName)) ∈ mk_WL := mk_t5 95 rfl rfl
theorem mw_1056 : (Jvm.Cond.instanceMethod ({ cls := "SplitChannelModel", name := "channel", desc := "()I" } : Jvm.MethodName)) ∈ mk_WL := mk_t5 96 rfl rfl
theorem mw_1057 : (Jvm.Cond.selects "SplitChannelModel" ({ cls := "SplitChannelModel", name := "channel", desc := "()I" } : Jvm.MethodName) ({ cls := "SplitChannelModel", name := "channel", desc := "()I" } : Jvm.MethodName)) ∈ mk_WL := mk_t5 97 rfl rfl
theorem mw_1058 : (Jvm.Cond.code ({ cls := "SplitChannelModel", name := "channel", desc := "()I" } : Jvm.MethodName) prog_11_method_18_code (2 : Nat) (Option.some Jvm.ClassFile.FieldType.int)) ∈ mk_WL := mk_t5 98 rfl rfl
theorem mw_1059 : (Jvm.Cond.methodLink "SplitChannelModel" (135 : Nat) ({ cls := "SplitChannelModel", name := "next", desc := "()V" } : Jvm.MethodName)) ∈ mk_WL := mk_t5 99 rfl rfl
theorem mw_1061 : (Jvm.Cond.instanceMethod ({ cls := "SplitChannelModel", name := "next", desc := "()V" } : Jvm.MethodName)) ∈ mk_WL := mk_t5 101 rfl rfl
theorem mw_1062 : (Jvm.Cond.code ({ cls := "SplitChannelModel", name := "next", desc := "()V" } : Jvm.MethodName) prog_11_method_8_code (1 : Nat) (Option.none : Option Jvm.ClassFile.FieldType)) ∈ mk_WL := mk_t5 102 rfl rfl
theorem mw_1063 : (Jvm.Cond.methodLink "SplitChannelModel" (91 : Nat) ({ cls := "SplitChannelModel", name := "isAt", desc := "(II)Z" } : Jvm.MethodName)) ∈ mk_WL := mk_t5 103 rfl rfl
theorem mw_1065 : (Jvm.Cond.instanceMethod ({ cls := "SplitChannelModel", name := "isAt", desc := "(II)Z" } : Jvm.MethodName)) ∈ mk_WL := mk_t5 105 rfl rfl
theorem mw_1066 : (Jvm.Cond.code ({ cls := "SplitChannelModel", name := "isAt", desc := "(II)Z" } : Jvm.MethodName) prog_11_method_7_code (3 : Nat) (Option.some Jvm.ClassFile.FieldType.boolean)) ∈ mk_WL := mk_t5 106 rfl rfl
theorem mw_1067 : (Jvm.Cond.constant "SplitChannelModel" (104 : Nat) (99999 : Int32)) ∈ mk_WL := mk_t5 107 rfl rfl
theorem mw_1068 : (Jvm.Cond.methodLink "SplitChannelModel" (105 : Nat) ({ cls := "java/lang/Math", name := "min", desc := "(II)I" } : Jvm.MethodName)) ∈ mk_WL := mk_t5 108 rfl rfl
theorem mw_1069 : (Jvm.Cond.methodLink "SplitChannelModel" (178 : Nat) ({ cls := "SplitChannelModel", name := "readsChannel", desc := "()V" } : Jvm.MethodName)) ∈ mk_WL := mk_t5 109 rfl rfl
theorem mw_1071 : (Jvm.Cond.instanceMethod ({ cls := "SplitChannelModel", name := "readsChannel", desc := "()V" } : Jvm.MethodName)) ∈ mk_WL := mk_t5 111 rfl rfl
theorem mw_1072 : (Jvm.Cond.code ({ cls := "SplitChannelModel", name := "readsChannel", desc := "()V" } : Jvm.MethodName) prog_11_method_14_code (1 : Nat) (Option.none : Option Jvm.ClassFile.FieldType)) ∈ mk_WL := mk_t5 112 rfl rfl
theorem mw_1074 : (Jvm.Cond.methodLink "SplitChannelModel" (142 : Nat) ({ cls := "SplitChannelModel", name := "isWord", desc := "(Ljava/lang/String;)Z" } : Jvm.MethodName)) ∈ mk_WL := mk_t5 114 rfl rfl
theorem mw_1076 : (Jvm.Cond.instanceMethod ({ cls := "SplitChannelModel", name := "isWord", desc := "(Ljava/lang/String;)Z" } : Jvm.MethodName)) ∈ mk_WL := mk_t5 116 rfl rfl
theorem mw_1077 : (Jvm.Cond.code ({ cls := "SplitChannelModel", name := "isWord", desc := "(Ljava/lang/String;)Z" } : Jvm.MethodName) prog_11_method_10_code (4 : Nat) (Option.some Jvm.ClassFile.FieldType.boolean)) ∈ mk_WL := mk_t5 117 rfl rfl
theorem mw_1078 : (Jvm.Cond.methodLink "SplitChannelModel" (121 : Nat) ({ cls := "java/lang/String", name := "length", desc := "()I" } : Jvm.MethodName)) ∈ mk_WL := mk_t5 118 rfl rfl
theorem mw_1079 : (Jvm.Cond.methodLink "SplitChannelModel" (127 : Nat) ({ cls := "java/lang/String", name := "charAt", desc := "(I)C" } : Jvm.MethodName)) ∈ mk_WL := mk_t5 119 rfl rfl
theorem mw_1080 : (Jvm.Cond.methodLink "SplitChannelModel" (138 : Nat) ({ cls := "SplitChannelModel", name := "passes", desc := "(Z)V" } : Jvm.MethodName)) ∈ mk_WL := mk_t5 120 rfl rfl
theorem mw_1082 : (Jvm.Cond.instanceMethod ({ cls := "SplitChannelModel", name := "passes", desc := "(Z)V" } : Jvm.MethodName)) ∈ mk_WL := mk_t5 122 rfl rfl
theorem mw_1083 : (Jvm.Cond.code ({ cls := "SplitChannelModel", name := "passes", desc := "(Z)V" } : Jvm.MethodName) prog_11_method_11_code (2 : Nat) (Option.none : Option Jvm.ClassFile.FieldType)) ∈ mk_WL := mk_t5 123 rfl rfl
theorem mw_1084 : (Jvm.Cond.methodLink "SplitChannelModel" (131 : Nat) ({ cls := "SplitChannelModel", name := "faults", desc := "(I)V" } : Jvm.MethodName)) ∈ mk_WL := mk_t5 124 rfl rfl
theorem mw_1086 : (Jvm.Cond.instanceMethod ({ cls := "SplitChannelModel", name := "faults", desc := "(I)V" } : Jvm.MethodName)) ∈ mk_WL := mk_t5 126 rfl rfl
theorem mw_1087 : (Jvm.Cond.code ({ cls := "SplitChannelModel", name := "faults", desc := "(I)V" } : Jvm.MethodName) prog_11_method_9_code (2 : Nat) (Option.none : Option Jvm.ClassFile.FieldType)) ∈ mk_WL := mk_t5 127 rfl rfl
theorem mw_1089 : (Jvm.Cond.methodLink "SplitChannelModel" (153 : Nat) ({ cls := "SplitChannelModel", name := "named", desc := "(Ljava/lang/String;II)I" } : Jvm.MethodName)) ∈ mk_WL := mk_t5 129 rfl rfl
theorem mw_1091 : (Jvm.Cond.instanceMethod ({ cls := "SplitChannelModel", name := "named", desc := "(Ljava/lang/String;II)I" } : Jvm.MethodName)) ∈ mk_WL := mk_t5 131 rfl rfl
theorem mw_1092 : (Jvm.Cond.code ({ cls := "SplitChannelModel", name := "named", desc := "(Ljava/lang/String;II)I" } : Jvm.MethodName) prog_11_method_13_code (4 : Nat) (Option.some Jvm.ClassFile.FieldType.int)) ∈ mk_WL := mk_t5 132 rfl rfl
theorem mw_1093 : (Jvm.Cond.methodLink "SplitChannelModel" (146 : Nat) ({ cls := "SplitChannelModel", name := "reads", desc := "(II)I" } : Jvm.MethodName)) ∈ mk_WL := mk_t5 133 rfl rfl
theorem mw_1095 : (Jvm.Cond.instanceMethod ({ cls := "SplitChannelModel", name := "reads", desc := "(II)I" } : Jvm.MethodName)) ∈ mk_WL := mk_t5 135 rfl rfl
theorem mw_1096 : (Jvm.Cond.code ({ cls := "SplitChannelModel", name := "reads", desc := "(II)I" } : Jvm.MethodName) prog_11_method_12_code (4 : Nat) (Option.some Jvm.ClassFile.FieldType.int)) ∈ mk_WL := mk_t5 136 rfl rfl
theorem mw_1101 : (Jvm.Cond.methodLink "SplitChannelModel" (183 : Nat) ({ cls := "SplitChannelModel", name := "readsSender", desc := "()V" } : Jvm.MethodName)) ∈ mk_WL := mk_t5 141 rfl rfl
theorem mw_1103 : (Jvm.Cond.instanceMethod ({ cls := "SplitChannelModel", name := "readsSender", desc := "()V" } : Jvm.MethodName)) ∈ mk_WL := mk_t5 143 rfl rfl
theorem mw_1104 : (Jvm.Cond.code ({ cls := "SplitChannelModel", name := "readsSender", desc := "()V" } : Jvm.MethodName) prog_11_method_15_code (3 : Nat) (Option.none : Option Jvm.ClassFile.FieldType)) ∈ mk_WL := mk_t5 144 rfl rfl
theorem mw_1108 : (Jvm.Cond.methodLink "SplitChannelModel" (188 : Nat) ({ cls := "SplitChannelModel", name := "readsNoise", desc := "()V" } : Jvm.MethodName)) ∈ mk_WL := mk_t5 148 rfl rfl
theorem mw_1110 : (Jvm.Cond.instanceMethod ({ cls := "SplitChannelModel", name := "readsNoise", desc := "()V" } : Jvm.MethodName)) ∈ mk_WL := mk_t5 150 rfl rfl
theorem mw_1111 : (Jvm.Cond.code ({ cls := "SplitChannelModel", name := "readsNoise", desc := "()V" } : Jvm.MethodName) prog_11_method_17_code (3 : Nat) (Option.none : Option Jvm.ClassFile.FieldType)) ∈ mk_WL := mk_t5 151 rfl rfl
theorem mw_1112 : (Jvm.Cond.methodLink "SplitChannelModel" (166 : Nat) ({ cls := "SplitChannelModel", name := "isNoisy", desc := "(I)Z" } : Jvm.MethodName)) ∈ mk_WL := mk_t5 152 rfl rfl
theorem mw_1114 : (Jvm.Cond.instanceMethod ({ cls := "SplitChannelModel", name := "isNoisy", desc := "(I)Z" } : Jvm.MethodName)) ∈ mk_WL := mk_t5 154 rfl rfl
theorem mw_1115 : (Jvm.Cond.code ({ cls := "SplitChannelModel", name := "isNoisy", desc := "(I)Z" } : Jvm.MethodName) prog_11_method_16_code (3 : Nat) (Option.some Jvm.ClassFile.FieldType.boolean)) ∈ mk_WL := mk_t5 155 rfl rfl
theorem mw_1120 : (Jvm.Cond.methodLink "SplitChannelLaw" (31 : Nat) ({ cls := "SplitChannelModel", name := "fault", desc := "(I)I" } : Jvm.MethodName)) ∈ mk_WL := mk_t5 160 rfl rfl
theorem mw_1121 : (Jvm.Cond.instanceMethod ({ cls := "SplitChannelModel", name := "fault", desc := "(I)I" } : Jvm.MethodName)) ∈ mk_WL := mk_t5 161 rfl rfl
theorem mw_1122 : (Jvm.Cond.selects "SplitChannelModel" ({ cls := "SplitChannelModel", name := "fault", desc := "(I)I" } : Jvm.MethodName) ({ cls := "SplitChannelModel", name := "fault", desc := "(I)I" } : Jvm.MethodName)) ∈ mk_WL := mk_t5 162 rfl rfl
theorem mw_1123 : (Jvm.Cond.code ({ cls := "SplitChannelModel", name := "fault", desc := "(I)I" } : Jvm.MethodName) prog_11_method_19_code (2 : Nat) (Option.some Jvm.ClassFile.FieldType.int)) ∈ mk_WL := mk_t5 163 rfl rfl
theorem mw_1124 : (Jvm.Cond.methodLink "SplitChannelLaw" (35 : Nat) ({ cls := "SplitChannelModel", name := "count", desc := "(I)I" } : Jvm.MethodName)) ∈ mk_WL := mk_t5 164 rfl rfl
theorem mw_1125 : (Jvm.Cond.instanceMethod ({ cls := "SplitChannelModel", name := "count", desc := "(I)I" } : Jvm.MethodName)) ∈ mk_WL := mk_t5 165 rfl rfl
theorem mw_1126 : (Jvm.Cond.selects "SplitChannelModel" ({ cls := "SplitChannelModel", name := "count", desc := "(I)I" } : Jvm.MethodName) ({ cls := "SplitChannelModel", name := "count", desc := "(I)I" } : Jvm.MethodName)) ∈ mk_WL := mk_t5 166 rfl rfl
theorem mw_1127 : (Jvm.Cond.code ({ cls := "SplitChannelModel", name := "count", desc := "(I)I" } : Jvm.MethodName) prog_11_method_22_code (2 : Nat) (Option.some Jvm.ClassFile.FieldType.int)) ∈ mk_WL := mk_t5 167 rfl rfl
theorem mw_1128 : (Jvm.Cond.methodLink "SplitChannelLaw" (40 : Nat) ({ cls := "SplitChannelModel", name := "sender", desc := "(II)I" } : Jvm.MethodName)) ∈ mk_WL := mk_t5 168 rfl rfl
theorem mw_1129 : (Jvm.Cond.instanceMethod ({ cls := "SplitChannelModel", name := "sender", desc := "(II)I" } : Jvm.MethodName)) ∈ mk_WL := mk_t5 169 rfl rfl
theorem mw_1130 : (Jvm.Cond.selects "SplitChannelModel" ({ cls := "SplitChannelModel", name := "sender", desc := "(II)I" } : Jvm.MethodName) ({ cls := "SplitChannelModel", name := "sender", desc := "(II)I" } : Jvm.MethodName)) ∈ mk_WL := mk_t5 170 rfl rfl
theorem mw_1131 : (Jvm.Cond.code ({ cls := "SplitChannelModel", name := "sender", desc := "(II)I" } : Jvm.MethodName) prog_11_method_24_code (3 : Nat) (Option.some Jvm.ClassFile.FieldType.int)) ∈ mk_WL := mk_t5 171 rfl rfl
theorem mw_1132 : (Jvm.Cond.methodLink "SplitChannelModel" (197 : Nat) ({ cls := "SplitChannelModel", name := "isSender", desc := "(I)Z" } : Jvm.MethodName)) ∈ mk_WL := mk_t5 172 rfl rfl
theorem mw_1134 : (Jvm.Cond.instanceMethod ({ cls := "SplitChannelModel", name := "isSender", desc := "(I)Z" } : Jvm.MethodName)) ∈ mk_WL := mk_t5 174 rfl rfl
theorem mw_1135 : (Jvm.Cond.code ({ cls := "SplitChannelModel", name := "isSender", desc := "(I)Z" } : Jvm.MethodName) prog_11_method_21_code (2 : Nat) (Option.some Jvm.ClassFile.FieldType.boolean)) ∈ mk_WL := mk_t5 175 rfl rfl
theorem mw_1136 : (Jvm.Cond.constantLong "SplitChannelModel" (200 : Nat) (13 : Int64)) ∈ mk_WL := mk_t5 176 rfl rfl
theorem mw_1137 : (Jvm.Cond.methodLink "SplitChannelModel" (202 : Nat) ({ cls := "SplitChannelModel", name := "bitOf", desc := "(II)I" } : Jvm.MethodName)) ∈ mk_WL := mk_t5 177 rfl rfl
theorem mw_1139 : (Jvm.Cond.instanceMethod ({ cls := "SplitChannelModel", name := "bitOf", desc := "(II)I" } : Jvm.MethodName)) ∈ mk_WL := mk_t5 179 rfl rfl
theorem mw_1140 : (Jvm.Cond.code ({ cls := "SplitChannelModel", name := "bitOf", desc := "(II)I" } : Jvm.MethodName) prog_11_method_23_code (3 : Nat) (Option.some Jvm.ClassFile.FieldType.int)) ∈ mk_WL := mk_t5 180 rfl rfl
theorem mw_1141 : (Jvm.Cond.methodLink "SplitChannelLaw" (112 : Nat) ({ cls := "SplitChannelModel", name := "noise", desc := "(II)I" } : Jvm.MethodName)) ∈ mk_WL := mk_t5 181 rfl rfl
theorem mw_1142 : (Jvm.Cond.instanceMethod ({ cls := "SplitChannelModel", name := "noise", desc := "(II)I" } : Jvm.MethodName)) ∈ mk_WL := mk_t5 182 rfl rfl
theorem mw_1143 : (Jvm.Cond.selects "SplitChannelModel" ({ cls := "SplitChannelModel", name := "noise", desc := "(II)I" } : Jvm.MethodName) ({ cls := "SplitChannelModel", name := "noise", desc := "(II)I" } : Jvm.MethodName)) ∈ mk_WL := mk_t5 183 rfl rfl
theorem mw_1144 : (Jvm.Cond.code ({ cls := "SplitChannelModel", name := "noise", desc := "(II)I" } : Jvm.MethodName) prog_11_method_25_code (3 : Nat) (Option.some Jvm.ClassFile.FieldType.int)) ∈ mk_WL := mk_t5 184 rfl rfl
theorem mw_1145 : (Jvm.Cond.methodLink "SplitChannelLaw" (44 : Nat) ({ cls := "SplitChannelModel", name := "slot", desc := "(II)I" } : Jvm.MethodName)) ∈ mk_WL := mk_t5 185 rfl rfl
theorem mw_1146 : (Jvm.Cond.instanceMethod ({ cls := "SplitChannelModel", name := "slot", desc := "(II)I" } : Jvm.MethodName)) ∈ mk_WL := mk_t5 186 rfl rfl
theorem mw_1147 : (Jvm.Cond.selects "SplitChannelModel" ({ cls := "SplitChannelModel", name := "slot", desc := "(II)I" } : Jvm.MethodName) ({ cls := "SplitChannelModel", name := "slot", desc := "(II)I" } : Jvm.MethodName)) ∈ mk_WL := mk_t5 187 rfl rfl
theorem mw_1148 : (Jvm.Cond.code ({ cls := "SplitChannelModel", name := "slot", desc := "(II)I" } : Jvm.MethodName) prog_11_method_40_code (3 : Nat) (Option.some Jvm.ClassFile.FieldType.int)) ∈ mk_WL := mk_t5 188 rfl rfl
theorem mw_1149 : (Jvm.Cond.methodLink "SplitChannelModel" (293 : Nat) ({ cls := "SplitChannelModel", name := "isSlot", desc := "(I)Z" } : Jvm.MethodName)) ∈ mk_WL := mk_t5 189 rfl rfl
theorem mw_1151 : (Jvm.Cond.instanceMethod ({ cls := "SplitChannelModel", name := "isSlot", desc := "(I)Z" } : Jvm.MethodName)) ∈ mk_WL := mk_t5 191 rfl rfl
theorem mw_1152 : (Jvm.Cond.code ({ cls := "SplitChannelModel", name := "isSlot", desc := "(I)Z" } : Jvm.MethodName) prog_11_method_39_code (2 : Nat) (Option.some Jvm.ClassFile.FieldType.boolean)) ∈ mk_WL := mk_t5 192 rfl rfl
theorem mw_1153 : (Jvm.Cond.methodLink "SplitChannelModel" (289 : Nat) ({ cls := "SplitChannelModel", name := "is", desc := "()Z" } : Jvm.MethodName)) ∈ mk_WL := mk_t5 193 rfl rfl
theorem mw_1155 : (Jvm.Cond.instanceMethod ({ cls := "SplitChannelModel", name := "is", desc := "()Z" } : Jvm.MethodName)) ∈ mk_WL := mk_t5 195 rfl rfl
theorem mw_1156 : (Jvm.Cond.code ({ cls := "SplitChannelModel", name := "is", desc := "()Z" } : Jvm.MethodName) prog_11_method_20_code (1 : Nat) (Option.some Jvm.ClassFile.FieldType.boolean)) ∈ mk_WL := mk_t5 196 rfl rfl
theorem mw_1157 : (Jvm.Cond.constantLong "SplitChannelModel" (296 : Nat) (4 : Int64)) ∈ mk_WL := mk_t5 197 rfl rfl
theorem mw_1158 : (Jvm.Cond.methodLink "SplitChannelModel" (298 : Nat) ({ cls := "SplitChannelModel", name := "runs", desc := "()V" } : Jvm.MethodName)) ∈ mk_WL := mk_t5 198 rfl rfl
theorem mw_1160 : (Jvm.Cond.instanceMethod ({ cls := "SplitChannelModel", name := "runs", desc := "()V" } : Jvm.MethodName)) ∈ mk_WL := mk_t5 200 rfl rfl
theorem mw_1161 : (Jvm.Cond.code ({ cls := "SplitChannelModel", name := "runs", desc := "()V" } : Jvm.MethodName) prog_11_method_27_code (1 : Nat) (Option.none : Option Jvm.ClassFile.FieldType)) ∈ mk_WL := mk_t5 201 rfl rfl
theorem mw_1162 : (Jvm.Cond.methodLink "SplitChannelModel" (205 : Nat) ({ cls := "SplitChannelModel", name := "runsBy", desc := "(III)V" } : Jvm.MethodName)) ∈ mk_WL := mk_t5 202 rfl rfl
theorem mw_1164 : (Jvm.Cond.instanceMethod ({ cls := "SplitChannelModel", name := "runsBy", desc := "(III)V" } : Jvm.MethodName)) ∈ mk_WL := mk_t5 204 rfl rfl
theorem mw_1165 : (Jvm.Cond.code ({ cls := "SplitChannelModel", name := "runsBy", desc := "(III)V" } : Jvm.MethodName) prog_11_method_28_code (5 : Nat) (Option.none : Option Jvm.ClassFile.FieldType)) ∈ mk_WL := mk_t5 205 rfl rfl
theorem mw_1166 : (Jvm.Cond.methodLink "SplitChannelModel" (239 : Nat) ({ cls := "SplitChannelModel", name := "waiting", desc := "(I)I" } : Jvm.MethodName)) ∈ mk_WL := mk_t5 206 rfl rfl
theorem mw_1168 : (Jvm.Cond.instanceMethod ({ cls := "SplitChannelModel", name := "waiting", desc := "(I)I" } : Jvm.MethodName)) ∈ mk_WL := mk_t5 208 rfl rfl
theorem mw_1169 : (Jvm.Cond.code ({ cls := "SplitChannelModel", name := "waiting", desc := "(I)I" } : Jvm.MethodName) prog_11_method_29_code (4 : Nat) (Option.some Jvm.ClassFile.FieldType.int)) ∈ mk_WL := mk_t5 209 rfl rfl
theorem mw_1170 : (Jvm.Cond.methodLink "SplitChannelModel" (246 : Nat) ({ cls := "SplitChannelModel", name := "goesByCounters", desc := "(I)V" } : Jvm.MethodName)) ∈ mk_WL := mk_t5 210 rfl rfl
theorem mw_1172 : (Jvm.Cond.instanceMethod ({ cls := "SplitChannelModel", name := "goesByCounters", desc := "(I)V" } : Jvm.MethodName)) ∈ mk_WL := mk_t5 212 rfl rfl
theorem mw_1173 : (Jvm.Cond.code ({ cls := "SplitChannelModel", name := "goesByCounters", desc := "(I)V" } : Jvm.MethodName) prog_11_method_33_code (6 : Nat) (Option.none : Option Jvm.ClassFile.FieldType)) ∈ mk_WL := mk_t5 213 rfl rfl
theorem mw_1174 : (Jvm.Cond.methodLink "SplitChannelModel" (258 : Nat) ({ cls := "SplitChannelModel", name := "has", desc := "(II)Z" } : Jvm.MethodName)) ∈ mk_WL := mk_t5 214 rfl rfl
theorem mw_1175 : (Jvm.Cond.static ({ cls := "SplitChannelModel", name := "has", desc := "(II)Z" } : Jvm.MethodName)) ∈ mk_WL := mk_t5 215 rfl rfl
theorem mw_1176 : (Jvm.Cond.code ({ cls := "SplitChannelModel", name := "has", desc := "(II)Z" } : Jvm.MethodName) prog_11_method_2_code (2 : Nat) (Option.some Jvm.ClassFile.FieldType.boolean)) ∈ mk_WL := mk_t5 216 rfl rfl
theorem mw_1177 : (Jvm.Cond.methodLink "SplitChannelModel" (261 : Nat) ({ cls := "SplitChannelModel", name := "sent", desc := "(II)I" } : Jvm.MethodName)) ∈ mk_WL := mk_t5 217 rfl rfl
theorem mw_1179 : (Jvm.Cond.instanceMethod ({ cls := "SplitChannelModel", name := "sent", desc := "(II)I" } : Jvm.MethodName)) ∈ mk_WL := mk_t5 219 rfl rfl
theorem mw_1180 : (Jvm.Cond.code ({ cls := "SplitChannelModel", name := "sent", desc := "(II)I" } : Jvm.MethodName) prog_11_method_31_code (4 : Nat) (Option.some Jvm.ClassFile.FieldType.int)) ∈ mk_WL := mk_t5 220 rfl rfl
theorem mw_1181 : (Jvm.Cond.methodLink "SplitChannelModel" (252 : Nat) ({ cls := "SplitChannelModel", name := "bitsOf", desc := "(I)I" } : Jvm.MethodName)) ∈ mk_WL := mk_t5 221 rfl rfl
theorem mw_1182 : (Jvm.Cond.static ({ cls := "SplitChannelModel", name := "bitsOf", desc := "(I)I" } : Jvm.MethodName)) ∈ mk_WL := mk_t5 222 rfl rfl
theorem mw_1183 : (Jvm.Cond.code ({ cls := "SplitChannelModel", name := "bitsOf", desc := "(I)I" } : Jvm.MethodName) prog_11_method_3_code (3 : Nat) (Option.some Jvm.ClassFile.FieldType.int)) ∈ mk_WL := mk_t5 223 rfl rfl
theorem mw_1184 : (Jvm.Cond.methodLink "SplitChannelModel" (255 : Nat) ({ cls := "SplitChannelModel", name := "heardAt", desc := "(II)I" } : Jvm.MethodName)) ∈ mk_WL := mk_t5 224 rfl rfl
theorem mw_1186 : (Jvm.Cond.instanceMethod ({ cls := "SplitChannelModel", name := "heardAt", desc := "(II)I" } : Jvm.MethodName)) ∈ mk_WL := mk_t5 226 rfl rfl
theorem mw_1187 : (Jvm.Cond.code ({ cls := "SplitChannelModel", name := "heardAt", desc := "(II)I" } : Jvm.MethodName) prog_11_method_30_code (4 : Nat) (Option.some Jvm.ClassFile.FieldType.int)) ∈ mk_WL := mk_t5 227 rfl rfl
theorem mw_1188 : (Jvm.Cond.methodLink "SplitChannelModel" (264 : Nat) ({ cls := "SplitChannelModel", name := "takesBit", desc := "(I)I" } : Jvm.MethodName)) ∈ mk_WL := mk_t5 228 rfl rfl
theorem mw_1190 : (Jvm.Cond.instanceMethod ({ cls := "SplitChannelModel", name := "takesBit", desc := "(I)I" } : Jvm.MethodName)) ∈ mk_WL := mk_t5 230 rfl rfl
theorem mw_1191 : (Jvm.Cond.code ({ cls := "SplitChannelModel", name := "takesBit", desc := "(I)I" } : Jvm.MethodName) prog_11_method_32_code (3 : Nat) (Option.some Jvm.ClassFile.FieldType.int)) ∈ mk_WL := mk_t5 231 rfl rfl
theorem mw_1192 : (Jvm.Cond.methodLink "SplitChannelModel" (267 : Nat) ({ cls := "java/lang/Math", name := "max", desc := "(II)I" } : Jvm.MethodName)) ∈ mk_WL := mk_t5 232 rfl rfl
theorem mw_1193 : (Jvm.Cond.methodLink "SplitChannelModel" (249 : Nat) ({ cls := "SplitChannelModel", name := "goesByGroups", desc := "(I)V" } : Jvm.MethodName)) ∈ mk_WL := mk_t5 233 rfl rfl
theorem mw_1195 : (Jvm.Cond.instanceMethod ({ cls := "SplitChannelModel", name := "goesByGroups", desc := "(I)V" } : Jvm.MethodName)) ∈ mk_WL := mk_t5 235 rfl rfl
theorem mw_1196 : (Jvm.Cond.code ({ cls := "SplitChannelModel", name := "goesByGroups", desc := "(I)V" } : Jvm.MethodName) prog_11_method_34_code (3 : Nat) (Option.none : Option Jvm.ClassFile.FieldType)) ∈ mk_WL := mk_t5 236 rfl rfl
theorem mw_1197 : (Jvm.Cond.methodLink "SplitChannelModel" (270 : Nat) ({ cls := "SplitChannelModel", name := "begins", desc := "(I)V" } : Jvm.MethodName)) ∈ mk_WL := mk_t5 237 rfl rfl
theorem mw_1199 : (Jvm.Cond.instanceMethod ({ cls := "SplitChannelModel", name := "begins", desc := "(I)V" } : Jvm.MethodName)) ∈ mk_WL := mk_t5 239 rfl rfl
theorem mw_1200 : (Jvm.Cond.code ({ cls := "SplitChannelModel", name := "begins", desc := "(I)V" } : Jvm.MethodName) prog_11_method_35_code (5 : Nat) (Option.none : Option Jvm.ClassFile.FieldType)) ∈ mk_WL := mk_t6 0 rfl rfl
theorem mw_1201 : (Jvm.Cond.methodLink "SplitChannelModel" (279 : Nat) ({ cls := "SplitChannelModel", name := "between", desc := "(III)I" } : Jvm.MethodName)) ∈ mk_WL := mk_t6 1 rfl rfl
theorem mw_1203 : (Jvm.Cond.instanceMethod ({ cls := "SplitChannelModel", name := "between", desc := "(III)I" } : Jvm.MethodName)) ∈ mk_WL := mk_t6 3 rfl rfl
theorem mw_1204 : (Jvm.Cond.code ({ cls := "SplitChannelModel", name := "between", desc := "(III)I" } : Jvm.MethodName) prog_11_method_37_code (6 : Nat) (Option.some Jvm.ClassFile.FieldType.int)) ∈ mk_WL := mk_t6 4 rfl rfl
theorem mw_1205 : (Jvm.Cond.methodLink "SplitChannelModel" (286 : Nat) ({ cls := "SplitChannelModel", name := "momentOf", desc := "(II)I" } : Jvm.MethodName)) ∈ mk_WL := mk_t6 5 rfl rfl
theorem mw_1206 : (Jvm.Cond.static ({ cls := "SplitChannelModel", name := "momentOf", desc := "(II)I" } : Jvm.MethodName)) ∈ mk_WL := mk_t6 6 rfl rfl
theorem mw_1207 : (Jvm.Cond.code ({ cls := "SplitChannelModel", name := "momentOf", desc := "(II)I" } : Jvm.MethodName) prog_11_method_26_code (2 : Nat) (Option.some Jvm.ClassFile.FieldType.int)) ∈ mk_WL := mk_t6 7 rfl rfl
theorem mw_1208 : (Jvm.Cond.methodLink "SplitChannelModel" (273 : Nat) ({ cls := "SplitChannelModel", name := "splits", desc := "()V" } : Jvm.MethodName)) ∈ mk_WL := mk_t6 8 rfl rfl
theorem mw_1210 : (Jvm.Cond.instanceMethod ({ cls := "SplitChannelModel", name := "splits", desc := "()V" } : Jvm.MethodName)) ∈ mk_WL := mk_t6 10 rfl rfl
theorem mw_1211 : (Jvm.Cond.code ({ cls := "SplitChannelModel", name := "splits", desc := "()V" } : Jvm.MethodName) prog_11_method_38_code (6 : Nat) (Option.none : Option Jvm.ClassFile.FieldType)) ∈ mk_WL := mk_t6 11 rfl rfl
theorem mw_1212 : (Jvm.Cond.methodLink "SplitChannelModel" (276 : Nat) ({ cls := "SplitChannelModel", name := "ends", desc := "(I)V" } : Jvm.MethodName)) ∈ mk_WL := mk_t6 12 rfl rfl
theorem mw_1214 : (Jvm.Cond.instanceMethod ({ cls := "SplitChannelModel", name := "ends", desc := "(I)V" } : Jvm.MethodName)) ∈ mk_WL := mk_t6 14 rfl rfl
theorem mw_1215 : (Jvm.Cond.code ({ cls := "SplitChannelModel", name := "ends", desc := "(I)V" } : Jvm.MethodName) prog_11_method_36_code (4 : Nat) (Option.none : Option Jvm.ClassFile.FieldType)) ∈ mk_WL := mk_t6 15 rfl rfl
theorem mw_1216 : (Jvm.Cond.methodLink "SplitChannelLaw" (48 : Nat) ({ cls := "SplitChannelModel", name := "sends", desc := "(II)I" } : Jvm.MethodName)) ∈ mk_WL := mk_t6 16 rfl rfl
theorem mw_1217 : (Jvm.Cond.instanceMethod ({ cls := "SplitChannelModel", name := "sends", desc := "(II)I" } : Jvm.MethodName)) ∈ mk_WL := mk_t6 17 rfl rfl
theorem mw_1218 : (Jvm.Cond.selects "SplitChannelModel" ({ cls := "SplitChannelModel", name := "sends", desc := "(II)I" } : Jvm.MethodName) ({ cls := "SplitChannelModel", name := "sends", desc := "(II)I" } : Jvm.MethodName)) ∈ mk_WL := mk_t6 18 rfl rfl
theorem mw_1219 : (Jvm.Cond.code ({ cls := "SplitChannelModel", name := "sends", desc := "(II)I" } : Jvm.MethodName) prog_11_method_41_code (3 : Nat) (Option.some Jvm.ClassFile.FieldType.int)) ∈ mk_WL := mk_t6 19 rfl rfl
theorem mw_1220 : (Jvm.Cond.methodLink "SplitChannelLaw" (52 : Nat) ({ cls := "SplitChannelModel", name := "delivered", desc := "(I)I" } : Jvm.MethodName)) ∈ mk_WL := mk_t6 20 rfl rfl
theorem mw_1221 : (Jvm.Cond.instanceMethod ({ cls := "SplitChannelModel", name := "delivered", desc := "(I)I" } : Jvm.MethodName)) ∈ mk_WL := mk_t6 21 rfl rfl
theorem mw_1222 : (Jvm.Cond.selects "SplitChannelModel" ({ cls := "SplitChannelModel", name := "delivered", desc := "(I)I" } : Jvm.MethodName) ({ cls := "SplitChannelModel", name := "delivered", desc := "(I)I" } : Jvm.MethodName)) ∈ mk_WL := mk_t6 22 rfl rfl
theorem mw_1223 : (Jvm.Cond.code ({ cls := "SplitChannelModel", name := "delivered", desc := "(I)I" } : Jvm.MethodName) prog_11_method_42_code (2 : Nat) (Option.some Jvm.ClassFile.FieldType.int)) ∈ mk_WL := mk_t6 23 rfl rfl
theorem mw_1224 : (Jvm.Cond.methodLink "SplitChannelLaw" (56 : Nat) ({ cls := "SplitChannelModel", name := "tries", desc := "(I)I" } : Jvm.MethodName)) ∈ mk_WL := mk_t6 24 rfl rfl
theorem mw_1225 : (Jvm.Cond.instanceMethod ({ cls := "SplitChannelModel", name := "tries", desc := "(I)I" } : Jvm.MethodName)) ∈ mk_WL := mk_t6 25 rfl rfl
theorem mw_1226 : (Jvm.Cond.selects "SplitChannelModel" ({ cls := "SplitChannelModel", name := "tries", desc := "(I)I" } : Jvm.MethodName) ({ cls := "SplitChannelModel", name := "tries", desc := "(I)I" } : Jvm.MethodName)) ∈ mk_WL := mk_t6 26 rfl rfl
theorem mw_1227 : (Jvm.Cond.code ({ cls := "SplitChannelModel", name := "tries", desc := "(I)I" } : Jvm.MethodName) prog_11_method_43_code (4 : Nat) (Option.some Jvm.ClassFile.FieldType.int)) ∈ mk_WL := mk_t6 27 rfl rfl
theorem mw_1228 : (Jvm.Cond.methodLink "SplitChannelLaw" (60 : Nat) ({ cls := "SplitChannelModel", name := "taken", desc := "(I)I" } : Jvm.MethodName)) ∈ mk_WL := mk_t6 28 rfl rfl
theorem mw_1229 : (Jvm.Cond.instanceMethod ({ cls := "SplitChannelModel", name := "taken", desc := "(I)I" } : Jvm.MethodName)) ∈ mk_WL := mk_t6 29 rfl rfl
theorem mw_1230 : (Jvm.Cond.selects "SplitChannelModel" ({ cls := "SplitChannelModel", name := "taken", desc := "(I)I" } : Jvm.MethodName) ({ cls := "SplitChannelModel", name := "taken", desc := "(I)I" } : Jvm.MethodName)) ∈ mk_WL := mk_t6 30 rfl rfl
theorem mw_1231 : (Jvm.Cond.code ({ cls := "SplitChannelModel", name := "taken", desc := "(I)I" } : Jvm.MethodName) prog_11_method_44_code (2 : Nat) (Option.some Jvm.ClassFile.FieldType.int)) ∈ mk_WL := mk_t6 31 rfl rfl
theorem mw_1232 : (Jvm.Cond.methodLink "SplitChannelLaw" (64 : Nat) ({ cls := "SplitChannelModel", name := "order", desc := "(I)I" } : Jvm.MethodName)) ∈ mk_WL := mk_t6 32 rfl rfl
theorem mw_1233 : (Jvm.Cond.instanceMethod ({ cls := "SplitChannelModel", name := "order", desc := "(I)I" } : Jvm.MethodName)) ∈ mk_WL := mk_t6 33 rfl rfl
theorem mw_1234 : (Jvm.Cond.selects "SplitChannelModel" ({ cls := "SplitChannelModel", name := "order", desc := "(I)I" } : Jvm.MethodName) ({ cls := "SplitChannelModel", name := "order", desc := "(I)I" } : Jvm.MethodName)) ∈ mk_WL := mk_t6 34 rfl rfl
theorem mw_1235 : (Jvm.Cond.code ({ cls := "SplitChannelModel", name := "order", desc := "(I)I" } : Jvm.MethodName) prog_11_method_45_code (4 : Nat) (Option.some Jvm.ClassFile.FieldType.int)) ∈ mk_WL := mk_t6 35 rfl rfl
theorem mw_1236 : (Jvm.Cond.methodLink "SplitChannelLaw" (68 : Nat) ({ cls := "SplitChannelModel", name := "all", desc := "()I" } : Jvm.MethodName)) ∈ mk_WL := mk_t6 36 rfl rfl
theorem mw_1237 : (Jvm.Cond.instanceMethod ({ cls := "SplitChannelModel", name := "all", desc := "()I" } : Jvm.MethodName)) ∈ mk_WL := mk_t6 37 rfl rfl
theorem mw_1238 : (Jvm.Cond.selects "SplitChannelModel" ({ cls := "SplitChannelModel", name := "all", desc := "()I" } : Jvm.MethodName) ({ cls := "SplitChannelModel", name := "all", desc := "()I" } : Jvm.MethodName)) ∈ mk_WL := mk_t6 38 rfl rfl
theorem mw_1239 : (Jvm.Cond.code ({ cls := "SplitChannelModel", name := "all", desc := "()I" } : Jvm.MethodName) prog_11_method_46_code (1 : Nat) (Option.some Jvm.ClassFile.FieldType.int)) ∈ mk_WL := mk_t6 39 rfl rfl
theorem mw_1240 : (Jvm.Cond.methodLink "SplitChannelLaw" (72 : Nat) ({ cls := "SplitChannelModel", name := "done", desc := "()I" } : Jvm.MethodName)) ∈ mk_WL := mk_t6 40 rfl rfl
theorem mw_1241 : (Jvm.Cond.instanceMethod ({ cls := "SplitChannelModel", name := "done", desc := "()I" } : Jvm.MethodName)) ∈ mk_WL := mk_t6 41 rfl rfl
theorem mw_1242 : (Jvm.Cond.selects "SplitChannelModel" ({ cls := "SplitChannelModel", name := "done", desc := "()I" } : Jvm.MethodName) ({ cls := "SplitChannelModel", name := "done", desc := "()I" } : Jvm.MethodName)) ∈ mk_WL := mk_t6 42 rfl rfl
theorem mw_1243 : (Jvm.Cond.code ({ cls := "SplitChannelModel", name := "done", desc := "()I" } : Jvm.MethodName) prog_11_method_48_code (1 : Nat) (Option.some Jvm.ClassFile.FieldType.int)) ∈ mk_WL := mk_t6 43 rfl rfl
theorem mw_1244 : (Jvm.Cond.methodLink "SplitChannelModel" (301 : Nat) ({ cls := "SplitChannelModel", name := "lastOf", desc := "()I" } : Jvm.MethodName)) ∈ mk_WL := mk_t6 44 rfl rfl
theorem mw_1246 : (Jvm.Cond.instanceMethod ({ cls := "SplitChannelModel", name := "lastOf", desc := "()I" } : Jvm.MethodName)) ∈ mk_WL := mk_t6 46 rfl rfl
theorem mw_1247 : (Jvm.Cond.code ({ cls := "SplitChannelModel", name := "lastOf", desc := "()I" } : Jvm.MethodName) prog_11_method_47_code (3 : Nat) (Option.some Jvm.ClassFile.FieldType.int)) ∈ mk_WL := mk_t6 47 rfl rfl
theorem mw_1248 : (Jvm.Cond.methodLink "SplitChannelLaw" (76 : Nat) ({ cls := "SplitChannelModel", name := "heard", desc := "(I)I" } : Jvm.MethodName)) ∈ mk_WL := mk_t6 48 rfl rfl
theorem mw_1249 : (Jvm.Cond.instanceMethod ({ cls := "SplitChannelModel", name := "heard", desc := "(I)I" } : Jvm.MethodName)) ∈ mk_WL := mk_t6 49 rfl rfl
theorem mw_1250 : (Jvm.Cond.selects "SplitChannelModel" ({ cls := "SplitChannelModel", name := "heard", desc := "(I)I" } : Jvm.MethodName) ({ cls := "SplitChannelModel", name := "heard", desc := "(I)I" } : Jvm.MethodName)) ∈ mk_WL := mk_t6 50 rfl rfl
theorem mw_1251 : (Jvm.Cond.code ({ cls := "SplitChannelModel", name := "heard", desc := "(I)I" } : Jvm.MethodName) prog_11_method_49_code (4 : Nat) (Option.some Jvm.ClassFile.FieldType.int)) ∈ mk_WL := mk_t6 51 rfl rfl
theorem mw_1252 : (Jvm.Cond.constantLong "SplitChannelModel" (304 : Nat) (2 : Int64)) ∈ mk_WL := mk_t6 52 rfl rfl
theorem mw_1253 : (Jvm.Cond.methodLink "SplitChannelLaw" (80 : Nat) ({ cls := "SplitChannelModel", name := "collided", desc := "()I" } : Jvm.MethodName)) ∈ mk_WL := mk_t6 53 rfl rfl
theorem mw_1254 : (Jvm.Cond.instanceMethod ({ cls := "SplitChannelModel", name := "collided", desc := "()I" } : Jvm.MethodName)) ∈ mk_WL := mk_t6 54 rfl rfl
theorem mw_1255 : (Jvm.Cond.selects "SplitChannelModel" ({ cls := "SplitChannelModel", name := "collided", desc := "()I" } : Jvm.MethodName) ({ cls := "SplitChannelModel", name := "collided", desc := "()I" } : Jvm.MethodName)) ∈ mk_WL := mk_t6 55 rfl rfl
theorem mw_1256 : (Jvm.Cond.code ({ cls := "SplitChannelModel", name := "collided", desc := "()I" } : Jvm.MethodName) prog_11_method_52_code (1 : Nat) (Option.some Jvm.ClassFile.FieldType.int)) ∈ mk_WL := mk_t6 56 rfl rfl
theorem mw_1257 : (Jvm.Cond.methodLink "SplitChannelModel" (306 : Nat) ({ cls := "SplitChannelModel", name := "collisions", desc := "()I" } : Jvm.MethodName)) ∈ mk_WL := mk_t6 57 rfl rfl
theorem mw_1259 : (Jvm.Cond.instanceMethod ({ cls := "SplitChannelModel", name := "collisions", desc := "()I" } : Jvm.MethodName)) ∈ mk_WL := mk_t6 59 rfl rfl
theorem mw_1260 : (Jvm.Cond.code ({ cls := "SplitChannelModel", name := "collisions", desc := "()I" } : Jvm.MethodName) prog_11_method_50_code (3 : Nat) (Option.some Jvm.ClassFile.FieldType.int)) ∈ mk_WL := mk_t6 60 rfl rfl
theorem mw_1261 : (Jvm.Cond.methodLink "SplitChannelLaw" (84 : Nat) ({ cls := "SplitChannelModel", name := "skips", desc := "()I" } : Jvm.MethodName)) ∈ mk_WL := mk_t6 61 rfl rfl
theorem mw_1262 : (Jvm.Cond.instanceMethod ({ cls := "SplitChannelModel", name := "skips", desc := "()I" } : Jvm.MethodName)) ∈ mk_WL := mk_t6 62 rfl rfl
theorem mw_1263 : (Jvm.Cond.selects "SplitChannelModel" ({ cls := "SplitChannelModel", name := "skips", desc := "()I" } : Jvm.MethodName) ({ cls := "SplitChannelModel", name := "skips", desc := "()I" } : Jvm.MethodName)) ∈ mk_WL := mk_t6 63 rfl rfl
theorem mw_1264 : (Jvm.Cond.code ({ cls := "SplitChannelModel", name := "skips", desc := "()I" } : Jvm.MethodName) prog_11_method_53_code (1 : Nat) (Option.some Jvm.ClassFile.FieldType.int)) ∈ mk_WL := mk_t6 64 rfl rfl
theorem mw_1265 : (Jvm.Cond.methodLink "SplitChannelModel" (309 : Nat) ({ cls := "SplitChannelModel", name := "skipsAll", desc := "()I" } : Jvm.MethodName)) ∈ mk_WL := mk_t6 65 rfl rfl
theorem mw_1267 : (Jvm.Cond.instanceMethod ({ cls := "SplitChannelModel", name := "skipsAll", desc := "()I" } : Jvm.MethodName)) ∈ mk_WL := mk_t6 67 rfl rfl
theorem mw_1268 : (Jvm.Cond.code ({ cls := "SplitChannelModel", name := "skipsAll", desc := "()I" } : Jvm.MethodName) prog_11_method_51_code (3 : Nat) (Option.some Jvm.ClassFile.FieldType.int)) ∈ mk_WL := mk_t6 68 rfl rfl
theorem mw_1269 : (Jvm.Cond.methodLink "SplitChannelLaw" (88 : Nat) ({ cls := "SplitChannelModel", name := "deepest", desc := "()I" } : Jvm.MethodName)) ∈ mk_WL := mk_t6 69 rfl rfl
theorem mw_1270 : (Jvm.Cond.instanceMethod ({ cls := "SplitChannelModel", name := "deepest", desc := "()I" } : Jvm.MethodName)) ∈ mk_WL := mk_t6 70 rfl rfl
theorem mw_1271 : (Jvm.Cond.selects "SplitChannelModel" ({ cls := "SplitChannelModel", name := "deepest", desc := "()I" } : Jvm.MethodName) ({ cls := "SplitChannelModel", name := "deepest", desc := "()I" } : Jvm.MethodName)) ∈ mk_WL := mk_t6 71 rfl rfl
theorem mw_1272 : (Jvm.Cond.code ({ cls := "SplitChannelModel", name := "deepest", desc := "()I" } : Jvm.MethodName) prog_11_method_54_code (3 : Nat) (Option.some Jvm.ClassFile.FieldType.int)) ∈ mk_WL := mk_t6 72 rfl rfl
theorem mw_1273 : (Jvm.Cond.methodLink "SplitChannelLaw" (92 : Nat) ({ cls := "SplitChannelModel", name := "epochs", desc := "()I" } : Jvm.MethodName)) ∈ mk_WL := mk_t6 73 rfl rfl
theorem mw_1274 : (Jvm.Cond.instanceMethod ({ cls := "SplitChannelModel", name := "epochs", desc := "()I" } : Jvm.MethodName)) ∈ mk_WL := mk_t6 74 rfl rfl
theorem mw_1275 : (Jvm.Cond.selects "SplitChannelModel" ({ cls := "SplitChannelModel", name := "epochs", desc := "()I" } : Jvm.MethodName) ({ cls := "SplitChannelModel", name := "epochs", desc := "()I" } : Jvm.MethodName)) ∈ mk_WL := mk_t6 75 rfl rfl
theorem mw_1276 : (Jvm.Cond.code ({ cls := "SplitChannelModel", name := "epochs", desc := "()I" } : Jvm.MethodName) prog_11_method_55_code (1 : Nat) (Option.some Jvm.ClassFile.FieldType.int)) ∈ mk_WL := mk_t6 76 rfl rfl
theorem mw_1277 : (Jvm.Cond.methodLink "SplitChannelLaw" (96 : Nat) ({ cls := "SplitChannelModel", name := "epoch", desc := "(II)I" } : Jvm.MethodName)) ∈ mk_WL := mk_t6 77 rfl rfl
theorem mw_1278 : (Jvm.Cond.instanceMethod ({ cls := "SplitChannelModel", name := "epoch", desc := "(II)I" } : Jvm.MethodName)) ∈ mk_WL := mk_t6 78 rfl rfl
theorem mw_1279 : (Jvm.Cond.selects "SplitChannelModel" ({ cls := "SplitChannelModel", name := "epoch", desc := "(II)I" } : Jvm.MethodName) ({ cls := "SplitChannelModel", name := "epoch", desc := "(II)I" } : Jvm.MethodName)) ∈ mk_WL := mk_t6 79 rfl rfl
theorem mw_1280 : (Jvm.Cond.code ({ cls := "SplitChannelModel", name := "epoch", desc := "(II)I" } : Jvm.MethodName) prog_11_method_56_code (3 : Nat) (Option.some Jvm.ClassFile.FieldType.int)) ∈ mk_WL := mk_t6 80 rfl rfl
theorem mw_1281 : (Jvm.Cond.methodLink "SplitChannelLaw" (100 : Nat) ({ cls := "SplitChannelModel", name := "behind", desc := "(I)I" } : Jvm.MethodName)) ∈ mk_WL := mk_t6 81 rfl rfl
theorem mw_1282 : (Jvm.Cond.instanceMethod ({ cls := "SplitChannelModel", name := "behind", desc := "(I)I" } : Jvm.MethodName)) ∈ mk_WL := mk_t6 82 rfl rfl
theorem mw_1283 : (Jvm.Cond.selects "SplitChannelModel" ({ cls := "SplitChannelModel", name := "behind", desc := "(I)I" } : Jvm.MethodName) ({ cls := "SplitChannelModel", name := "behind", desc := "(I)I" } : Jvm.MethodName)) ∈ mk_WL := mk_t6 83 rfl rfl
theorem mw_1284 : (Jvm.Cond.code ({ cls := "SplitChannelModel", name := "behind", desc := "(I)I" } : Jvm.MethodName) prog_11_method_57_code (5 : Nat) (Option.some Jvm.ClassFile.FieldType.int)) ∈ mk_WL := mk_t6 84 rfl rfl
theorem mw_1285 : (Jvm.Cond.methodLink "SplitChannelLaw" (104 : Nat) ({ cls := "SplitChannelModel", name := "by", desc := "(II)I" } : Jvm.MethodName)) ∈ mk_WL := mk_t6 85 rfl rfl
theorem mw_1286 : (Jvm.Cond.instanceMethod ({ cls := "SplitChannelModel", name := "by", desc := "(II)I" } : Jvm.MethodName)) ∈ mk_WL := mk_t6 86 rfl rfl
theorem mw_1287 : (Jvm.Cond.selects "SplitChannelModel" ({ cls := "SplitChannelModel", name := "by", desc := "(II)I" } : Jvm.MethodName) ({ cls := "SplitChannelModel", name := "by", desc := "(II)I" } : Jvm.MethodName)) ∈ mk_WL := mk_t6 87 rfl rfl
theorem mw_1288 : (Jvm.Cond.code ({ cls := "SplitChannelModel", name := "by", desc := "(II)I" } : Jvm.MethodName) prog_11_method_58_code (3 : Nat) (Option.some Jvm.ClassFile.FieldType.int)) ∈ mk_WL := mk_t6 88 rfl rfl
theorem mw_1289 : (Jvm.Cond.constantLong "SplitChannelModel" (312 : Nat) (3 : Int64)) ∈ mk_WL := mk_t6 89 rfl rfl
theorem mw_1290 : (Jvm.Cond.methodLink "SplitChannelLaw" (108 : Nat) ({ cls := "SplitChannelModel", name := "without", desc := "(I)I" } : Jvm.MethodName)) ∈ mk_WL := mk_t6 90 rfl rfl
theorem mw_1291 : (Jvm.Cond.instanceMethod ({ cls := "SplitChannelModel", name := "without", desc := "(I)I" } : Jvm.MethodName)) ∈ mk_WL := mk_t6 91 rfl rfl
theorem mw_1292 : (Jvm.Cond.selects "SplitChannelModel" ({ cls := "SplitChannelModel", name := "without", desc := "(I)I" } : Jvm.MethodName) ({ cls := "SplitChannelModel", name := "without", desc := "(I)I" } : Jvm.MethodName)) ∈ mk_WL := mk_t6 92 rfl rfl
theorem mw_1293 : (Jvm.Cond.code ({ cls := "SplitChannelModel", name := "without", desc := "(I)I" } : Jvm.MethodName) prog_11_method_60_code (2 : Nat) (Option.some Jvm.ClassFile.FieldType.int)) ∈ mk_WL := mk_t6 93 rfl rfl
theorem mw_1294 : (Jvm.Cond.methodLink "SplitChannelModel" (314 : Nat) ({ cls := "SplitChannelModel", name := "moreWithout", desc := "(I)I" } : Jvm.MethodName)) ∈ mk_WL := mk_t6 94 rfl rfl
theorem mw_1296 : (Jvm.Cond.instanceMethod ({ cls := "SplitChannelModel", name := "moreWithout", desc := "(I)I" } : Jvm.MethodName)) ∈ mk_WL := mk_t6 96 rfl rfl
theorem mw_1297 : (Jvm.Cond.code ({ cls := "SplitChannelModel", name := "moreWithout", desc := "(I)I" } : Jvm.MethodName) prog_11_method_59_code (3 : Nat) (Option.some Jvm.ClassFile.FieldType.int)) ∈ mk_WL := mk_t6 97 rfl rfl
theorem mw_1298 : (Jvm.Cond.methodLink "SplitChannelLaw" (116 : Nat) ({ cls := "SplitChannelModel", name := "alone", desc := "(I)I" } : Jvm.MethodName)) ∈ mk_WL := mk_t6 98 rfl rfl
theorem mw_1299 : (Jvm.Cond.instanceMethod ({ cls := "SplitChannelModel", name := "alone", desc := "(I)I" } : Jvm.MethodName)) ∈ mk_WL := mk_t6 99 rfl rfl
theorem mw_1300 : (Jvm.Cond.selects "SplitChannelModel" ({ cls := "SplitChannelModel", name := "alone", desc := "(I)I" } : Jvm.MethodName) ({ cls := "SplitChannelModel", name := "alone", desc := "(I)I" } : Jvm.MethodName)) ∈ mk_WL := mk_t6 100 rfl rfl
theorem mw_1301 : (Jvm.Cond.code ({ cls := "SplitChannelModel", name := "alone", desc := "(I)I" } : Jvm.MethodName) prog_11_method_61_code (2 : Nat) (Option.some Jvm.ClassFile.FieldType.int)) ∈ mk_WL := mk_t6 101 rfl rfl
theorem mw_1302 : (Jvm.Cond.methodLink "SplitChannelLaw" (120 : Nat) ({ cls := "SplitChannelModel", name := "worst", desc := "()I" } : Jvm.MethodName)) ∈ mk_WL := mk_t6 102 rfl rfl
theorem mw_1303 : (Jvm.Cond.instanceMethod ({ cls := "SplitChannelModel", name := "worst", desc := "()I" } : Jvm.MethodName)) ∈ mk_WL := mk_t6 103 rfl rfl
theorem mw_1304 : (Jvm.Cond.selects "SplitChannelModel" ({ cls := "SplitChannelModel", name := "worst", desc := "()I" } : Jvm.MethodName) ({ cls := "SplitChannelModel", name := "worst", desc := "()I" } : Jvm.MethodName)) ∈ mk_WL := mk_t6 104 rfl rfl
theorem mw_1305 : (Jvm.Cond.code ({ cls := "SplitChannelModel", name := "worst", desc := "()I" } : Jvm.MethodName) prog_11_method_62_code (5 : Nat) (Option.some Jvm.ClassFile.FieldType.int)) ∈ mk_WL := mk_t6 105 rfl rfl
theorem mw_1306 : (Jvm.Cond.methodLink "SplitChannelLaw" (125 : Nat) ({ cls := "SplitChannelModel", name := "mean", desc := "(III)J" } : Jvm.MethodName)) ∈ mk_WL := mk_t6 106 rfl rfl
theorem mw_1307 : (Jvm.Cond.instanceMethod ({ cls := "SplitChannelModel", name := "mean", desc := "(III)J" } : Jvm.MethodName)) ∈ mk_WL := mk_t6 107 rfl rfl
theorem mw_1308 : (Jvm.Cond.selects "SplitChannelModel" ({ cls := "SplitChannelModel", name := "mean", desc := "(III)J" } : Jvm.MethodName) ({ cls := "SplitChannelModel", name := "mean", desc := "(III)J" } : Jvm.MethodName)) ∈ mk_WL := mk_t6 108 rfl rfl
theorem mw_1309 : (Jvm.Cond.code ({ cls := "SplitChannelModel", name := "mean", desc := "(III)J" } : Jvm.MethodName) prog_11_method_71_code (4 : Nat) (Option.some Jvm.ClassFile.FieldType.long)) ∈ mk_WL := mk_t6 109 rfl rfl
theorem mw_1310 : (Jvm.Cond.methodLink "SplitChannelModel" (347 : Nat) ({ cls := "SplitChannelModel", name := "isMean", desc := "(IIII)Z" } : Jvm.MethodName)) ∈ mk_WL := mk_t6 110 rfl rfl
theorem mw_1311 : (Jvm.Cond.static ({ cls := "SplitChannelModel", name := "isMean", desc := "(IIII)Z" } : Jvm.MethodName)) ∈ mk_WL := mk_t6 111 rfl rfl
theorem mw_1312 : (Jvm.Cond.code ({ cls := "SplitChannelModel", name := "isMean", desc := "(IIII)Z" } : Jvm.MethodName) prog_11_method_70_code (4 : Nat) (Option.some Jvm.ClassFile.FieldType.boolean)) ∈ mk_WL := mk_t6 112 rfl rfl
theorem mw_1313 : (Jvm.Cond.constantLong "SplitChannelModel" (351 : Nat) (-2 : Int64)) ∈ mk_WL := mk_t6 113 rfl rfl
theorem mw_1314 : (Jvm.Cond.methodLink "SplitChannelModel" (353 : Nat) ({ cls := "SplitChannelModel", name := "means", desc := "(IIJJ)V" } : Jvm.MethodName)) ∈ mk_WL := mk_t6 114 rfl rfl
theorem mw_1316 : (Jvm.Cond.instanceMethod ({ cls := "SplitChannelModel", name := "means", desc := "(IIJJ)V" } : Jvm.MethodName)) ∈ mk_WL := mk_t6 116 rfl rfl
theorem mw_1317 : (Jvm.Cond.code ({ cls := "SplitChannelModel", name := "means", desc := "(IIJJ)V" } : Jvm.MethodName) prog_11_method_69_code (25 : Nat) (Option.none : Option Jvm.ClassFile.FieldType)) ∈ mk_WL := mk_t6 117 rfl rfl
theorem mw_1318 : (Jvm.Cond.methodLink "SplitChannelModel" (333 : Nat) ({ cls := "SplitChannelModel", name := "power", desc := "(JI)J" } : Jvm.MethodName)) ∈ mk_WL := mk_t6 118 rfl rfl
theorem mw_1319 : (Jvm.Cond.static ({ cls := "SplitChannelModel", name := "power", desc := "(JI)J" } : Jvm.MethodName)) ∈ mk_WL := mk_t6 119 rfl rfl
theorem mw_1320 : (Jvm.Cond.code ({ cls := "SplitChannelModel", name := "power", desc := "(JI)J" } : Jvm.MethodName) prog_11_method_68_code (6 : Nat) (Option.some Jvm.ClassFile.FieldType.long)) ∈ mk_WL := mk_t6 120 rfl rfl
theorem mw_1321 : (Jvm.Cond.methodLink "SplitChannelModel" (337 : Nat) ({ cls := "SplitChannelModel", name := "choose", desc := "(II)J" } : Jvm.MethodName)) ∈ mk_WL := mk_t6 121 rfl rfl
theorem mw_1322 : (Jvm.Cond.static ({ cls := "SplitChannelModel", name := "choose", desc := "(II)J" } : Jvm.MethodName)) ∈ mk_WL := mk_t6 122 rfl rfl
theorem mw_1323 : (Jvm.Cond.code ({ cls := "SplitChannelModel", name := "choose", desc := "(II)J" } : Jvm.MethodName) prog_11_method_67_code (5 : Nat) (Option.some Jvm.ClassFile.FieldType.long)) ∈ mk_WL := mk_t6 123 rfl rfl
theorem mw_1324 : (Jvm.Cond.methodLink "SplitChannelModel" (330 : Nat) ({ cls := "SplitChannelModel", name := "is", desc := "(JJ)V" } : Jvm.MethodName)) ∈ mk_WL := mk_t6 124 rfl rfl
theorem mw_1326 : (Jvm.Cond.instanceMethod ({ cls := "SplitChannelModel", name := "is", desc := "(JJ)V" } : Jvm.MethodName)) ∈ mk_WL := mk_t6 126 rfl rfl
theorem mw_1327 : (Jvm.Cond.code ({ cls := "SplitChannelModel", name := "is", desc := "(JJ)V" } : Jvm.MethodName) prog_11_method_64_code (7 : Nat) (Option.none : Option Jvm.ClassFile.FieldType)) ∈ mk_WL := mk_t6 127 rfl rfl
theorem mw_1328 : (Jvm.Cond.methodLink "SplitChannelModel" (321 : Nat) ({ cls := "java/lang/Math", name := "max", desc := "(JJ)J" } : Jvm.MethodName)) ∈ mk_WL := mk_t6 128 rfl rfl
theorem mw_1329 : (Jvm.Cond.static ({ cls := "java/lang/Math", name := "max", desc := "(JJ)J" } : Jvm.MethodName)) ∈ mk_WL := mk_t6 129 rfl rfl
theorem mw_1330 : (Jvm.Cond.code ({ cls := "java/lang/Math", name := "max", desc := "(JJ)J" } : Jvm.MethodName) prog_13_method_66_code (4 : Nat) (Option.some Jvm.ClassFile.FieldType.long)) ∈ mk_WL := mk_t6 130 rfl rfl
theorem mw_1331 : (Jvm.Cond.methodLink "SplitChannelModel" (317 : Nat) ({ cls := "SplitChannelModel", name := "common", desc := "(JJ)J" } : Jvm.MethodName)) ∈ mk_WL := mk_t6 131 rfl rfl
theorem mw_1332 : (Jvm.Cond.static ({ cls := "SplitChannelModel", name := "common", desc := "(JJ)J" } : Jvm.MethodName)) ∈ mk_WL := mk_t6 132 rfl rfl
theorem mw_1333 : (Jvm.Cond.code ({ cls := "SplitChannelModel", name := "common", desc := "(JJ)J" } : Jvm.MethodName) prog_11_method_63_code (4 : Nat) (Option.some Jvm.ClassFile.FieldType.long)) ∈ mk_WL := mk_t6 133 rfl rfl
theorem mw_1334 : (Jvm.Cond.methodLink "SplitChannelModel" (341 : Nat) ({ cls := "SplitChannelModel", name := "adds", desc := "(JJ)V" } : Jvm.MethodName)) ∈ mk_WL := mk_t6 134 rfl rfl
theorem mw_1336 : (Jvm.Cond.instanceMethod ({ cls := "SplitChannelModel", name := "adds", desc := "(JJ)V" } : Jvm.MethodName)) ∈ mk_WL := mk_t6 136 rfl rfl
theorem mw_1337 : (Jvm.Cond.code ({ cls := "SplitChannelModel", name := "adds", desc := "(JJ)V" } : Jvm.MethodName) prog_11_method_65_code (7 : Nat) (Option.none : Option Jvm.ClassFile.FieldType)) ∈ mk_WL := mk_t6 137 rfl rfl
theorem mw_1338 : (Jvm.Cond.methodLink "SplitChannelModel" (344 : Nat) ({ cls := "SplitChannelModel", name := "times", desc := "(JJ)V" } : Jvm.MethodName)) ∈ mk_WL := mk_t6 138 rfl rfl
theorem mw_1340 : (Jvm.Cond.instanceMethod ({ cls := "SplitChannelModel", name := "times", desc := "(JJ)V" } : Jvm.MethodName)) ∈ mk_WL := mk_t6 140 rfl rfl
theorem mw_1341 : (Jvm.Cond.code ({ cls := "SplitChannelModel", name := "times", desc := "(JJ)V" } : Jvm.MethodName) prog_11_method_66_code (9 : Nat) (Option.none : Option Jvm.ClassFile.FieldType)) ∈ mk_WL := mk_t6 141 rfl rfl
theorem mw_1342 : (Jvm.Cond.methodLink "SplitChannelLaw" (130 : Nat) ({ cls := "SplitChannelModel", name := "leaning", desc := "(IIIII)J" } : Jvm.MethodName)) ∈ mk_WL := mk_t6 142 rfl rfl
theorem mw_1343 : (Jvm.Cond.instanceMethod ({ cls := "SplitChannelModel", name := "leaning", desc := "(IIIII)J" } : Jvm.MethodName)) ∈ mk_WL := mk_t6 143 rfl rfl
theorem mw_1344 : (Jvm.Cond.selects "SplitChannelModel" ({ cls := "SplitChannelModel", name := "leaning", desc := "(IIIII)J" } : Jvm.MethodName) ({ cls := "SplitChannelModel", name := "leaning", desc := "(IIIII)J" } : Jvm.MethodName)) ∈ mk_WL := mk_t6 144 rfl rfl
theorem mw_1345 : (Jvm.Cond.code ({ cls := "SplitChannelModel", name := "leaning", desc := "(IIIII)J" } : Jvm.MethodName) prog_11_method_72_code (6 : Nat) (Option.some Jvm.ClassFile.FieldType.long)) ∈ mk_WL := mk_t6 145 rfl rfl
theorem mw_1346 : (Jvm.Cond.constantLong "SplitChannelModel" (357 : Nat) (5 : Int64)) ∈ mk_WL := mk_t6 146 rfl rfl
theorem mw_1347 : (Jvm.Cond.methodLink "SplitChannelLaw" (135 : Nat) ({ cls := "SplitChannelModel", name := "chance", desc := "(IIII)J" } : Jvm.MethodName)) ∈ mk_WL := mk_t6 147 rfl rfl
theorem mw_1348 : (Jvm.Cond.instanceMethod ({ cls := "SplitChannelModel", name := "chance", desc := "(IIII)J" } : Jvm.MethodName)) ∈ mk_WL := mk_t6 148 rfl rfl
theorem mw_1349 : (Jvm.Cond.selects "SplitChannelModel" ({ cls := "SplitChannelModel", name := "chance", desc := "(IIII)J" } : Jvm.MethodName) ({ cls := "SplitChannelModel", name := "chance", desc := "(IIII)J" } : Jvm.MethodName)) ∈ mk_WL := mk_t6 149 rfl rfl
theorem mw_1350 : (Jvm.Cond.code ({ cls := "SplitChannelModel", name := "chance", desc := "(IIII)J" } : Jvm.MethodName) prog_11_method_75_code (5 : Nat) (Option.some Jvm.ClassFile.FieldType.long)) ∈ mk_WL := mk_t6 150 rfl rfl
theorem mw_1351 : (Jvm.Cond.constantLong "SplitChannelModel" (362 : Nat) (12 : Int64)) ∈ mk_WL := mk_t6 151 rfl rfl
theorem mw_1352 : (Jvm.Cond.methodLink "SplitChannelModel" (364 : Nat) ({ cls := "SplitChannelModel", name := "chances", desc := "(III)V" } : Jvm.MethodName)) ∈ mk_WL := mk_t6 152 rfl rfl
theorem mw_1354 : (Jvm.Cond.instanceMethod ({ cls := "SplitChannelModel", name := "chances", desc := "(III)V" } : Jvm.MethodName)) ∈ mk_WL := mk_t6 154 rfl rfl
theorem mw_1355 : (Jvm.Cond.code ({ cls := "SplitChannelModel", name := "chances", desc := "(III)V" } : Jvm.MethodName) prog_11_method_73_code (6 : Nat) (Option.none : Option Jvm.ClassFile.FieldType)) ∈ mk_WL := mk_t6 155 rfl rfl
theorem mw_1356 : (Jvm.Cond.methodLink "SplitChannelModel" (359 : Nat) ({ cls := "SplitChannelModel", name := "chanceOf", desc := "(III)V" } : Jvm.MethodName)) ∈ mk_WL := mk_t6 156 rfl rfl
theorem mw_1358 : (Jvm.Cond.instanceMethod ({ cls := "SplitChannelModel", name := "chanceOf", desc := "(III)V" } : Jvm.MethodName)) ∈ mk_WL := mk_t6 158 rfl rfl
theorem mw_1359 : (Jvm.Cond.code ({ cls := "SplitChannelModel", name := "chanceOf", desc := "(III)V" } : Jvm.MethodName) prog_11_method_74_code (12 : Nat) (Option.none : Option Jvm.ClassFile.FieldType)) ∈ mk_WL := mk_t6 159 rfl rfl
theorem mw_1360 : (Jvm.Cond.methodLink "SplitChannelLaw" (139 : Nat) ({ cls := "SplitChannelModel", name := "best", desc := "(I)I" } : Jvm.MethodName)) ∈ mk_WL := mk_t6 160 rfl rfl
theorem mw_1361 : (Jvm.Cond.instanceMethod ({ cls := "SplitChannelModel", name := "best", desc := "(I)I" } : Jvm.MethodName)) ∈ mk_WL := mk_t6 161 rfl rfl
theorem mw_1362 : (Jvm.Cond.selects "SplitChannelModel" ({ cls := "SplitChannelModel", name := "best", desc := "(I)I" } : Jvm.MethodName) ({ cls := "SplitChannelModel", name := "best", desc := "(I)I" } : Jvm.MethodName)) ∈ mk_WL := mk_t6 162 rfl rfl
theorem mw_1363 : (Jvm.Cond.code ({ cls := "SplitChannelModel", name := "best", desc := "(I)I" } : Jvm.MethodName) prog_11_method_76_code (4 : Nat) (Option.some Jvm.ClassFile.FieldType.int)) ∈ mk_WL := mk_t6 163 rfl rfl
theorem mw_1364 : (Jvm.Cond.methodLink "SplitChannelLaw" (144 : Nat) ({ cls := "SplitChannelModel", name := "add", desc := "(III)I" } : Jvm.MethodName)) ∈ mk_WL := mk_t6 164 rfl rfl
theorem mw_1365 : (Jvm.Cond.instanceMethod ({ cls := "SplitChannelModel", name := "add", desc := "(III)I" } : Jvm.MethodName)) ∈ mk_WL := mk_t6 165 rfl rfl
theorem mw_1366 : (Jvm.Cond.selects "SplitChannelModel" ({ cls := "SplitChannelModel", name := "add", desc := "(III)I" } : Jvm.MethodName) ({ cls := "SplitChannelModel", name := "add", desc := "(III)I" } : Jvm.MethodName)) ∈ mk_WL := mk_t6 166 rfl rfl
theorem mw_1367 : (Jvm.Cond.code ({ cls := "SplitChannelModel", name := "add", desc := "(III)I" } : Jvm.MethodName) prog_11_method_80_code (5 : Nat) (Option.some Jvm.ClassFile.FieldType.int)) ∈ mk_WL := mk_t6 167 rfl rfl
theorem mw_1368 : (Jvm.Cond.constantLong "SplitChannelModel" (367 : Nat) (199 : Int64)) ∈ mk_WL := mk_t6 168 rfl rfl
theorem mw_1369 : (Jvm.Cond.methodLink "SplitChannelModel" (369 : Nat) ({ cls := "SplitChannelModel", name := "keeps", desc := "()V" } : Jvm.MethodName)) ∈ mk_WL := mk_t6 169 rfl rfl
theorem mw_1371 : (Jvm.Cond.instanceMethod ({ cls := "SplitChannelModel", name := "keeps", desc := "()V" } : Jvm.MethodName)) ∈ mk_WL := mk_t6 171 rfl rfl
theorem mw_1372 : (Jvm.Cond.code ({ cls := "SplitChannelModel", name := "keeps", desc := "()V" } : Jvm.MethodName) prog_11_method_77_code (2 : Nat) (Option.none : Option Jvm.ClassFile.FieldType)) ∈ mk_WL := mk_t6 172 rfl rfl
theorem mw_1373 : (Jvm.Cond.methodLink "SplitChannelModel" (372 : Nat) ({ cls := "SplitChannelModel", name := "allNow", desc := "()I" } : Jvm.MethodName)) ∈ mk_WL := mk_t6 173 rfl rfl
theorem mw_1375 : (Jvm.Cond.instanceMethod ({ cls := "SplitChannelModel", name := "allNow", desc := "()I" } : Jvm.MethodName)) ∈ mk_WL := mk_t6 175 rfl rfl
theorem mw_1376 : (Jvm.Cond.code ({ cls := "SplitChannelModel", name := "allNow", desc := "()I" } : Jvm.MethodName) prog_11_method_79_code (1 : Nat) (Option.some Jvm.ClassFile.FieldType.int)) ∈ mk_WL := mk_t6 176 rfl rfl
theorem mw_1377 : (Jvm.Cond.methodLink "SplitChannelLaw" (148 : Nat) ({ cls := "SplitChannelModel", name := "disturb", desc := "(II)I" } : Jvm.MethodName)) ∈ mk_WL := mk_t6 177 rfl rfl
theorem mw_1378 : (Jvm.Cond.instanceMethod ({ cls := "SplitChannelModel", name := "disturb", desc := "(II)I" } : Jvm.MethodName)) ∈ mk_WL := mk_t6 178 rfl rfl
theorem mw_1379 : (Jvm.Cond.selects "SplitChannelModel" ({ cls := "SplitChannelModel", name := "disturb", desc := "(II)I" } : Jvm.MethodName) ({ cls := "SplitChannelModel", name := "disturb", desc := "(II)I" } : Jvm.MethodName)) ∈ mk_WL := mk_t6 179 rfl rfl
theorem mw_1380 : (Jvm.Cond.code ({ cls := "SplitChannelModel", name := "disturb", desc := "(II)I" } : Jvm.MethodName) prog_11_method_81_code (3 : Nat) (Option.some Jvm.ClassFile.FieldType.int)) ∈ mk_WL := mk_t6 180 rfl rfl
theorem mw_1381 : (Jvm.Cond.methodLink "SplitChannelLaw" (152 : Nat) ({ cls := "SplitChannelModel", name := "rule", desc := "(I)I" } : Jvm.MethodName)) ∈ mk_WL := mk_t6 181 rfl rfl
theorem mw_1382 : (Jvm.Cond.instanceMethod ({ cls := "SplitChannelModel", name := "rule", desc := "(I)I" } : Jvm.MethodName)) ∈ mk_WL := mk_t6 182 rfl rfl
theorem mw_1383 : (Jvm.Cond.selects "SplitChannelModel" ({ cls := "SplitChannelModel", name := "rule", desc := "(I)I" } : Jvm.MethodName) ({ cls := "SplitChannelModel", name := "rule", desc := "(I)I" } : Jvm.MethodName)) ∈ mk_WL := mk_t6 183 rfl rfl
theorem mw_1384 : (Jvm.Cond.code ({ cls := "SplitChannelModel", name := "rule", desc := "(I)I" } : Jvm.MethodName) prog_11_method_82_code (2 : Nat) (Option.some Jvm.ClassFile.FieldType.int)) ∈ mk_WL := mk_t6 184 rfl rfl
theorem mw_1385 : (Jvm.Cond.methodLink "SplitChannelLaw" (156 : Nat) ({ cls := "SplitChannelModel", name := "undo", desc := "()I" } : Jvm.MethodName)) ∈ mk_WL := mk_t6 185 rfl rfl
theorem mw_1386 : (Jvm.Cond.instanceMethod ({ cls := "SplitChannelModel", name := "undo", desc := "()I" } : Jvm.MethodName)) ∈ mk_WL := mk_t6 186 rfl rfl
theorem mw_1387 : (Jvm.Cond.selects "SplitChannelModel" ({ cls := "SplitChannelModel", name := "undo", desc := "()I" } : Jvm.MethodName) ({ cls := "SplitChannelModel", name := "undo", desc := "()I" } : Jvm.MethodName)) ∈ mk_WL := mk_t6 187 rfl rfl
theorem mw_1388 : (Jvm.Cond.code ({ cls := "SplitChannelModel", name := "undo", desc := "()I" } : Jvm.MethodName) prog_11_method_83_code (1 : Nat) (Option.some Jvm.ClassFile.FieldType.int)) ∈ mk_WL := mk_t6 188 rfl rfl
theorem mw_1389 : (Jvm.Cond.methodLink "SplitChannelModel" (375 : Nat) ({ cls := "SplitChannelModel", name := "goesBack", desc := "(I)V" } : Jvm.MethodName)) ∈ mk_WL := mk_t6 189 rfl rfl
theorem mw_1391 : (Jvm.Cond.instanceMethod ({ cls := "SplitChannelModel", name := "goesBack", desc := "(I)V" } : Jvm.MethodName)) ∈ mk_WL := mk_t6 191 rfl rfl
theorem mw_1392 : (Jvm.Cond.code ({ cls := "SplitChannelModel", name := "goesBack", desc := "(I)V" } : Jvm.MethodName) prog_11_method_78_code (3 : Nat) (Option.none : Option Jvm.ClassFile.FieldType)) ∈ mk_WL := mk_t6 192 rfl rfl
theorem mw_1393 : (Jvm.Cond.methodLink "SplitChannelLaw" (160 : Nat) ({ cls := "SplitChannelModel", name := "anew", desc := "()I" } : Jvm.MethodName)) ∈ mk_WL := mk_t6 193 rfl rfl
theorem mw_1394 : (Jvm.Cond.instanceMethod ({ cls := "SplitChannelModel", name := "anew", desc := "()I" } : Jvm.MethodName)) ∈ mk_WL := mk_t6 194 rfl rfl
theorem mw_1395 : (Jvm.Cond.selects "SplitChannelModel" ({ cls := "SplitChannelModel", name := "anew", desc := "()I" } : Jvm.MethodName) ({ cls := "SplitChannelModel", name := "anew", desc := "()I" } : Jvm.MethodName)) ∈ mk_WL := mk_t6 195 rfl rfl
theorem mw_1396 : (Jvm.Cond.code ({ cls := "SplitChannelModel", name := "anew", desc := "()I" } : Jvm.MethodName) prog_11_method_84_code (2 : Nat) (Option.some Jvm.ClassFile.FieldType.int)) ∈ mk_WL := mk_t6 196 rfl rfl
theorem mw_1397 : (Jvm.Cond.fieldLink "java/lang/String" (9 : Nat) "java/lang/String" "value" "[B") ∈ mk_WL := mk_t6 197 rfl rfl
theorem mw_1398 : (Jvm.Cond.fieldLink "java/lang/String" (15 : Nat) "java/lang/String" "coder" "B") ∈ mk_WL := mk_t6 198 rfl rfl
theorem mw_s0 : Cond.selects "SplitChannelModel" ⟨"SplitChannelModel", "next", "()V"⟩ ⟨"SplitChannelModel", "next", "()V"⟩ ∈ mk_WL := List.mem_filter.mpr ⟨List.mem_append_left _ (List.mem_map.mpr ⟨(⟨"SplitChannelModel", "next", "()V"⟩, 47), List.mem_of_getElem? (i := 0) rfl, rfl⟩), rfl⟩
theorem mw_s1 : Cond.selects "SplitChannelModel" ⟨"SplitChannelModel", "isAt", "(II)Z"⟩ ⟨"SplitChannelModel", "isAt", "(II)Z"⟩ ∈ mk_WL := List.mem_filter.mpr ⟨List.mem_append_left _ (List.mem_map.mpr ⟨(⟨"SplitChannelModel", "isAt", "(II)Z"⟩, 47), List.mem_of_getElem? (i := 1) rfl, rfl⟩), rfl⟩
theorem mw_s2 : Cond.selects "SplitChannelModel" ⟨"SplitChannelModel", "readsChannel", "()V"⟩ ⟨"SplitChannelModel", "readsChannel", "()V"⟩ ∈ mk_WL := List.mem_filter.mpr ⟨List.mem_append_left _ (List.mem_map.mpr ⟨(⟨"SplitChannelModel", "readsChannel", "()V"⟩, 47), List.mem_of_getElem? (i := 2) rfl, rfl⟩), rfl⟩
theorem mw_s3 : Cond.selects "SplitChannelModel" ⟨"SplitChannelModel", "isWord", "(Ljava/lang/String;)Z"⟩ ⟨"SplitChannelModel", "isWord", "(Ljava/lang/String;)Z"⟩ ∈ mk_WL := List.mem_filter.mpr ⟨List.mem_append_left _ (List.mem_map.mpr ⟨(⟨"SplitChannelModel", "isWord", "(Ljava/lang/String;)Z"⟩, 47), List.mem_of_getElem? (i := 3) rfl, rfl⟩), rfl⟩
theorem mw_s4 : Cond.selects "SplitChannelModel" ⟨"SplitChannelModel", "passes", "(Z)V"⟩ ⟨"SplitChannelModel", "passes", "(Z)V"⟩ ∈ mk_WL := List.mem_filter.mpr ⟨List.mem_append_left _ (List.mem_map.mpr ⟨(⟨"SplitChannelModel", "passes", "(Z)V"⟩, 47), List.mem_of_getElem? (i := 4) rfl, rfl⟩), rfl⟩
theorem mw_s5 : Cond.selects "SplitChannelModel" ⟨"SplitChannelModel", "faults", "(I)V"⟩ ⟨"SplitChannelModel", "faults", "(I)V"⟩ ∈ mk_WL := List.mem_filter.mpr ⟨List.mem_append_left _ (List.mem_map.mpr ⟨(⟨"SplitChannelModel", "faults", "(I)V"⟩, 47), List.mem_of_getElem? (i := 5) rfl, rfl⟩), rfl⟩
theorem mw_s6 : Cond.selects "SplitChannelModel" ⟨"SplitChannelModel", "named", "(Ljava/lang/String;II)I"⟩ ⟨"SplitChannelModel", "named", "(Ljava/lang/String;II)I"⟩ ∈ mk_WL := List.mem_filter.mpr ⟨List.mem_append_left _ (List.mem_map.mpr ⟨(⟨"SplitChannelModel", "named", "(Ljava/lang/String;II)I"⟩, 47), List.mem_of_getElem? (i := 6) rfl, rfl⟩), rfl⟩
theorem mw_s7 : Cond.selects "SplitChannelModel" ⟨"SplitChannelModel", "reads", "(II)I"⟩ ⟨"SplitChannelModel", "reads", "(II)I"⟩ ∈ mk_WL := List.mem_filter.mpr ⟨List.mem_append_left _ (List.mem_map.mpr ⟨(⟨"SplitChannelModel", "reads", "(II)I"⟩, 47), List.mem_of_getElem? (i := 7) rfl, rfl⟩), rfl⟩
theorem mw_s8 : Cond.selects "SplitChannelModel" ⟨"SplitChannelModel", "readsSender", "()V"⟩ ⟨"SplitChannelModel", "readsSender", "()V"⟩ ∈ mk_WL := List.mem_filter.mpr ⟨List.mem_append_left _ (List.mem_map.mpr ⟨(⟨"SplitChannelModel", "readsSender", "()V"⟩, 47), List.mem_of_getElem? (i := 8) rfl, rfl⟩), rfl⟩
theorem mw_s9 : Cond.selects "SplitChannelModel" ⟨"SplitChannelModel", "readsNoise", "()V"⟩ ⟨"SplitChannelModel", "readsNoise", "()V"⟩ ∈ mk_WL := List.mem_filter.mpr ⟨List.mem_append_left _ (List.mem_map.mpr ⟨(⟨"SplitChannelModel", "readsNoise", "()V"⟩, 47), List.mem_of_getElem? (i := 9) rfl, rfl⟩), rfl⟩
theorem mw_s10 : Cond.selects "SplitChannelModel" ⟨"SplitChannelModel", "isNoisy", "(I)Z"⟩ ⟨"SplitChannelModel", "isNoisy", "(I)Z"⟩ ∈ mk_WL := List.mem_filter.mpr ⟨List.mem_append_left _ (List.mem_map.mpr ⟨(⟨"SplitChannelModel", "isNoisy", "(I)Z"⟩, 47), List.mem_of_getElem? (i := 10) rfl, rfl⟩), rfl⟩
theorem mw_s11 : Cond.selects "SplitChannelModel" ⟨"SplitChannelModel", "isSender", "(I)Z"⟩ ⟨"SplitChannelModel", "isSender", "(I)Z"⟩ ∈ mk_WL := List.mem_filter.mpr ⟨List.mem_append_left _ (List.mem_map.mpr ⟨(⟨"SplitChannelModel", "isSender", "(I)Z"⟩, 47), List.mem_of_getElem? (i := 11) rfl, rfl⟩), rfl⟩
theorem mw_s12 : Cond.selects "SplitChannelModel" ⟨"SplitChannelModel", "bitOf", "(II)I"⟩ ⟨"SplitChannelModel", "bitOf", "(II)I"⟩ ∈ mk_WL := List.mem_filter.mpr ⟨List.mem_append_left _ (List.mem_map.mpr ⟨(⟨"SplitChannelModel", "bitOf", "(II)I"⟩, 47), List.mem_of_getElem? (i := 12) rfl, rfl⟩), rfl⟩
theorem mw_s13 : Cond.selects "SplitChannelModel" ⟨"SplitChannelModel", "isSlot", "(I)Z"⟩ ⟨"SplitChannelModel", "isSlot", "(I)Z"⟩ ∈ mk_WL := List.mem_filter.mpr ⟨List.mem_append_left _ (List.mem_map.mpr ⟨(⟨"SplitChannelModel", "isSlot", "(I)Z"⟩, 47), List.mem_of_getElem? (i := 13) rfl, rfl⟩), rfl⟩
theorem mw_s14 : Cond.selects "SplitChannelModel" ⟨"SplitChannelModel", "is", "()Z"⟩ ⟨"SplitChannelModel", "is", "()Z"⟩ ∈ mk_WL := List.mem_filter.mpr ⟨List.mem_append_left _ (List.mem_map.mpr ⟨(⟨"SplitChannelModel", "is", "()Z"⟩, 47), List.mem_of_getElem? (i := 14) rfl, rfl⟩), rfl⟩
theorem mw_s15 : Cond.selects "SplitChannelModel" ⟨"SplitChannelModel", "runs", "()V"⟩ ⟨"SplitChannelModel", "runs", "()V"⟩ ∈ mk_WL := List.mem_filter.mpr ⟨List.mem_append_left _ (List.mem_map.mpr ⟨(⟨"SplitChannelModel", "runs", "()V"⟩, 47), List.mem_of_getElem? (i := 15) rfl, rfl⟩), rfl⟩
theorem mw_s16 : Cond.selects "SplitChannelModel" ⟨"SplitChannelModel", "runsBy", "(III)V"⟩ ⟨"SplitChannelModel", "runsBy", "(III)V"⟩ ∈ mk_WL := List.mem_filter.mpr ⟨List.mem_append_left _ (List.mem_map.mpr ⟨(⟨"SplitChannelModel", "runsBy", "(III)V"⟩, 47), List.mem_of_getElem? (i := 16) rfl, rfl⟩), rfl⟩
theorem mw_s17 : Cond.selects "SplitChannelModel" ⟨"SplitChannelModel", "waiting", "(I)I"⟩ ⟨"SplitChannelModel", "waiting", "(I)I"⟩ ∈ mk_WL := List.mem_filter.mpr ⟨List.mem_append_left _ (List.mem_map.mpr ⟨(⟨"SplitChannelModel", "waiting", "(I)I"⟩, 47), List.mem_of_getElem? (i := 17) rfl, rfl⟩), rfl⟩
theorem mw_s18 : Cond.selects "SplitChannelModel" ⟨"SplitChannelModel", "goesByCounters", "(I)V"⟩ ⟨"SplitChannelModel", "goesByCounters", "(I)V"⟩ ∈ mk_WL := List.mem_filter.mpr ⟨List.mem_append_left _ (List.mem_map.mpr ⟨(⟨"SplitChannelModel", "goesByCounters", "(I)V"⟩, 47), List.mem_of_getElem? (i := 18) rfl, rfl⟩), rfl⟩
theorem mw_s19 : Cond.selects "SplitChannelModel" ⟨"SplitChannelModel", "sent", "(II)I"⟩ ⟨"SplitChannelModel", "sent", "(II)I"⟩ ∈ mk_WL := List.mem_filter.mpr ⟨List.mem_append_left _ (List.mem_map.mpr ⟨(⟨"SplitChannelModel", "sent", "(II)I"⟩, 47), List.mem_of_getElem? (i := 19) rfl, rfl⟩), rfl⟩
theorem mw_s20 : Cond.selects "SplitChannelModel" ⟨"SplitChannelModel", "heardAt", "(II)I"⟩ ⟨"SplitChannelModel", "heardAt", "(II)I"⟩ ∈ mk_WL := List.mem_filter.mpr ⟨List.mem_append_left _ (List.mem_map.mpr ⟨(⟨"SplitChannelModel", "heardAt", "(II)I"⟩, 47), List.mem_of_getElem? (i := 20) rfl, rfl⟩), rfl⟩
theorem mw_s21 : Cond.selects "SplitChannelModel" ⟨"SplitChannelModel", "takesBit", "(I)I"⟩ ⟨"SplitChannelModel", "takesBit", "(I)I"⟩ ∈ mk_WL := List.mem_filter.mpr ⟨List.mem_append_left _ (List.mem_map.mpr ⟨(⟨"SplitChannelModel", "takesBit", "(I)I"⟩, 47), List.mem_of_getElem? (i := 21) rfl, rfl⟩), rfl⟩
theorem mw_s22 : Cond.selects "SplitChannelModel" ⟨"SplitChannelModel", "goesByGroups", "(I)V"⟩ ⟨"SplitChannelModel", "goesByGroups", "(I)V"⟩ ∈ mk_WL := List.mem_filter.mpr ⟨List.mem_append_left _ (List.mem_map.mpr ⟨(⟨"SplitChannelModel", "goesByGroups", "(I)V"⟩, 47), List.mem_of_getElem? (i := 22) rfl, rfl⟩), rfl⟩
theorem mw_s23 : Cond.selects "SplitChannelModel" ⟨"SplitChannelModel", "begins", "(I)V"⟩ ⟨"SplitChannelModel", "begins", "(I)V"⟩ ∈ mk_WL := List.mem_filter.mpr ⟨List.mem_append_left _ (List.mem_map.mpr ⟨(⟨"SplitChannelModel", "begins", "(I)V"⟩, 47), List.mem_of_getElem? (i := 23) rfl, rfl⟩), rfl⟩
theorem mw_s24 : Cond.selects "SplitChannelModel" ⟨"SplitChannelModel", "between", "(III)I"⟩ ⟨"SplitChannelModel", "between", "(III)I"⟩ ∈ mk_WL := List.mem_filter.mpr ⟨List.mem_append_left _ (List.mem_map.mpr ⟨(⟨"SplitChannelModel", "between", "(III)I"⟩, 47), List.mem_of_getElem? (i := 24) rfl, rfl⟩), rfl⟩
theorem mw_s25 : Cond.selects "SplitChannelModel" ⟨"SplitChannelModel", "splits", "()V"⟩ ⟨"SplitChannelModel", "splits", "()V"⟩ ∈ mk_WL := List.mem_filter.mpr ⟨List.mem_append_left _ (List.mem_map.mpr ⟨(⟨"SplitChannelModel", "splits", "()V"⟩, 47), List.mem_of_getElem? (i := 25) rfl, rfl⟩), rfl⟩
theorem mw_s26 : Cond.selects "SplitChannelModel" ⟨"SplitChannelModel", "ends", "(I)V"⟩ ⟨"SplitChannelModel", "ends", "(I)V"⟩ ∈ mk_WL := List.mem_filter.mpr ⟨List.mem_append_left _ (List.mem_map.mpr ⟨(⟨"SplitChannelModel", "ends", "(I)V"⟩, 47), List.mem_of_getElem? (i := 26) rfl, rfl⟩), rfl⟩
theorem mw_s27 : Cond.selects "SplitChannelModel" ⟨"SplitChannelModel", "lastOf", "()I"⟩ ⟨"SplitChannelModel", "lastOf", "()I"⟩ ∈ mk_WL := List.mem_filter.mpr ⟨List.mem_append_left _ (List.mem_map.mpr ⟨(⟨"SplitChannelModel", "lastOf", "()I"⟩, 47), List.mem_of_getElem? (i := 27) rfl, rfl⟩), rfl⟩
theorem mw_s28 : Cond.selects "SplitChannelModel" ⟨"SplitChannelModel", "collisions", "()I"⟩ ⟨"SplitChannelModel", "collisions", "()I"⟩ ∈ mk_WL := List.mem_filter.mpr ⟨List.mem_append_left _ (List.mem_map.mpr ⟨(⟨"SplitChannelModel", "collisions", "()I"⟩, 47), List.mem_of_getElem? (i := 28) rfl, rfl⟩), rfl⟩
theorem mw_s29 : Cond.selects "SplitChannelModel" ⟨"SplitChannelModel", "skipsAll", "()I"⟩ ⟨"SplitChannelModel", "skipsAll", "()I"⟩ ∈ mk_WL := List.mem_filter.mpr ⟨List.mem_append_left _ (List.mem_map.mpr ⟨(⟨"SplitChannelModel", "skipsAll", "()I"⟩, 47), List.mem_of_getElem? (i := 29) rfl, rfl⟩), rfl⟩
theorem mw_s30 : Cond.selects "SplitChannelModel" ⟨"SplitChannelModel", "moreWithout", "(I)I"⟩ ⟨"SplitChannelModel", "moreWithout", "(I)I"⟩ ∈ mk_WL := List.mem_filter.mpr ⟨List.mem_append_left _ (List.mem_map.mpr ⟨(⟨"SplitChannelModel", "moreWithout", "(I)I"⟩, 47), List.mem_of_getElem? (i := 30) rfl, rfl⟩), rfl⟩
theorem mw_s31 : Cond.selects "SplitChannelModel" ⟨"SplitChannelModel", "means", "(IIJJ)V"⟩ ⟨"SplitChannelModel", "means", "(IIJJ)V"⟩ ∈ mk_WL := List.mem_filter.mpr ⟨List.mem_append_left _ (List.mem_map.mpr ⟨(⟨"SplitChannelModel", "means", "(IIJJ)V"⟩, 47), List.mem_of_getElem? (i := 31) rfl, rfl⟩), rfl⟩
theorem mw_s32 : Cond.selects "SplitChannelModel" ⟨"SplitChannelModel", "is", "(JJ)V"⟩ ⟨"SplitChannelModel", "is", "(JJ)V"⟩ ∈ mk_WL := List.mem_filter.mpr ⟨List.mem_append_left _ (List.mem_map.mpr ⟨(⟨"SplitChannelModel", "is", "(JJ)V"⟩, 47), List.mem_of_getElem? (i := 32) rfl, rfl⟩), rfl⟩
theorem mw_s33 : Cond.selects "SplitChannelModel" ⟨"SplitChannelModel", "adds", "(JJ)V"⟩ ⟨"SplitChannelModel", "adds", "(JJ)V"⟩ ∈ mk_WL := List.mem_filter.mpr ⟨List.mem_append_left _ (List.mem_map.mpr ⟨(⟨"SplitChannelModel", "adds", "(JJ)V"⟩, 47), List.mem_of_getElem? (i := 33) rfl, rfl⟩), rfl⟩
theorem mw_s34 : Cond.selects "SplitChannelModel" ⟨"SplitChannelModel", "times", "(JJ)V"⟩ ⟨"SplitChannelModel", "times", "(JJ)V"⟩ ∈ mk_WL := List.mem_filter.mpr ⟨List.mem_append_left _ (List.mem_map.mpr ⟨(⟨"SplitChannelModel", "times", "(JJ)V"⟩, 47), List.mem_of_getElem? (i := 34) rfl, rfl⟩), rfl⟩
theorem mw_s35 : Cond.selects "SplitChannelModel" ⟨"SplitChannelModel", "chances", "(III)V"⟩ ⟨"SplitChannelModel", "chances", "(III)V"⟩ ∈ mk_WL := List.mem_filter.mpr ⟨List.mem_append_left _ (List.mem_map.mpr ⟨(⟨"SplitChannelModel", "chances", "(III)V"⟩, 47), List.mem_of_getElem? (i := 35) rfl, rfl⟩), rfl⟩
theorem mw_s36 : Cond.selects "SplitChannelModel" ⟨"SplitChannelModel", "chanceOf", "(III)V"⟩ ⟨"SplitChannelModel", "chanceOf", "(III)V"⟩ ∈ mk_WL := List.mem_filter.mpr ⟨List.mem_append_left _ (List.mem_map.mpr ⟨(⟨"SplitChannelModel", "chanceOf", "(III)V"⟩, 47), List.mem_of_getElem? (i := 36) rfl, rfl⟩), rfl⟩
theorem mw_s37 : Cond.selects "SplitChannelModel" ⟨"SplitChannelModel", "keeps", "()V"⟩ ⟨"SplitChannelModel", "keeps", "()V"⟩ ∈ mk_WL := List.mem_filter.mpr ⟨List.mem_append_left _ (List.mem_map.mpr ⟨(⟨"SplitChannelModel", "keeps", "()V"⟩, 47), List.mem_of_getElem? (i := 37) rfl, rfl⟩), rfl⟩
theorem mw_s38 : Cond.selects "SplitChannelModel" ⟨"SplitChannelModel", "allNow", "()I"⟩ ⟨"SplitChannelModel", "allNow", "()I"⟩ ∈ mk_WL := List.mem_filter.mpr ⟨List.mem_append_left _ (List.mem_map.mpr ⟨(⟨"SplitChannelModel", "allNow", "()I"⟩, 47), List.mem_of_getElem? (i := 38) rfl, rfl⟩), rfl⟩
theorem mw_s39 : Cond.selects "SplitChannelModel" ⟨"SplitChannelModel", "goesBack", "(I)V"⟩ ⟨"SplitChannelModel", "goesBack", "(I)V"⟩ ∈ mk_WL := List.mem_filter.mpr ⟨List.mem_append_left _ (List.mem_map.mpr ⟨(⟨"SplitChannelModel", "goesBack", "(I)V"⟩, 47), List.mem_of_getElem? (i := 39) rfl, rfl⟩), rfl⟩
theorem mk_inX0 : ∀ w ∈ wsX00, w ∈ mk_WL := List.forall_mem_cons.mpr ⟨mw_308, List.forall_mem_cons.mpr ⟨mw_310, List.forall_mem_cons.mpr ⟨mw_312, fun _ h => absurd h List.not_mem_nil⟩⟩⟩
theorem mk_inX1 : ∀ w ∈ wsX10, w ∈ mk_WL := List.forall_mem_cons.mpr ⟨mw_225, List.forall_mem_cons.mpr ⟨mw_227, List.forall_mem_cons.mpr ⟨mw_229, List.forall_mem_cons.mpr ⟨mw_231, List.forall_mem_cons.mpr ⟨mw_233, List.forall_mem_cons.mpr ⟨mw_235, List.forall_mem_cons.mpr ⟨mw_237, List.forall_mem_cons.mpr ⟨mw_239, List.forall_mem_cons.mpr ⟨mw_241, List.forall_mem_cons.mpr ⟨mw_243, List.forall_mem_cons.mpr ⟨mw_245, List.forall_mem_cons.mpr ⟨mw_247, List.forall_mem_cons.mpr ⟨mw_249, List.forall_mem_cons.mpr ⟨mw_251, fun _ h => absurd h List.not_mem_nil⟩⟩⟩⟩⟩⟩⟩⟩⟩⟩⟩⟩⟩⟩
theorem mk_inX2 : ∀ w ∈ wsX20, w ∈ mk_WL := List.forall_mem_cons.mpr ⟨mw_330, List.forall_mem_cons.mpr ⟨mw_332, List.forall_mem_cons.mpr ⟨mw_334, List.forall_mem_cons.mpr ⟨mw_336, List.forall_mem_cons.mpr ⟨mw_338, fun _ h => absurd h List.not_mem_nil⟩⟩⟩⟩⟩
theorem mk_inX3 : ∀ w ∈ wsX30, w ∈ mk_WL := List.forall_mem_cons.mpr ⟨mw_98, List.forall_mem_cons.mpr ⟨mw_100, List.forall_mem_cons.mpr ⟨mw_102, List.forall_mem_cons.mpr ⟨mw_104, List.forall_mem_cons.mpr ⟨mw_106, List.forall_mem_cons.mpr ⟨mw_108, List.forall_mem_cons.mpr ⟨mw_110, List.forall_mem_cons.mpr ⟨mw_112, List.forall_mem_cons.mpr ⟨mw_114, List.forall_mem_cons.mpr ⟨mw_116, List.forall_mem_cons.mpr ⟨mw_118, List.forall_mem_cons.mpr ⟨mw_120, fun _ h => absurd h List.not_mem_nil⟩⟩⟩⟩⟩⟩⟩⟩⟩⟩⟩⟩
theorem mk_inX4 : ∀ w ∈ wsX40, w ∈ mk_WL := List.forall_mem_cons.mpr ⟨mw_269, List.forall_mem_cons.mpr ⟨mw_271, List.forall_mem_cons.mpr ⟨mw_273, List.forall_mem_cons.mpr ⟨mw_275, List.forall_mem_cons.mpr ⟨mw_277, List.forall_mem_cons.mpr ⟨mw_279, List.forall_mem_cons.mpr ⟨mw_281, List.forall_mem_cons.mpr ⟨mw_283, List.forall_mem_cons.mpr ⟨mw_285, List.forall_mem_cons.mpr ⟨mw_287, List.forall_mem_cons.mpr ⟨mw_289, List.forall_mem_cons.mpr ⟨mw_291, List.forall_mem_cons.mpr ⟨mw_293, fun _ h => absurd h List.not_mem_nil⟩⟩⟩⟩⟩⟩⟩⟩⟩⟩⟩⟩⟩
theorem mk_inX5 : ∀ w ∈ wsX50, w ∈ mk_WL := List.forall_mem_cons.mpr ⟨mw_135, List.forall_mem_cons.mpr ⟨mw_137, List.forall_mem_cons.mpr ⟨mw_139, List.forall_mem_cons.mpr ⟨mw_141, List.forall_mem_cons.mpr ⟨mw_143, List.forall_mem_cons.mpr ⟨mw_145, List.forall_mem_cons.mpr ⟨mw_147, List.forall_mem_cons.mpr ⟨mw_149, fun _ h => absurd h List.not_mem_nil⟩⟩⟩⟩⟩⟩⟩⟩
theorem mk_inX6 : ∀ w ∈ wsX60, w ∈ mk_WL := List.forall_mem_cons.mpr ⟨mw_173, List.forall_mem_cons.mpr ⟨mw_175, List.forall_mem_cons.mpr ⟨mw_177, List.forall_mem_cons.mpr ⟨mw_179, fun _ h => absurd h List.not_mem_nil⟩⟩⟩⟩
theorem mk_inX7 : ∀ w ∈ wsX70, w ∈ mk_WL := List.forall_mem_cons.mpr ⟨mw_43, List.forall_mem_cons.mpr ⟨mw_45, fun _ h => absurd h List.not_mem_nil⟩⟩
theorem mk_inX8 : ∀ w ∈ wsX80, w ∈ mk_WL := List.forall_mem_cons.mpr ⟨mw_351, List.forall_mem_cons.mpr ⟨mw_353, List.forall_mem_cons.mpr ⟨mw_355, List.forall_mem_cons.mpr ⟨mw_357, List.forall_mem_cons.mpr ⟨mw_359, List.forall_mem_cons.mpr ⟨mw_361, List.forall_mem_cons.mpr ⟨mw_363, List.forall_mem_cons.mpr ⟨mw_365, List.forall_mem_cons.mpr ⟨mw_367, fun _ h => absurd h List.not_mem_nil⟩⟩⟩⟩⟩⟩⟩⟩⟩
theorem mk_inX9 : ∀ w ∈ wsX90, w ∈ mk_WL := List.forall_mem_cons.mpr ⟨mw_949, List.forall_mem_cons.mpr ⟨mw_951, List.forall_mem_cons.mpr ⟨mw_953, List.forall_mem_cons.mpr ⟨mw_955, List.forall_mem_cons.mpr ⟨mw_957, List.forall_mem_cons.mpr ⟨mw_959, List.forall_mem_cons.mpr ⟨mw_961, List.forall_mem_cons.mpr ⟨mw_963, List.forall_mem_cons.mpr ⟨mw_965, List.forall_mem_cons.mpr ⟨mw_967, List.forall_mem_cons.mpr ⟨mw_969, List.forall_mem_cons.mpr ⟨mw_971, List.forall_mem_cons.mpr ⟨mw_973, List.forall_mem_cons.mpr ⟨mw_975, List.forall_mem_cons.mpr ⟨mw_977, List.forall_mem_cons.mpr ⟨mw_979, List.forall_mem_cons.mpr ⟨mw_981, List.forall_mem_cons.mpr ⟨mw_983, List.forall_mem_cons.mpr ⟨mw_985, List.forall_mem_cons.mpr ⟨mw_987, List.forall_mem_cons.mpr ⟨mw_989, List.forall_mem_cons.mpr ⟨mw_991, List.forall_mem_cons.mpr ⟨mw_993, List.forall_mem_cons.mpr ⟨mw_995, List.forall_mem_cons.mpr ⟨mw_997, List.forall_mem_cons.mpr ⟨mw_999, List.forall_mem_cons.mpr ⟨mw_1001, List.forall_mem_cons.mpr ⟨mw_1003, List.forall_mem_cons.mpr ⟨mw_1005, List.forall_mem_cons.mpr ⟨mw_1007, List.forall_mem_cons.mpr ⟨mw_1009, List.forall_mem_cons.mpr ⟨mw_1011, List.forall_mem_cons.mpr ⟨mw_1013, List.forall_mem_cons.mpr ⟨mw_1015, List.forall_mem_cons.mpr ⟨mw_1017, List.forall_mem_cons.mpr ⟨mw_1019, List.forall_mem_cons.mpr ⟨mw_1021, List.forall_mem_cons.mpr ⟨mw_1023, List.forall_mem_cons.mpr ⟨mw_1025, List.forall_mem_cons.mpr ⟨mw_1027, List.forall_mem_cons.mpr ⟨mw_1029, List.forall_mem_cons.mpr ⟨mw_1031, List.forall_mem_cons.mpr ⟨mw_1033, List.forall_mem_cons.mpr ⟨mw_1035, List.forall_mem_cons.mpr ⟨mw_1037, List.forall_mem_cons.mpr ⟨mw_1039, List.forall_mem_cons.mpr ⟨mw_1041, fun _ h => absurd h List.not_mem_nil⟩⟩⟩⟩⟩⟩⟩⟩⟩⟩⟩⟩⟩⟩⟩⟩⟩⟩⟩⟩⟩⟩⟩⟩⟩⟩⟩⟩⟩⟩⟩⟩⟩⟩⟩⟩⟩⟩⟩⟩⟩⟩⟩⟩⟩⟩⟩
