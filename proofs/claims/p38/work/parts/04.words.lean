/-! the tables' words that keep, and each one's place -/
/-- a private method of a superclass, asked of an object of a class that can be made -/
theorem mk_selPriv {y : MethodName} {C : String} {n : Nat} {s : State} {args : Array Value} (hins : (Cond.instantiable C n).before args s = true) (hsame : (Cond.sameMethod y.cls y.cls y.name y.desc).before args s = true) (hpriv : (Cond.privateMethod y).before args s = true) (hinst : (Cond.instanceMethod y).before args s = true) : (Cond.selects C y y).before args s = true := by
  obtain ⟨c, k, hc, hk, -, hniab, -, -⟩ := Cond.instantiable_spec hins
  obtain ⟨cn, ck, r1, hcn, hck, hni, hf, hn1⟩ := Cond.sameMethod_found hsame
  obtain ⟨mk, methM, hnamed, hmethM, -, -⟩ := Cond.instanceMethod_spec hinst
  have e : mk = r1 := Option.some.inj (hnamed.symm.trans hn1)
  subst e
  have hsel : selectMethod {} s.vm c mk = .method mk := selectMethod_private hmethM (Cond.privateMethod_at hpriv mk methM hnamed hmethM)
  have hcls : mk.cls = cn := Option.some.inj ((findClass_of_methodNamed hnamed).symm.trans hcn)
  simp only [Cond.before, Cond.holds, Cond.value, hc, hf, hnamed, hsel, hcls, hck]
  simp; exact hni
def mk_pv : List MethodName := [yJ5_ensureCapacityInternal_d00df, yJ5_newCapacity_0f7a4, yJ5_putStringAt_47b60, yJ5_inflateIfNeededFor_a7421]
def mk_tbl : List Cond := mk_pv.map (fun y => Cond.selects RJ4 y y) ++ lw_tbl
def mk_WL : List Cond := mk_tbl.filter goodWord
theorem mk_WL_good : ∀ w ∈ mk_WL, goodWord w = true := fun _ h => (List.mem_filter.mp h).2
theorem mk_WL_in : ∀ w ∈ mk_WL, w ∈ mk_tbl := fun _ h => (List.mem_filter.mp h).1
theorem mk_inT {w : Cond} (h : w ∈ tables_1) (hg : goodWord w = true) : w ∈ mk_WL := List.mem_filter.mpr ⟨List.mem_append_right _ (List.mem_append_right _ h), hg⟩
theorem mk_t1 {w : Cond} (k : Nat) (h : tables_1_1[k]? = some w) (hg : goodWord w = true) : w ∈ mk_WL := mk_inT (List.mem_append_left _ (List.mem_of_getElem? h)) hg
theorem mk_t2 {w : Cond} (k : Nat) (h : tables_1_2[k]? = some w) (hg : goodWord w = true) : w ∈ mk_WL := mk_inT (List.mem_append_right _ (List.mem_append_left _ (List.mem_of_getElem? h))) hg
theorem mk_t3 {w : Cond} (k : Nat) (h : tables_1_3[k]? = some w) (hg : goodWord w = true) : w ∈ mk_WL := mk_inT (List.mem_append_right _ (List.mem_append_right _ (List.mem_append_left _ (List.mem_of_getElem? h)))) hg
theorem mk_t4 {w : Cond} (k : Nat) (h : tables_1_4[k]? = some w) (hg : goodWord w = true) : w ∈ mk_WL := mk_inT (List.mem_append_right _ (List.mem_append_right _ (List.mem_append_right _ (List.mem_append_left _ (List.mem_of_getElem? h))))) hg
theorem mk_t5 {w : Cond} (k : Nat) (h : tables_1_5[k]? = some w) (hg : goodWord w = true) : w ∈ mk_WL := mk_inT (List.mem_append_right _ (List.mem_append_right _ (List.mem_append_right _ (List.mem_append_right _ (List.mem_of_getElem? h))))) hg
theorem mw_0 : (Jvm.Cond.initialized "SplitChannelLaw") ∈ mk_WL := mk_t1 0 rfl rfl
theorem mw_1 : (Jvm.Cond.initialized "SplitChannel") ∈ mk_WL := mk_t1 1 rfl rfl
theorem mw_2 : (Jvm.Cond.initialized "SplitChannel$Reader") ∈ mk_WL := mk_t1 2 rfl rfl
theorem mw_3 : (Jvm.Cond.initialized "SplitChannel$Tape") ∈ mk_WL := mk_t1 3 rfl rfl
theorem mw_4 : (Jvm.Cond.initialized "SplitChannel$Plan") ∈ mk_WL := mk_t1 4 rfl rfl
theorem mw_5 : (Jvm.Cond.initialized "SplitChannel$Play") ∈ mk_WL := mk_t1 5 rfl rfl
theorem mw_6 : (Jvm.Cond.initialized "SplitChannel$Stack") ∈ mk_WL := mk_t1 6 rfl rfl
theorem mw_7 : (Jvm.Cond.initialized "SplitChannel$Course") ∈ mk_WL := mk_t1 7 rfl rfl
theorem mw_8 : (Jvm.Cond.initialized "SplitChannel$Acts") ∈ mk_WL := mk_t1 8 rfl rfl
theorem mw_9 : (Jvm.Cond.initialized "SplitChannel$Means") ∈ mk_WL := mk_t1 9 rfl rfl
theorem mw_10 : (Jvm.Cond.initialized "SplitChannelLaw$Channel") ∈ mk_WL := mk_t1 10 rfl rfl
theorem mw_11 : (Jvm.Cond.initialized "java/lang/AbstractStringBuilder") ∈ mk_WL := mk_t1 11 rfl rfl
theorem mw_12 : (Jvm.Cond.initialized "java/lang/StringBuilder") ∈ mk_WL := mk_t1 12 rfl rfl
theorem mw_13 : (Jvm.Cond.initialized "java/lang/String") ∈ mk_WL := mk_t1 13 rfl rfl
theorem mw_14 : (Jvm.Cond.initialized "java/lang/StringUTF16") ∈ mk_WL := mk_t1 14 rfl rfl
theorem mw_15 : (Jvm.Cond.initialized "jdk/internal/util/ArraysSupport") ∈ mk_WL := mk_t1 15 rfl rfl
theorem mw_16 : (Jvm.Cond.initialized "java/lang/Math") ∈ mk_WL := mk_t1 16 rfl rfl
theorem mw_17 : (Jvm.Cond.initialized "java/util/Arrays") ∈ mk_WL := mk_t1 17 rfl rfl
theorem mw_18 : (Jvm.Cond.initialized "java/lang/System") ∈ mk_WL := mk_t1 18 rfl rfl
theorem mw_19 : (Jvm.Cond.initialized "jdk/internal/util/Preconditions") ∈ mk_WL := mk_t1 19 rfl rfl
theorem mw_20 : (Jvm.Cond.initialized "java/lang/StringLatin1") ∈ mk_WL := mk_t1 20 rfl rfl
theorem mw_21 : (Jvm.Cond.initialized "java/lang/Number") ∈ mk_WL := mk_t1 21 rfl rfl
theorem mw_22 : (Jvm.Cond.initialized "java/lang/Integer") ∈ mk_WL := mk_t1 22 rfl rfl
theorem mw_23 : (Jvm.Cond.classLink "SplitChannelLaw" (19 : Nat) "SplitChannel") ∈ mk_WL := mk_t1 23 rfl rfl
theorem mw_24 : (Jvm.Cond.instantiable "SplitChannel" (9 : Nat)) ∈ mk_WL := mk_t1 24 rfl rfl
theorem mw_25 : (Jvm.Cond.methodLink "SplitChannelLaw" (92 : Nat) ({ cls := "SplitChannel", name := "<init>", desc := "()V" } : Jvm.MethodName)) ∈ mk_WL := mk_t1 25 rfl rfl
theorem mw_26 : (Jvm.Cond.instanceMethod ({ cls := "SplitChannel", name := "<init>", desc := "()V" } : Jvm.MethodName)) ∈ mk_WL := mk_t1 26 rfl rfl
theorem mw_27 : (Jvm.Cond.code ({ cls := "SplitChannel", name := "<init>", desc := "()V" } : Jvm.MethodName) prog_1_method_1_code (1 : Nat) (Option.none : Option Jvm.ClassFile.FieldType)) ∈ mk_WL := mk_t1 27 rfl rfl
theorem mw_28 : (Jvm.Cond.methodLink "SplitChannel" (1 : Nat) ({ cls := "java/lang/Object", name := "<init>", desc := "()V" } : Jvm.MethodName)) ∈ mk_WL := mk_t1 28 rfl rfl
theorem mw_29 : (Jvm.Cond.instanceMethod ({ cls := "java/lang/Object", name := "<init>", desc := "()V" } : Jvm.MethodName)) ∈ mk_WL := mk_t1 29 rfl rfl
theorem mw_30 : (Jvm.Cond.code ({ cls := "java/lang/Object", name := "<init>", desc := "()V" } : Jvm.MethodName) object_method_1_code (1 : Nat) (Option.none : Option Jvm.ClassFile.FieldType)) ∈ mk_WL := mk_t1 30 rfl rfl
theorem mw_31 : (Jvm.Cond.classLink "SplitChannel" (7 : Nat) "SplitChannel$Reader") ∈ mk_WL := mk_t1 31 rfl rfl
theorem mw_32 : (Jvm.Cond.instantiable "SplitChannel$Reader" (8 : Nat)) ∈ mk_WL := mk_t1 32 rfl rfl
theorem mw_34 : (Jvm.Cond.instanceMethod ({ cls := "SplitChannel$Reader", name := "<init>", desc := "()V" } : Jvm.MethodName)) ∈ mk_WL := mk_t1 34 rfl rfl
theorem mw_35 : (Jvm.Cond.code ({ cls := "SplitChannel$Reader", name := "<init>", desc := "()V" } : Jvm.MethodName) prog_7_method_1_code (1 : Nat) (Option.none : Option Jvm.ClassFile.FieldType)) ∈ mk_WL := mk_t1 35 rfl rfl
theorem mw_36 : (Jvm.Cond.methodLink "SplitChannel$Reader" (3 : Nat) ({ cls := "java/lang/Object", name := "<init>", desc := "()V" } : Jvm.MethodName)) ∈ mk_WL := mk_t1 36 rfl rfl
theorem mw_37 : (Jvm.Cond.classLink "SplitChannel$Reader" (9 : Nat) "SplitChannel$Tape") ∈ mk_WL := mk_t1 37 rfl rfl
theorem mw_38 : (Jvm.Cond.instantiable "SplitChannel$Tape" (2 : Nat)) ∈ mk_WL := mk_t1 38 rfl rfl
theorem mw_40 : (Jvm.Cond.instanceMethod ({ cls := "SplitChannel$Tape", name := "<init>", desc := "()V" } : Jvm.MethodName)) ∈ mk_WL := mk_t1 40 rfl rfl
theorem mw_41 : (Jvm.Cond.code ({ cls := "SplitChannel$Tape", name := "<init>", desc := "()V" } : Jvm.MethodName) prog_9_method_1_code (1 : Nat) (Option.none : Option Jvm.ClassFile.FieldType)) ∈ mk_WL := mk_t1 41 rfl rfl
theorem mw_42 : (Jvm.Cond.methodLink "SplitChannel$Tape" (3 : Nat) ({ cls := "java/lang/Object", name := "<init>", desc := "()V" } : Jvm.MethodName)) ∈ mk_WL := mk_t1 42 rfl rfl
theorem mw_43 : (Jvm.Cond.fieldLink "SplitChannel$Tape" (9 : Nat) "SplitChannel$Tape" "bytes" "[I") ∈ mk_WL := mk_t1 43 rfl rfl
theorem mw_44 : (Jvm.Cond.fieldLink "SplitChannel$Reader" (135 : Nat) "SplitChannel$Tape" "bytes" "[I") ∈ mk_WL := mk_t1 44 rfl rfl
theorem mw_45 : (Jvm.Cond.fieldLink "SplitChannel" (64 : Nat) "SplitChannel$Tape" "length" "I") ∈ mk_WL := mk_t1 45 rfl rfl
theorem mw_46 : (Jvm.Cond.fieldLink "SplitChannel$Tape" (15 : Nat) "SplitChannel$Tape" "length" "I") ∈ mk_WL := mk_t1 46 rfl rfl
theorem mw_47 : (Jvm.Cond.fieldLink "SplitChannel$Reader" (159 : Nat) "SplitChannel$Tape" "length" "I") ∈ mk_WL := mk_t1 47 rfl rfl
theorem mw_48 : (Jvm.Cond.laysFinal "SplitChannel$Tape" "SplitChannel$Tape" "bytes" "[I") ∈ mk_WL := mk_t1 48 rfl rfl
theorem mw_50 : (Jvm.Cond.lays "SplitChannel$Tape" "SplitChannel$Tape" "length" "I") ∈ mk_WL := mk_t1 50 rfl rfl
theorem mw_52 : (Jvm.Cond.superclass "SplitChannel$Tape" "java/lang/Object") ∈ mk_WL := mk_t1 52 rfl rfl
theorem mw_53 : (Jvm.Cond.arrayClass Jvm.ClassFile.FieldType.int) ∈ mk_WL := mk_t1 53 rfl rfl
theorem mw_54 : (Jvm.Cond.classLink "SplitChannel$Reader" (18 : Nat) "SplitChannel$Plan") ∈ mk_WL := mk_t1 54 rfl rfl
theorem mw_55 : (Jvm.Cond.instantiable "SplitChannel$Plan" (12 : Nat)) ∈ mk_WL := mk_t1 55 rfl rfl
theorem mw_57 : (Jvm.Cond.instanceMethod ({ cls := "SplitChannel$Plan", name := "<init>", desc := "()V" } : Jvm.MethodName)) ∈ mk_WL := mk_t1 57 rfl rfl
theorem mw_58 : (Jvm.Cond.code ({ cls := "SplitChannel$Plan", name := "<init>", desc := "()V" } : Jvm.MethodName) prog_5_method_1_code (1 : Nat) (Option.none : Option Jvm.ClassFile.FieldType)) ∈ mk_WL := mk_t1 58 rfl rfl
theorem mw_59 : (Jvm.Cond.methodLink "SplitChannel$Plan" (3 : Nat) ({ cls := "java/lang/Object", name := "<init>", desc := "()V" } : Jvm.MethodName)) ∈ mk_WL := mk_t1 59 rfl rfl
theorem mw_60 : (Jvm.Cond.fieldLink "SplitChannel$Plan" (27 : Nat) "SplitChannel$Plan" "law" "I") ∈ mk_WL := mk_t1 60 rfl rfl
theorem mw_61 : (Jvm.Cond.fieldLink "SplitChannel$Acts" (38 : Nat) "SplitChannel$Plan" "law" "I") ∈ mk_WL := mk_t1 61 rfl rfl
theorem mw_62 : (Jvm.Cond.fieldLink "SplitChannel$Reader" (86 : Nat) "SplitChannel$Plan" "law" "I") ∈ mk_WL := mk_t1 62 rfl rfl
theorem mw_63 : (Jvm.Cond.fieldLink "SplitChannel" (87 : Nat) "SplitChannel$Plan" "law" "I") ∈ mk_WL := mk_t1 63 rfl rfl
theorem mw_64 : (Jvm.Cond.fieldLink "SplitChannel$Plan" (31 : Nat) "SplitChannel$Plan" "slots" "I") ∈ mk_WL := mk_t1 64 rfl rfl
theorem mw_65 : (Jvm.Cond.fieldLink "SplitChannel$Play" (77 : Nat) "SplitChannel$Plan" "slots" "I") ∈ mk_WL := mk_t1 65 rfl rfl
theorem mw_66 : (Jvm.Cond.fieldLink "SplitChannel$Reader" (90 : Nat) "SplitChannel$Plan" "slots" "I") ∈ mk_WL := mk_t1 66 rfl rfl
theorem mw_67 : (Jvm.Cond.fieldLink "SplitChannel" (103 : Nat) "SplitChannel$Plan" "slots" "I") ∈ mk_WL := mk_t1 67 rfl rfl
theorem mw_68 : (Jvm.Cond.fieldLink "SplitChannel$Plan" (34 : Nat) "SplitChannel$Plan" "skips" "I") ∈ mk_WL := mk_t1 68 rfl rfl
theorem mw_69 : (Jvm.Cond.fieldLink "SplitChannel$Reader" (94 : Nat) "SplitChannel$Plan" "skips" "I") ∈ mk_WL := mk_t1 69 rfl rfl
theorem mw_70 : (Jvm.Cond.fieldLink "SplitChannel$Play" (137 : Nat) "SplitChannel$Plan" "skips" "I") ∈ mk_WL := mk_t1 70 rfl rfl
theorem mw_71 : (Jvm.Cond.fieldLink "SplitChannel" (106 : Nat) "SplitChannel$Plan" "skips" "I") ∈ mk_WL := mk_t1 71 rfl rfl
theorem mw_72 : (Jvm.Cond.fieldLink "SplitChannel$Plan" (37 : Nat) "SplitChannel$Plan" "window" "I") ∈ mk_WL := mk_t1 72 rfl rfl
theorem mw_73 : (Jvm.Cond.fieldLink "SplitChannel$Reader" (98 : Nat) "SplitChannel$Plan" "window" "I") ∈ mk_WL := mk_t1 73 rfl rfl
theorem mw_74 : (Jvm.Cond.fieldLink "SplitChannel$Play" (140 : Nat) "SplitChannel$Plan" "window" "I") ∈ mk_WL := mk_t1 74 rfl rfl
theorem mw_75 : (Jvm.Cond.fieldLink "SplitChannel" (109 : Nat) "SplitChannel$Plan" "window" "I") ∈ mk_WL := mk_t1 75 rfl rfl
theorem mw_76 : (Jvm.Cond.fieldLink "SplitChannel$Plan" (40 : Nat) "SplitChannel$Plan" "lines" "I") ∈ mk_WL := mk_t1 76 rfl rfl
theorem mw_77 : (Jvm.Cond.fieldLink "SplitChannel$Reader" (48 : Nat) "SplitChannel$Plan" "lines" "I") ∈ mk_WL := mk_t1 77 rfl rfl
theorem mw_78 : (Jvm.Cond.fieldLink "SplitChannel" (94 : Nat) "SplitChannel$Plan" "lines" "I") ∈ mk_WL := mk_t1 78 rfl rfl
theorem mw_79 : (Jvm.Cond.fieldLink "SplitChannel$Plan" (43 : Nat) "SplitChannel$Plan" "senders" "I") ∈ mk_WL := mk_t1 79 rfl rfl
theorem mw_80 : (Jvm.Cond.fieldLink "SplitChannel$Play" (93 : Nat) "SplitChannel$Plan" "senders" "I") ∈ mk_WL := mk_t1 80 rfl rfl
theorem mw_81 : (Jvm.Cond.fieldLink "SplitChannel$Acts" (30 : Nat) "SplitChannel$Plan" "senders" "I") ∈ mk_WL := mk_t1 81 rfl rfl
theorem mw_82 : (Jvm.Cond.fieldLink "SplitChannel$Reader" (103 : Nat) "SplitChannel$Plan" "senders" "I") ∈ mk_WL := mk_t1 82 rfl rfl
theorem mw_83 : (Jvm.Cond.fieldLink "SplitChannel" (112 : Nat) "SplitChannel$Plan" "senders" "I") ∈ mk_WL := mk_t1 83 rfl rfl
theorem mw_84 : (Jvm.Cond.fieldLink "SplitChannel$Plan" (46 : Nat) "SplitChannel$Plan" "noises" "I") ∈ mk_WL := mk_t1 84 rfl rfl
theorem mw_85 : (Jvm.Cond.fieldLink "SplitChannel$Acts" (35 : Nat) "SplitChannel$Plan" "noises" "I") ∈ mk_WL := mk_t1 85 rfl rfl
theorem mw_86 : (Jvm.Cond.fieldLink "SplitChannel$Reader" (120 : Nat) "SplitChannel$Plan" "noises" "I") ∈ mk_WL := mk_t1 86 rfl rfl
theorem mw_87 : (Jvm.Cond.fieldLink "SplitChannel" (115 : Nat) "SplitChannel$Plan" "noises" "I") ∈ mk_WL := mk_t1 87 rfl rfl
theorem mw_88 : (Jvm.Cond.fieldLink "SplitChannel$Play" (211 : Nat) "SplitChannel$Plan" "noises" "I") ∈ mk_WL := mk_t1 88 rfl rfl
theorem mw_89 : (Jvm.Cond.fieldLink "SplitChannel$Plan" (9 : Nat) "SplitChannel$Plan" "comes" "[I") ∈ mk_WL := mk_t1 89 rfl rfl
theorem mw_90 : (Jvm.Cond.fieldLink "SplitChannel$Play" (96 : Nat) "SplitChannel$Plan" "comes" "[I") ∈ mk_WL := mk_t1 90 rfl rfl
theorem mw_91 : (Jvm.Cond.fieldLink "SplitChannel$Plan" (15 : Nat) "SplitChannel$Plan" "bitCounts" "[I") ∈ mk_WL := mk_t1 91 rfl rfl
theorem mw_92 : (Jvm.Cond.fieldLink "SplitChannel$Play" (185 : Nat) "SplitChannel$Plan" "bitCounts" "[I") ∈ mk_WL := mk_t1 92 rfl rfl
theorem mw_93 : (Jvm.Cond.fieldLink "SplitChannel$Plan" (18 : Nat) "SplitChannel$Plan" "bits" "[I") ∈ mk_WL := mk_t1 93 rfl rfl
theorem mw_94 : (Jvm.Cond.fieldLink "SplitChannel$Play" (188 : Nat) "SplitChannel$Plan" "bits" "[I") ∈ mk_WL := mk_t1 94 rfl rfl
theorem mw_95 : (Jvm.Cond.fieldLink "SplitChannel$Plan" (21 : Nat) "SplitChannel$Plan" "noiseSlots" "[I") ∈ mk_WL := mk_t1 95 rfl rfl
theorem mw_96 : (Jvm.Cond.fieldLink "SplitChannel$Play" (214 : Nat) "SplitChannel$Plan" "noiseSlots" "[I") ∈ mk_WL := mk_t1 96 rfl rfl
theorem mw_97 : (Jvm.Cond.fieldLink "SplitChannel$Plan" (24 : Nat) "SplitChannel$Plan" "noiseKinds" "[I") ∈ mk_WL := mk_t1 97 rfl rfl
theorem mw_98 : (Jvm.Cond.fieldLink "SplitChannel$Play" (217 : Nat) "SplitChannel$Plan" "noiseKinds" "[I") ∈ mk_WL := mk_t1 98 rfl rfl
theorem mw_99 : (Jvm.Cond.lays "SplitChannel$Plan" "SplitChannel$Plan" "law" "I") ∈ mk_WL := mk_t1 99 rfl rfl
theorem mw_101 : (Jvm.Cond.lays "SplitChannel$Plan" "SplitChannel$Plan" "slots" "I") ∈ mk_WL := mk_t1 101 rfl rfl
theorem mw_103 : (Jvm.Cond.lays "SplitChannel$Plan" "SplitChannel$Plan" "skips" "I") ∈ mk_WL := mk_t1 103 rfl rfl
theorem mw_105 : (Jvm.Cond.lays "SplitChannel$Plan" "SplitChannel$Plan" "window" "I") ∈ mk_WL := mk_t1 105 rfl rfl
theorem mw_107 : (Jvm.Cond.lays "SplitChannel$Plan" "SplitChannel$Plan" "lines" "I") ∈ mk_WL := mk_t1 107 rfl rfl
theorem mw_109 : (Jvm.Cond.lays "SplitChannel$Plan" "SplitChannel$Plan" "senders" "I") ∈ mk_WL := mk_t1 109 rfl rfl
theorem mw_111 : (Jvm.Cond.lays "SplitChannel$Plan" "SplitChannel$Plan" "noises" "I") ∈ mk_WL := mk_t1 111 rfl rfl
theorem mw_113 : (Jvm.Cond.laysFinal "SplitChannel$Plan" "SplitChannel$Plan" "comes" "[I") ∈ mk_WL := mk_t1 113 rfl rfl
theorem mw_115 : (Jvm.Cond.laysFinal "SplitChannel$Plan" "SplitChannel$Plan" "bitCounts" "[I") ∈ mk_WL := mk_t1 115 rfl rfl
theorem mw_117 : (Jvm.Cond.laysFinal "SplitChannel$Plan" "SplitChannel$Plan" "bits" "[I") ∈ mk_WL := mk_t1 117 rfl rfl
theorem mw_119 : (Jvm.Cond.laysFinal "SplitChannel$Plan" "SplitChannel$Plan" "noiseSlots" "[I") ∈ mk_WL := mk_t1 119 rfl rfl
theorem mw_121 : (Jvm.Cond.laysFinal "SplitChannel$Plan" "SplitChannel$Plan" "noiseKinds" "[I") ∈ mk_WL := mk_t1 121 rfl rfl
theorem mw_123 : (Jvm.Cond.superclass "SplitChannel$Plan" "java/lang/Object") ∈ mk_WL := mk_t1 123 rfl rfl
theorem mw_124 : (Jvm.Cond.fieldLink "SplitChannel$Reader" (12 : Nat) "SplitChannel$Reader" "tape" "LSplitChannel$Tape;") ∈ mk_WL := mk_t1 124 rfl rfl
theorem mw_125 : (Jvm.Cond.fieldLink "SplitChannel" (16 : Nat) "SplitChannel$Reader" "tape" "LSplitChannel$Tape;") ∈ mk_WL := mk_t1 125 rfl rfl
theorem mw_126 : (Jvm.Cond.fieldLink "SplitChannel$Reader" (21 : Nat) "SplitChannel$Reader" "draft" "LSplitChannel$Plan;") ∈ mk_WL := mk_t1 126 rfl rfl
theorem mw_127 : (Jvm.Cond.fieldLink "SplitChannel" (21 : Nat) "SplitChannel$Reader" "draft" "LSplitChannel$Plan;") ∈ mk_WL := mk_t1 127 rfl rfl
theorem mw_128 : (Jvm.Cond.fieldLink "SplitChannel$Reader" (41 : Nat) "SplitChannel$Reader" "kind" "I") ∈ mk_WL := mk_t1 128 rfl rfl
theorem mw_129 : (Jvm.Cond.fieldLink "SplitChannel$Reader" (113 : Nat) "SplitChannel$Reader" "start" "I") ∈ mk_WL := mk_t1 129 rfl rfl
theorem mw_130 : (Jvm.Cond.fieldLink "SplitChannel$Reader" (35 : Nat) "SplitChannel$Reader" "next" "I") ∈ mk_WL := mk_t1 130 rfl rfl
theorem mw_131 : (Jvm.Cond.fieldLink "SplitChannel$Reader" (83 : Nat) "SplitChannel$Reader" "value" "I") ∈ mk_WL := mk_t1 131 rfl rfl
theorem mw_132 : (Jvm.Cond.fieldLink "SplitChannel$Reader" (32 : Nat) "SplitChannel$Reader" "fault" "I") ∈ mk_WL := mk_t1 132 rfl rfl
theorem mw_133 : (Jvm.Cond.fieldLink "SplitChannel$Reader" (25 : Nat) "SplitChannel$Reader" "place" "I") ∈ mk_WL := mk_t1 133 rfl rfl
theorem mw_134 : (Jvm.Cond.laysFinal "SplitChannel$Reader" "SplitChannel$Reader" "tape" "LSplitChannel$Tape;") ∈ mk_WL := mk_t1 134 rfl rfl
theorem mw_136 : (Jvm.Cond.laysFinal "SplitChannel$Reader" "SplitChannel$Reader" "draft" "LSplitChannel$Plan;") ∈ mk_WL := mk_t1 136 rfl rfl
theorem mw_138 : (Jvm.Cond.lays "SplitChannel$Reader" "SplitChannel$Reader" "kind" "I") ∈ mk_WL := mk_t1 138 rfl rfl
theorem mw_140 : (Jvm.Cond.lays "SplitChannel$Reader" "SplitChannel$Reader" "start" "I") ∈ mk_WL := mk_t1 140 rfl rfl
theorem mw_142 : (Jvm.Cond.lays "SplitChannel$Reader" "SplitChannel$Reader" "next" "I") ∈ mk_WL := mk_t1 142 rfl rfl
theorem mw_144 : (Jvm.Cond.lays "SplitChannel$Reader" "SplitChannel$Reader" "value" "I") ∈ mk_WL := mk_t1 144 rfl rfl
theorem mw_146 : (Jvm.Cond.lays "SplitChannel$Reader" "SplitChannel$Reader" "fault" "I") ∈ mk_WL := mk_t1 146 rfl rfl
theorem mw_148 : (Jvm.Cond.lays "SplitChannel$Reader" "SplitChannel$Reader" "place" "I") ∈ mk_WL := mk_t1 148 rfl rfl
theorem mw_150 : (Jvm.Cond.superclass "SplitChannel$Reader" "java/lang/Object") ∈ mk_WL := mk_t1 150 rfl rfl
theorem mw_151 : (Jvm.Cond.classLink "SplitChannel" (26 : Nat) "SplitChannel$Play") ∈ mk_WL := mk_t1 151 rfl rfl
theorem mw_152 : (Jvm.Cond.instantiable "SplitChannel$Play" (13 : Nat)) ∈ mk_WL := mk_t1 152 rfl rfl
theorem mw_154 : (Jvm.Cond.instanceMethod ({ cls := "SplitChannel$Play", name := "<init>", desc := "()V" } : Jvm.MethodName)) ∈ mk_WL := mk_t1 154 rfl rfl
theorem mw_155 : (Jvm.Cond.code ({ cls := "SplitChannel$Play", name := "<init>", desc := "()V" } : Jvm.MethodName) prog_6_method_1_code (1 : Nat) (Option.none : Option Jvm.ClassFile.FieldType)) ∈ mk_WL := mk_t1 155 rfl rfl
theorem mw_156 : (Jvm.Cond.methodLink "SplitChannel$Play" (3 : Nat) ({ cls := "java/lang/Object", name := "<init>", desc := "()V" } : Jvm.MethodName)) ∈ mk_WL := mk_t1 156 rfl rfl
theorem mw_157 : (Jvm.Cond.classLink "SplitChannel$Play" (9 : Nat) "SplitChannel$Plan") ∈ mk_WL := mk_t1 157 rfl rfl
theorem mw_159 : (Jvm.Cond.classLink "SplitChannel$Play" (18 : Nat) "SplitChannel$Stack") ∈ mk_WL := mk_t1 159 rfl rfl
theorem mw_160 : (Jvm.Cond.instantiable "SplitChannel$Stack" (4 : Nat)) ∈ mk_WL := mk_t1 160 rfl rfl
theorem mw_162 : (Jvm.Cond.instanceMethod ({ cls := "SplitChannel$Stack", name := "<init>", desc := "()V" } : Jvm.MethodName)) ∈ mk_WL := mk_t1 162 rfl rfl
theorem mw_163 : (Jvm.Cond.code ({ cls := "SplitChannel$Stack", name := "<init>", desc := "()V" } : Jvm.MethodName) prog_8_method_1_code (1 : Nat) (Option.none : Option Jvm.ClassFile.FieldType)) ∈ mk_WL := mk_t1 163 rfl rfl
theorem mw_164 : (Jvm.Cond.methodLink "SplitChannel$Stack" (3 : Nat) ({ cls := "java/lang/Object", name := "<init>", desc := "()V" } : Jvm.MethodName)) ∈ mk_WL := mk_t1 164 rfl rfl
theorem mw_165 : (Jvm.Cond.fieldLink "SplitChannel$Stack" (11 : Nat) "SplitChannel$Stack" "who" "[I") ∈ mk_WL := mk_t1 165 rfl rfl
theorem mw_166 : (Jvm.Cond.fieldLink "SplitChannel$Stack" (15 : Nat) "SplitChannel$Stack" "from" "[I") ∈ mk_WL := mk_t1 166 rfl rfl
theorem mw_167 : (Jvm.Cond.fieldLink "SplitChannel$Play" (170 : Nat) "SplitChannel$Stack" "from" "[I") ∈ mk_WL := mk_t1 167 rfl rfl
theorem mw_168 : (Jvm.Cond.fieldLink "SplitChannel$Stack" (18 : Nat) "SplitChannel$Stack" "to" "[I") ∈ mk_WL := mk_t1 168 rfl rfl
theorem mw_169 : (Jvm.Cond.fieldLink "SplitChannel$Play" (173 : Nat) "SplitChannel$Stack" "to" "[I") ∈ mk_WL := mk_t1 169 rfl rfl
theorem mw_170 : (Jvm.Cond.fieldLink "SplitChannel$Stack" (21 : Nat) "SplitChannel$Stack" "size" "I") ∈ mk_WL := mk_t1 170 rfl rfl
theorem mw_171 : (Jvm.Cond.fieldLink "SplitChannel$Play" (65 : Nat) "SplitChannel$Stack" "size" "I") ∈ mk_WL := mk_t1 171 rfl rfl
theorem mw_172 : (Jvm.Cond.laysFinal "SplitChannel$Stack" "SplitChannel$Stack" "who" "[I") ∈ mk_WL := mk_t1 172 rfl rfl
theorem mw_174 : (Jvm.Cond.laysFinal "SplitChannel$Stack" "SplitChannel$Stack" "from" "[I") ∈ mk_WL := mk_t1 174 rfl rfl
theorem mw_176 : (Jvm.Cond.laysFinal "SplitChannel$Stack" "SplitChannel$Stack" "to" "[I") ∈ mk_WL := mk_t1 176 rfl rfl
theorem mw_178 : (Jvm.Cond.lays "SplitChannel$Stack" "SplitChannel$Stack" "size" "I") ∈ mk_WL := mk_t1 178 rfl rfl
theorem mw_180 : (Jvm.Cond.superclass "SplitChannel$Stack" "java/lang/Object") ∈ mk_WL := mk_t1 180 rfl rfl
theorem mw_181 : (Jvm.Cond.classLink "SplitChannel$Play" (29 : Nat) "SplitChannel$Course") ∈ mk_WL := mk_t1 181 rfl rfl
theorem mw_182 : (Jvm.Cond.instantiable "SplitChannel$Course" (14 : Nat)) ∈ mk_WL := mk_t1 182 rfl rfl
theorem mw_184 : (Jvm.Cond.instanceMethod ({ cls := "SplitChannel$Course", name := "<init>", desc := "()V" } : Jvm.MethodName)) ∈ mk_WL := mk_t1 184 rfl rfl
theorem mw_185 : (Jvm.Cond.code ({ cls := "SplitChannel$Course", name := "<init>", desc := "()V" } : Jvm.MethodName) prog_3_method_1_code (1 : Nat) (Option.none : Option Jvm.ClassFile.FieldType)) ∈ mk_WL := mk_t1 185 rfl rfl
theorem mw_186 : (Jvm.Cond.methodLink "SplitChannel$Course" (3 : Nat) ({ cls := "java/lang/Object", name := "<init>", desc := "()V" } : Jvm.MethodName)) ∈ mk_WL := mk_t1 186 rfl rfl
theorem mw_187 : (Jvm.Cond.fieldLink "SplitChannel$Course" (9 : Nat) "SplitChannel$Course" "sent" "[I") ∈ mk_WL := mk_t1 187 rfl rfl
theorem mw_188 : (Jvm.Cond.fieldLink "SplitChannel" (140 : Nat) "SplitChannel$Course" "sent" "[I") ∈ mk_WL := mk_t1 188 rfl rfl
theorem mw_189 : (Jvm.Cond.fieldLink "SplitChannel$Play" (199 : Nat) "SplitChannel$Course" "sent" "[I") ∈ mk_WL := mk_t1 189 rfl rfl
theorem mw_190 : (Jvm.Cond.fieldLink "SplitChannel$Course" (15 : Nat) "SplitChannel$Course" "heard" "[I") ∈ mk_WL := mk_t1 190 rfl rfl
theorem mw_191 : (Jvm.Cond.fieldLink "SplitChannel" (149 : Nat) "SplitChannel$Course" "heard" "[I") ∈ mk_WL := mk_t1 191 rfl rfl
theorem mw_192 : (Jvm.Cond.fieldLink "SplitChannel$Play" (202 : Nat) "SplitChannel$Course" "heard" "[I") ∈ mk_WL := mk_t1 192 rfl rfl
theorem mw_193 : (Jvm.Cond.fieldLink "SplitChannel$Course" (18 : Nat) "SplitChannel$Course" "through" "[I") ∈ mk_WL := mk_t1 193 rfl rfl
theorem mw_194 : (Jvm.Cond.fieldLink "SplitChannel" (152 : Nat) "SplitChannel$Course" "through" "[I") ∈ mk_WL := mk_t1 194 rfl rfl
theorem mw_195 : (Jvm.Cond.fieldLink "SplitChannel$Course" (21 : Nat) "SplitChannel$Course" "depth" "[I") ∈ mk_WL := mk_t1 195 rfl rfl
theorem mw_196 : (Jvm.Cond.fieldLink "SplitChannel$Play" (134 : Nat) "SplitChannel$Course" "depth" "[I") ∈ mk_WL := mk_t1 196 rfl rfl
theorem mw_197 : (Jvm.Cond.fieldLink "SplitChannel" (155 : Nat) "SplitChannel$Course" "depth" "[I") ∈ mk_WL := mk_t1 197 rfl rfl
theorem mw_198 : (Jvm.Cond.fieldLink "SplitChannel$Course" (24 : Nat) "SplitChannel$Course" "skipped" "[I") ∈ mk_WL := mk_t1 198 rfl rfl
theorem mw_199 : (Jvm.Cond.fieldLink "SplitChannel$Play" (124 : Nat) "SplitChannel$Course" "skipped" "[I") ∈ mk_WL := mk_t1 199 rfl rfl
theorem mw_200 : (Jvm.Cond.fieldLink "SplitChannel" (158 : Nat) "SplitChannel$Course" "skipped" "[I") ∈ mk_WL := mk_t1 200 rfl rfl
theorem mw_201 : (Jvm.Cond.fieldLink "SplitChannel$Course" (27 : Nat) "SplitChannel$Course" "slotThrough" "[I") ∈ mk_WL := mk_t1 201 rfl rfl
theorem mw_202 : (Jvm.Cond.fieldLink "SplitChannel" (161 : Nat) "SplitChannel$Course" "slotThrough" "[I") ∈ mk_WL := mk_t1 202 rfl rfl
theorem mw_203 : (Jvm.Cond.fieldLink "SplitChannel$Course" (30 : Nat) "SplitChannel$Course" "tried" "[I") ∈ mk_WL := mk_t1 203 rfl rfl
theorem mw_204 : (Jvm.Cond.fieldLink "SplitChannel" (164 : Nat) "SplitChannel$Course" "tried" "[I") ∈ mk_WL := mk_t1 204 rfl rfl
theorem mw_205 : (Jvm.Cond.fieldLink "SplitChannel$Play" (205 : Nat) "SplitChannel$Course" "tried" "[I") ∈ mk_WL := mk_t1 205 rfl rfl
theorem mw_206 : (Jvm.Cond.fieldLink "SplitChannel$Course" (33 : Nat) "SplitChannel$Course" "bitsTaken" "[I") ∈ mk_WL := mk_t1 206 rfl rfl
theorem mw_207 : (Jvm.Cond.fieldLink "SplitChannel$Play" (182 : Nat) "SplitChannel$Course" "bitsTaken" "[I") ∈ mk_WL := mk_t1 207 rfl rfl
theorem mw_208 : (Jvm.Cond.fieldLink "SplitChannel" (167 : Nat) "SplitChannel$Course" "bitsTaken" "[I") ∈ mk_WL := mk_t1 208 rfl rfl
theorem mw_209 : (Jvm.Cond.fieldLink "SplitChannel$Course" (36 : Nat) "SplitChannel$Course" "throughOrder" "[I") ∈ mk_WL := mk_t1 209 rfl rfl
theorem mw_210 : (Jvm.Cond.fieldLink "SplitChannel" (176 : Nat) "SplitChannel$Course" "throughOrder" "[I") ∈ mk_WL := mk_t1 210 rfl rfl
theorem mw_211 : (Jvm.Cond.fieldLink "SplitChannel$Course" (54 : Nat) "SplitChannel$Course" "throughCount" "I") ∈ mk_WL := mk_t1 211 rfl rfl
theorem mw_212 : (Jvm.Cond.fieldLink "SplitChannel$Play" (90 : Nat) "SplitChannel$Course" "throughCount" "I") ∈ mk_WL := mk_t1 212 rfl rfl
theorem mw_213 : (Jvm.Cond.fieldLink "SplitChannel" (173 : Nat) "SplitChannel$Course" "throughCount" "I") ∈ mk_WL := mk_t1 213 rfl rfl
theorem mw_214 : (Jvm.Cond.fieldLink "SplitChannel$Course" (39 : Nat) "SplitChannel$Course" "epochFirst" "[I") ∈ mk_WL := mk_t1 214 rfl rfl
theorem mw_215 : (Jvm.Cond.fieldLink "SplitChannel$Course" (42 : Nat) "SplitChannel$Course" "epochLast" "[I") ∈ mk_WL := mk_t1 215 rfl rfl
theorem mw_216 : (Jvm.Cond.fieldLink "SplitChannel$Play" (160 : Nat) "SplitChannel$Course" "epochLast" "[I") ∈ mk_WL := mk_t1 216 rfl rfl
theorem mw_217 : (Jvm.Cond.fieldLink "SplitChannel$Course" (45 : Nat) "SplitChannel$Course" "epochWho" "[I") ∈ mk_WL := mk_t1 217 rfl rfl
theorem mw_218 : (Jvm.Cond.fieldLink "SplitChannel$Course" (58 : Nat) "SplitChannel$Course" "epochCount" "I") ∈ mk_WL := mk_t1 218 rfl rfl
theorem mw_219 : (Jvm.Cond.fieldLink "SplitChannel$Play" (163 : Nat) "SplitChannel$Course" "epochCount" "I") ∈ mk_WL := mk_t1 219 rfl rfl
theorem mw_220 : (Jvm.Cond.fieldLink "SplitChannel" (194 : Nat) "SplitChannel$Course" "epochCount" "I") ∈ mk_WL := mk_t1 220 rfl rfl
theorem mw_221 : (Jvm.Cond.laysFinal "SplitChannel$Course" "SplitChannel$Course" "sent" "[I") ∈ mk_WL := mk_t1 221 rfl rfl
theorem mw_223 : (Jvm.Cond.laysFinal "SplitChannel$Course" "SplitChannel$Course" "heard" "[I") ∈ mk_WL := mk_t1 223 rfl rfl
theorem mw_225 : (Jvm.Cond.laysFinal "SplitChannel$Course" "SplitChannel$Course" "through" "[I") ∈ mk_WL := mk_t1 225 rfl rfl
theorem mw_227 : (Jvm.Cond.laysFinal "SplitChannel$Course" "SplitChannel$Course" "depth" "[I") ∈ mk_WL := mk_t1 227 rfl rfl
theorem mw_229 : (Jvm.Cond.laysFinal "SplitChannel$Course" "SplitChannel$Course" "skipped" "[I") ∈ mk_WL := mk_t1 229 rfl rfl
theorem mw_231 : (Jvm.Cond.laysFinal "SplitChannel$Course" "SplitChannel$Course" "slotThrough" "[I") ∈ mk_WL := mk_t1 231 rfl rfl
theorem mw_233 : (Jvm.Cond.laysFinal "SplitChannel$Course" "SplitChannel$Course" "tried" "[I") ∈ mk_WL := mk_t1 233 rfl rfl
theorem mw_235 : (Jvm.Cond.laysFinal "SplitChannel$Course" "SplitChannel$Course" "bitsTaken" "[I") ∈ mk_WL := mk_t1 235 rfl rfl
theorem mw_237 : (Jvm.Cond.laysFinal "SplitChannel$Course" "SplitChannel$Course" "throughOrder" "[I") ∈ mk_WL := mk_t1 237 rfl rfl
theorem mw_239 : (Jvm.Cond.lays "SplitChannel$Course" "SplitChannel$Course" "throughCount" "I") ∈ mk_WL := mk_t1 239 rfl rfl
theorem mw_241 : (Jvm.Cond.laysFinal "SplitChannel$Course" "SplitChannel$Course" "epochFirst" "[I") ∈ mk_WL := mk_t2 1 rfl rfl
theorem mw_243 : (Jvm.Cond.laysFinal "SplitChannel$Course" "SplitChannel$Course" "epochLast" "[I") ∈ mk_WL := mk_t2 3 rfl rfl
theorem mw_245 : (Jvm.Cond.laysFinal "SplitChannel$Course" "SplitChannel$Course" "epochWho" "[I") ∈ mk_WL := mk_t2 5 rfl rfl
theorem mw_247 : (Jvm.Cond.lays "SplitChannel$Course" "SplitChannel$Course" "epochCount" "I") ∈ mk_WL := mk_t2 7 rfl rfl
theorem mw_249 : (Jvm.Cond.superclass "SplitChannel$Course" "java/lang/Object") ∈ mk_WL := mk_t2 9 rfl rfl
theorem mw_250 : (Jvm.Cond.fieldLink "SplitChannel$Play" (12 : Nat) "SplitChannel$Play" "plan" "LSplitChannel$Plan;") ∈ mk_WL := mk_t2 10 rfl rfl
theorem mw_251 : (Jvm.Cond.fieldLink "SplitChannel" (33 : Nat) "SplitChannel$Play" "plan" "LSplitChannel$Plan;") ∈ mk_WL := mk_t2 11 rfl rfl
theorem mw_252 : (Jvm.Cond.fieldLink "SplitChannel$Play" (21 : Nat) "SplitChannel$Play" "groups" "LSplitChannel$Stack;") ∈ mk_WL := mk_t2 12 rfl rfl
theorem mw_253 : (Jvm.Cond.fieldLink "SplitChannel$Play" (25 : Nat) "SplitChannel$Play" "counters" "[I") ∈ mk_WL := mk_t2 13 rfl rfl
theorem mw_254 : (Jvm.Cond.fieldLink "SplitChannel$Play" (32 : Nat) "SplitChannel$Play" "course" "LSplitChannel$Course;") ∈ mk_WL := mk_t2 14 rfl rfl
theorem mw_255 : (Jvm.Cond.fieldLink "SplitChannel" (37 : Nat) "SplitChannel$Play" "course" "LSplitChannel$Course;") ∈ mk_WL := mk_t2 15 rfl rfl
theorem mw_256 : (Jvm.Cond.fieldLink "SplitChannel$Play" (36 : Nat) "SplitChannel$Play" "law" "I") ∈ mk_WL := mk_t2 16 rfl rfl
theorem mw_257 : (Jvm.Cond.fieldLink "SplitChannel$Play" (40 : Nat) "SplitChannel$Play" "noNoise" "I") ∈ mk_WL := mk_t2 17 rfl rfl
theorem mw_258 : (Jvm.Cond.fieldLink "SplitChannel$Play" (43 : Nat) "SplitChannel$Play" "noSender" "I") ∈ mk_WL := mk_t2 18 rfl rfl
theorem mw_259 : (Jvm.Cond.fieldLink "SplitChannel$Play" (46 : Nat) "SplitChannel$Play" "present" "I") ∈ mk_WL := mk_t2 19 rfl rfl
theorem mw_260 : (Jvm.Cond.fieldLink "SplitChannel$Play" (49 : Nat) "SplitChannel$Play" "windowed" "I") ∈ mk_WL := mk_t2 20 rfl rfl
theorem mw_261 : (Jvm.Cond.fieldLink "SplitChannel$Play" (52 : Nat) "SplitChannel$Play" "edge" "I") ∈ mk_WL := mk_t2 21 rfl rfl
theorem mw_262 : (Jvm.Cond.fieldLink "SplitChannel$Play" (55 : Nat) "SplitChannel$Play" "justSplit" "Z") ∈ mk_WL := mk_t2 22 rfl rfl
theorem mw_263 : (Jvm.Cond.fieldLink "SplitChannel$Play" (59 : Nat) "SplitChannel$Play" "skipsInRow" "I") ∈ mk_WL := mk_t2 23 rfl rfl
theorem mw_264 : (Jvm.Cond.fieldLink "SplitChannel$Play" (62 : Nat) "SplitChannel$Play" "epochCounted" "Z") ∈ mk_WL := mk_t2 24 rfl rfl
theorem mw_265 : (Jvm.Cond.laysFinal "SplitChannel$Play" "SplitChannel$Play" "plan" "LSplitChannel$Plan;") ∈ mk_WL := mk_t2 25 rfl rfl
theorem mw_267 : (Jvm.Cond.laysFinal "SplitChannel$Play" "SplitChannel$Play" "groups" "LSplitChannel$Stack;") ∈ mk_WL := mk_t2 27 rfl rfl
theorem mw_269 : (Jvm.Cond.laysFinal "SplitChannel$Play" "SplitChannel$Play" "counters" "[I") ∈ mk_WL := mk_t2 29 rfl rfl
theorem mw_271 : (Jvm.Cond.lays "SplitChannel$Play" "SplitChannel$Play" "course" "LSplitChannel$Course;") ∈ mk_WL := mk_t2 31 rfl rfl
theorem mw_273 : (Jvm.Cond.lays "SplitChannel$Play" "SplitChannel$Play" "law" "I") ∈ mk_WL := mk_t2 33 rfl rfl
theorem mw_275 : (Jvm.Cond.lays "SplitChannel$Play" "SplitChannel$Play" "noNoise" "I") ∈ mk_WL := mk_t2 35 rfl rfl
theorem mw_277 : (Jvm.Cond.lays "SplitChannel$Play" "SplitChannel$Play" "noSender" "I") ∈ mk_WL := mk_t2 37 rfl rfl
theorem mw_279 : (Jvm.Cond.lays "SplitChannel$Play" "SplitChannel$Play" "present" "I") ∈ mk_WL := mk_t2 39 rfl rfl
theorem mw_281 : (Jvm.Cond.lays "SplitChannel$Play" "SplitChannel$Play" "windowed" "I") ∈ mk_WL := mk_t2 41 rfl rfl
theorem mw_283 : (Jvm.Cond.lays "SplitChannel$Play" "SplitChannel$Play" "edge" "I") ∈ mk_WL := mk_t2 43 rfl rfl
theorem mw_285 : (Jvm.Cond.lays "SplitChannel$Play" "SplitChannel$Play" "justSplit" "Z") ∈ mk_WL := mk_t2 45 rfl rfl
theorem mw_287 : (Jvm.Cond.lays "SplitChannel$Play" "SplitChannel$Play" "skipsInRow" "I") ∈ mk_WL := mk_t2 47 rfl rfl
theorem mw_289 : (Jvm.Cond.lays "SplitChannel$Play" "SplitChannel$Play" "epochCounted" "Z") ∈ mk_WL := mk_t2 49 rfl rfl
theorem mw_291 : (Jvm.Cond.superclass "SplitChannel$Play" "java/lang/Object") ∈ mk_WL := mk_t2 51 rfl rfl
theorem mw_292 : (Jvm.Cond.classLink "SplitChannel" (44 : Nat) "SplitChannel$Course") ∈ mk_WL := mk_t2 52 rfl rfl
theorem mw_294 : (Jvm.Cond.classLink "SplitChannel" (50 : Nat) "SplitChannel$Acts") ∈ mk_WL := mk_t2 54 rfl rfl
theorem mw_295 : (Jvm.Cond.instantiable "SplitChannel$Acts" (3 : Nat)) ∈ mk_WL := mk_t2 55 rfl rfl
theorem mw_297 : (Jvm.Cond.instanceMethod ({ cls := "SplitChannel$Acts", name := "<init>", desc := "()V" } : Jvm.MethodName)) ∈ mk_WL := mk_t2 57 rfl rfl
theorem mw_298 : (Jvm.Cond.code ({ cls := "SplitChannel$Acts", name := "<init>", desc := "()V" } : Jvm.MethodName) prog_2_method_1_code (1 : Nat) (Option.none : Option Jvm.ClassFile.FieldType)) ∈ mk_WL := mk_t2 58 rfl rfl
theorem mw_299 : (Jvm.Cond.methodLink "SplitChannel$Acts" (3 : Nat) ({ cls := "java/lang/Object", name := "<init>", desc := "()V" } : Jvm.MethodName)) ∈ mk_WL := mk_t2 59 rfl rfl
theorem mw_300 : (Jvm.Cond.fieldLink "SplitChannel$Acts" (9 : Nat) "SplitChannel$Acts" "kinds" "[I") ∈ mk_WL := mk_t2 60 rfl rfl
theorem mw_301 : (Jvm.Cond.fieldLink "SplitChannel$Acts" (15 : Nat) "SplitChannel$Acts" "lawsBefore" "[I") ∈ mk_WL := mk_t2 61 rfl rfl
theorem mw_302 : (Jvm.Cond.fieldLink "SplitChannel$Acts" (18 : Nat) "SplitChannel$Acts" "made" "I") ∈ mk_WL := mk_t2 62 rfl rfl
theorem mw_303 : (Jvm.Cond.fieldLink "SplitChannel" (84 : Nat) "SplitChannel$Acts" "made" "I") ∈ mk_WL := mk_t2 63 rfl rfl
theorem mw_304 : (Jvm.Cond.laysFinal "SplitChannel$Acts" "SplitChannel$Acts" "kinds" "[I") ∈ mk_WL := mk_t2 64 rfl rfl
theorem mw_306 : (Jvm.Cond.laysFinal "SplitChannel$Acts" "SplitChannel$Acts" "lawsBefore" "[I") ∈ mk_WL := mk_t2 66 rfl rfl
theorem mw_308 : (Jvm.Cond.lays "SplitChannel$Acts" "SplitChannel$Acts" "made" "I") ∈ mk_WL := mk_t2 68 rfl rfl
theorem mw_310 : (Jvm.Cond.superclass "SplitChannel$Acts" "java/lang/Object") ∈ mk_WL := mk_t2 70 rfl rfl
theorem mw_311 : (Jvm.Cond.classLink "SplitChannel" (57 : Nat) "SplitChannel$Means") ∈ mk_WL := mk_t2 71 rfl rfl
theorem mw_312 : (Jvm.Cond.instantiable "SplitChannel$Means" (5 : Nat)) ∈ mk_WL := mk_t2 72 rfl rfl
theorem mw_314 : (Jvm.Cond.instanceMethod ({ cls := "SplitChannel$Means", name := "<init>", desc := "()V" } : Jvm.MethodName)) ∈ mk_WL := mk_t2 74 rfl rfl
theorem mw_315 : (Jvm.Cond.code ({ cls := "SplitChannel$Means", name := "<init>", desc := "()V" } : Jvm.MethodName) prog_4_method_1_code (1 : Nat) (Option.none : Option Jvm.ClassFile.FieldType)) ∈ mk_WL := mk_t2 75 rfl rfl
theorem mw_316 : (Jvm.Cond.methodLink "SplitChannel$Means" (3 : Nat) ({ cls := "java/lang/Object", name := "<init>", desc := "()V" } : Jvm.MethodName)) ∈ mk_WL := mk_t2 76 rfl rfl
theorem mw_317 : (Jvm.Cond.fieldLink "SplitChannel$Means" (11 : Nat) "SplitChannel$Means" "above" "[J") ∈ mk_WL := mk_t2 77 rfl rfl
theorem mw_318 : (Jvm.Cond.fieldLink "SplitChannel$Means" (15 : Nat) "SplitChannel$Means" "below" "[J") ∈ mk_WL := mk_t2 78 rfl rfl
theorem mw_319 : (Jvm.Cond.fieldLink "SplitChannel$Means" (18 : Nat) "SplitChannel$Means" "ways" "[J") ∈ mk_WL := mk_t2 79 rfl rfl
theorem mw_320 : (Jvm.Cond.laysFinal "SplitChannel$Means" "SplitChannel$Means" "above" "[J") ∈ mk_WL := mk_t2 80 rfl rfl
theorem mw_322 : (Jvm.Cond.laysFinal "SplitChannel$Means" "SplitChannel$Means" "below" "[J") ∈ mk_WL := mk_t2 82 rfl rfl
theorem mw_324 : (Jvm.Cond.laysFinal "SplitChannel$Means" "SplitChannel$Means" "ways" "[J") ∈ mk_WL := mk_t2 84 rfl rfl
theorem mw_326 : (Jvm.Cond.lays "SplitChannel$Means" "SplitChannel$Means" "sumAbove" "J") ∈ mk_WL := mk_t2 86 rfl rfl
theorem mw_328 : (Jvm.Cond.lays "SplitChannel$Means" "SplitChannel$Means" "sumBelow" "J") ∈ mk_WL := mk_t2 88 rfl rfl
theorem mw_330 : (Jvm.Cond.superclass "SplitChannel$Means" "java/lang/Object") ∈ mk_WL := mk_t2 90 rfl rfl
theorem mw_331 : (Jvm.Cond.arrayClass Jvm.ClassFile.FieldType.long) ∈ mk_WL := mk_t2 91 rfl rfl
theorem mw_332 : (Jvm.Cond.fieldLink "SplitChannel" (10 : Nat) "SplitChannel" "reader" "LSplitChannel$Reader;") ∈ mk_WL := mk_t2 92 rfl rfl
theorem mw_333 : (Jvm.Cond.fieldLink "SplitChannel" (20 : Nat) "SplitChannel" "tape" "LSplitChannel$Tape;") ∈ mk_WL := mk_t2 93 rfl rfl
theorem mw_334 : (Jvm.Cond.fieldLink "SplitChannel" (25 : Nat) "SplitChannel" "draft" "LSplitChannel$Plan;") ∈ mk_WL := mk_t2 94 rfl rfl
theorem mw_335 : (Jvm.Cond.fieldLink "SplitChannel" (29 : Nat) "SplitChannel" "play" "LSplitChannel$Play;") ∈ mk_WL := mk_t2 95 rfl rfl
theorem mw_336 : (Jvm.Cond.fieldLink "SplitChannel" (36 : Nat) "SplitChannel" "plan" "LSplitChannel$Plan;") ∈ mk_WL := mk_t2 96 rfl rfl
theorem mw_337 : (Jvm.Cond.fieldLink "SplitChannel" (41 : Nat) "SplitChannel" "now" "LSplitChannel$Course;") ∈ mk_WL := mk_t2 97 rfl rfl
theorem mw_338 : (Jvm.Cond.fieldLink "SplitChannel" (47 : Nat) "SplitChannel" "other" "LSplitChannel$Course;") ∈ mk_WL := mk_t2 98 rfl rfl
theorem mw_339 : (Jvm.Cond.fieldLink "SplitChannel" (53 : Nat) "SplitChannel" "acts" "LSplitChannel$Acts;") ∈ mk_WL := mk_t2 99 rfl rfl
theorem mw_340 : (Jvm.Cond.fieldLink "SplitChannel" (60 : Nat) "SplitChannel" "means" "LSplitChannel$Means;") ∈ mk_WL := mk_t2 100 rfl rfl
theorem mw_341 : (Jvm.Cond.laysFinal "SplitChannel" "SplitChannel" "reader" "LSplitChannel$Reader;") ∈ mk_WL := mk_t2 101 rfl rfl
theorem mw_343 : (Jvm.Cond.laysFinal "SplitChannel" "SplitChannel" "tape" "LSplitChannel$Tape;") ∈ mk_WL := mk_t2 103 rfl rfl
theorem mw_345 : (Jvm.Cond.laysFinal "SplitChannel" "SplitChannel" "draft" "LSplitChannel$Plan;") ∈ mk_WL := mk_t2 105 rfl rfl
theorem mw_347 : (Jvm.Cond.laysFinal "SplitChannel" "SplitChannel" "play" "LSplitChannel$Play;") ∈ mk_WL := mk_t2 107 rfl rfl
theorem mw_349 : (Jvm.Cond.laysFinal "SplitChannel" "SplitChannel" "plan" "LSplitChannel$Plan;") ∈ mk_WL := mk_t2 109 rfl rfl
theorem mw_351 : (Jvm.Cond.laysFinal "SplitChannel" "SplitChannel" "now" "LSplitChannel$Course;") ∈ mk_WL := mk_t2 111 rfl rfl
theorem mw_353 : (Jvm.Cond.laysFinal "SplitChannel" "SplitChannel" "other" "LSplitChannel$Course;") ∈ mk_WL := mk_t2 113 rfl rfl
theorem mw_355 : (Jvm.Cond.laysFinal "SplitChannel" "SplitChannel" "acts" "LSplitChannel$Acts;") ∈ mk_WL := mk_t2 115 rfl rfl
theorem mw_357 : (Jvm.Cond.laysFinal "SplitChannel" "SplitChannel" "means" "LSplitChannel$Means;") ∈ mk_WL := mk_t2 117 rfl rfl
theorem mw_359 : (Jvm.Cond.superclass "SplitChannel" "java/lang/Object") ∈ mk_WL := mk_t2 119 rfl rfl
theorem mw_360 : (Jvm.Cond.methodLink "SplitChannelLaw" (106 : Nat) ({ cls := "SplitChannel", name := "channel", desc := "()I" } : Jvm.MethodName)) ∈ mk_WL := mk_t2 120 rfl rfl
theorem mw_361 : (Jvm.Cond.instanceMethod ({ cls := "SplitChannel", name := "channel", desc := "()I" } : Jvm.MethodName)) ∈ mk_WL := mk_t2 121 rfl rfl
theorem mw_362 : (Jvm.Cond.selects "SplitChannel" ({ cls := "SplitChannel", name := "channel", desc := "()I" } : Jvm.MethodName) ({ cls := "SplitChannel", name := "channel", desc := "()I" } : Jvm.MethodName)) ∈ mk_WL := mk_t2 122 rfl rfl
theorem mw_363 : (Jvm.Cond.code ({ cls := "SplitChannel", name := "channel", desc := "()I" } : Jvm.MethodName) prog_1_method_4_code (2 : Nat) (Option.some Jvm.ClassFile.FieldType.int)) ∈ mk_WL := mk_t2 123 rfl rfl
theorem mw_364 : (Jvm.Cond.methodLink "SplitChannel" (74 : Nat) ({ cls := "SplitChannel$Reader", name := "read", desc := "()Z" } : Jvm.MethodName)) ∈ mk_WL := mk_t2 124 rfl rfl
theorem mw_365 : (Jvm.Cond.instanceMethod ({ cls := "SplitChannel$Reader", name := "read", desc := "()Z" } : Jvm.MethodName)) ∈ mk_WL := mk_t2 125 rfl rfl
theorem mw_366 : (Jvm.Cond.selects "SplitChannel$Reader" ({ cls := "SplitChannel$Reader", name := "read", desc := "()Z" } : Jvm.MethodName) ({ cls := "SplitChannel$Reader", name := "read", desc := "()Z" } : Jvm.MethodName)) ∈ mk_WL := mk_t2 126 rfl rfl
theorem mw_367 : (Jvm.Cond.code ({ cls := "SplitChannel$Reader", name := "read", desc := "()Z" } : Jvm.MethodName) prog_7_method_2_code (2 : Nat) (Option.some Jvm.ClassFile.FieldType.boolean)) ∈ mk_WL := mk_t2 127 rfl rfl
theorem mw_368 : (Jvm.Cond.methodLink "SplitChannel$Reader" (29 : Nat) ({ cls := "SplitChannel$Plan", name := "clear", desc := "()V" } : Jvm.MethodName)) ∈ mk_WL := mk_t2 128 rfl rfl
theorem mw_369 : (Jvm.Cond.instanceMethod ({ cls := "SplitChannel$Plan", name := "clear", desc := "()V" } : Jvm.MethodName)) ∈ mk_WL := mk_t2 129 rfl rfl
theorem mw_370 : (Jvm.Cond.selects "SplitChannel$Plan" ({ cls := "SplitChannel$Plan", name := "clear", desc := "()V" } : Jvm.MethodName) ({ cls := "SplitChannel$Plan", name := "clear", desc := "()V" } : Jvm.MethodName)) ∈ mk_WL := mk_t2 130 rfl rfl
theorem mw_371 : (Jvm.Cond.code ({ cls := "SplitChannel$Plan", name := "clear", desc := "()V" } : Jvm.MethodName) prog_5_method_2_code (1 : Nat) (Option.none : Option Jvm.ClassFile.FieldType)) ∈ mk_WL := mk_t2 131 rfl rfl
theorem mw_372 : (Jvm.Cond.methodLink "SplitChannel$Reader" (38 : Nat) ({ cls := "SplitChannel$Reader", name := "step", desc := "()V" } : Jvm.MethodName)) ∈ mk_WL := mk_t2 132 rfl rfl
theorem mw_373 : (Jvm.Cond.instanceMethod ({ cls := "SplitChannel$Reader", name := "step", desc := "()V" } : Jvm.MethodName)) ∈ mk_WL := mk_t2 133 rfl rfl
theorem mw_374 : (Jvm.Cond.selects "SplitChannel$Reader" ({ cls := "SplitChannel$Reader", name := "step", desc := "()V" } : Jvm.MethodName) ({ cls := "SplitChannel$Reader", name := "step", desc := "()V" } : Jvm.MethodName)) ∈ mk_WL := mk_t2 134 rfl rfl
theorem mw_375 : (Jvm.Cond.code ({ cls := "SplitChannel$Reader", name := "step", desc := "()V" } : Jvm.MethodName) prog_7_method_14_code (2 : Nat) (Option.none : Option Jvm.ClassFile.FieldType)) ∈ mk_WL := mk_t2 135 rfl rfl
theorem mw_377 : (Jvm.Cond.static ({ cls := "SplitChannel", name := "at", desc := "([II)I" } : Jvm.MethodName)) ∈ mk_WL := mk_t2 137 rfl rfl
theorem mw_378 : (Jvm.Cond.code ({ cls := "SplitChannel", name := "at", desc := "([II)I" } : Jvm.MethodName) prog_1_method_40_code (2 : Nat) (Option.some Jvm.ClassFile.FieldType.int)) ∈ mk_WL := mk_t2 138 rfl rfl
theorem mw_379 : (Jvm.Cond.methodLink "SplitChannel$Reader" (161 : Nat) ({ cls := "SplitChannel$Reader", name := "isBlank", desc := "(I)Z" } : Jvm.MethodName)) ∈ mk_WL := mk_t2 139 rfl rfl
theorem mw_380 : (Jvm.Cond.static ({ cls := "SplitChannel$Reader", name := "isBlank", desc := "(I)Z" } : Jvm.MethodName)) ∈ mk_WL := mk_t2 140 rfl rfl
theorem mw_381 : (Jvm.Cond.code ({ cls := "SplitChannel$Reader", name := "isBlank", desc := "(I)Z" } : Jvm.MethodName) prog_7_method_15_code (1 : Nat) (Option.some Jvm.ClassFile.FieldType.boolean)) ∈ mk_WL := mk_t2 141 rfl rfl
theorem mw_382 : (Jvm.Cond.methodLink "SplitChannel$Reader" (164 : Nat) ({ cls := "SplitChannel$Reader", name := "kindOf", desc := "(I)I" } : Jvm.MethodName)) ∈ mk_WL := mk_t2 142 rfl rfl
theorem mw_383 : (Jvm.Cond.static ({ cls := "SplitChannel$Reader", name := "kindOf", desc := "(I)I" } : Jvm.MethodName)) ∈ mk_WL := mk_t2 143 rfl rfl
theorem mw_384 : (Jvm.Cond.code ({ cls := "SplitChannel$Reader", name := "kindOf", desc := "(I)I" } : Jvm.MethodName) prog_7_method_16_code (1 : Nat) (Option.some Jvm.ClassFile.FieldType.int)) ∈ mk_WL := mk_t2 144 rfl rfl
theorem mw_385 : (Jvm.Cond.methodLink "SplitChannel$Reader" (44 : Nat) ({ cls := "SplitChannel$Reader", name := "readLine", desc := "()Z" } : Jvm.MethodName)) ∈ mk_WL := mk_t2 145 rfl rfl
theorem mw_386 : (Jvm.Cond.instanceMethod ({ cls := "SplitChannel$Reader", name := "readLine", desc := "()Z" } : Jvm.MethodName)) ∈ mk_WL := mk_t2 146 rfl rfl
theorem mw_387 : (Jvm.Cond.selects "SplitChannel$Reader" ({ cls := "SplitChannel$Reader", name := "readLine", desc := "()Z" } : Jvm.MethodName) ({ cls := "SplitChannel$Reader", name := "readLine", desc := "()Z" } : Jvm.MethodName)) ∈ mk_WL := mk_t2 147 rfl rfl
theorem mw_388 : (Jvm.Cond.code ({ cls := "SplitChannel$Reader", name := "readLine", desc := "()Z" } : Jvm.MethodName) prog_7_method_3_code (1 : Nat) (Option.some Jvm.ClassFile.FieldType.boolean)) ∈ mk_WL := mk_t2 148 rfl rfl
theorem mw_390 : (Jvm.Cond.methodLink "SplitChannel$Reader" (53 : Nat) ({ cls := "SplitChannel$Reader", name := "isWord", desc := "(Ljava/lang/String;)Z" } : Jvm.MethodName)) ∈ mk_WL := mk_t2 150 rfl rfl
theorem mw_391 : (Jvm.Cond.instanceMethod ({ cls := "SplitChannel$Reader", name := "isWord", desc := "(Ljava/lang/String;)Z" } : Jvm.MethodName)) ∈ mk_WL := mk_t2 151 rfl rfl
theorem mw_392 : (Jvm.Cond.selects "SplitChannel$Reader" ({ cls := "SplitChannel$Reader", name := "isWord", desc := "(Ljava/lang/String;)Z" } : Jvm.MethodName) ({ cls := "SplitChannel$Reader", name := "isWord", desc := "(Ljava/lang/String;)Z" } : Jvm.MethodName)) ∈ mk_WL := mk_t2 152 rfl rfl
theorem mw_393 : (Jvm.Cond.code ({ cls := "SplitChannel$Reader", name := "isWord", desc := "(Ljava/lang/String;)Z" } : Jvm.MethodName) prog_7_method_13_code (3 : Nat) (Option.some Jvm.ClassFile.FieldType.boolean)) ∈ mk_WL := mk_t2 153 rfl rfl
theorem mw_394 : (Jvm.Cond.methodLink "SplitChannel$Reader" (149 : Nat) ({ cls := "java/lang/String", name := "length", desc := "()I" } : Jvm.MethodName)) ∈ mk_WL := mk_t2 154 rfl rfl
theorem mw_395 : (Jvm.Cond.instanceMethod ({ cls := "java/lang/String", name := "length", desc := "()I" } : Jvm.MethodName)) ∈ mk_WL := mk_t2 155 rfl rfl
theorem mw_396 : (Jvm.Cond.selects "java/lang/String" ({ cls := "java/lang/String", name := "length", desc := "()I" } : Jvm.MethodName) ({ cls := "java/lang/String", name := "length", desc := "()I" } : Jvm.MethodName)) ∈ mk_WL := mk_t2 156 rfl rfl
theorem mw_397 : (Jvm.Cond.code ({ cls := "java/lang/String", name := "length", desc := "()I" } : Jvm.MethodName) prog_18_method_54_code (1 : Nat) (Option.some Jvm.ClassFile.FieldType.int)) ∈ mk_WL := mk_t2 157 rfl rfl
theorem mw_398 : (Jvm.Cond.methodLink "java/lang/String" (335 : Nat) ({ cls := "java/lang/String", name := "coder", desc := "()B" } : Jvm.MethodName)) ∈ mk_WL := mk_t2 158 rfl rfl
theorem mw_399 : (Jvm.Cond.instanceMethod ({ cls := "java/lang/String", name := "coder", desc := "()B" } : Jvm.MethodName)) ∈ mk_WL := mk_t2 159 rfl rfl
theorem mw_400 : (Jvm.Cond.selects "java/lang/String" ({ cls := "java/lang/String", name := "coder", desc := "()B" } : Jvm.MethodName) ({ cls := "java/lang/String", name := "coder", desc := "()B" } : Jvm.MethodName)) ∈ mk_WL := mk_t2 160 rfl rfl
theorem mw_401 : (Jvm.Cond.code ({ cls := "java/lang/String", name := "coder", desc := "()B" } : Jvm.MethodName) prog_18_method_152_code (1 : Nat) (Option.some Jvm.ClassFile.FieldType.byte)) ∈ mk_WL := mk_t2 161 rfl rfl
theorem mw_402 : (Jvm.Cond.fieldLink "java/lang/String" (38 : Nat) "java/lang/String" "COMPACT_STRINGS" "Z") ∈ mk_WL := mk_t2 162 rfl rfl
theorem mw_404 : (Jvm.Cond.methodLink "SplitChannel$Reader" (155 : Nat) ({ cls := "java/lang/String", name := "charAt", desc := "(I)C" } : Jvm.MethodName)) ∈ mk_WL := mk_t2 164 rfl rfl
theorem mw_405 : (Jvm.Cond.instanceMethod ({ cls := "java/lang/String", name := "charAt", desc := "(I)C" } : Jvm.MethodName)) ∈ mk_WL := mk_t2 165 rfl rfl
theorem mw_406 : (Jvm.Cond.selects "java/lang/String" ({ cls := "java/lang/String", name := "charAt", desc := "(I)C" } : Jvm.MethodName) ({ cls := "java/lang/String", name := "charAt", desc := "(I)C" } : Jvm.MethodName)) ∈ mk_WL := mk_t2 166 rfl rfl
theorem mw_407 : (Jvm.Cond.code ({ cls := "java/lang/String", name := "charAt", desc := "(I)C" } : Jvm.MethodName) prog_18_method_56_code (2 : Nat) (Option.some Jvm.ClassFile.FieldType.char)) ∈ mk_WL := mk_t2 167 rfl rfl
theorem mw_408 : (Jvm.Cond.methodLink "java/lang/String" (492 : Nat) ({ cls := "java/lang/String", name := "isLatin1", desc := "()Z" } : Jvm.MethodName)) ∈ mk_WL := mk_t2 168 rfl rfl
theorem mw_409 : (Jvm.Cond.instanceMethod ({ cls := "java/lang/String", name := "isLatin1", desc := "()Z" } : Jvm.MethodName)) ∈ mk_WL := mk_t2 169 rfl rfl
theorem mw_410 : (Jvm.Cond.selects "java/lang/String" ({ cls := "java/lang/String", name := "isLatin1", desc := "()Z" } : Jvm.MethodName) ({ cls := "java/lang/String", name := "isLatin1", desc := "()Z" } : Jvm.MethodName)) ∈ mk_WL := mk_t2 170 rfl rfl
theorem mw_411 : (Jvm.Cond.code ({ cls := "java/lang/String", name := "isLatin1", desc := "()Z" } : Jvm.MethodName) prog_18_method_154_code (1 : Nat) (Option.some Jvm.ClassFile.FieldType.boolean)) ∈ mk_WL := mk_t2 171 rfl rfl
theorem mw_412 : (Jvm.Cond.methodLink "java/lang/String" (495 : Nat) ({ cls := "java/lang/StringLatin1", name := "charAt", desc := "([BI)C" } : Jvm.MethodName)) ∈ mk_WL := mk_t2 172 rfl rfl
theorem mw_413 : (Jvm.Cond.static ({ cls := "java/lang/StringLatin1", name := "charAt", desc := "([BI)C" } : Jvm.MethodName)) ∈ mk_WL := mk_t2 173 rfl rfl
theorem mw_414 : (Jvm.Cond.code ({ cls := "java/lang/StringLatin1", name := "charAt", desc := "([BI)C" } : Jvm.MethodName) prog_20_method_2_code (2 : Nat) (Option.some Jvm.ClassFile.FieldType.char)) ∈ mk_WL := mk_t2 174 rfl rfl
theorem mw_415 : (Jvm.Cond.methodLink "java/lang/StringLatin1" (9 : Nat) ({ cls := "java/lang/String", name := "checkIndex", desc := "(II)V" } : Jvm.MethodName)) ∈ mk_WL := mk_t2 175 rfl rfl
theorem mw_416 : (Jvm.Cond.static ({ cls := "java/lang/String", name := "checkIndex", desc := "(II)V" } : Jvm.MethodName)) ∈ mk_WL := mk_t2 176 rfl rfl
theorem mw_417 : (Jvm.Cond.code ({ cls := "java/lang/String", name := "checkIndex", desc := "(II)V" } : Jvm.MethodName) prog_18_method_155_code (2 : Nat) (Option.none : Option Jvm.ClassFile.FieldType)) ∈ mk_WL := mk_t2 177 rfl rfl
theorem mw_418 : (Jvm.Cond.fieldLink "java/lang/String" (1053 : Nat) "jdk/internal/util/Preconditions" "SIOOBE_FORMATTER" "Ljava/util/function/BiFunction;") ∈ mk_WL := mk_t2 178 rfl rfl
theorem mw_420 : (Jvm.Cond.methodLink "java/lang/String" (1059 : Nat) ({ cls := "jdk/internal/util/Preconditions", name := "checkIndex", desc := "(IILjava/util/function/BiFunction;)I" } : Jvm.MethodName)) ∈ mk_WL := mk_t2 180 rfl rfl
theorem mw_421 : (Jvm.Cond.static ({ cls := "jdk/internal/util/Preconditions", name := "checkIndex", desc := "(IILjava/util/function/BiFunction;)I" } : Jvm.MethodName)) ∈ mk_WL := mk_t2 181 rfl rfl
theorem mw_422 : (Jvm.Cond.code ({ cls := "jdk/internal/util/Preconditions", name := "checkIndex", desc := "(IILjava/util/function/BiFunction;)I" } : Jvm.MethodName) prog_25_method_11_code (3 : Nat) (Option.some Jvm.ClassFile.FieldType.int)) ∈ mk_WL := mk_t2 182 rfl rfl
theorem mw_423 : (Jvm.Cond.methodLink "java/lang/String" (498 : Nat) ({ cls := "java/lang/StringUTF16", name := "charAt", desc := "([BI)C" } : Jvm.MethodName)) ∈ mk_WL := mk_t2 183 rfl rfl
theorem mw_424 : (Jvm.Cond.static ({ cls := "java/lang/StringUTF16", name := "charAt", desc := "([BI)C" } : Jvm.MethodName)) ∈ mk_WL := mk_t2 184 rfl rfl
theorem mw_425 : (Jvm.Cond.code ({ cls := "java/lang/StringUTF16", name := "charAt", desc := "([BI)C" } : Jvm.MethodName) prog_21_method_83_code (2 : Nat) (Option.some Jvm.ClassFile.FieldType.char)) ∈ mk_WL := mk_t2 185 rfl rfl
theorem mw_426 : (Jvm.Cond.methodLink "java/lang/StringUTF16" (67 : Nat) ({ cls := "java/lang/StringUTF16", name := "checkIndex", desc := "(I[B)V" } : Jvm.MethodName)) ∈ mk_WL := mk_t2 186 rfl rfl
theorem mw_427 : (Jvm.Cond.static ({ cls := "java/lang/StringUTF16", name := "checkIndex", desc := "(I[B)V" } : Jvm.MethodName)) ∈ mk_WL := mk_t2 187 rfl rfl
theorem mw_428 : (Jvm.Cond.code ({ cls := "java/lang/StringUTF16", name := "checkIndex", desc := "(I[B)V" } : Jvm.MethodName) prog_21_method_91_code (2 : Nat) (Option.none : Option Jvm.ClassFile.FieldType)) ∈ mk_WL := mk_t2 188 rfl rfl
theorem mw_429 : (Jvm.Cond.methodLink "java/lang/StringUTF16" (48 : Nat) ({ cls := "java/lang/StringUTF16", name := "length", desc := "([B)I" } : Jvm.MethodName)) ∈ mk_WL := mk_t2 189 rfl rfl
theorem mw_430 : (Jvm.Cond.static ({ cls := "java/lang/StringUTF16", name := "length", desc := "([B)I" } : Jvm.MethodName)) ∈ mk_WL := mk_t2 190 rfl rfl
theorem mw_431 : (Jvm.Cond.code ({ cls := "java/lang/StringUTF16", name := "length", desc := "([B)I" } : Jvm.MethodName) prog_21_method_6_code (1 : Nat) (Option.some Jvm.ClassFile.FieldType.int)) ∈ mk_WL := mk_t2 191 rfl rfl
theorem mw_432 : (Jvm.Cond.methodLink "java/lang/StringUTF16" (414 : Nat) ({ cls := "java/lang/String", name := "checkIndex", desc := "(II)V" } : Jvm.MethodName)) ∈ mk_WL := mk_t2 192 rfl rfl
theorem mw_433 : (Jvm.Cond.methodLink "java/lang/StringUTF16" (71 : Nat) ({ cls := "java/lang/StringUTF16", name := "getChar", desc := "([BI)C" } : Jvm.MethodName)) ∈ mk_WL := mk_t2 193 rfl rfl
theorem mw_434 : (Jvm.Cond.static ({ cls := "java/lang/StringUTF16", name := "getChar", desc := "([BI)C" } : Jvm.MethodName)) ∈ mk_WL := mk_t2 194 rfl rfl
theorem mw_435 : (Jvm.Cond.code ({ cls := "java/lang/StringUTF16", name := "getChar", desc := "([BI)C" } : Jvm.MethodName) prog_21_method_5_code (2 : Nat) (Option.some Jvm.ClassFile.FieldType.char)) ∈ mk_WL := mk_t2 195 rfl rfl
theorem mw_436 : (Jvm.Cond.fieldLink "java/lang/StringUTF16" (44 : Nat) "java/lang/StringUTF16" "$assertionsDisabled" "Z") ∈ mk_WL := mk_t2 196 rfl rfl
theorem mw_438 : (Jvm.Cond.fieldLink "java/lang/StringUTF16" (59 : Nat) "java/lang/StringUTF16" "HI_BYTE_SHIFT" "I") ∈ mk_WL := mk_t2 198 rfl rfl
theorem mw_440 : (Jvm.Cond.fieldLink "java/lang/StringUTF16" (63 : Nat) "java/lang/StringUTF16" "LO_BYTE_SHIFT" "I") ∈ mk_WL := mk_t2 200 rfl rfl
theorem mw_442 : (Jvm.Cond.methodLink "SplitChannel$Reader" (57 : Nat) ({ cls := "SplitChannel$Reader", name := "readChannel", desc := "()Z" } : Jvm.MethodName)) ∈ mk_WL := mk_t2 202 rfl rfl
theorem mw_443 : (Jvm.Cond.instanceMethod ({ cls := "SplitChannel$Reader", name := "readChannel", desc := "()Z" } : Jvm.MethodName)) ∈ mk_WL := mk_t2 203 rfl rfl
theorem mw_444 : (Jvm.Cond.selects "SplitChannel$Reader" ({ cls := "SplitChannel$Reader", name := "readChannel", desc := "()Z" } : Jvm.MethodName) ({ cls := "SplitChannel$Reader", name := "readChannel", desc := "()Z" } : Jvm.MethodName)) ∈ mk_WL := mk_t2 204 rfl rfl
theorem mw_445 : (Jvm.Cond.code ({ cls := "SplitChannel$Reader", name := "readChannel", desc := "()Z" } : Jvm.MethodName) prog_7_method_4_code (1 : Nat) (Option.some Jvm.ClassFile.FieldType.boolean)) ∈ mk_WL := mk_t2 205 rfl rfl
theorem mw_447 : (Jvm.Cond.methodLink "SplitChannel$Reader" (76 : Nat) ({ cls := "SplitChannel$Reader", name := "readWord", desc := "(Ljava/lang/String;)Z" } : Jvm.MethodName)) ∈ mk_WL := mk_t2 207 rfl rfl
theorem mw_448 : (Jvm.Cond.instanceMethod ({ cls := "SplitChannel$Reader", name := "readWord", desc := "(Ljava/lang/String;)Z" } : Jvm.MethodName)) ∈ mk_WL := mk_t2 208 rfl rfl
theorem mw_449 : (Jvm.Cond.selects "SplitChannel$Reader" ({ cls := "SplitChannel$Reader", name := "readWord", desc := "(Ljava/lang/String;)Z" } : Jvm.MethodName) ({ cls := "SplitChannel$Reader", name := "readWord", desc := "(Ljava/lang/String;)Z" } : Jvm.MethodName)) ∈ mk_WL := mk_t2 209 rfl rfl
theorem mw_450 : (Jvm.Cond.code ({ cls := "SplitChannel$Reader", name := "readWord", desc := "(Ljava/lang/String;)Z" } : Jvm.MethodName) prog_7_method_7_code (2 : Nat) (Option.some Jvm.ClassFile.FieldType.boolean)) ∈ mk_WL := mk_t2 210 rfl rfl
theorem mw_451 : (Jvm.Cond.methodLink "SplitChannel$Reader" (60 : Nat) ({ cls := "SplitChannel$Reader", name := "refuse", desc := "(I)Z" } : Jvm.MethodName)) ∈ mk_WL := mk_t2 211 rfl rfl
theorem mw_452 : (Jvm.Cond.instanceMethod ({ cls := "SplitChannel$Reader", name := "refuse", desc := "(I)Z" } : Jvm.MethodName)) ∈ mk_WL := mk_t2 212 rfl rfl
theorem mw_453 : (Jvm.Cond.selects "SplitChannel$Reader" ({ cls := "SplitChannel$Reader", name := "refuse", desc := "(I)Z" } : Jvm.MethodName) ({ cls := "SplitChannel$Reader", name := "refuse", desc := "(I)Z" } : Jvm.MethodName)) ∈ mk_WL := mk_t2 213 rfl rfl
theorem mw_454 : (Jvm.Cond.code ({ cls := "SplitChannel$Reader", name := "refuse", desc := "(I)Z" } : Jvm.MethodName) prog_7_method_12_code (2 : Nat) (Option.some Jvm.ClassFile.FieldType.boolean)) ∈ mk_WL := mk_t2 214 rfl rfl
theorem mw_455 : (Jvm.Cond.methodLink "SplitChannel$Reader" (79 : Nat) ({ cls := "SplitChannel$Reader", name := "readNumber", desc := "(II)Z" } : Jvm.MethodName)) ∈ mk_WL := mk_t2 215 rfl rfl
theorem mw_456 : (Jvm.Cond.instanceMethod ({ cls := "SplitChannel$Reader", name := "readNumber", desc := "(II)Z" } : Jvm.MethodName)) ∈ mk_WL := mk_t2 216 rfl rfl
theorem mw_457 : (Jvm.Cond.selects "SplitChannel$Reader" ({ cls := "SplitChannel$Reader", name := "readNumber", desc := "(II)Z" } : Jvm.MethodName) ({ cls := "SplitChannel$Reader", name := "readNumber", desc := "(II)Z" } : Jvm.MethodName)) ∈ mk_WL := mk_t2 217 rfl rfl
theorem mw_458 : (Jvm.Cond.code ({ cls := "SplitChannel$Reader", name := "readNumber", desc := "(II)Z" } : Jvm.MethodName) prog_7_method_8_code (4 : Nat) (Option.some Jvm.ClassFile.FieldType.boolean)) ∈ mk_WL := mk_t2 218 rfl rfl
theorem mw_459 : (Jvm.Cond.constant "SplitChannel$Reader" (142 : Nat) (1000000 : Int32)) ∈ mk_WL := mk_t2 219 rfl rfl
theorem mw_463 : (Jvm.Cond.methodLink "SplitChannel$Reader" (100 : Nat) ({ cls := "SplitChannel$Reader", name := "readSign", desc := "()Z" } : Jvm.MethodName)) ∈ mk_WL := mk_t2 223 rfl rfl
theorem mw_464 : (Jvm.Cond.instanceMethod ({ cls := "SplitChannel$Reader", name := "readSign", desc := "()Z" } : Jvm.MethodName)) ∈ mk_WL := mk_t2 224 rfl rfl
theorem mw_465 : (Jvm.Cond.selects "SplitChannel$Reader" ({ cls := "SplitChannel$Reader", name := "readSign", desc := "()Z" } : Jvm.MethodName) ({ cls := "SplitChannel$Reader", name := "readSign", desc := "()Z" } : Jvm.MethodName)) ∈ mk_WL := mk_t2 225 rfl rfl
theorem mw_466 : (Jvm.Cond.code ({ cls := "SplitChannel$Reader", name := "readSign", desc := "()Z" } : Jvm.MethodName) prog_7_method_11_code (1 : Nat) (Option.some Jvm.ClassFile.FieldType.boolean)) ∈ mk_WL := mk_t2 226 rfl rfl
theorem mw_468 : (Jvm.Cond.methodLink "SplitChannel$Reader" (66 : Nat) ({ cls := "SplitChannel$Reader", name := "readSender", desc := "()Z" } : Jvm.MethodName)) ∈ mk_WL := mk_t2 228 rfl rfl
theorem mw_469 : (Jvm.Cond.instanceMethod ({ cls := "SplitChannel$Reader", name := "readSender", desc := "()Z" } : Jvm.MethodName)) ∈ mk_WL := mk_t2 229 rfl rfl
theorem mw_470 : (Jvm.Cond.selects "SplitChannel$Reader" ({ cls := "SplitChannel$Reader", name := "readSender", desc := "()Z" } : Jvm.MethodName) ({ cls := "SplitChannel$Reader", name := "readSender", desc := "()Z" } : Jvm.MethodName)) ∈ mk_WL := mk_t2 230 rfl rfl
theorem mw_471 : (Jvm.Cond.code ({ cls := "SplitChannel$Reader", name := "readSender", desc := "()Z" } : Jvm.MethodName) prog_7_method_5_code (2 : Nat) (Option.some Jvm.ClassFile.FieldType.boolean)) ∈ mk_WL := mk_t2 231 rfl rfl
theorem mw_474 : (Jvm.Cond.methodLink "SplitChannel$Reader" (110 : Nat) ({ cls := "SplitChannel$Reader", name := "readBits", desc := "()Z" } : Jvm.MethodName)) ∈ mk_WL := mk_t2 234 rfl rfl
theorem mw_475 : (Jvm.Cond.instanceMethod ({ cls := "SplitChannel$Reader", name := "readBits", desc := "()Z" } : Jvm.MethodName)) ∈ mk_WL := mk_t2 235 rfl rfl
theorem mw_476 : (Jvm.Cond.selects "SplitChannel$Reader" ({ cls := "SplitChannel$Reader", name := "readBits", desc := "()Z" } : Jvm.MethodName) ({ cls := "SplitChannel$Reader", name := "readBits", desc := "()Z" } : Jvm.MethodName)) ∈ mk_WL := mk_t2 236 rfl rfl
theorem mw_477 : (Jvm.Cond.code ({ cls := "SplitChannel$Reader", name := "readBits", desc := "()Z" } : Jvm.MethodName) prog_7_method_9_code (3 : Nat) (Option.some Jvm.ClassFile.FieldType.boolean)) ∈ mk_WL := mk_t2 237 rfl rfl
theorem mw_478 : (Jvm.Cond.methodLink "SplitChannel$Reader" (116 : Nat) ({ cls := "SplitChannel$Plan", name := "addSender", desc := "(III)V" } : Jvm.MethodName)) ∈ mk_WL := mk_t2 238 rfl rfl
theorem mw_479 : (Jvm.Cond.instanceMethod ({ cls := "SplitChannel$Plan", name := "addSender", desc := "(III)V" } : Jvm.MethodName)) ∈ mk_WL := mk_t2 239 rfl rfl
theorem mw_480 : (Jvm.Cond.selects "SplitChannel$Plan" ({ cls := "SplitChannel$Plan", name := "addSender", desc := "(III)V" } : Jvm.MethodName) ({ cls := "SplitChannel$Plan", name := "addSender", desc := "(III)V" } : Jvm.MethodName)) ∈ mk_WL := mk_t3 0 rfl rfl
theorem mw_481 : (Jvm.Cond.code ({ cls := "SplitChannel$Plan", name := "addSender", desc := "(III)V" } : Jvm.MethodName) prog_5_method_4_code (4 : Nat) (Option.none : Option Jvm.ClassFile.FieldType)) ∈ mk_WL := mk_t3 1 rfl rfl
theorem mw_483 : (Jvm.Cond.static ({ cls := "SplitChannel", name := "put", desc := "([III)V" } : Jvm.MethodName)) ∈ mk_WL := mk_t3 3 rfl rfl
theorem mw_484 : (Jvm.Cond.code ({ cls := "SplitChannel", name := "put", desc := "([III)V" } : Jvm.MethodName) prog_1_method_41_code (3 : Nat) (Option.none : Option Jvm.ClassFile.FieldType)) ∈ mk_WL := mk_t3 4 rfl rfl
theorem mw_486 : (Jvm.Cond.methodLink "SplitChannel$Reader" (71 : Nat) ({ cls := "SplitChannel$Reader", name := "readNoise", desc := "()Z" } : Jvm.MethodName)) ∈ mk_WL := mk_t3 6 rfl rfl
theorem mw_487 : (Jvm.Cond.instanceMethod ({ cls := "SplitChannel$Reader", name := "readNoise", desc := "()Z" } : Jvm.MethodName)) ∈ mk_WL := mk_t3 7 rfl rfl
theorem mw_488 : (Jvm.Cond.selects "SplitChannel$Reader" ({ cls := "SplitChannel$Reader", name := "readNoise", desc := "()Z" } : Jvm.MethodName) ({ cls := "SplitChannel$Reader", name := "readNoise", desc := "()Z" } : Jvm.MethodName)) ∈ mk_WL := mk_t3 8 rfl rfl
theorem mw_489 : (Jvm.Cond.code ({ cls := "SplitChannel$Reader", name := "readNoise", desc := "()Z" } : Jvm.MethodName) prog_7_method_6_code (2 : Nat) (Option.some Jvm.ClassFile.FieldType.boolean)) ∈ mk_WL := mk_t3 9 rfl rfl
theorem mw_490 : (Jvm.Cond.methodLink "SplitChannel$Reader" (123 : Nat) ({ cls := "SplitChannel$Plan", name := "isNoisy", desc := "(I)Z" } : Jvm.MethodName)) ∈ mk_WL := mk_t3 10 rfl rfl
theorem mw_491 : (Jvm.Cond.instanceMethod ({ cls := "SplitChannel$Plan", name := "isNoisy", desc := "(I)Z" } : Jvm.MethodName)) ∈ mk_WL := mk_t3 11 rfl rfl
theorem mw_492 : (Jvm.Cond.selects "SplitChannel$Plan" ({ cls := "SplitChannel$Plan", name := "isNoisy", desc := "(I)Z" } : Jvm.MethodName) ({ cls := "SplitChannel$Plan", name := "isNoisy", desc := "(I)Z" } : Jvm.MethodName)) ∈ mk_WL := mk_t3 12 rfl rfl
theorem mw_493 : (Jvm.Cond.code ({ cls := "SplitChannel$Plan", name := "isNoisy", desc := "(I)Z" } : Jvm.MethodName) prog_5_method_10_code (3 : Nat) (Option.some Jvm.ClassFile.FieldType.boolean)) ∈ mk_WL := mk_t3 13 rfl rfl
theorem mw_496 : (Jvm.Cond.methodLink "SplitChannel$Reader" (128 : Nat) ({ cls := "SplitChannel$Reader", name := "readKind", desc := "()Z" } : Jvm.MethodName)) ∈ mk_WL := mk_t3 16 rfl rfl
theorem mw_497 : (Jvm.Cond.instanceMethod ({ cls := "SplitChannel$Reader", name := "readKind", desc := "()Z" } : Jvm.MethodName)) ∈ mk_WL := mk_t3 17 rfl rfl
theorem mw_498 : (Jvm.Cond.selects "SplitChannel$Reader" ({ cls := "SplitChannel$Reader", name := "readKind", desc := "()Z" } : Jvm.MethodName) ({ cls := "SplitChannel$Reader", name := "readKind", desc := "()Z" } : Jvm.MethodName)) ∈ mk_WL := mk_t3 18 rfl rfl
theorem mw_499 : (Jvm.Cond.code ({ cls := "SplitChannel$Reader", name := "readKind", desc := "()Z" } : Jvm.MethodName) prog_7_method_10_code (1 : Nat) (Option.some Jvm.ClassFile.FieldType.boolean)) ∈ mk_WL := mk_t3 19 rfl rfl
theorem mw_503 : (Jvm.Cond.methodLink "SplitChannel$Reader" (131 : Nat) ({ cls := "SplitChannel$Plan", name := "addNoise", desc := "(II)V" } : Jvm.MethodName)) ∈ mk_WL := mk_t3 23 rfl rfl
theorem mw_504 : (Jvm.Cond.instanceMethod ({ cls := "SplitChannel$Plan", name := "addNoise", desc := "(II)V" } : Jvm.MethodName)) ∈ mk_WL := mk_t3 24 rfl rfl
theorem mw_505 : (Jvm.Cond.selects "SplitChannel$Plan" ({ cls := "SplitChannel$Plan", name := "addNoise", desc := "(II)V" } : Jvm.MethodName) ({ cls := "SplitChannel$Plan", name := "addNoise", desc := "(II)V" } : Jvm.MethodName)) ∈ mk_WL := mk_t3 25 rfl rfl
theorem mw_506 : (Jvm.Cond.code ({ cls := "SplitChannel$Plan", name := "addNoise", desc := "(II)V" } : Jvm.MethodName) prog_5_method_5_code (3 : Nat) (Option.none : Option Jvm.ClassFile.FieldType)) ∈ mk_WL := mk_t3 26 rfl rfl
theorem mw_507 : (Jvm.Cond.methodLink "SplitChannel" (78 : Nat) ({ cls := "SplitChannel$Plan", name := "become", desc := "(LSplitChannel$Plan;)V" } : Jvm.MethodName)) ∈ mk_WL := mk_t3 27 rfl rfl
theorem mw_508 : (Jvm.Cond.instanceMethod ({ cls := "SplitChannel$Plan", name := "become", desc := "(LSplitChannel$Plan;)V" } : Jvm.MethodName)) ∈ mk_WL := mk_t3 28 rfl rfl
theorem mw_509 : (Jvm.Cond.selects "SplitChannel$Plan" ({ cls := "SplitChannel$Plan", name := "become", desc := "(LSplitChannel$Plan;)V" } : Jvm.MethodName) ({ cls := "SplitChannel$Plan", name := "become", desc := "(LSplitChannel$Plan;)V" } : Jvm.MethodName)) ∈ mk_WL := mk_t3 29 rfl rfl
theorem mw_510 : (Jvm.Cond.code ({ cls := "SplitChannel$Plan", name := "become", desc := "(LSplitChannel$Plan;)V" } : Jvm.MethodName) prog_5_method_3_code (3 : Nat) (Option.none : Option Jvm.ClassFile.FieldType)) ∈ mk_WL := mk_t3 30 rfl rfl
theorem mw_511 : (Jvm.Cond.methodLink "SplitChannel$Plan" (49 : Nat) ({ cls := "SplitChannel$Plan", name := "clear", desc := "()V" } : Jvm.MethodName)) ∈ mk_WL := mk_t3 31 rfl rfl
theorem mw_512 : (Jvm.Cond.methodLink "SplitChannel$Plan" (56 : Nat) ({ cls := "SplitChannel$Plan", name := "addSender", desc := "(III)V" } : Jvm.MethodName)) ∈ mk_WL := mk_t3 32 rfl rfl
theorem mw_513 : (Jvm.Cond.methodLink "SplitChannel$Plan" (60 : Nat) ({ cls := "SplitChannel$Plan", name := "addNoise", desc := "(II)V" } : Jvm.MethodName)) ∈ mk_WL := mk_t3 33 rfl rfl
theorem mw_514 : (Jvm.Cond.methodLink "SplitChannel" (90 : Nat) ({ cls := "SplitChannel$Play", name := "run", desc := "(LSplitChannel$Course;III)I" } : Jvm.MethodName)) ∈ mk_WL := mk_t3 34 rfl rfl
theorem mw_515 : (Jvm.Cond.instanceMethod ({ cls := "SplitChannel$Play", name := "run", desc := "(LSplitChannel$Course;III)I" } : Jvm.MethodName)) ∈ mk_WL := mk_t3 35 rfl rfl
theorem mw_516 : (Jvm.Cond.selects "SplitChannel$Play" ({ cls := "SplitChannel$Play", name := "run", desc := "(LSplitChannel$Course;III)I" } : Jvm.MethodName) ({ cls := "SplitChannel$Play", name := "run", desc := "(LSplitChannel$Course;III)I" } : Jvm.MethodName)) ∈ mk_WL := mk_t3 36 rfl rfl
theorem mw_517 : (Jvm.Cond.code ({ cls := "SplitChannel$Play", name := "run", desc := "(LSplitChannel$Course;III)I" } : Jvm.MethodName) prog_6_method_2_code (6 : Nat) (Option.some Jvm.ClassFile.FieldType.int)) ∈ mk_WL := mk_t3 37 rfl rfl
theorem mw_518 : (Jvm.Cond.methodLink "SplitChannel$Play" (68 : Nat) ({ cls := "java/util/Arrays", name := "fill", desc := "([II)V" } : Jvm.MethodName)) ∈ mk_WL := mk_t3 38 rfl rfl
theorem mw_519 : (Jvm.Cond.static ({ cls := "java/util/Arrays", name := "fill", desc := "([II)V" } : Jvm.MethodName)) ∈ mk_WL := mk_t3 39 rfl rfl
theorem mw_520 : (Jvm.Cond.code ({ cls := "java/util/Arrays", name := "fill", desc := "([II)V" } : Jvm.MethodName) prog_23_method_103_code (4 : Nat) (Option.none : Option Jvm.ClassFile.FieldType)) ∈ mk_WL := mk_t3 40 rfl rfl
theorem mw_521 : (Jvm.Cond.methodLink "SplitChannel$Play" (74 : Nat) ({ cls := "SplitChannel$Course", name := "clear", desc := "()V" } : Jvm.MethodName)) ∈ mk_WL := mk_t3 41 rfl rfl
theorem mw_522 : (Jvm.Cond.instanceMethod ({ cls := "SplitChannel$Course", name := "clear", desc := "()V" } : Jvm.MethodName)) ∈ mk_WL := mk_t3 42 rfl rfl
theorem mw_523 : (Jvm.Cond.selects "SplitChannel$Course" ({ cls := "SplitChannel$Course", name := "clear", desc := "()V" } : Jvm.MethodName) ({ cls := "SplitChannel$Course", name := "clear", desc := "()V" } : Jvm.MethodName)) ∈ mk_WL := mk_t3 43 rfl rfl
theorem mw_524 : (Jvm.Cond.code ({ cls := "SplitChannel$Course", name := "clear", desc := "()V" } : Jvm.MethodName) prog_3_method_2_code (1 : Nat) (Option.none : Option Jvm.ClassFile.FieldType)) ∈ mk_WL := mk_t3 44 rfl rfl
theorem mw_525 : (Jvm.Cond.methodLink "SplitChannel$Course" (48 : Nat) ({ cls := "java/util/Arrays", name := "fill", desc := "([II)V" } : Jvm.MethodName)) ∈ mk_WL := mk_t3 45 rfl rfl
theorem mw_526 : (Jvm.Cond.methodLink "SplitChannel$Play" (80 : Nat) ({ cls := "SplitChannel$Play", name := "welcome", desc := "(I)V" } : Jvm.MethodName)) ∈ mk_WL := mk_t3 46 rfl rfl
theorem mw_527 : (Jvm.Cond.instanceMethod ({ cls := "SplitChannel$Play", name := "welcome", desc := "(I)V" } : Jvm.MethodName)) ∈ mk_WL := mk_t3 47 rfl rfl
theorem mw_528 : (Jvm.Cond.selects "SplitChannel$Play" ({ cls := "SplitChannel$Play", name := "welcome", desc := "(I)V" } : Jvm.MethodName) ({ cls := "SplitChannel$Play", name := "welcome", desc := "(I)V" } : Jvm.MethodName)) ∈ mk_WL := mk_t3 48 rfl rfl
theorem mw_529 : (Jvm.Cond.code ({ cls := "SplitChannel$Play", name := "welcome", desc := "(I)V" } : Jvm.MethodName) prog_6_method_3_code (3 : Nat) (Option.none : Option Jvm.ClassFile.FieldType)) ∈ mk_WL := mk_t3 49 rfl rfl
theorem mw_531 : (Jvm.Cond.methodLink "SplitChannel$Play" (84 : Nat) ({ cls := "SplitChannel$Play", name := "playByCounters", desc := "(I)V" } : Jvm.MethodName)) ∈ mk_WL := mk_t3 51 rfl rfl
theorem mw_532 : (Jvm.Cond.instanceMethod ({ cls := "SplitChannel$Play", name := "playByCounters", desc := "(I)V" } : Jvm.MethodName)) ∈ mk_WL := mk_t3 52 rfl rfl
theorem mw_533 : (Jvm.Cond.selects "SplitChannel$Play" ({ cls := "SplitChannel$Play", name := "playByCounters", desc := "(I)V" } : Jvm.MethodName) ({ cls := "SplitChannel$Play", name := "playByCounters", desc := "(I)V" } : Jvm.MethodName)) ∈ mk_WL := mk_t3 53 rfl rfl
theorem mw_534 : (Jvm.Cond.code ({ cls := "SplitChannel$Play", name := "playByCounters", desc := "(I)V" } : Jvm.MethodName) prog_6_method_14_code (6 : Nat) (Option.none : Option Jvm.ClassFile.FieldType)) ∈ mk_WL := mk_t3 54 rfl rfl
theorem mw_535 : (Jvm.Cond.methodLink "SplitChannel$Play" (110 : Nat) ({ cls := "SplitChannel$Play", name := "listen", desc := "(II)I" } : Jvm.MethodName)) ∈ mk_WL := mk_t3 55 rfl rfl
theorem mw_536 : (Jvm.Cond.instanceMethod ({ cls := "SplitChannel$Play", name := "listen", desc := "(II)I" } : Jvm.MethodName)) ∈ mk_WL := mk_t3 56 rfl rfl
theorem mw_537 : (Jvm.Cond.selects "SplitChannel$Play" ({ cls := "SplitChannel$Play", name := "listen", desc := "(II)I" } : Jvm.MethodName) ({ cls := "SplitChannel$Play", name := "listen", desc := "(II)I" } : Jvm.MethodName)) ∈ mk_WL := mk_t3 57 rfl rfl
theorem mw_538 : (Jvm.Cond.code ({ cls := "SplitChannel$Play", name := "listen", desc := "(II)I" } : Jvm.MethodName) prog_6_method_12_code (7 : Nat) (Option.some Jvm.ClassFile.FieldType.int)) ∈ mk_WL := mk_t3 58 rfl rfl
theorem mw_539 : (Jvm.Cond.methodLink "SplitChannel$Play" (191 : Nat) ({ cls := "java/lang/Integer", name := "bitCount", desc := "(I)I" } : Jvm.MethodName)) ∈ mk_WL := mk_t3 59 rfl rfl
theorem mw_540 : (Jvm.Cond.static ({ cls := "java/lang/Integer", name := "bitCount", desc := "(I)I" } : Jvm.MethodName)) ∈ mk_WL := mk_t3 60 rfl rfl
theorem mw_541 : (Jvm.Cond.code ({ cls := "java/lang/Integer", name := "bitCount", desc := "(I)I" } : Jvm.MethodName) prog_15_method_49_code (1 : Nat) (Option.some Jvm.ClassFile.FieldType.int)) ∈ mk_WL := mk_t3 61 rfl rfl
theorem mw_542 : (Jvm.Cond.constant "java/lang/Integer" (265 : Nat) (1431655765 : Int32)) ∈ mk_WL := mk_t3 62 rfl rfl
theorem mw_543 : (Jvm.Cond.constant "java/lang/Integer" (266 : Nat) (858993459 : Int32)) ∈ mk_WL := mk_t3 63 rfl rfl
theorem mw_544 : (Jvm.Cond.constant "java/lang/Integer" (267 : Nat) (252645135 : Int32)) ∈ mk_WL := mk_t3 64 rfl rfl
theorem mw_545 : (Jvm.Cond.methodLink "SplitChannel$Play" (143 : Nat) ({ cls := "java/lang/Math", name := "min", desc := "(II)I" } : Jvm.MethodName)) ∈ mk_WL := mk_t3 65 rfl rfl
theorem mw_546 : (Jvm.Cond.static ({ cls := "java/lang/Math", name := "min", desc := "(II)I" } : Jvm.MethodName)) ∈ mk_WL := mk_t3 66 rfl rfl
theorem mw_547 : (Jvm.Cond.code ({ cls := "java/lang/Math", name := "min", desc := "(II)I" } : Jvm.MethodName) prog_16_method_69_code (2 : Nat) (Option.some Jvm.ClassFile.FieldType.int)) ∈ mk_WL := mk_t3 67 rfl rfl
theorem mw_548 : (Jvm.Cond.methodLink "SplitChannel$Play" (196 : Nat) ({ cls := "SplitChannel$Play", name := "heardAt", desc := "(II)I" } : Jvm.MethodName)) ∈ mk_WL := mk_t3 68 rfl rfl
theorem mw_549 : (Jvm.Cond.instanceMethod ({ cls := "SplitChannel$Play", name := "heardAt", desc := "(II)I" } : Jvm.MethodName)) ∈ mk_WL := mk_t3 69 rfl rfl
theorem mw_550 : (Jvm.Cond.selects "SplitChannel$Play" ({ cls := "SplitChannel$Play", name := "heardAt", desc := "(II)I" } : Jvm.MethodName) ({ cls := "SplitChannel$Play", name := "heardAt", desc := "(II)I" } : Jvm.MethodName)) ∈ mk_WL := mk_t3 70 rfl rfl
theorem mw_551 : (Jvm.Cond.code ({ cls := "SplitChannel$Play", name := "heardAt", desc := "(II)I" } : Jvm.MethodName) prog_6_method_13_code (4 : Nat) (Option.some Jvm.ClassFile.FieldType.int)) ∈ mk_WL := mk_t3 71 rfl rfl
theorem mw_553 : (Jvm.Cond.methodLink "SplitChannel$Play" (208 : Nat) ({ cls := "SplitChannel$Course", name := "deliver", desc := "(II)V" } : Jvm.MethodName)) ∈ mk_WL := mk_t3 73 rfl rfl
theorem mw_554 : (Jvm.Cond.instanceMethod ({ cls := "SplitChannel$Course", name := "deliver", desc := "(II)V" } : Jvm.MethodName)) ∈ mk_WL := mk_t3 74 rfl rfl
theorem mw_555 : (Jvm.Cond.selects "SplitChannel$Course" ({ cls := "SplitChannel$Course", name := "deliver", desc := "(II)V" } : Jvm.MethodName) ({ cls := "SplitChannel$Course", name := "deliver", desc := "(II)V" } : Jvm.MethodName)) ∈ mk_WL := mk_t3 75 rfl rfl
theorem mw_556 : (Jvm.Cond.code ({ cls := "SplitChannel$Course", name := "deliver", desc := "(II)V" } : Jvm.MethodName) prog_3_method_3_code (3 : Nat) (Option.none : Option Jvm.ClassFile.FieldType)) ∈ mk_WL := mk_t3 76 rfl rfl
theorem mw_558 : (Jvm.Cond.methodLink "SplitChannel$Play" (220 : Nat) ({ cls := "SplitChannel$Play", name := "counterBehind", desc := "(IZZ)I" } : Jvm.MethodName)) ∈ mk_WL := mk_t3 78 rfl rfl
theorem mw_559 : (Jvm.Cond.instanceMethod ({ cls := "SplitChannel$Play", name := "counterBehind", desc := "(IZZ)I" } : Jvm.MethodName)) ∈ mk_WL := mk_t3 79 rfl rfl
theorem mw_560 : (Jvm.Cond.selects "SplitChannel$Play" ({ cls := "SplitChannel$Play", name := "counterBehind", desc := "(IZZ)I" } : Jvm.MethodName) ({ cls := "SplitChannel$Play", name := "counterBehind", desc := "(IZZ)I" } : Jvm.MethodName)) ∈ mk_WL := mk_t3 80 rfl rfl
theorem mw_561 : (Jvm.Cond.code ({ cls := "SplitChannel$Play", name := "counterBehind", desc := "(IZZ)I" } : Jvm.MethodName) prog_6_method_15_code (5 : Nat) (Option.some Jvm.ClassFile.FieldType.int)) ∈ mk_WL := mk_t3 81 rfl rfl
theorem mw_562 : (Jvm.Cond.methodLink "SplitChannel$Play" (179 : Nat) ({ cls := "SplitChannel$Play", name := "nextBit", desc := "(I)I" } : Jvm.MethodName)) ∈ mk_WL := mk_t3 82 rfl rfl
theorem mw_563 : (Jvm.Cond.instanceMethod ({ cls := "SplitChannel$Play", name := "nextBit", desc := "(I)I" } : Jvm.MethodName)) ∈ mk_WL := mk_t3 83 rfl rfl
theorem mw_564 : (Jvm.Cond.selects "SplitChannel$Play" ({ cls := "SplitChannel$Play", name := "nextBit", desc := "(I)I" } : Jvm.MethodName) ({ cls := "SplitChannel$Play", name := "nextBit", desc := "(I)I" } : Jvm.MethodName)) ∈ mk_WL := mk_t3 84 rfl rfl
theorem mw_565 : (Jvm.Cond.code ({ cls := "SplitChannel$Play", name := "nextBit", desc := "(I)I" } : Jvm.MethodName) prog_6_method_11_code (4 : Nat) (Option.some Jvm.ClassFile.FieldType.int)) ∈ mk_WL := mk_t3 85 rfl rfl
theorem mw_566 : (Jvm.Cond.methodLink "SplitChannel$Play" (224 : Nat) ({ cls := "java/lang/Math", name := "max", desc := "(II)I" } : Jvm.MethodName)) ∈ mk_WL := mk_t3 86 rfl rfl
theorem mw_567 : (Jvm.Cond.static ({ cls := "java/lang/Math", name := "max", desc := "(II)I" } : Jvm.MethodName)) ∈ mk_WL := mk_t3 87 rfl rfl
theorem mw_568 : (Jvm.Cond.code ({ cls := "java/lang/Math", name := "max", desc := "(II)I" } : Jvm.MethodName) prog_16_method_65_code (2 : Nat) (Option.some Jvm.ClassFile.FieldType.int)) ∈ mk_WL := mk_t3 88 rfl rfl
theorem mw_569 : (Jvm.Cond.methodLink "SplitChannel$Play" (87 : Nat) ({ cls := "SplitChannel$Play", name := "playByGroups", desc := "(I)V" } : Jvm.MethodName)) ∈ mk_WL := mk_t3 89 rfl rfl
theorem mw_570 : (Jvm.Cond.instanceMethod ({ cls := "SplitChannel$Play", name := "playByGroups", desc := "(I)V" } : Jvm.MethodName)) ∈ mk_WL := mk_t3 90 rfl rfl
theorem mw_571 : (Jvm.Cond.selects "SplitChannel$Play" ({ cls := "SplitChannel$Play", name := "playByGroups", desc := "(I)V" } : Jvm.MethodName) ({ cls := "SplitChannel$Play", name := "playByGroups", desc := "(I)V" } : Jvm.MethodName)) ∈ mk_WL := mk_t3 91 rfl rfl
theorem mw_572 : (Jvm.Cond.code ({ cls := "SplitChannel$Play", name := "playByGroups", desc := "(I)V" } : Jvm.MethodName) prog_6_method_4_code (5 : Nat) (Option.none : Option Jvm.ClassFile.FieldType)) ∈ mk_WL := mk_t3 92 rfl rfl
theorem mw_573 : (Jvm.Cond.methodLink "SplitChannel$Play" (103 : Nat) ({ cls := "SplitChannel$Play", name := "beginEpoch", desc := "(I)V" } : Jvm.MethodName)) ∈ mk_WL := mk_t3 93 rfl rfl
theorem mw_574 : (Jvm.Cond.instanceMethod ({ cls := "SplitChannel$Play", name := "beginEpoch", desc := "(I)V" } : Jvm.MethodName)) ∈ mk_WL := mk_t3 94 rfl rfl
theorem mw_575 : (Jvm.Cond.selects "SplitChannel$Play" ({ cls := "SplitChannel$Play", name := "beginEpoch", desc := "(I)V" } : Jvm.MethodName) ({ cls := "SplitChannel$Play", name := "beginEpoch", desc := "(I)V" } : Jvm.MethodName)) ∈ mk_WL := mk_t3 95 rfl rfl
theorem mw_576 : (Jvm.Cond.code ({ cls := "SplitChannel$Play", name := "beginEpoch", desc := "(I)V" } : Jvm.MethodName) prog_6_method_6_code (5 : Nat) (Option.none : Option Jvm.ClassFile.FieldType)) ∈ mk_WL := mk_t3 96 rfl rfl
theorem mw_577 : (Jvm.Cond.methodLink "SplitChannel$Play" (148 : Nat) ({ cls := "SplitChannel$Play", name := "within", desc := "(III)I" } : Jvm.MethodName)) ∈ mk_WL := mk_t3 97 rfl rfl
theorem mw_578 : (Jvm.Cond.instanceMethod ({ cls := "SplitChannel$Play", name := "within", desc := "(III)I" } : Jvm.MethodName)) ∈ mk_WL := mk_t3 98 rfl rfl
theorem mw_579 : (Jvm.Cond.selects "SplitChannel$Play" ({ cls := "SplitChannel$Play", name := "within", desc := "(III)I" } : Jvm.MethodName) ({ cls := "SplitChannel$Play", name := "within", desc := "(III)I" } : Jvm.MethodName)) ∈ mk_WL := mk_t3 99 rfl rfl
theorem mw_580 : (Jvm.Cond.code ({ cls := "SplitChannel$Play", name := "within", desc := "(III)I" } : Jvm.MethodName) prog_6_method_8_code (7 : Nat) (Option.some Jvm.ClassFile.FieldType.int)) ∈ mk_WL := mk_t3 100 rfl rfl
theorem mw_581 : (Jvm.Cond.methodLink "SplitChannel$Play" (166 : Nat) ({ cls := "SplitChannel$Plan", name := "moment", desc := "(I)I" } : Jvm.MethodName)) ∈ mk_WL := mk_t3 101 rfl rfl
theorem mw_582 : (Jvm.Cond.instanceMethod ({ cls := "SplitChannel$Plan", name := "moment", desc := "(I)I" } : Jvm.MethodName)) ∈ mk_WL := mk_t3 102 rfl rfl
theorem mw_583 : (Jvm.Cond.selects "SplitChannel$Plan" ({ cls := "SplitChannel$Plan", name := "moment", desc := "(I)I" } : Jvm.MethodName) ({ cls := "SplitChannel$Plan", name := "moment", desc := "(I)I" } : Jvm.MethodName)) ∈ mk_WL := mk_t3 103 rfl rfl
theorem mw_584 : (Jvm.Cond.code ({ cls := "SplitChannel$Plan", name := "moment", desc := "(I)I" } : Jvm.MethodName) prog_5_method_12_code (2 : Nat) (Option.some Jvm.ClassFile.FieldType.int)) ∈ mk_WL := mk_t3 104 rfl rfl
theorem mw_585 : (Jvm.Cond.methodLink "SplitChannel$Play" (152 : Nat) ({ cls := "SplitChannel$Stack", name := "push", desc := "(III)V" } : Jvm.MethodName)) ∈ mk_WL := mk_t3 105 rfl rfl
theorem mw_586 : (Jvm.Cond.instanceMethod ({ cls := "SplitChannel$Stack", name := "push", desc := "(III)V" } : Jvm.MethodName)) ∈ mk_WL := mk_t3 106 rfl rfl
theorem mw_587 : (Jvm.Cond.selects "SplitChannel$Stack" ({ cls := "SplitChannel$Stack", name := "push", desc := "(III)V" } : Jvm.MethodName) ({ cls := "SplitChannel$Stack", name := "push", desc := "(III)V" } : Jvm.MethodName)) ∈ mk_WL := mk_t3 107 rfl rfl
theorem mw_588 : (Jvm.Cond.code ({ cls := "SplitChannel$Stack", name := "push", desc := "(III)V" } : Jvm.MethodName) prog_8_method_2_code (4 : Nat) (Option.none : Option Jvm.ClassFile.FieldType)) ∈ mk_WL := mk_t3 108 rfl rfl
theorem mw_590 : (Jvm.Cond.methodLink "SplitChannel$Play" (156 : Nat) ({ cls := "SplitChannel$Course", name := "openEpoch", desc := "(II)V" } : Jvm.MethodName)) ∈ mk_WL := mk_t3 110 rfl rfl
theorem mw_591 : (Jvm.Cond.instanceMethod ({ cls := "SplitChannel$Course", name := "openEpoch", desc := "(II)V" } : Jvm.MethodName)) ∈ mk_WL := mk_t3 111 rfl rfl
theorem mw_592 : (Jvm.Cond.selects "SplitChannel$Course" ({ cls := "SplitChannel$Course", name := "openEpoch", desc := "(II)V" } : Jvm.MethodName) ({ cls := "SplitChannel$Course", name := "openEpoch", desc := "(II)V" } : Jvm.MethodName)) ∈ mk_WL := mk_t3 112 rfl rfl
theorem mw_593 : (Jvm.Cond.code ({ cls := "SplitChannel$Course", name := "openEpoch", desc := "(II)V" } : Jvm.MethodName) prog_3_method_4_code (3 : Nat) (Option.none : Option Jvm.ClassFile.FieldType)) ∈ mk_WL := mk_t3 113 rfl rfl
theorem mw_594 : (Jvm.Cond.methodLink "SplitChannel$Play" (106 : Nat) ({ cls := "SplitChannel$Stack", name := "topWho", desc := "()I" } : Jvm.MethodName)) ∈ mk_WL := mk_t3 114 rfl rfl
theorem mw_595 : (Jvm.Cond.instanceMethod ({ cls := "SplitChannel$Stack", name := "topWho", desc := "()I" } : Jvm.MethodName)) ∈ mk_WL := mk_t3 115 rfl rfl
theorem mw_596 : (Jvm.Cond.selects "SplitChannel$Stack" ({ cls := "SplitChannel$Stack", name := "topWho", desc := "()I" } : Jvm.MethodName) ({ cls := "SplitChannel$Stack", name := "topWho", desc := "()I" } : Jvm.MethodName)) ∈ mk_WL := mk_t3 116 rfl rfl
theorem mw_597 : (Jvm.Cond.code ({ cls := "SplitChannel$Stack", name := "topWho", desc := "()I" } : Jvm.MethodName) prog_8_method_4_code (1 : Nat) (Option.some Jvm.ClassFile.FieldType.int)) ∈ mk_WL := mk_t3 117 rfl rfl
theorem mw_599 : (Jvm.Cond.methodLink "SplitChannel$Play" (114 : Nat) ({ cls := "SplitChannel$Play", name := "splitTop", desc := "()V" } : Jvm.MethodName)) ∈ mk_WL := mk_t3 119 rfl rfl
theorem mw_600 : (Jvm.Cond.instanceMethod ({ cls := "SplitChannel$Play", name := "splitTop", desc := "()V" } : Jvm.MethodName)) ∈ mk_WL := mk_t3 120 rfl rfl
theorem mw_601 : (Jvm.Cond.selects "SplitChannel$Play" ({ cls := "SplitChannel$Play", name := "splitTop", desc := "()V" } : Jvm.MethodName) ({ cls := "SplitChannel$Play", name := "splitTop", desc := "()V" } : Jvm.MethodName)) ∈ mk_WL := mk_t3 121 rfl rfl
theorem mw_602 : (Jvm.Cond.code ({ cls := "SplitChannel$Play", name := "splitTop", desc := "()V" } : Jvm.MethodName) prog_6_method_9_code (6 : Nat) (Option.none : Option Jvm.ClassFile.FieldType)) ∈ mk_WL := mk_t3 122 rfl rfl
theorem mw_603 : (Jvm.Cond.methodLink "SplitChannel$Play" (176 : Nat) ({ cls := "SplitChannel$Play", name := "takeBits", desc := "(I)I" } : Jvm.MethodName)) ∈ mk_WL := mk_t3 123 rfl rfl
theorem mw_604 : (Jvm.Cond.instanceMethod ({ cls := "SplitChannel$Play", name := "takeBits", desc := "(I)I" } : Jvm.MethodName)) ∈ mk_WL := mk_t3 124 rfl rfl
theorem mw_605 : (Jvm.Cond.selects "SplitChannel$Play" ({ cls := "SplitChannel$Play", name := "takeBits", desc := "(I)I" } : Jvm.MethodName) ({ cls := "SplitChannel$Play", name := "takeBits", desc := "(I)I" } : Jvm.MethodName)) ∈ mk_WL := mk_t3 125 rfl rfl
theorem mw_606 : (Jvm.Cond.code ({ cls := "SplitChannel$Play", name := "takeBits", desc := "(I)I" } : Jvm.MethodName) prog_6_method_10_code (4 : Nat) (Option.some Jvm.ClassFile.FieldType.int)) ∈ mk_WL := mk_t3 126 rfl rfl
theorem mw_607 : (Jvm.Cond.methodLink "SplitChannel$Play" (121 : Nat) ({ cls := "SplitChannel$Stack", name := "pop", desc := "()V" } : Jvm.MethodName)) ∈ mk_WL := mk_t3 127 rfl rfl
theorem mw_608 : (Jvm.Cond.instanceMethod ({ cls := "SplitChannel$Stack", name := "pop", desc := "()V" } : Jvm.MethodName)) ∈ mk_WL := mk_t3 128 rfl rfl
theorem mw_609 : (Jvm.Cond.selects "SplitChannel$Stack" ({ cls := "SplitChannel$Stack", name := "pop", desc := "()V" } : Jvm.MethodName) ({ cls := "SplitChannel$Stack", name := "pop", desc := "()V" } : Jvm.MethodName)) ∈ mk_WL := mk_t3 129 rfl rfl
theorem mw_610 : (Jvm.Cond.code ({ cls := "SplitChannel$Stack", name := "pop", desc := "()V" } : Jvm.MethodName) prog_8_method_3_code (1 : Nat) (Option.none : Option Jvm.ClassFile.FieldType)) ∈ mk_WL := mk_t3 130 rfl rfl
theorem mw_611 : (Jvm.Cond.methodLink "SplitChannel$Play" (117 : Nat) ({ cls := "SplitChannel$Play", name := "maySkip", desc := "()Z" } : Jvm.MethodName)) ∈ mk_WL := mk_t3 131 rfl rfl
theorem mw_612 : (Jvm.Cond.instanceMethod ({ cls := "SplitChannel$Play", name := "maySkip", desc := "()Z" } : Jvm.MethodName)) ∈ mk_WL := mk_t3 132 rfl rfl
theorem mw_613 : (Jvm.Cond.selects "SplitChannel$Play" ({ cls := "SplitChannel$Play", name := "maySkip", desc := "()Z" } : Jvm.MethodName) ({ cls := "SplitChannel$Play", name := "maySkip", desc := "()Z" } : Jvm.MethodName)) ∈ mk_WL := mk_t3 133 rfl rfl
theorem mw_614 : (Jvm.Cond.code ({ cls := "SplitChannel$Play", name := "maySkip", desc := "()Z" } : Jvm.MethodName) prog_6_method_5_code (1 : Nat) (Option.some Jvm.ClassFile.FieldType.boolean)) ∈ mk_WL := mk_t3 134 rfl rfl
theorem mw_615 : (Jvm.Cond.methodLink "SplitChannel$Play" (131 : Nat) ({ cls := "SplitChannel$Play", name := "endEpoch", desc := "(I)V" } : Jvm.MethodName)) ∈ mk_WL := mk_t3 135 rfl rfl
theorem mw_616 : (Jvm.Cond.instanceMethod ({ cls := "SplitChannel$Play", name := "endEpoch", desc := "(I)V" } : Jvm.MethodName)) ∈ mk_WL := mk_t3 136 rfl rfl
theorem mw_617 : (Jvm.Cond.selects "SplitChannel$Play" ({ cls := "SplitChannel$Play", name := "endEpoch", desc := "(I)V" } : Jvm.MethodName) ({ cls := "SplitChannel$Play", name := "endEpoch", desc := "(I)V" } : Jvm.MethodName)) ∈ mk_WL := mk_t3 137 rfl rfl
theorem mw_618 : (Jvm.Cond.code ({ cls := "SplitChannel$Play", name := "endEpoch", desc := "(I)V" } : Jvm.MethodName) prog_6_method_7_code (4 : Nat) (Option.none : Option Jvm.ClassFile.FieldType)) ∈ mk_WL := mk_t3 138 rfl rfl
theorem mw_619 : (Jvm.Cond.arrayClass Jvm.ClassFile.FieldType.byte) ∈ mk_WL := mk_t3 139 rfl rfl
theorem mw_620 : (Jvm.Cond.methodLink "SplitChannelLaw" (131 : Nat) ({ cls := "SplitChannel", name := "count", desc := "(I)I" } : Jvm.MethodName)) ∈ mk_WL := mk_t3 140 rfl rfl
theorem mw_621 : (Jvm.Cond.instanceMethod ({ cls := "SplitChannel", name := "count", desc := "(I)I" } : Jvm.MethodName)) ∈ mk_WL := mk_t3 141 rfl rfl
theorem mw_622 : (Jvm.Cond.selects "SplitChannel" ({ cls := "SplitChannel", name := "count", desc := "(I)I" } : Jvm.MethodName) ({ cls := "SplitChannel", name := "count", desc := "(I)I" } : Jvm.MethodName)) ∈ mk_WL := mk_t3 142 rfl rfl
theorem mw_623 : (Jvm.Cond.code ({ cls := "SplitChannel", name := "count", desc := "(I)I" } : Jvm.MethodName) prog_1_method_6_code (2 : Nat) (Option.some Jvm.ClassFile.FieldType.int)) ∈ mk_WL := mk_t3 143 rfl rfl
theorem mw_624 : (Jvm.Cond.methodLink "SplitChannelLaw" (67 : Nat) ({ cls := "SplitChannel", name := "all", desc := "()I" } : Jvm.MethodName)) ∈ mk_WL := mk_t3 144 rfl rfl
theorem mw_625 : (Jvm.Cond.instanceMethod ({ cls := "SplitChannel", name := "all", desc := "()I" } : Jvm.MethodName)) ∈ mk_WL := mk_t3 145 rfl rfl
theorem mw_626 : (Jvm.Cond.selects "SplitChannel" ({ cls := "SplitChannel", name := "all", desc := "()I" } : Jvm.MethodName) ({ cls := "SplitChannel", name := "all", desc := "()I" } : Jvm.MethodName)) ∈ mk_WL := mk_t3 146 rfl rfl
theorem mw_627 : (Jvm.Cond.code ({ cls := "SplitChannel", name := "all", desc := "()I" } : Jvm.MethodName) prog_1_method_14_code (1 : Nat) (Option.some Jvm.ClassFile.FieldType.int)) ∈ mk_WL := mk_t3 147 rfl rfl
theorem mw_628 : (Jvm.Cond.methodLink "SplitChannel" (170 : Nat) ({ cls := "SplitChannel$Plan", name := "stands", desc := "()Z" } : Jvm.MethodName)) ∈ mk_WL := mk_t3 148 rfl rfl
theorem mw_629 : (Jvm.Cond.instanceMethod ({ cls := "SplitChannel$Plan", name := "stands", desc := "()Z" } : Jvm.MethodName)) ∈ mk_WL := mk_t3 149 rfl rfl
theorem mw_630 : (Jvm.Cond.selects "SplitChannel$Plan" ({ cls := "SplitChannel$Plan", name := "stands", desc := "()Z" } : Jvm.MethodName) ({ cls := "SplitChannel$Plan", name := "stands", desc := "()Z" } : Jvm.MethodName)) ∈ mk_WL := mk_t3 150 rfl rfl
theorem mw_631 : (Jvm.Cond.code ({ cls := "SplitChannel$Plan", name := "stands", desc := "()Z" } : Jvm.MethodName) prog_5_method_6_code (1 : Nat) (Option.some Jvm.ClassFile.FieldType.boolean)) ∈ mk_WL := mk_t3 151 rfl rfl
theorem mw_632 : (Jvm.Cond.methodLink "SplitChannelLaw" (70 : Nat) ({ cls := "SplitChannel", name := "done", desc := "()I" } : Jvm.MethodName)) ∈ mk_WL := mk_t3 152 rfl rfl
theorem mw_633 : (Jvm.Cond.instanceMethod ({ cls := "SplitChannel", name := "done", desc := "()I" } : Jvm.MethodName)) ∈ mk_WL := mk_t3 153 rfl rfl
theorem mw_634 : (Jvm.Cond.selects "SplitChannel" ({ cls := "SplitChannel", name := "done", desc := "()I" } : Jvm.MethodName) ({ cls := "SplitChannel", name := "done", desc := "()I" } : Jvm.MethodName)) ∈ mk_WL := mk_t3 154 rfl rfl
theorem mw_635 : (Jvm.Cond.code ({ cls := "SplitChannel", name := "done", desc := "()I" } : Jvm.MethodName) prog_1_method_15_code (1 : Nat) (Option.some Jvm.ClassFile.FieldType.int)) ∈ mk_WL := mk_t3 155 rfl rfl
theorem mw_636 : (Jvm.Cond.methodLink "SplitChannel" (179 : Nat) ({ cls := "SplitChannel$Course", name := "lastSlot", desc := "(I)I" } : Jvm.MethodName)) ∈ mk_WL := mk_t3 156 rfl rfl
theorem mw_637 : (Jvm.Cond.instanceMethod ({ cls := "SplitChannel$Course", name := "lastSlot", desc := "(I)I" } : Jvm.MethodName)) ∈ mk_WL := mk_t3 157 rfl rfl
theorem mw_638 : (Jvm.Cond.selects "SplitChannel$Course" ({ cls := "SplitChannel$Course", name := "lastSlot", desc := "(I)I" } : Jvm.MethodName) ({ cls := "SplitChannel$Course", name := "lastSlot", desc := "(I)I" } : Jvm.MethodName)) ∈ mk_WL := mk_t3 158 rfl rfl
theorem mw_639 : (Jvm.Cond.code ({ cls := "SplitChannel$Course", name := "lastSlot", desc := "(I)I" } : Jvm.MethodName) prog_3_method_5_code (2 : Nat) (Option.some Jvm.ClassFile.FieldType.int)) ∈ mk_WL := mk_t3 159 rfl rfl
theorem mw_641 : (Jvm.Cond.methodLink "SplitChannelLaw" (73 : Nat) ({ cls := "SplitChannel", name := "collided", desc := "()I" } : Jvm.MethodName)) ∈ mk_WL := mk_t3 161 rfl rfl
theorem mw_642 : (Jvm.Cond.instanceMethod ({ cls := "SplitChannel", name := "collided", desc := "()I" } : Jvm.MethodName)) ∈ mk_WL := mk_t3 162 rfl rfl
theorem mw_643 : (Jvm.Cond.selects "SplitChannel" ({ cls := "SplitChannel", name := "collided", desc := "()I" } : Jvm.MethodName) ({ cls := "SplitChannel", name := "collided", desc := "()I" } : Jvm.MethodName)) ∈ mk_WL := mk_t3 163 rfl rfl
theorem mw_644 : (Jvm.Cond.code ({ cls := "SplitChannel", name := "collided", desc := "()I" } : Jvm.MethodName) prog_1_method_17_code (1 : Nat) (Option.some Jvm.ClassFile.FieldType.int)) ∈ mk_WL := mk_t3 164 rfl rfl
theorem mw_645 : (Jvm.Cond.methodLink "SplitChannel" (185 : Nat) ({ cls := "SplitChannel$Course", name := "collisions", desc := "(I)I" } : Jvm.MethodName)) ∈ mk_WL := mk_t3 165 rfl rfl
theorem mw_646 : (Jvm.Cond.instanceMethod ({ cls := "SplitChannel$Course", name := "collisions", desc := "(I)I" } : Jvm.MethodName)) ∈ mk_WL := mk_t3 166 rfl rfl
theorem mw_647 : (Jvm.Cond.selects "SplitChannel$Course" ({ cls := "SplitChannel$Course", name := "collisions", desc := "(I)I" } : Jvm.MethodName) ({ cls := "SplitChannel$Course", name := "collisions", desc := "(I)I" } : Jvm.MethodName)) ∈ mk_WL := mk_t3 167 rfl rfl
theorem mw_648 : (Jvm.Cond.code ({ cls := "SplitChannel$Course", name := "collisions", desc := "(I)I" } : Jvm.MethodName) prog_3_method_7_code (4 : Nat) (Option.some Jvm.ClassFile.FieldType.int)) ∈ mk_WL := mk_t3 168 rfl rfl
theorem mw_649 : (Jvm.Cond.methodLink "SplitChannel$Course" (69 : Nat) ({ cls := "java/lang/Integer", name := "bitCount", desc := "(I)I" } : Jvm.MethodName)) ∈ mk_WL := mk_t3 169 rfl rfl
theorem mw_650 : (Jvm.Cond.methodLink "SplitChannelLaw" (76 : Nat) ({ cls := "SplitChannel", name := "skips", desc := "()I" } : Jvm.MethodName)) ∈ mk_WL := mk_t3 170 rfl rfl
theorem mw_651 : (Jvm.Cond.instanceMethod ({ cls := "SplitChannel", name := "skips", desc := "()I" } : Jvm.MethodName)) ∈ mk_WL := mk_t3 171 rfl rfl
theorem mw_652 : (Jvm.Cond.selects "SplitChannel" ({ cls := "SplitChannel", name := "skips", desc := "()I" } : Jvm.MethodName) ({ cls := "SplitChannel", name := "skips", desc := "()I" } : Jvm.MethodName)) ∈ mk_WL := mk_t3 172 rfl rfl
theorem mw_653 : (Jvm.Cond.code ({ cls := "SplitChannel", name := "skips", desc := "()I" } : Jvm.MethodName) prog_1_method_18_code (1 : Nat) (Option.some Jvm.ClassFile.FieldType.int)) ∈ mk_WL := mk_t3 173 rfl rfl
theorem mw_654 : (Jvm.Cond.methodLink "SplitChannel" (188 : Nat) ({ cls := "SplitChannel$Course", name := "skipsMade", desc := "(I)I" } : Jvm.MethodName)) ∈ mk_WL := mk_t3 174 rfl rfl
theorem mw_655 : (Jvm.Cond.instanceMethod ({ cls := "SplitChannel$Course", name := "skipsMade", desc := "(I)I" } : Jvm.MethodName)) ∈ mk_WL := mk_t3 175 rfl rfl
theorem mw_656 : (Jvm.Cond.selects "SplitChannel$Course" ({ cls := "SplitChannel$Course", name := "skipsMade", desc := "(I)I" } : Jvm.MethodName) ({ cls := "SplitChannel$Course", name := "skipsMade", desc := "(I)I" } : Jvm.MethodName)) ∈ mk_WL := mk_t3 176 rfl rfl
theorem mw_657 : (Jvm.Cond.code ({ cls := "SplitChannel$Course", name := "skipsMade", desc := "(I)I" } : Jvm.MethodName) prog_3_method_8_code (4 : Nat) (Option.some Jvm.ClassFile.FieldType.int)) ∈ mk_WL := mk_t3 177 rfl rfl
theorem mw_658 : (Jvm.Cond.methodLink "SplitChannelLaw" (122 : Nat) ({ cls := "SplitChannel", name := "by", desc := "(II)I" } : Jvm.MethodName)) ∈ mk_WL := mk_t3 178 rfl rfl
theorem mw_659 : (Jvm.Cond.instanceMethod ({ cls := "SplitChannel", name := "by", desc := "(II)I" } : Jvm.MethodName)) ∈ mk_WL := mk_t3 179 rfl rfl
theorem mw_660 : (Jvm.Cond.selects "SplitChannel" ({ cls := "SplitChannel", name := "by", desc := "(II)I" } : Jvm.MethodName) ({ cls := "SplitChannel", name := "by", desc := "(II)I" } : Jvm.MethodName)) ∈ mk_WL := mk_t3 180 rfl rfl
theorem mw_661 : (Jvm.Cond.code ({ cls := "SplitChannel", name := "by", desc := "(II)I" } : Jvm.MethodName) prog_1_method_23_code (3 : Nat) (Option.some Jvm.ClassFile.FieldType.int)) ∈ mk_WL := mk_t3 181 rfl rfl
theorem mw_662 : (Jvm.Cond.methodLink "SplitChannel" (206 : Nat) ({ cls := "SplitChannel", name := "isLaw", desc := "(I)Z" } : Jvm.MethodName)) ∈ mk_WL := mk_t3 182 rfl rfl
theorem mw_663 : (Jvm.Cond.static ({ cls := "SplitChannel", name := "isLaw", desc := "(I)Z" } : Jvm.MethodName)) ∈ mk_WL := mk_t3 183 rfl rfl
theorem mw_664 : (Jvm.Cond.code ({ cls := "SplitChannel", name := "isLaw", desc := "(I)Z" } : Jvm.MethodName) prog_1_method_37_code (1 : Nat) (Option.some Jvm.ClassFile.FieldType.boolean)) ∈ mk_WL := mk_t3 184 rfl rfl
theorem mw_665 : (Jvm.Cond.methodLink "SplitChannelLaw" (125 : Nat) ({ cls := "SplitChannel", name := "rule", desc := "(I)I" } : Jvm.MethodName)) ∈ mk_WL := mk_t3 185 rfl rfl
theorem mw_666 : (Jvm.Cond.instanceMethod ({ cls := "SplitChannel", name := "rule", desc := "(I)I" } : Jvm.MethodName)) ∈ mk_WL := mk_t3 186 rfl rfl
theorem mw_667 : (Jvm.Cond.selects "SplitChannel" ({ cls := "SplitChannel", name := "rule", desc := "(I)I" } : Jvm.MethodName) ({ cls := "SplitChannel", name := "rule", desc := "(I)I" } : Jvm.MethodName)) ∈ mk_WL := mk_t3 187 rfl rfl
theorem mw_668 : (Jvm.Cond.code ({ cls := "SplitChannel", name := "rule", desc := "(I)I" } : Jvm.MethodName) prog_1_method_34_code (2 : Nat) (Option.some Jvm.ClassFile.FieldType.int)) ∈ mk_WL := mk_t3 188 rfl rfl
theorem mw_669 : (Jvm.Cond.methodLink "SplitChannel" (257 : Nat) ({ cls := "SplitChannel$Acts", name := "note", desc := "(II)V" } : Jvm.MethodName)) ∈ mk_WL := mk_t3 189 rfl rfl
theorem mw_670 : (Jvm.Cond.instanceMethod ({ cls := "SplitChannel$Acts", name := "note", desc := "(II)V" } : Jvm.MethodName)) ∈ mk_WL := mk_t3 190 rfl rfl
theorem mw_671 : (Jvm.Cond.selects "SplitChannel$Acts" ({ cls := "SplitChannel$Acts", name := "note", desc := "(II)V" } : Jvm.MethodName) ({ cls := "SplitChannel$Acts", name := "note", desc := "(II)V" } : Jvm.MethodName)) ∈ mk_WL := mk_t3 191 rfl rfl
theorem mw_672 : (Jvm.Cond.code ({ cls := "SplitChannel$Acts", name := "note", desc := "(II)V" } : Jvm.MethodName) prog_2_method_2_code (3 : Nat) (Option.none : Option Jvm.ClassFile.FieldType)) ∈ mk_WL := mk_t3 192 rfl rfl
theorem mw_674 : (Jvm.Cond.methodLink "SplitChannelLaw" (128 : Nat) ({ cls := "SplitChannel", name := "undo", desc := "()I" } : Jvm.MethodName)) ∈ mk_WL := mk_t3 194 rfl rfl
theorem mw_675 : (Jvm.Cond.instanceMethod ({ cls := "SplitChannel", name := "undo", desc := "()I" } : Jvm.MethodName)) ∈ mk_WL := mk_t3 195 rfl rfl
theorem mw_676 : (Jvm.Cond.selects "SplitChannel" ({ cls := "SplitChannel", name := "undo", desc := "()I" } : Jvm.MethodName) ({ cls := "SplitChannel", name := "undo", desc := "()I" } : Jvm.MethodName)) ∈ mk_WL := mk_t3 196 rfl rfl
theorem mw_677 : (Jvm.Cond.code ({ cls := "SplitChannel", name := "undo", desc := "()I" } : Jvm.MethodName) prog_1_method_35_code (1 : Nat) (Option.some Jvm.ClassFile.FieldType.int)) ∈ mk_WL := mk_t3 197 rfl rfl
theorem mw_678 : (Jvm.Cond.methodLink "SplitChannel" (267 : Nat) ({ cls := "SplitChannel$Acts", name := "takeBack", desc := "(LSplitChannel$Plan;)V" } : Jvm.MethodName)) ∈ mk_WL := mk_t3 198 rfl rfl
theorem mw_679 : (Jvm.Cond.instanceMethod ({ cls := "SplitChannel$Acts", name := "takeBack", desc := "(LSplitChannel$Plan;)V" } : Jvm.MethodName)) ∈ mk_WL := mk_t3 199 rfl rfl
theorem mw_680 : (Jvm.Cond.selects "SplitChannel$Acts" ({ cls := "SplitChannel$Acts", name := "takeBack", desc := "(LSplitChannel$Plan;)V" } : Jvm.MethodName) ({ cls := "SplitChannel$Acts", name := "takeBack", desc := "(LSplitChannel$Plan;)V" } : Jvm.MethodName)) ∈ mk_WL := mk_t3 200 rfl rfl
theorem mw_681 : (Jvm.Cond.code ({ cls := "SplitChannel$Acts", name := "takeBack", desc := "(LSplitChannel$Plan;)V" } : Jvm.MethodName) prog_2_method_3_code (3 : Nat) (Option.none : Option Jvm.ClassFile.FieldType)) ∈ mk_WL := mk_t3 201 rfl rfl
theorem mw_683 : (Jvm.Cond.classLink "SplitChannelLaw" (29 : Nat) "SplitChannelLaw$Channel") ∈ mk_WL := mk_t3 203 rfl rfl
theorem mw_684 : (Jvm.Cond.instantiable "SplitChannelLaw$Channel" (9 : Nat)) ∈ mk_WL := mk_t3 204 rfl rfl
theorem mw_685 : (Jvm.Cond.methodLink "SplitChannelLaw" (93 : Nat) ({ cls := "SplitChannelLaw$Channel", name := "<init>", desc := "([IZ)V" } : Jvm.MethodName)) ∈ mk_WL := mk_t3 205 rfl rfl
theorem mw_686 : (Jvm.Cond.instanceMethod ({ cls := "SplitChannelLaw$Channel", name := "<init>", desc := "([IZ)V" } : Jvm.MethodName)) ∈ mk_WL := mk_t3 206 rfl rfl
theorem mw_687 : (Jvm.Cond.code ({ cls := "SplitChannelLaw$Channel", name := "<init>", desc := "([IZ)V" } : Jvm.MethodName) prog_11_method_1_code (7 : Nat) (Option.none : Option Jvm.ClassFile.FieldType)) ∈ mk_WL := mk_t3 207 rfl rfl
theorem mw_688 : (Jvm.Cond.methodLink "SplitChannelLaw$Channel" (1 : Nat) ({ cls := "java/lang/Object", name := "<init>", desc := "()V" } : Jvm.MethodName)) ∈ mk_WL := mk_t3 208 rfl rfl
theorem mw_690 : (Jvm.Cond.static ({ cls := "SplitChannelLaw", name := "cell", desc := "([II)I" } : Jvm.MethodName)) ∈ mk_WL := mk_t3 210 rfl rfl
theorem mw_691 : (Jvm.Cond.code ({ cls := "SplitChannelLaw", name := "cell", desc := "([II)I" } : Jvm.MethodName) method_2_code (2 : Nat) (Option.some Jvm.ClassFile.FieldType.int)) ∈ mk_WL := mk_t3 211 rfl rfl
theorem mw_692 : (Jvm.Cond.constant "SplitChannelLaw" (7 : Nat) (2147483647 : Int32)) ∈ mk_WL := mk_t3 212 rfl rfl
theorem mw_693 : (Jvm.Cond.classLink "SplitChannelLaw$Channel" (32 : Nat) "java/lang/String") ∈ mk_WL := mk_t3 213 rfl rfl
theorem mw_695 : (Jvm.Cond.classLink "SplitChannelLaw$Channel" (44 : Nat) "java/lang/StringBuilder") ∈ mk_WL := mk_t3 215 rfl rfl
theorem mw_696 : (Jvm.Cond.instantiable "java/lang/StringBuilder" (4 : Nat)) ∈ mk_WL := mk_t3 216 rfl rfl
theorem mw_697 : (Jvm.Cond.methodLink "SplitChannelLaw$Channel" (46 : Nat) ({ cls := "java/lang/StringBuilder", name := "<init>", desc := "()V" } : Jvm.MethodName)) ∈ mk_WL := mk_t3 217 rfl rfl
theorem mw_698 : (Jvm.Cond.instanceMethod ({ cls := "java/lang/StringBuilder", name := "<init>", desc := "()V" } : Jvm.MethodName)) ∈ mk_WL := mk_t3 218 rfl rfl
theorem mw_699 : (Jvm.Cond.code ({ cls := "java/lang/StringBuilder", name := "<init>", desc := "()V" } : Jvm.MethodName) prog_19_method_1_code (1 : Nat) (Option.none : Option Jvm.ClassFile.FieldType)) ∈ mk_WL := mk_t3 219 rfl rfl
theorem mw_700 : (Jvm.Cond.methodLink "java/lang/StringBuilder" (1 : Nat) ({ cls := "java/lang/AbstractStringBuilder", name := "<init>", desc := "(I)V" } : Jvm.MethodName)) ∈ mk_WL := mk_t3 220 rfl rfl
theorem mw_701 : (Jvm.Cond.instanceMethod ({ cls := "java/lang/AbstractStringBuilder", name := "<init>", desc := "(I)V" } : Jvm.MethodName)) ∈ mk_WL := mk_t3 221 rfl rfl
theorem mw_702 : (Jvm.Cond.code ({ cls := "java/lang/AbstractStringBuilder", name := "<init>", desc := "(I)V" } : Jvm.MethodName) prog_13_method_2_code (2 : Nat) (Option.none : Option Jvm.ClassFile.FieldType)) ∈ mk_WL := mk_t3 222 rfl rfl
theorem mw_703 : (Jvm.Cond.methodLink "java/lang/AbstractStringBuilder" (3 : Nat) ({ cls := "java/lang/Object", name := "<init>", desc := "()V" } : Jvm.MethodName)) ∈ mk_WL := mk_t3 223 rfl rfl
theorem mw_704 : (Jvm.Cond.fieldLink "java/lang/AbstractStringBuilder" (18 : Nat) "java/lang/String" "COMPACT_STRINGS" "Z") ∈ mk_WL := mk_t3 224 rfl rfl
theorem mw_705 : (Jvm.Cond.methodLink "java/lang/AbstractStringBuilder" (26 : Nat) ({ cls := "java/lang/StringUTF16", name := "newBytesFor", desc := "(I)[B" } : Jvm.MethodName)) ∈ mk_WL := mk_t3 225 rfl rfl
theorem mw_706 : (Jvm.Cond.static ({ cls := "java/lang/StringUTF16", name := "newBytesFor", desc := "(I)[B" } : Jvm.MethodName)) ∈ mk_WL := mk_t3 226 rfl rfl
theorem mw_707 : (Jvm.Cond.code ({ cls := "java/lang/StringUTF16", name := "newBytesFor", desc := "(I)[B" } : Jvm.MethodName) prog_21_method_2_code (1 : Nat) (Option.some (Jvm.ClassFile.FieldType.array Jvm.ClassFile.FieldType.byte))) ∈ mk_WL := mk_t3 227 rfl rfl
theorem mw_708 : (Jvm.Cond.methodLink "java/lang/StringUTF16" (11 : Nat) ({ cls := "java/lang/StringUTF16", name := "newBytesLength", desc := "(I)I" } : Jvm.MethodName)) ∈ mk_WL := mk_t3 228 rfl rfl
theorem mw_709 : (Jvm.Cond.static ({ cls := "java/lang/StringUTF16", name := "newBytesLength", desc := "(I)I" } : Jvm.MethodName)) ∈ mk_WL := mk_t3 229 rfl rfl
theorem mw_710 : (Jvm.Cond.code ({ cls := "java/lang/StringUTF16", name := "newBytesLength", desc := "(I)I" } : Jvm.MethodName) prog_21_method_3_code (1 : Nat) (Option.some Jvm.ClassFile.FieldType.int)) ∈ mk_WL := mk_t3 230 rfl rfl
theorem mw_711 : (Jvm.Cond.constant "java/lang/StringUTF16" (20 : Nat) (1073741823 : Int32)) ∈ mk_WL := mk_t3 231 rfl rfl
theorem mw_712 : (Jvm.Cond.fieldLink "java/lang/AbstractStringBuilder" (15 : Nat) "java/lang/AbstractStringBuilder" "value" "[B") ∈ mk_WL := mk_t3 232 rfl rfl
theorem mw_713 : (Jvm.Cond.fieldLink "java/lang/AbstractStringBuilder" (22 : Nat) "java/lang/AbstractStringBuilder" "coder" "B") ∈ mk_WL := mk_t3 233 rfl rfl
theorem mw_714 : (Jvm.Cond.fieldLink "java/lang/String" (1048 : Nat) "java/lang/AbstractStringBuilder" "maybeLatin1" "Z") ∈ mk_WL := mk_t3 234 rfl rfl
theorem mw_715 : (Jvm.Cond.fieldLink "java/lang/AbstractStringBuilder" (79 : Nat) "java/lang/AbstractStringBuilder" "count" "I") ∈ mk_WL := mk_t3 235 rfl rfl
theorem mw_716 : (Jvm.Cond.lays "java/lang/StringBuilder" "java/lang/AbstractStringBuilder" "value" "[B") ∈ mk_WL := mk_t3 236 rfl rfl
theorem mw_718 : (Jvm.Cond.lays "java/lang/StringBuilder" "java/lang/AbstractStringBuilder" "coder" "B") ∈ mk_WL := mk_t3 238 rfl rfl
theorem mw_720 : (Jvm.Cond.lays "java/lang/StringBuilder" "java/lang/AbstractStringBuilder" "maybeLatin1" "Z") ∈ mk_WL := mk_t4 0 rfl rfl
theorem mw_722 : (Jvm.Cond.lays "java/lang/StringBuilder" "java/lang/AbstractStringBuilder" "count" "I") ∈ mk_WL := mk_t4 2 rfl rfl
theorem mw_724 : (Jvm.Cond.superclass "java/lang/StringBuilder" "java/lang/AbstractStringBuilder") ∈ mk_WL := mk_t4 4 rfl rfl
theorem mw_726 : (Jvm.Cond.methodLink "SplitChannelLaw$Channel" (49 : Nat) ({ cls := "java/lang/StringBuilder", name := "append", desc := "(Ljava/lang/String;)Ljava/lang/StringBuilder;" } : Jvm.MethodName)) ∈ mk_WL := mk_t4 6 rfl rfl
theorem mw_727 : (Jvm.Cond.instanceMethod ({ cls := "java/lang/StringBuilder", name := "append", desc := "(Ljava/lang/String;)Ljava/lang/StringBuilder;" } : Jvm.MethodName)) ∈ mk_WL := mk_t4 7 rfl rfl
theorem mw_728 : (Jvm.Cond.selects "java/lang/StringBuilder" ({ cls := "java/lang/StringBuilder", name := "append", desc := "(Ljava/lang/String;)Ljava/lang/StringBuilder;" } : Jvm.MethodName) ({ cls := "java/lang/StringBuilder", name := "append", desc := "(Ljava/lang/String;)Ljava/lang/StringBuilder;" } : Jvm.MethodName)) ∈ mk_WL := mk_t4 8 rfl rfl
theorem mw_729 : (Jvm.Cond.code ({ cls := "java/lang/StringBuilder", name := "append", desc := "(Ljava/lang/String;)Ljava/lang/StringBuilder;" } : Jvm.MethodName) prog_19_method_7_code (2 : Nat) (Option.some (Jvm.ClassFile.FieldType.object "java/lang/StringBuilder"))) ∈ mk_WL := mk_t4 9 rfl rfl
theorem mw_730 : (Jvm.Cond.methodLink "java/lang/StringBuilder" (29 : Nat) ({ cls := "java/lang/AbstractStringBuilder", name := "append", desc := "(Ljava/lang/String;)Ljava/lang/AbstractStringBuilder;" } : Jvm.MethodName)) ∈ mk_WL := mk_t4 10 rfl rfl
theorem mw_731 : (Jvm.Cond.instanceMethod ({ cls := "java/lang/AbstractStringBuilder", name := "append", desc := "(Ljava/lang/String;)Ljava/lang/AbstractStringBuilder;" } : Jvm.MethodName)) ∈ mk_WL := mk_t4 11 rfl rfl
theorem mw_732 : (Jvm.Cond.code ({ cls := "java/lang/AbstractStringBuilder", name := "append", desc := "(Ljava/lang/String;)Ljava/lang/AbstractStringBuilder;" } : Jvm.MethodName) prog_13_method_22_code (3 : Nat) (Option.some (Jvm.ClassFile.FieldType.object "java/lang/AbstractStringBuilder"))) ∈ mk_WL := mk_t4 12 rfl rfl
theorem mw_733 : (Jvm.Cond.methodLink "java/lang/AbstractStringBuilder" (204 : Nat) ({ cls := "java/lang/AbstractStringBuilder", name := "appendNull", desc := "()Ljava/lang/AbstractStringBuilder;" } : Jvm.MethodName)) ∈ mk_WL := mk_t4 13 rfl rfl
theorem mw_735 : (Jvm.Cond.instanceMethod ({ cls := "java/lang/AbstractStringBuilder", name := "appendNull", desc := "()Ljava/lang/AbstractStringBuilder;" } : Jvm.MethodName)) ∈ mk_WL := mk_t4 15 rfl rfl
theorem mw_736 : (Jvm.Cond.code ({ cls := "java/lang/AbstractStringBuilder", name := "appendNull", desc := "()Ljava/lang/AbstractStringBuilder;" } : Jvm.MethodName) prog_13_method_26_code (3 : Nat) (Option.some (Jvm.ClassFile.FieldType.object "java/lang/AbstractStringBuilder"))) ∈ mk_WL := mk_t4 16 rfl rfl
theorem mw_737 : (Jvm.Cond.methodLink "java/lang/AbstractStringBuilder" (100 : Nat) ({ cls := "java/lang/AbstractStringBuilder", name := "ensureCapacityInternal", desc := "(I)V" } : Jvm.MethodName)) ∈ mk_WL := mk_t4 17 rfl rfl
theorem mw_739 : (Jvm.Cond.instanceMethod ({ cls := "java/lang/AbstractStringBuilder", name := "ensureCapacityInternal", desc := "(I)V" } : Jvm.MethodName)) ∈ mk_WL := mk_t4 19 rfl rfl
theorem mw_740 : (Jvm.Cond.code ({ cls := "java/lang/AbstractStringBuilder", name := "ensureCapacityInternal", desc := "(I)V" } : Jvm.MethodName) prog_13_method_9_code (3 : Nat) (Option.none : Option Jvm.ClassFile.FieldType)) ∈ mk_WL := mk_t4 20 rfl rfl
theorem mw_741 : (Jvm.Cond.methodLink "java/lang/AbstractStringBuilder" (104 : Nat) ({ cls := "java/lang/AbstractStringBuilder", name := "newCapacity", desc := "(I)I" } : Jvm.MethodName)) ∈ mk_WL := mk_t4 21 rfl rfl
theorem mw_743 : (Jvm.Cond.instanceMethod ({ cls := "java/lang/AbstractStringBuilder", name := "newCapacity", desc := "(I)I" } : Jvm.MethodName)) ∈ mk_WL := mk_t4 23 rfl rfl
theorem mw_744 : (Jvm.Cond.code ({ cls := "java/lang/AbstractStringBuilder", name := "newCapacity", desc := "(I)I" } : Jvm.MethodName) prog_13_method_10_code (6 : Nat) (Option.some Jvm.ClassFile.FieldType.int)) ∈ mk_WL := mk_t4 24 rfl rfl
theorem mw_745 : (Jvm.Cond.methodLink "java/lang/AbstractStringBuilder" (114 : Nat) ({ cls := "jdk/internal/util/ArraysSupport", name := "newLength", desc := "(III)I" } : Jvm.MethodName)) ∈ mk_WL := mk_t4 25 rfl rfl
theorem mw_746 : (Jvm.Cond.static ({ cls := "jdk/internal/util/ArraysSupport", name := "newLength", desc := "(III)I" } : Jvm.MethodName)) ∈ mk_WL := mk_t4 26 rfl rfl
theorem mw_747 : (Jvm.Cond.code ({ cls := "jdk/internal/util/ArraysSupport", name := "newLength", desc := "(III)I" } : Jvm.MethodName) prog_24_method_27_code (4 : Nat) (Option.some Jvm.ClassFile.FieldType.int)) ∈ mk_WL := mk_t4 27 rfl rfl
theorem mw_748 : (Jvm.Cond.methodLink "jdk/internal/util/ArraysSupport" (194 : Nat) ({ cls := "java/lang/Math", name := "max", desc := "(II)I" } : Jvm.MethodName)) ∈ mk_WL := mk_t4 28 rfl rfl
theorem mw_749 : (Jvm.Cond.constant "jdk/internal/util/ArraysSupport" (200 : Nat) (2147483639 : Int32)) ∈ mk_WL := mk_t4 29 rfl rfl
theorem mw_750 : (Jvm.Cond.methodLink "jdk/internal/util/ArraysSupport" (201 : Nat) ({ cls := "jdk/internal/util/ArraysSupport", name := "hugeLength", desc := "(II)I" } : Jvm.MethodName)) ∈ mk_WL := mk_t4 30 rfl rfl
theorem mw_751 : (Jvm.Cond.static ({ cls := "jdk/internal/util/ArraysSupport", name := "hugeLength", desc := "(II)I" } : Jvm.MethodName)) ∈ mk_WL := mk_t4 31 rfl rfl
theorem mw_752 : (Jvm.Cond.code ({ cls := "jdk/internal/util/ArraysSupport", name := "hugeLength", desc := "(II)I" } : Jvm.MethodName) prog_24_method_28_code (3 : Nat) (Option.some Jvm.ClassFile.FieldType.int)) ∈ mk_WL := mk_t4 32 rfl rfl
theorem mw_753 : (Jvm.Cond.constant "java/lang/AbstractStringBuilder" (39 : Nat) (2147483647 : Int32)) ∈ mk_WL := mk_t4 33 rfl rfl
theorem mw_754 : (Jvm.Cond.methodLink "java/lang/AbstractStringBuilder" (108 : Nat) ({ cls := "java/util/Arrays", name := "copyOf", desc := "([BI)[B" } : Jvm.MethodName)) ∈ mk_WL := mk_t4 34 rfl rfl
theorem mw_755 : (Jvm.Cond.static ({ cls := "java/util/Arrays", name := "copyOf", desc := "([BI)[B" } : Jvm.MethodName)) ∈ mk_WL := mk_t4 35 rfl rfl
theorem mw_756 : (Jvm.Cond.code ({ cls := "java/util/Arrays", name := "copyOf", desc := "([BI)[B" } : Jvm.MethodName) prog_23_method_121_code (3 : Nat) (Option.some (Jvm.ClassFile.FieldType.array Jvm.ClassFile.FieldType.byte))) ∈ mk_WL := mk_t4 36 rfl rfl
theorem mw_757 : (Jvm.Cond.methodLink "java/util/Arrays" (310 : Nat) ({ cls := "[B", name := "clone", desc := "()Ljava/lang/Object;" } : Jvm.MethodName)) ∈ mk_WL := mk_t4 37 rfl rfl
theorem mw_758 : (Jvm.Cond.sameMethod "[B" "java/lang/Object" "clone" "()Ljava/lang/Object;") ∈ mk_WL := mk_t4 38 rfl rfl
theorem mw_759 : (Jvm.Cond.native ({ cls := "java/lang/Object", name := "clone", desc := "()Ljava/lang/Object;" } : Jvm.MethodName)) ∈ mk_WL := mk_t4 39 rfl rfl
theorem mw_760 : (Jvm.Cond.instanceMethod ({ cls := "java/lang/Object", name := "clone", desc := "()Ljava/lang/Object;" } : Jvm.MethodName)) ∈ mk_WL := mk_t4 40 rfl rfl
theorem mw_761 : (Jvm.Cond.selects "[B" ({ cls := "[B", name := "clone", desc := "()Ljava/lang/Object;" } : Jvm.MethodName) ({ cls := "java/lang/Object", name := "clone", desc := "()Ljava/lang/Object;" } : Jvm.MethodName)) ∈ mk_WL := mk_t4 41 rfl rfl
theorem mw_763 : (Jvm.Cond.classLink "java/util/Arrays" (311 : Nat) "[B") ∈ mk_WL := mk_t4 43 rfl rfl
theorem mw_764 : (Jvm.Cond.methodLink "java/util/Arrays" (304 : Nat) ({ cls := "java/lang/Math", name := "min", desc := "(II)I" } : Jvm.MethodName)) ∈ mk_WL := mk_t4 44 rfl rfl
theorem mw_765 : (Jvm.Cond.methodLink "java/util/Arrays" (150 : Nat) ({ cls := "java/lang/System", name := "arraycopy", desc := "(Ljava/lang/Object;ILjava/lang/Object;II)V" } : Jvm.MethodName)) ∈ mk_WL := mk_t4 45 rfl rfl
theorem mw_766 : (Jvm.Cond.static ({ cls := "java/lang/System", name := "arraycopy", desc := "(Ljava/lang/Object;ILjava/lang/Object;II)V" } : Jvm.MethodName)) ∈ mk_WL := mk_t4 46 rfl rfl
theorem mw_767 : (Jvm.Cond.native ({ cls := "java/lang/System", name := "arraycopy", desc := "(Ljava/lang/Object;ILjava/lang/Object;II)V" } : Jvm.MethodName)) ∈ mk_WL := mk_t4 47 rfl rfl
theorem mw_768 : (Jvm.Cond.methodLink "java/lang/AbstractStringBuilder" (83 : Nat) ({ cls := "java/lang/AbstractStringBuilder", name := "isLatin1", desc := "()Z" } : Jvm.MethodName)) ∈ mk_WL := mk_t4 48 rfl rfl
theorem mw_769 : (Jvm.Cond.instanceMethod ({ cls := "java/lang/AbstractStringBuilder", name := "isLatin1", desc := "()Z" } : Jvm.MethodName)) ∈ mk_WL := mk_t4 49 rfl rfl
theorem mw_770 : (Jvm.Cond.sameMethod "java/lang/AbstractStringBuilder" "java/lang/AbstractStringBuilder" "isLatin1" "()Z") ∈ mk_WL := mk_t4 50 rfl rfl
theorem mw_771 : (Jvm.Cond.selects "java/lang/StringBuilder" ({ cls := "java/lang/AbstractStringBuilder", name := "isLatin1", desc := "()Z" } : Jvm.MethodName) ({ cls := "java/lang/AbstractStringBuilder", name := "isLatin1", desc := "()Z" } : Jvm.MethodName)) ∈ mk_WL := mk_t4 51 rfl rfl
theorem mw_772 : (Jvm.Cond.code ({ cls := "java/lang/AbstractStringBuilder", name := "isLatin1", desc := "()Z" } : Jvm.MethodName) prog_13_method_68_code (1 : Nat) (Option.some Jvm.ClassFile.FieldType.boolean)) ∈ mk_WL := mk_t4 52 rfl rfl
theorem mw_773 : (Jvm.Cond.methodLink "java/lang/AbstractStringBuilder" (226 : Nat) ({ cls := "java/lang/StringUTF16", name := "putCharsAt", desc := "([BICCCC)I" } : Jvm.MethodName)) ∈ mk_WL := mk_t4 53 rfl rfl
theorem mw_774 : (Jvm.Cond.static ({ cls := "java/lang/StringUTF16", name := "putCharsAt", desc := "([BICCCC)I" } : Jvm.MethodName)) ∈ mk_WL := mk_t4 54 rfl rfl
theorem mw_775 : (Jvm.Cond.code ({ cls := "java/lang/StringUTF16", name := "putCharsAt", desc := "([BICCCC)I" } : Jvm.MethodName) prog_21_method_81_code (7 : Nat) (Option.some Jvm.ClassFile.FieldType.int)) ∈ mk_WL := mk_t4 55 rfl rfl
theorem mw_776 : (Jvm.Cond.methodLink "java/lang/StringUTF16" (96 : Nat) ({ cls := "java/lang/StringUTF16", name := "checkBoundsBeginEnd", desc := "(II[B)V" } : Jvm.MethodName)) ∈ mk_WL := mk_t4 56 rfl rfl
theorem mw_777 : (Jvm.Cond.static ({ cls := "java/lang/StringUTF16", name := "checkBoundsBeginEnd", desc := "(II[B)V" } : Jvm.MethodName)) ∈ mk_WL := mk_t4 57 rfl rfl
theorem mw_778 : (Jvm.Cond.code ({ cls := "java/lang/StringUTF16", name := "checkBoundsBeginEnd", desc := "(II[B)V" } : Jvm.MethodName) prog_21_method_93_code (3 : Nat) (Option.none : Option Jvm.ClassFile.FieldType)) ∈ mk_WL := mk_t4 58 rfl rfl
theorem mw_779 : (Jvm.Cond.methodLink "java/lang/StringUTF16" (241 : Nat) ({ cls := "java/lang/String", name := "checkBoundsBeginEnd", desc := "(III)V" } : Jvm.MethodName)) ∈ mk_WL := mk_t4 59 rfl rfl
theorem mw_780 : (Jvm.Cond.static ({ cls := "java/lang/String", name := "checkBoundsBeginEnd", desc := "(III)V" } : Jvm.MethodName)) ∈ mk_WL := mk_t4 60 rfl rfl
theorem mw_781 : (Jvm.Cond.code ({ cls := "java/lang/String", name := "checkBoundsBeginEnd", desc := "(III)V" } : Jvm.MethodName) prog_18_method_158_code (3 : Nat) (Option.none : Option Jvm.ClassFile.FieldType)) ∈ mk_WL := mk_t4 61 rfl rfl
theorem mw_782 : (Jvm.Cond.methodLink "java/lang/String" (1062 : Nat) ({ cls := "jdk/internal/util/Preconditions", name := "checkFromToIndex", desc := "(IIILjava/util/function/BiFunction;)I" } : Jvm.MethodName)) ∈ mk_WL := mk_t4 62 rfl rfl
theorem mw_783 : (Jvm.Cond.static ({ cls := "jdk/internal/util/Preconditions", name := "checkFromToIndex", desc := "(IIILjava/util/function/BiFunction;)I" } : Jvm.MethodName)) ∈ mk_WL := mk_t4 63 rfl rfl
theorem mw_784 : (Jvm.Cond.code ({ cls := "jdk/internal/util/Preconditions", name := "checkFromToIndex", desc := "(IIILjava/util/function/BiFunction;)I" } : Jvm.MethodName) prog_25_method_12_code (4 : Nat) (Option.some Jvm.ClassFile.FieldType.int)) ∈ mk_WL := mk_t4 64 rfl rfl
theorem mw_785 : (Jvm.Cond.methodLink "java/lang/StringUTF16" (111 : Nat) ({ cls := "java/lang/StringUTF16", name := "putChar", desc := "([BII)V" } : Jvm.MethodName)) ∈ mk_WL := mk_t4 65 rfl rfl
theorem mw_786 : (Jvm.Cond.static ({ cls := "java/lang/StringUTF16", name := "putChar", desc := "([BII)V" } : Jvm.MethodName)) ∈ mk_WL := mk_t4 66 rfl rfl
theorem mw_787 : (Jvm.Cond.code ({ cls := "java/lang/StringUTF16", name := "putChar", desc := "([BII)V" } : Jvm.MethodName) prog_21_method_4_code (3 : Nat) (Option.none : Option Jvm.ClassFile.FieldType)) ∈ mk_WL := mk_t4 67 rfl rfl
theorem mw_788 : (Jvm.Cond.methodLink "java/lang/AbstractStringBuilder" (32 : Nat) ({ cls := "java/lang/String", name := "length", desc := "()I" } : Jvm.MethodName)) ∈ mk_WL := mk_t4 68 rfl rfl
theorem mw_789 : (Jvm.Cond.methodLink "java/lang/AbstractStringBuilder" (208 : Nat) ({ cls := "java/lang/AbstractStringBuilder", name := "putStringAt", desc := "(ILjava/lang/String;)V" } : Jvm.MethodName)) ∈ mk_WL := mk_t4 69 rfl rfl
theorem mw_791 : (Jvm.Cond.instanceMethod ({ cls := "java/lang/AbstractStringBuilder", name := "putStringAt", desc := "(ILjava/lang/String;)V" } : Jvm.MethodName)) ∈ mk_WL := mk_t4 71 rfl rfl
theorem mw_792 : (Jvm.Cond.code ({ cls := "java/lang/AbstractStringBuilder", name := "putStringAt", desc := "(ILjava/lang/String;)V" } : Jvm.MethodName) prog_13_method_73_code (3 : Nat) (Option.none : Option Jvm.ClassFile.FieldType)) ∈ mk_WL := mk_t4 72 rfl rfl
theorem mw_793 : (Jvm.Cond.methodLink "java/lang/AbstractStringBuilder" (397 : Nat) ({ cls := "java/lang/AbstractStringBuilder", name := "inflateIfNeededFor", desc := "(Ljava/lang/String;)V" } : Jvm.MethodName)) ∈ mk_WL := mk_t4 73 rfl rfl
theorem mw_795 : (Jvm.Cond.instanceMethod ({ cls := "java/lang/AbstractStringBuilder", name := "inflateIfNeededFor", desc := "(Ljava/lang/String;)V" } : Jvm.MethodName)) ∈ mk_WL := mk_t4 75 rfl rfl
theorem mw_796 : (Jvm.Cond.code ({ cls := "java/lang/AbstractStringBuilder", name := "inflateIfNeededFor", desc := "(Ljava/lang/String;)V" } : Jvm.MethodName) prog_13_method_71_code (2 : Nat) (Option.none : Option Jvm.ClassFile.FieldType)) ∈ mk_WL := mk_t4 76 rfl rfl
theorem mw_797 : (Jvm.Cond.methodLink "java/lang/AbstractStringBuilder" (40 : Nat) ({ cls := "java/lang/String", name := "coder", desc := "()B" } : Jvm.MethodName)) ∈ mk_WL := mk_t4 77 rfl rfl
theorem mw_798 : (Jvm.Cond.methodLink "java/lang/AbstractStringBuilder" (195 : Nat) ({ cls := "java/lang/AbstractStringBuilder", name := "inflate", desc := "()V" } : Jvm.MethodName)) ∈ mk_WL := mk_t4 78 rfl rfl
theorem mw_800 : (Jvm.Cond.instanceMethod ({ cls := "java/lang/AbstractStringBuilder", name := "inflate", desc := "()V" } : Jvm.MethodName)) ∈ mk_WL := mk_t4 80 rfl rfl
theorem mw_801 : (Jvm.Cond.code ({ cls := "java/lang/AbstractStringBuilder", name := "inflate", desc := "()V" } : Jvm.MethodName) prog_13_method_11_code (2 : Nat) (Option.none : Option Jvm.ClassFile.FieldType)) ∈ mk_WL := mk_t4 81 rfl rfl
theorem mw_802 : (Jvm.Cond.methodLink "java/lang/AbstractStringBuilder" (125 : Nat) ({ cls := "java/lang/StringLatin1", name := "inflate", desc := "([BI[BII)V" } : Jvm.MethodName)) ∈ mk_WL := mk_t4 82 rfl rfl
theorem mw_803 : (Jvm.Cond.static ({ cls := "java/lang/StringLatin1", name := "inflate", desc := "([BI[BII)V" } : Jvm.MethodName)) ∈ mk_WL := mk_t4 83 rfl rfl
theorem mw_804 : (Jvm.Cond.code ({ cls := "java/lang/StringLatin1", name := "inflate", desc := "([BI[BII)V" } : Jvm.MethodName) prog_20_method_50_code (5 : Nat) (Option.none : Option Jvm.ClassFile.FieldType)) ∈ mk_WL := mk_t4 84 rfl rfl
theorem mw_805 : (Jvm.Cond.methodLink "java/lang/StringLatin1" (240 : Nat) ({ cls := "java/lang/StringUTF16", name := "inflate", desc := "([BI[BII)V" } : Jvm.MethodName)) ∈ mk_WL := mk_t4 85 rfl rfl
theorem mw_806 : (Jvm.Cond.static ({ cls := "java/lang/StringUTF16", name := "inflate", desc := "([BI[BII)V" } : Jvm.MethodName)) ∈ mk_WL := mk_t4 86 rfl rfl
theorem mw_807 : (Jvm.Cond.code ({ cls := "java/lang/StringUTF16", name := "inflate", desc := "([BI[BII)V" } : Jvm.MethodName) prog_21_method_86_code (6 : Nat) (Option.none : Option Jvm.ClassFile.FieldType)) ∈ mk_WL := mk_t4 87 rfl rfl
theorem mw_808 : (Jvm.Cond.methodLink "java/lang/StringUTF16" (173 : Nat) ({ cls := "java/lang/StringUTF16", name := "checkBoundsOffCount", desc := "(II[B)V" } : Jvm.MethodName)) ∈ mk_WL := mk_t4 88 rfl rfl
theorem mw_809 : (Jvm.Cond.static ({ cls := "java/lang/StringUTF16", name := "checkBoundsOffCount", desc := "(II[B)V" } : Jvm.MethodName)) ∈ mk_WL := mk_t4 89 rfl rfl
theorem mw_810 : (Jvm.Cond.code ({ cls := "java/lang/StringUTF16", name := "checkBoundsOffCount", desc := "(II[B)V" } : Jvm.MethodName) prog_21_method_94_code (3 : Nat) (Option.none : Option Jvm.ClassFile.FieldType)) ∈ mk_WL := mk_t4 90 rfl rfl
theorem mw_811 : (Jvm.Cond.methodLink "java/lang/StringUTF16" (419 : Nat) ({ cls := "java/lang/String", name := "checkBoundsOffCount", desc := "(III)I" } : Jvm.MethodName)) ∈ mk_WL := mk_t4 91 rfl rfl
theorem mw_812 : (Jvm.Cond.static ({ cls := "java/lang/String", name := "checkBoundsOffCount", desc := "(III)I" } : Jvm.MethodName)) ∈ mk_WL := mk_t4 92 rfl rfl
theorem mw_813 : (Jvm.Cond.code ({ cls := "java/lang/String", name := "checkBoundsOffCount", desc := "(III)I" } : Jvm.MethodName) prog_18_method_157_code (3 : Nat) (Option.some Jvm.ClassFile.FieldType.int)) ∈ mk_WL := mk_t4 93 rfl rfl
theorem mw_814 : (Jvm.Cond.methodLink "java/lang/String" (1065 : Nat) ({ cls := "jdk/internal/util/Preconditions", name := "checkFromIndexSize", desc := "(IIILjava/util/function/BiFunction;)I" } : Jvm.MethodName)) ∈ mk_WL := mk_t4 94 rfl rfl
theorem mw_815 : (Jvm.Cond.static ({ cls := "jdk/internal/util/Preconditions", name := "checkFromIndexSize", desc := "(IIILjava/util/function/BiFunction;)I" } : Jvm.MethodName)) ∈ mk_WL := mk_t4 95 rfl rfl
theorem mw_816 : (Jvm.Cond.code ({ cls := "jdk/internal/util/Preconditions", name := "checkFromIndexSize", desc := "(IIILjava/util/function/BiFunction;)I" } : Jvm.MethodName) prog_25_method_13_code (4 : Nat) (Option.some Jvm.ClassFile.FieldType.int)) ∈ mk_WL := mk_t4 96 rfl rfl
theorem mw_817 : (Jvm.Cond.methodLink "java/lang/AbstractStringBuilder" (399 : Nat) ({ cls := "java/lang/String", name := "getBytes", desc := "([BIB)V" } : Jvm.MethodName)) ∈ mk_WL := mk_t4 97 rfl rfl
theorem mw_818 : (Jvm.Cond.instanceMethod ({ cls := "java/lang/String", name := "getBytes", desc := "([BIB)V" } : Jvm.MethodName)) ∈ mk_WL := mk_t4 98 rfl rfl
theorem mw_819 : (Jvm.Cond.selects "java/lang/String" ({ cls := "java/lang/String", name := "getBytes", desc := "([BIB)V" } : Jvm.MethodName) ({ cls := "java/lang/String", name := "getBytes", desc := "([BIB)V" } : Jvm.MethodName)) ∈ mk_WL := mk_t4 99 rfl rfl
theorem mw_820 : (Jvm.Cond.code ({ cls := "java/lang/String", name := "getBytes", desc := "([BIB)V" } : Jvm.MethodName) prog_18_method_147_code (4 : Nat) (Option.none : Option Jvm.ClassFile.FieldType)) ∈ mk_WL := mk_t4 100 rfl rfl
theorem mw_821 : (Jvm.Cond.methodLink "java/lang/String" (212 : Nat) ({ cls := "java/lang/System", name := "arraycopy", desc := "(Ljava/lang/Object;ILjava/lang/Object;II)V" } : Jvm.MethodName)) ∈ mk_WL := mk_t4 101 rfl rfl
theorem mw_822 : (Jvm.Cond.methodLink "java/lang/String" (106 : Nat) ({ cls := "java/lang/StringLatin1", name := "inflate", desc := "([BI[BII)V" } : Jvm.MethodName)) ∈ mk_WL := mk_t4 102 rfl rfl
theorem mw_823 : (Jvm.Cond.methodLink "SplitChannelLaw$Channel" (53 : Nat) ({ cls := "java/lang/StringBuilder", name := "append", desc := "(I)Ljava/lang/StringBuilder;" } : Jvm.MethodName)) ∈ mk_WL := mk_t4 103 rfl rfl
theorem mw_824 : (Jvm.Cond.instanceMethod ({ cls := "java/lang/StringBuilder", name := "append", desc := "(I)Ljava/lang/StringBuilder;" } : Jvm.MethodName)) ∈ mk_WL := mk_t4 104 rfl rfl
theorem mw_825 : (Jvm.Cond.selects "java/lang/StringBuilder" ({ cls := "java/lang/StringBuilder", name := "append", desc := "(I)Ljava/lang/StringBuilder;" } : Jvm.MethodName) ({ cls := "java/lang/StringBuilder", name := "append", desc := "(I)Ljava/lang/StringBuilder;" } : Jvm.MethodName)) ∈ mk_WL := mk_t4 105 rfl rfl
theorem mw_826 : (Jvm.Cond.code ({ cls := "java/lang/StringBuilder", name := "append", desc := "(I)Ljava/lang/StringBuilder;" } : Jvm.MethodName) prog_19_method_15_code (2 : Nat) (Option.some (Jvm.ClassFile.FieldType.object "java/lang/StringBuilder"))) ∈ mk_WL := mk_t4 106 rfl rfl
theorem mw_827 : (Jvm.Cond.methodLink "java/lang/StringBuilder" (53 : Nat) ({ cls := "java/lang/AbstractStringBuilder", name := "append", desc := "(I)Ljava/lang/AbstractStringBuilder;" } : Jvm.MethodName)) ∈ mk_WL := mk_t4 107 rfl rfl
theorem mw_828 : (Jvm.Cond.instanceMethod ({ cls := "java/lang/AbstractStringBuilder", name := "append", desc := "(I)Ljava/lang/AbstractStringBuilder;" } : Jvm.MethodName)) ∈ mk_WL := mk_t4 108 rfl rfl
theorem mw_829 : (Jvm.Cond.code ({ cls := "java/lang/AbstractStringBuilder", name := "append", desc := "(I)Ljava/lang/AbstractStringBuilder;" } : Jvm.MethodName) prog_13_method_32_code (4 : Nat) (Option.some (Jvm.ClassFile.FieldType.object "java/lang/AbstractStringBuilder"))) ∈ mk_WL := mk_t4 109 rfl rfl
theorem mw_830 : (Jvm.Cond.methodLink "java/lang/AbstractStringBuilder" (245 : Nat) ({ cls := "java/lang/Integer", name := "stringSize", desc := "(I)I" } : Jvm.MethodName)) ∈ mk_WL := mk_t4 110 rfl rfl
theorem mw_831 : (Jvm.Cond.static ({ cls := "java/lang/Integer", name := "stringSize", desc := "(I)I" } : Jvm.MethodName)) ∈ mk_WL := mk_t4 111 rfl rfl
theorem mw_832 : (Jvm.Cond.code ({ cls := "java/lang/Integer", name := "stringSize", desc := "(I)I" } : Jvm.MethodName) prog_15_method_13_code (4 : Nat) (Option.some Jvm.ClassFile.FieldType.int)) ∈ mk_WL := mk_t4 112 rfl rfl
theorem mw_833 : (Jvm.Cond.methodLink "java/lang/AbstractStringBuilder" (248 : Nat) ({ cls := "java/lang/Integer", name := "getChars", desc := "(II[B)I" } : Jvm.MethodName)) ∈ mk_WL := mk_t4 113 rfl rfl
theorem mw_834 : (Jvm.Cond.static ({ cls := "java/lang/Integer", name := "getChars", desc := "(II[B)I" } : Jvm.MethodName)) ∈ mk_WL := mk_t4 114 rfl rfl
theorem mw_835 : (Jvm.Cond.code ({ cls := "java/lang/Integer", name := "getChars", desc := "(II[B)I" } : Jvm.MethodName) prog_15_method_12_code (7 : Nat) (Option.some Jvm.ClassFile.FieldType.int)) ∈ mk_WL := mk_t4 115 rfl rfl
theorem mw_836 : (Jvm.Cond.fieldLink "java/lang/Integer" (83 : Nat) "java/lang/Integer" "DigitOnes" "[B") ∈ mk_WL := mk_t4 116 rfl rfl
theorem mw_838 : (Jvm.Cond.fieldLink "java/lang/Integer" (87 : Nat) "java/lang/Integer" "DigitTens" "[B") ∈ mk_WL := mk_t4 118 rfl rfl
theorem mw_840 : (Jvm.Cond.methodLink "java/lang/AbstractStringBuilder" (251 : Nat) ({ cls := "java/lang/StringUTF16", name := "getChars", desc := "(III[B)I" } : Jvm.MethodName)) ∈ mk_WL := mk_t4 120 rfl rfl
theorem mw_841 : (Jvm.Cond.static ({ cls := "java/lang/StringUTF16", name := "getChars", desc := "(III[B)I" } : Jvm.MethodName)) ∈ mk_WL := mk_t4 121 rfl rfl
theorem mw_842 : (Jvm.Cond.code ({ cls := "java/lang/StringUTF16", name := "getChars", desc := "(III[B)I" } : Jvm.MethodName) prog_21_method_77_code (5 : Nat) (Option.some Jvm.ClassFile.FieldType.int)) ∈ mk_WL := mk_t4 122 rfl rfl
theorem mw_843 : (Jvm.Cond.methodLink "java/lang/StringUTF16" (393 : Nat) ({ cls := "java/lang/StringUTF16", name := "getChars", desc := "(II[B)I" } : Jvm.MethodName)) ∈ mk_WL := mk_t4 123 rfl rfl
theorem mw_844 : (Jvm.Cond.static ({ cls := "java/lang/StringUTF16", name := "getChars", desc := "(II[B)I" } : Jvm.MethodName)) ∈ mk_WL := mk_t4 124 rfl rfl
theorem mw_845 : (Jvm.Cond.code ({ cls := "java/lang/StringUTF16", name := "getChars", desc := "(II[B)I" } : Jvm.MethodName) prog_21_method_89_code (7 : Nat) (Option.some Jvm.ClassFile.FieldType.int)) ∈ mk_WL := mk_t4 125 rfl rfl
theorem mw_846 : (Jvm.Cond.fieldLink "java/lang/StringUTF16" (403 : Nat) "java/lang/Integer" "DigitOnes" "[B") ∈ mk_WL := mk_t4 126 rfl rfl
theorem mw_847 : (Jvm.Cond.fieldLink "java/lang/StringUTF16" (407 : Nat) "java/lang/Integer" "DigitTens" "[B") ∈ mk_WL := mk_t4 127 rfl rfl
theorem mw_852 : (Jvm.Cond.methodLink "SplitChannelLaw$Channel" (64 : Nat) ({ cls := "java/lang/StringBuilder", name := "toString", desc := "()Ljava/lang/String;" } : Jvm.MethodName)) ∈ mk_WL := mk_t4 132 rfl rfl
theorem mw_853 : (Jvm.Cond.instanceMethod ({ cls := "java/lang/StringBuilder", name := "toString", desc := "()Ljava/lang/String;" } : Jvm.MethodName)) ∈ mk_WL := mk_t4 133 rfl rfl
theorem mw_854 : (Jvm.Cond.selects "java/lang/StringBuilder" ({ cls := "java/lang/StringBuilder", name := "toString", desc := "()Ljava/lang/String;" } : Jvm.MethodName) ({ cls := "java/lang/StringBuilder", name := "toString", desc := "()Ljava/lang/String;" } : Jvm.MethodName)) ∈ mk_WL := mk_t4 134 rfl rfl
theorem mw_855 : (Jvm.Cond.code ({ cls := "java/lang/StringBuilder", name := "toString", desc := "()Ljava/lang/String;" } : Jvm.MethodName) prog_19_method_42_code (1 : Nat) (Option.some (Jvm.ClassFile.FieldType.object "java/lang/String"))) ∈ mk_WL := mk_t4 135 rfl rfl
theorem mw_856 : (Jvm.Cond.classLink "java/lang/StringBuilder" (18 : Nat) "java/lang/String") ∈ mk_WL := mk_t4 136 rfl rfl
theorem mw_857 : (Jvm.Cond.instantiable "java/lang/String" (4 : Nat)) ∈ mk_WL := mk_t4 137 rfl rfl
theorem mw_858 : (Jvm.Cond.methodLink "java/lang/StringBuilder" (137 : Nat) ({ cls := "java/lang/String", name := "<init>", desc := "(Ljava/lang/StringBuilder;)V" } : Jvm.MethodName)) ∈ mk_WL := mk_t4 138 rfl rfl
theorem mw_859 : (Jvm.Cond.instanceMethod ({ cls := "java/lang/String", name := "<init>", desc := "(Ljava/lang/StringBuilder;)V" } : Jvm.MethodName)) ∈ mk_WL := mk_t4 139 rfl rfl
theorem mw_860 : (Jvm.Cond.code ({ cls := "java/lang/String", name := "<init>", desc := "(Ljava/lang/StringBuilder;)V" } : Jvm.MethodName) prog_18_method_53_code (2 : Nat) (Option.none : Option Jvm.ClassFile.FieldType)) ∈ mk_WL := mk_t4 140 rfl rfl
theorem mw_861 : (Jvm.Cond.methodLink "java/lang/String" (489 : Nat) ({ cls := "java/lang/String", name := "<init>", desc := "(Ljava/lang/AbstractStringBuilder;Ljava/lang/Void;)V" } : Jvm.MethodName)) ∈ mk_WL := mk_t4 141 rfl rfl
theorem mw_862 : (Jvm.Cond.instanceMethod ({ cls := "java/lang/String", name := "<init>", desc := "(Ljava/lang/AbstractStringBuilder;Ljava/lang/Void;)V" } : Jvm.MethodName)) ∈ mk_WL := mk_t4 142 rfl rfl
theorem mw_863 : (Jvm.Cond.code ({ cls := "java/lang/String", name := "<init>", desc := "(Ljava/lang/AbstractStringBuilder;Ljava/lang/Void;)V" } : Jvm.MethodName) prog_18_method_150_code (5 : Nat) (Option.none : Option Jvm.ClassFile.FieldType)) ∈ mk_WL := mk_t4 143 rfl rfl
theorem mw_864 : (Jvm.Cond.methodLink "java/lang/String" (1 : Nat) ({ cls := "java/lang/Object", name := "<init>", desc := "()V" } : Jvm.MethodName)) ∈ mk_WL := mk_t4 144 rfl rfl
theorem mw_865 : (Jvm.Cond.methodLink "java/lang/String" (552 : Nat) ({ cls := "java/lang/AbstractStringBuilder", name := "getValue", desc := "()[B" } : Jvm.MethodName)) ∈ mk_WL := mk_t4 145 rfl rfl
theorem mw_866 : (Jvm.Cond.instanceMethod ({ cls := "java/lang/AbstractStringBuilder", name := "getValue", desc := "()[B" } : Jvm.MethodName)) ∈ mk_WL := mk_t4 146 rfl rfl
theorem mw_867 : (Jvm.Cond.sameMethod "java/lang/AbstractStringBuilder" "java/lang/AbstractStringBuilder" "getValue" "()[B") ∈ mk_WL := mk_t4 147 rfl rfl
theorem mw_868 : (Jvm.Cond.selects "java/lang/StringBuilder" ({ cls := "java/lang/AbstractStringBuilder", name := "getValue", desc := "()[B" } : Jvm.MethodName) ({ cls := "java/lang/AbstractStringBuilder", name := "getValue", desc := "()[B" } : Jvm.MethodName)) ∈ mk_WL := mk_t4 148 rfl rfl
theorem mw_869 : (Jvm.Cond.code ({ cls := "java/lang/AbstractStringBuilder", name := "getValue", desc := "()[B" } : Jvm.MethodName) prog_13_method_64_code (1 : Nat) (Option.some (Jvm.ClassFile.FieldType.array Jvm.ClassFile.FieldType.byte))) ∈ mk_WL := mk_t4 149 rfl rfl
theorem mw_870 : (Jvm.Cond.methodLink "java/lang/String" (549 : Nat) ({ cls := "java/lang/AbstractStringBuilder", name := "length", desc := "()I" } : Jvm.MethodName)) ∈ mk_WL := mk_t4 150 rfl rfl
theorem mw_871 : (Jvm.Cond.instanceMethod ({ cls := "java/lang/AbstractStringBuilder", name := "length", desc := "()I" } : Jvm.MethodName)) ∈ mk_WL := mk_t4 151 rfl rfl
theorem mw_872 : (Jvm.Cond.sameMethod "java/lang/AbstractStringBuilder" "java/lang/AbstractStringBuilder" "length" "()I") ∈ mk_WL := mk_t4 152 rfl rfl
theorem mw_873 : (Jvm.Cond.selects "java/lang/StringBuilder" ({ cls := "java/lang/AbstractStringBuilder", name := "length", desc := "()I" } : Jvm.MethodName) ({ cls := "java/lang/StringBuilder", name := "length", desc := "()I" } : Jvm.MethodName)) ∈ mk_WL := mk_t4 153 rfl rfl
theorem mw_874 : (Jvm.Cond.instanceMethod ({ cls := "java/lang/StringBuilder", name := "length", desc := "()I" } : Jvm.MethodName)) ∈ mk_WL := mk_t4 154 rfl rfl
theorem mw_875 : (Jvm.Cond.code ({ cls := "java/lang/StringBuilder", name := "length", desc := "()I" } : Jvm.MethodName) prog_19_method_93_code (1 : Nat) (Option.some Jvm.ClassFile.FieldType.int)) ∈ mk_WL := mk_t4 155 rfl rfl
theorem mw_876 : (Jvm.Cond.methodLink "java/lang/StringBuilder" (343 : Nat) ({ cls := "java/lang/AbstractStringBuilder", name := "length", desc := "()I" } : Jvm.MethodName)) ∈ mk_WL := mk_t4 156 rfl rfl
theorem mw_877 : (Jvm.Cond.code ({ cls := "java/lang/AbstractStringBuilder", name := "length", desc := "()I" } : Jvm.MethodName) prog_13_method_6_code (1 : Nat) (Option.some Jvm.ClassFile.FieldType.int)) ∈ mk_WL := mk_t4 157 rfl rfl
theorem mw_878 : (Jvm.Cond.methodLink "java/lang/String" (1047 : Nat) ({ cls := "java/lang/AbstractStringBuilder", name := "isLatin1", desc := "()Z" } : Jvm.MethodName)) ∈ mk_WL := mk_t4 158 rfl rfl
theorem mw_879 : (Jvm.Cond.methodLink "java/lang/String" (54 : Nat) ({ cls := "java/util/Arrays", name := "copyOfRange", desc := "([BII)[B" } : Jvm.MethodName)) ∈ mk_WL := mk_t4 159 rfl rfl
theorem mw_880 : (Jvm.Cond.static ({ cls := "java/util/Arrays", name := "copyOfRange", desc := "([BII)[B" } : Jvm.MethodName)) ∈ mk_WL := mk_t4 160 rfl rfl
theorem mw_881 : (Jvm.Cond.code ({ cls := "java/util/Arrays", name := "copyOfRange", desc := "([BII)[B" } : Jvm.MethodName) prog_23_method_132_code (3 : Nat) (Option.some (Jvm.ClassFile.FieldType.array Jvm.ClassFile.FieldType.byte))) ∈ mk_WL := mk_t4 161 rfl rfl
theorem mw_882 : (Jvm.Cond.methodLink "java/util/Arrays" (339 : Nat) ({ cls := "java/util/Arrays", name := "copyOfRangeByte", desc := "([BII)[B" } : Jvm.MethodName)) ∈ mk_WL := mk_t4 162 rfl rfl
theorem mw_883 : (Jvm.Cond.static ({ cls := "java/util/Arrays", name := "copyOfRangeByte", desc := "([BII)[B" } : Jvm.MethodName)) ∈ mk_WL := mk_t4 163 rfl rfl
theorem mw_884 : (Jvm.Cond.code ({ cls := "java/util/Arrays", name := "copyOfRangeByte", desc := "([BII)[B" } : Jvm.MethodName) prog_23_method_133_code (5 : Nat) (Option.some (Jvm.ClassFile.FieldType.array Jvm.ClassFile.FieldType.byte))) ∈ mk_WL := mk_t4 164 rfl rfl
theorem mw_885 : (Jvm.Cond.methodLink "java/util/Arrays" (343 : Nat) ({ cls := "java/util/Arrays", name := "checkLength", desc := "(II)V" } : Jvm.MethodName)) ∈ mk_WL := mk_t4 165 rfl rfl
theorem mw_886 : (Jvm.Cond.static ({ cls := "java/util/Arrays", name := "checkLength", desc := "(II)V" } : Jvm.MethodName)) ∈ mk_WL := mk_t4 166 rfl rfl
theorem mw_887 : (Jvm.Cond.code ({ cls := "java/util/Arrays", name := "checkLength", desc := "(II)V" } : Jvm.MethodName) prog_23_method_131_code (2 : Nat) (Option.none : Option Jvm.ClassFile.FieldType)) ∈ mk_WL := mk_t4 167 rfl rfl
theorem mw_888 : (Jvm.Cond.methodLink "java/lang/String" (1051 : Nat) ({ cls := "java/lang/StringUTF16", name := "compress", desc := "([BII)[B" } : Jvm.MethodName)) ∈ mk_WL := mk_t4 168 rfl rfl
theorem mw_889 : (Jvm.Cond.static ({ cls := "java/lang/StringUTF16", name := "compress", desc := "([BII)[B" } : Jvm.MethodName)) ∈ mk_WL := mk_t4 169 rfl rfl
theorem mw_890 : (Jvm.Cond.code ({ cls := "java/lang/StringUTF16", name := "compress", desc := "([BII)[B" } : Jvm.MethodName) prog_21_method_17_code (6 : Nat) (Option.some (Jvm.ClassFile.FieldType.array Jvm.ClassFile.FieldType.byte))) ∈ mk_WL := mk_t4 170 rfl rfl
theorem mw_891 : (Jvm.Cond.methodLink "java/lang/StringUTF16" (123 : Nat) ({ cls := "java/lang/StringUTF16", name := "compress", desc := "([BI[BII)I" } : Jvm.MethodName)) ∈ mk_WL := mk_t4 171 rfl rfl
theorem mw_892 : (Jvm.Cond.static ({ cls := "java/lang/StringUTF16", name := "compress", desc := "([BI[BII)I" } : Jvm.MethodName)) ∈ mk_WL := mk_t4 172 rfl rfl
theorem mw_893 : (Jvm.Cond.code ({ cls := "java/lang/StringUTF16", name := "compress", desc := "([BI[BII)I" } : Jvm.MethodName) prog_21_method_22_code (7 : Nat) (Option.some Jvm.ClassFile.FieldType.int)) ∈ mk_WL := mk_t4 173 rfl rfl
theorem mw_894 : (Jvm.Cond.methodLink "java/lang/StringUTF16" (126 : Nat) ({ cls := "java/util/Arrays", name := "copyOfRange", desc := "([BII)[B" } : Jvm.MethodName)) ∈ mk_WL := mk_t4 174 rfl rfl
theorem mw_895 : (Jvm.Cond.methodLink "java/lang/String" (47 : Nat) ({ cls := "java/lang/StringUTF16", name := "coderFromArrayLen", desc := "([BI)B" } : Jvm.MethodName)) ∈ mk_WL := mk_t4 175 rfl rfl
theorem mw_896 : (Jvm.Cond.static ({ cls := "java/lang/StringUTF16", name := "coderFromArrayLen", desc := "([BI)B" } : Jvm.MethodName)) ∈ mk_WL := mk_t4 176 rfl rfl
theorem mw_897 : (Jvm.Cond.code ({ cls := "java/lang/StringUTF16", name := "coderFromArrayLen", desc := "([BI)B" } : Jvm.MethodName) prog_21_method_15_code (2 : Nat) (Option.some Jvm.ClassFile.FieldType.byte)) ∈ mk_WL := mk_t4 177 rfl rfl
theorem mw_898 : (Jvm.Cond.fieldLink "java/lang/String" (9 : Nat) "java/lang/String" "value" "[B") ∈ mk_WL := mk_t4 178 rfl rfl
theorem mw_899 : (Jvm.Cond.fieldLink "java/lang/String" (15 : Nat) "java/lang/String" "coder" "B") ∈ mk_WL := mk_t4 179 rfl rfl
theorem mw_900 : (Jvm.Cond.laysFinal "java/lang/String" "java/lang/String" "value" "[B") ∈ mk_WL := mk_t4 180 rfl rfl
theorem mw_902 : (Jvm.Cond.laysFinal "java/lang/String" "java/lang/String" "coder" "B") ∈ mk_WL := mk_t4 182 rfl rfl
theorem mw_904 : (Jvm.Cond.lays "java/lang/String" "java/lang/String" "hash" "I") ∈ mk_WL := mk_t4 184 rfl rfl
theorem mw_906 : (Jvm.Cond.lays "java/lang/String" "java/lang/String" "hashIsZero" "Z") ∈ mk_WL := mk_t4 186 rfl rfl
theorem mw_908 : (Jvm.Cond.superclass "java/lang/String" "java/lang/Object") ∈ mk_WL := mk_t4 188 rfl rfl
theorem mw_917 : (Jvm.Cond.fieldLink "SplitChannelLaw$Channel" (13 : Nat) "SplitChannelLaw$Channel" "law" "I") ∈ mk_WL := mk_t4 197 rfl rfl
theorem mw_919 : (Jvm.Cond.fieldLink "SplitChannelLaw$Channel" (19 : Nat) "SplitChannelLaw$Channel" "slots" "I") ∈ mk_WL := mk_t4 199 rfl rfl
theorem mw_921 : (Jvm.Cond.fieldLink "SplitChannelLaw$Channel" (22 : Nat) "SplitChannelLaw$Channel" "senders" "I") ∈ mk_WL := mk_t4 201 rfl rfl
theorem mw_923 : (Jvm.Cond.fieldLink "SplitChannelLaw$Channel" (25 : Nat) "SplitChannelLaw$Channel" "noises" "I") ∈ mk_WL := mk_t4 203 rfl rfl
theorem mw_925 : (Jvm.Cond.fieldLink "SplitChannelLaw$Channel" (28 : Nat) "SplitChannelLaw$Channel" "when" "[I") ∈ mk_WL := mk_t4 205 rfl rfl
theorem mw_927 : (Jvm.Cond.fieldLink "SplitChannelLaw$Channel" (38 : Nat) "SplitChannelLaw$Channel" "at" "[I") ∈ mk_WL := mk_t4 207 rfl rfl
theorem mw_928 : (Jvm.Cond.fieldLink "SplitChannelLaw$Channel" (41 : Nat) "SplitChannelLaw$Channel" "as" "[I") ∈ mk_WL := mk_t4 208 rfl rfl
theorem mw_929 : (Jvm.Cond.fieldLink "SplitChannelLaw$Channel" (34 : Nat) "SplitChannelLaw$Channel" "bits" "[Ljava/lang/String;") ∈ mk_WL := mk_t4 209 rfl rfl
theorem mw_931 : (Jvm.Cond.fieldLink "SplitChannelLaw$Channel" (68 : Nat) "SplitChannelLaw$Channel" "text" "Ljava/lang/String;") ∈ mk_WL := mk_t4 211 rfl rfl
theorem mw_933 : (Jvm.Cond.laysFinal "SplitChannelLaw$Channel" "SplitChannelLaw$Channel" "law" "I") ∈ mk_WL := mk_t4 213 rfl rfl
theorem mw_935 : (Jvm.Cond.laysFinal "SplitChannelLaw$Channel" "SplitChannelLaw$Channel" "slots" "I") ∈ mk_WL := mk_t4 215 rfl rfl
theorem mw_937 : (Jvm.Cond.laysFinal "SplitChannelLaw$Channel" "SplitChannelLaw$Channel" "senders" "I") ∈ mk_WL := mk_t4 217 rfl rfl
theorem mw_939 : (Jvm.Cond.laysFinal "SplitChannelLaw$Channel" "SplitChannelLaw$Channel" "noises" "I") ∈ mk_WL := mk_t4 219 rfl rfl
theorem mw_941 : (Jvm.Cond.laysFinal "SplitChannelLaw$Channel" "SplitChannelLaw$Channel" "when" "[I") ∈ mk_WL := mk_t4 221 rfl rfl
theorem mw_943 : (Jvm.Cond.laysFinal "SplitChannelLaw$Channel" "SplitChannelLaw$Channel" "at" "[I") ∈ mk_WL := mk_t4 223 rfl rfl
theorem mw_945 : (Jvm.Cond.laysFinal "SplitChannelLaw$Channel" "SplitChannelLaw$Channel" "as" "[I") ∈ mk_WL := mk_t4 225 rfl rfl
theorem mw_947 : (Jvm.Cond.laysFinal "SplitChannelLaw$Channel" "SplitChannelLaw$Channel" "bits" "[Ljava/lang/String;") ∈ mk_WL := mk_t4 227 rfl rfl
theorem mw_949 : (Jvm.Cond.lays "SplitChannelLaw$Channel" "SplitChannelLaw$Channel" "text" "Ljava/lang/String;") ∈ mk_WL := mk_t4 229 rfl rfl
theorem mw_951 : (Jvm.Cond.superclass "SplitChannelLaw$Channel" "java/lang/Object") ∈ mk_WL := mk_t4 231 rfl rfl
theorem mw_952 : (Jvm.Cond.methodLink "SplitChannelLaw" (100 : Nat) ({ cls := "SplitChannelLaw", name := "says", desc := "(LSplitChannel;Ljava/lang/String;)Z" } : Jvm.MethodName)) ∈ mk_WL := mk_t4 232 rfl rfl
theorem mw_953 : (Jvm.Cond.static ({ cls := "SplitChannelLaw", name := "says", desc := "(LSplitChannel;Ljava/lang/String;)Z" } : Jvm.MethodName)) ∈ mk_WL := mk_t4 233 rfl rfl
theorem mw_954 : (Jvm.Cond.code ({ cls := "SplitChannelLaw", name := "says", desc := "(LSplitChannel;Ljava/lang/String;)Z" } : Jvm.MethodName) method_3_code (5 : Nat) (Option.some Jvm.ClassFile.FieldType.boolean)) ∈ mk_WL := mk_t4 234 rfl rfl
theorem mw_955 : (Jvm.Cond.methodLink "SplitChannelLaw" (8 : Nat) ({ cls := "java/lang/String", name := "length", desc := "()I" } : Jvm.MethodName)) ∈ mk_WL := mk_t4 235 rfl rfl
theorem mw_956 : (Jvm.Cond.methodLink "SplitChannelLaw" (14 : Nat) ({ cls := "java/lang/String", name := "charAt", desc := "(I)C" } : Jvm.MethodName)) ∈ mk_WL := mk_t4 236 rfl rfl
theorem mw_957 : (Jvm.Cond.methodLink "SplitChannelLaw" (18 : Nat) ({ cls := "SplitChannel", name := "feed", desc := "(IIIII)I" } : Jvm.MethodName)) ∈ mk_WL := mk_t4 237 rfl rfl
theorem mw_958 : (Jvm.Cond.instanceMethod ({ cls := "SplitChannel", name := "feed", desc := "(IIIII)I" } : Jvm.MethodName)) ∈ mk_WL := mk_t4 238 rfl rfl
theorem mw_959 : (Jvm.Cond.selects "SplitChannel" ({ cls := "SplitChannel", name := "feed", desc := "(IIIII)I" } : Jvm.MethodName) ({ cls := "SplitChannel", name := "feed", desc := "(IIIII)I" } : Jvm.MethodName)) ∈ mk_WL := mk_t4 239 rfl rfl
theorem mw_960 : (Jvm.Cond.code ({ cls := "SplitChannel", name := "feed", desc := "(IIIII)I" } : Jvm.MethodName) prog_1_method_2_code (6 : Nat) (Option.some Jvm.ClassFile.FieldType.int)) ∈ mk_WL := mk_t5 0 rfl rfl
theorem mw_961 : (Jvm.Cond.methodLink "SplitChannel" (70 : Nat) ({ cls := "SplitChannel$Tape", name := "append", desc := "(I)V" } : Jvm.MethodName)) ∈ mk_WL := mk_t5 1 rfl rfl
theorem mw_962 : (Jvm.Cond.instanceMethod ({ cls := "SplitChannel$Tape", name := "append", desc := "(I)V" } : Jvm.MethodName)) ∈ mk_WL := mk_t5 2 rfl rfl
theorem mw_963 : (Jvm.Cond.selects "SplitChannel$Tape" ({ cls := "SplitChannel$Tape", name := "append", desc := "(I)V" } : Jvm.MethodName) ({ cls := "SplitChannel$Tape", name := "append", desc := "(I)V" } : Jvm.MethodName)) ∈ mk_WL := mk_t5 3 rfl rfl
theorem mw_964 : (Jvm.Cond.code ({ cls := "SplitChannel$Tape", name := "append", desc := "(I)V" } : Jvm.MethodName) prog_9_method_2_code (3 : Nat) (Option.none : Option Jvm.ClassFile.FieldType)) ∈ mk_WL := mk_t5 4 rfl rfl
theorem mw_966 : (Jvm.Cond.methodLink "SplitChannelLaw" (24 : Nat) ({ cls := "SplitChannel", name := "end", desc := "(I)I" } : Jvm.MethodName)) ∈ mk_WL := mk_t5 6 rfl rfl
theorem mw_967 : (Jvm.Cond.instanceMethod ({ cls := "SplitChannel", name := "end", desc := "(I)I" } : Jvm.MethodName)) ∈ mk_WL := mk_t5 7 rfl rfl
theorem mw_968 : (Jvm.Cond.selects "SplitChannel" ({ cls := "SplitChannel", name := "end", desc := "(I)I" } : Jvm.MethodName) ({ cls := "SplitChannel", name := "end", desc := "(I)I" } : Jvm.MethodName)) ∈ mk_WL := mk_t5 8 rfl rfl
theorem mw_969 : (Jvm.Cond.code ({ cls := "SplitChannel", name := "end", desc := "(I)I" } : Jvm.MethodName) prog_1_method_3_code (2 : Nat) (Option.some Jvm.ClassFile.FieldType.int)) ∈ mk_WL := mk_t5 9 rfl rfl
theorem mw_970 : (Jvm.Cond.methodLink "SplitChannelLaw" (112 : Nat) ({ cls := "SplitChannelLaw", name := "isSo", desc := "(LSplitChannel;LSplitChannelLaw$Channel;)Z" } : Jvm.MethodName)) ∈ mk_WL := mk_t5 10 rfl rfl
theorem mw_971 : (Jvm.Cond.static ({ cls := "SplitChannelLaw", name := "isSo", desc := "(LSplitChannel;LSplitChannelLaw$Channel;)Z" } : Jvm.MethodName)) ∈ mk_WL := mk_t5 11 rfl rfl
theorem mw_972 : (Jvm.Cond.code ({ cls := "SplitChannelLaw", name := "isSo", desc := "(LSplitChannel;LSplitChannelLaw$Channel;)Z" } : Jvm.MethodName) method_4_code (14 : Nat) (Option.some Jvm.ClassFile.FieldType.boolean)) ∈ mk_WL := mk_t5 12 rfl rfl
theorem mw_973 : (Jvm.Cond.methodLink "SplitChannelLaw" (37 : Nat) ({ cls := "SplitChannel", name := "sends", desc := "(II)I" } : Jvm.MethodName)) ∈ mk_WL := mk_t5 13 rfl rfl
theorem mw_974 : (Jvm.Cond.instanceMethod ({ cls := "SplitChannel", name := "sends", desc := "(II)I" } : Jvm.MethodName)) ∈ mk_WL := mk_t5 14 rfl rfl
theorem mw_975 : (Jvm.Cond.selects "SplitChannel" ({ cls := "SplitChannel", name := "sends", desc := "(II)I" } : Jvm.MethodName) ({ cls := "SplitChannel", name := "sends", desc := "(II)I" } : Jvm.MethodName)) ∈ mk_WL := mk_t5 15 rfl rfl
theorem mw_976 : (Jvm.Cond.code ({ cls := "SplitChannel", name := "sends", desc := "(II)I" } : Jvm.MethodName) prog_1_method_9_code (3 : Nat) (Option.some Jvm.ClassFile.FieldType.int)) ∈ mk_WL := mk_t5 16 rfl rfl
theorem mw_977 : (Jvm.Cond.methodLink "SplitChannel" (137 : Nat) ({ cls := "SplitChannel$Plan", name := "hasSlot", desc := "(I)Z" } : Jvm.MethodName)) ∈ mk_WL := mk_t5 17 rfl rfl
theorem mw_978 : (Jvm.Cond.instanceMethod ({ cls := "SplitChannel$Plan", name := "hasSlot", desc := "(I)Z" } : Jvm.MethodName)) ∈ mk_WL := mk_t5 18 rfl rfl
theorem mw_979 : (Jvm.Cond.selects "SplitChannel$Plan" ({ cls := "SplitChannel$Plan", name := "hasSlot", desc := "(I)Z" } : Jvm.MethodName) ({ cls := "SplitChannel$Plan", name := "hasSlot", desc := "(I)Z" } : Jvm.MethodName)) ∈ mk_WL := mk_t5 19 rfl rfl
theorem mw_980 : (Jvm.Cond.code ({ cls := "SplitChannel$Plan", name := "hasSlot", desc := "(I)Z" } : Jvm.MethodName) prog_5_method_9_code (2 : Nat) (Option.some Jvm.ClassFile.FieldType.boolean)) ∈ mk_WL := mk_t5 20 rfl rfl
theorem mw_981 : (Jvm.Cond.methodLink "SplitChannel" (118 : Nat) ({ cls := "SplitChannel$Plan", name := "hasSender", desc := "(I)Z" } : Jvm.MethodName)) ∈ mk_WL := mk_t5 21 rfl rfl
theorem mw_982 : (Jvm.Cond.instanceMethod ({ cls := "SplitChannel$Plan", name := "hasSender", desc := "(I)Z" } : Jvm.MethodName)) ∈ mk_WL := mk_t5 22 rfl rfl
theorem mw_983 : (Jvm.Cond.selects "SplitChannel$Plan" ({ cls := "SplitChannel$Plan", name := "hasSender", desc := "(I)Z" } : Jvm.MethodName) ({ cls := "SplitChannel$Plan", name := "hasSender", desc := "(I)Z" } : Jvm.MethodName)) ∈ mk_WL := mk_t5 23 rfl rfl
theorem mw_984 : (Jvm.Cond.code ({ cls := "SplitChannel$Plan", name := "hasSender", desc := "(I)Z" } : Jvm.MethodName) prog_5_method_7_code (2 : Nat) (Option.some Jvm.ClassFile.FieldType.boolean)) ∈ mk_WL := mk_t5 24 rfl rfl
theorem mw_985 : (Jvm.Cond.methodLink "SplitChannel" (126 : Nat) ({ cls := "SplitChannel", name := "at", desc := "([II)I" } : Jvm.MethodName)) ∈ mk_WL := mk_t5 25 rfl rfl
theorem mw_986 : (Jvm.Cond.methodLink "SplitChannelLaw" (45 : Nat) ({ cls := "SplitChannelLaw$Channel", name := "heard", desc := "(II)I" } : Jvm.MethodName)) ∈ mk_WL := mk_t5 26 rfl rfl
theorem mw_987 : (Jvm.Cond.instanceMethod ({ cls := "SplitChannelLaw$Channel", name := "heard", desc := "(II)I" } : Jvm.MethodName)) ∈ mk_WL := mk_t5 27 rfl rfl
theorem mw_988 : (Jvm.Cond.selects "SplitChannelLaw$Channel" ({ cls := "SplitChannelLaw$Channel", name := "heard", desc := "(II)I" } : Jvm.MethodName) ({ cls := "SplitChannelLaw$Channel", name := "heard", desc := "(II)I" } : Jvm.MethodName)) ∈ mk_WL := mk_t5 28 rfl rfl
theorem mw_989 : (Jvm.Cond.code ({ cls := "SplitChannelLaw$Channel", name := "heard", desc := "(II)I" } : Jvm.MethodName) prog_11_method_2_code (4 : Nat) (Option.some Jvm.ClassFile.FieldType.int)) ∈ mk_WL := mk_t5 29 rfl rfl
theorem mw_990 : (Jvm.Cond.methodLink "SplitChannelLaw$Channel" (88 : Nat) ({ cls := "java/lang/Math", name := "min", desc := "(II)I" } : Jvm.MethodName)) ∈ mk_WL := mk_t5 30 rfl rfl
theorem mw_991 : (Jvm.Cond.methodLink "SplitChannelLaw" (48 : Nat) ({ cls := "SplitChannel", name := "slot", desc := "(II)I" } : Jvm.MethodName)) ∈ mk_WL := mk_t5 31 rfl rfl
theorem mw_992 : (Jvm.Cond.instanceMethod ({ cls := "SplitChannel", name := "slot", desc := "(II)I" } : Jvm.MethodName)) ∈ mk_WL := mk_t5 32 rfl rfl
theorem mw_993 : (Jvm.Cond.selects "SplitChannel" ({ cls := "SplitChannel", name := "slot", desc := "(II)I" } : Jvm.MethodName) ({ cls := "SplitChannel", name := "slot", desc := "(II)I" } : Jvm.MethodName)) ∈ mk_WL := mk_t5 33 rfl rfl
theorem mw_994 : (Jvm.Cond.code ({ cls := "SplitChannel", name := "slot", desc := "(II)I" } : Jvm.MethodName) prog_1_method_8_code (3 : Nat) (Option.some Jvm.ClassFile.FieldType.int)) ∈ mk_WL := mk_t5 34 rfl rfl
theorem mw_995 : (Jvm.Cond.methodLink "SplitChannel" (143 : Nat) ({ cls := "java/lang/Integer", name := "bitCount", desc := "(I)I" } : Jvm.MethodName)) ∈ mk_WL := mk_t5 35 rfl rfl
theorem mw_996 : (Jvm.Cond.methodLink "SplitChannelLaw" (51 : Nat) ({ cls := "SplitChannel", name := "order", desc := "(I)I" } : Jvm.MethodName)) ∈ mk_WL := mk_t5 36 rfl rfl
theorem mw_997 : (Jvm.Cond.instanceMethod ({ cls := "SplitChannel", name := "order", desc := "(I)I" } : Jvm.MethodName)) ∈ mk_WL := mk_t5 37 rfl rfl
theorem mw_998 : (Jvm.Cond.selects "SplitChannel" ({ cls := "SplitChannel", name := "order", desc := "(I)I" } : Jvm.MethodName) ({ cls := "SplitChannel", name := "order", desc := "(I)I" } : Jvm.MethodName)) ∈ mk_WL := mk_t5 38 rfl rfl
theorem mw_999 : (Jvm.Cond.code ({ cls := "SplitChannel", name := "order", desc := "(I)I" } : Jvm.MethodName) prog_1_method_13_code (2 : Nat) (Option.some Jvm.ClassFile.FieldType.int)) ∈ mk_WL := mk_t5 39 rfl rfl
theorem mw_1000 : (Jvm.Cond.methodLink "SplitChannelLaw" (54 : Nat) ({ cls := "java/lang/Math", name := "max", desc := "(II)I" } : Jvm.MethodName)) ∈ mk_WL := mk_t5 40 rfl rfl
theorem mw_1001 : (Jvm.Cond.methodLink "SplitChannelLaw" (59 : Nat) ({ cls := "SplitChannel", name := "delivered", desc := "(I)I" } : Jvm.MethodName)) ∈ mk_WL := mk_t5 41 rfl rfl
theorem mw_1002 : (Jvm.Cond.instanceMethod ({ cls := "SplitChannel", name := "delivered", desc := "(I)I" } : Jvm.MethodName)) ∈ mk_WL := mk_t5 42 rfl rfl
theorem mw_1003 : (Jvm.Cond.selects "SplitChannel" ({ cls := "SplitChannel", name := "delivered", desc := "(I)I" } : Jvm.MethodName) ({ cls := "SplitChannel", name := "delivered", desc := "(I)I" } : Jvm.MethodName)) ∈ mk_WL := mk_t5 43 rfl rfl
theorem mw_1004 : (Jvm.Cond.code ({ cls := "SplitChannel", name := "delivered", desc := "(I)I" } : Jvm.MethodName) prog_1_method_10_code (2 : Nat) (Option.some Jvm.ClassFile.FieldType.int)) ∈ mk_WL := mk_t5 44 rfl rfl
theorem mw_1005 : (Jvm.Cond.methodLink "SplitChannelLaw" (62 : Nat) ({ cls := "SplitChannel", name := "tries", desc := "(I)I" } : Jvm.MethodName)) ∈ mk_WL := mk_t5 45 rfl rfl
theorem mw_1006 : (Jvm.Cond.instanceMethod ({ cls := "SplitChannel", name := "tries", desc := "(I)I" } : Jvm.MethodName)) ∈ mk_WL := mk_t5 46 rfl rfl
theorem mw_1007 : (Jvm.Cond.selects "SplitChannel" ({ cls := "SplitChannel", name := "tries", desc := "(I)I" } : Jvm.MethodName) ({ cls := "SplitChannel", name := "tries", desc := "(I)I" } : Jvm.MethodName)) ∈ mk_WL := mk_t5 47 rfl rfl
theorem mw_1008 : (Jvm.Cond.code ({ cls := "SplitChannel", name := "tries", desc := "(I)I" } : Jvm.MethodName) prog_1_method_11_code (2 : Nat) (Option.some Jvm.ClassFile.FieldType.int)) ∈ mk_WL := mk_t5 48 rfl rfl
theorem mw_1009 : (Jvm.Cond.methodLink "SplitChannelLaw" (65 : Nat) ({ cls := "SplitChannel", name := "heard", desc := "(I)I" } : Jvm.MethodName)) ∈ mk_WL := mk_t5 49 rfl rfl
theorem mw_1010 : (Jvm.Cond.instanceMethod ({ cls := "SplitChannel", name := "heard", desc := "(I)I" } : Jvm.MethodName)) ∈ mk_WL := mk_t5 50 rfl rfl
theorem mw_1011 : (Jvm.Cond.selects "SplitChannel" ({ cls := "SplitChannel", name := "heard", desc := "(I)I" } : Jvm.MethodName) ({ cls := "SplitChannel", name := "heard", desc := "(I)I" } : Jvm.MethodName)) ∈ mk_WL := mk_t5 51 rfl rfl
theorem mw_1012 : (Jvm.Cond.code ({ cls := "SplitChannel", name := "heard", desc := "(I)I" } : Jvm.MethodName) prog_1_method_16_code (2 : Nat) (Option.some Jvm.ClassFile.FieldType.int)) ∈ mk_WL := mk_t5 52 rfl rfl
theorem mw_1013 : (Jvm.Cond.methodLink "SplitChannel" (182 : Nat) ({ cls := "SplitChannel$Course", name := "slotsHeard", desc := "(II)I" } : Jvm.MethodName)) ∈ mk_WL := mk_t5 53 rfl rfl
theorem mw_1014 : (Jvm.Cond.instanceMethod ({ cls := "SplitChannel$Course", name := "slotsHeard", desc := "(II)I" } : Jvm.MethodName)) ∈ mk_WL := mk_t5 54 rfl rfl
theorem mw_1015 : (Jvm.Cond.selects "SplitChannel$Course" ({ cls := "SplitChannel$Course", name := "slotsHeard", desc := "(II)I" } : Jvm.MethodName) ({ cls := "SplitChannel$Course", name := "slotsHeard", desc := "(II)I" } : Jvm.MethodName)) ∈ mk_WL := mk_t5 55 rfl rfl
theorem mw_1016 : (Jvm.Cond.code ({ cls := "SplitChannel$Course", name := "slotsHeard", desc := "(II)I" } : Jvm.MethodName) prog_3_method_6_code (5 : Nat) (Option.some Jvm.ClassFile.FieldType.int)) ∈ mk_WL := mk_t5 56 rfl rfl
theorem mw_1017 : (Jvm.Cond.methodLink "SplitChannelLaw" (79 : Nat) ({ cls := "SplitChannel", name := "deepest", desc := "()I" } : Jvm.MethodName)) ∈ mk_WL := mk_t5 57 rfl rfl
theorem mw_1018 : (Jvm.Cond.instanceMethod ({ cls := "SplitChannel", name := "deepest", desc := "()I" } : Jvm.MethodName)) ∈ mk_WL := mk_t5 58 rfl rfl
theorem mw_1019 : (Jvm.Cond.selects "SplitChannel" ({ cls := "SplitChannel", name := "deepest", desc := "()I" } : Jvm.MethodName) ({ cls := "SplitChannel", name := "deepest", desc := "()I" } : Jvm.MethodName)) ∈ mk_WL := mk_t5 59 rfl rfl
theorem mw_1020 : (Jvm.Cond.code ({ cls := "SplitChannel", name := "deepest", desc := "()I" } : Jvm.MethodName) prog_1_method_19_code (1 : Nat) (Option.some Jvm.ClassFile.FieldType.int)) ∈ mk_WL := mk_t5 60 rfl rfl
theorem mw_1021 : (Jvm.Cond.methodLink "SplitChannel" (191 : Nat) ({ cls := "SplitChannel$Course", name := "greatestDepth", desc := "(I)I" } : Jvm.MethodName)) ∈ mk_WL := mk_t5 61 rfl rfl
theorem mw_1022 : (Jvm.Cond.instanceMethod ({ cls := "SplitChannel$Course", name := "greatestDepth", desc := "(I)I" } : Jvm.MethodName)) ∈ mk_WL := mk_t5 62 rfl rfl
theorem mw_1023 : (Jvm.Cond.selects "SplitChannel$Course" ({ cls := "SplitChannel$Course", name := "greatestDepth", desc := "(I)I" } : Jvm.MethodName) ({ cls := "SplitChannel$Course", name := "greatestDepth", desc := "(I)I" } : Jvm.MethodName)) ∈ mk_WL := mk_t5 63 rfl rfl
theorem mw_1024 : (Jvm.Cond.code ({ cls := "SplitChannel$Course", name := "greatestDepth", desc := "(I)I" } : Jvm.MethodName) prog_3_method_9_code (4 : Nat) (Option.some Jvm.ClassFile.FieldType.int)) ∈ mk_WL := mk_t5 64 rfl rfl
theorem mw_1025 : (Jvm.Cond.methodLink "SplitChannel$Course" (75 : Nat) ({ cls := "java/lang/Math", name := "max", desc := "(II)I" } : Jvm.MethodName)) ∈ mk_WL := mk_t5 65 rfl rfl
theorem mw_1026 : (Jvm.Cond.methodLink "SplitChannelLaw" (119 : Nat) ({ cls := "SplitChannelLaw", name := "isCounted", desc := "(LSplitChannel;LSplitChannelLaw$Channel;)Z" } : Jvm.MethodName)) ∈ mk_WL := mk_t5 66 rfl rfl
theorem mw_1027 : (Jvm.Cond.static ({ cls := "SplitChannelLaw", name := "isCounted", desc := "(LSplitChannel;LSplitChannelLaw$Channel;)Z" } : Jvm.MethodName)) ∈ mk_WL := mk_t5 67 rfl rfl
theorem mw_1028 : (Jvm.Cond.code ({ cls := "SplitChannelLaw", name := "isCounted", desc := "(LSplitChannel;LSplitChannelLaw$Channel;)Z" } : Jvm.MethodName) method_5_code (10 : Nat) (Option.some Jvm.ClassFile.FieldType.boolean)) ∈ mk_WL := mk_t5 68 rfl rfl
theorem mw_1029 : (Jvm.Cond.methodLink "SplitChannelLaw" (86 : Nat) ({ cls := "SplitChannel", name := "taken", desc := "(I)I" } : Jvm.MethodName)) ∈ mk_WL := mk_t5 69 rfl rfl
theorem mw_1030 : (Jvm.Cond.instanceMethod ({ cls := "SplitChannel", name := "taken", desc := "(I)I" } : Jvm.MethodName)) ∈ mk_WL := mk_t5 70 rfl rfl
theorem mw_1031 : (Jvm.Cond.selects "SplitChannel" ({ cls := "SplitChannel", name := "taken", desc := "(I)I" } : Jvm.MethodName) ({ cls := "SplitChannel", name := "taken", desc := "(I)I" } : Jvm.MethodName)) ∈ mk_WL := mk_t5 71 rfl rfl
theorem mw_1032 : (Jvm.Cond.code ({ cls := "SplitChannel", name := "taken", desc := "(I)I" } : Jvm.MethodName) prog_1_method_12_code (2 : Nat) (Option.some Jvm.ClassFile.FieldType.int)) ∈ mk_WL := mk_t5 72 rfl rfl
theorem mw_1033 : (Jvm.Cond.methodLink "SplitChannelLaw" (89 : Nat) ({ cls := "SplitChannel", name := "epochs", desc := "()I" } : Jvm.MethodName)) ∈ mk_WL := mk_t5 73 rfl rfl
theorem mw_1034 : (Jvm.Cond.instanceMethod ({ cls := "SplitChannel", name := "epochs", desc := "()I" } : Jvm.MethodName)) ∈ mk_WL := mk_t5 74 rfl rfl
theorem mw_1035 : (Jvm.Cond.selects "SplitChannel" ({ cls := "SplitChannel", name := "epochs", desc := "()I" } : Jvm.MethodName) ({ cls := "SplitChannel", name := "epochs", desc := "()I" } : Jvm.MethodName)) ∈ mk_WL := mk_t5 75 rfl rfl
theorem mw_1036 : (Jvm.Cond.code ({ cls := "SplitChannel", name := "epochs", desc := "()I" } : Jvm.MethodName) prog_1_method_20_code (1 : Nat) (Option.some Jvm.ClassFile.FieldType.int)) ∈ mk_WL := mk_t5 76 rfl rfl
theorem mw_1037 : (Jvm.Cond.arrayClass Jvm.ClassFile.FieldType.boolean) ∈ mk_WL := mk_t5 77 rfl rfl
theorem mw_1038 : (Jvm.Cond.sameMethod "java/lang/AbstractStringBuilder" "java/lang/AbstractStringBuilder" "append" "(Ljava/lang/String;)Ljava/lang/AbstractStringBuilder;") ∈ mk_WL := mk_t5 78 rfl rfl
theorem mw_1039 : (Jvm.Cond.sameMethod "java/lang/AbstractStringBuilder" "java/lang/AbstractStringBuilder" "appendNull" "()Ljava/lang/AbstractStringBuilder;") ∈ mk_WL := mk_t5 79 rfl rfl
theorem mw_1040 : (Jvm.Cond.sameMethod "java/lang/AbstractStringBuilder" "java/lang/AbstractStringBuilder" "ensureCapacityInternal" "(I)V") ∈ mk_WL := mk_t5 80 rfl rfl
theorem mw_1041 : (Jvm.Cond.sameMethod "java/lang/AbstractStringBuilder" "java/lang/AbstractStringBuilder" "newCapacity" "(I)I") ∈ mk_WL := mk_t5 81 rfl rfl
theorem mw_1042 : (Jvm.Cond.sameMethod "java/lang/AbstractStringBuilder" "java/lang/AbstractStringBuilder" "putStringAt" "(ILjava/lang/String;)V") ∈ mk_WL := mk_t5 82 rfl rfl
theorem mw_1043 : (Jvm.Cond.sameMethod "java/lang/AbstractStringBuilder" "java/lang/AbstractStringBuilder" "inflateIfNeededFor" "(Ljava/lang/String;)V") ∈ mk_WL := mk_t5 83 rfl rfl
theorem mw_1044 : (Jvm.Cond.sameMethod "java/lang/AbstractStringBuilder" "java/lang/AbstractStringBuilder" "inflate" "()V") ∈ mk_WL := mk_t5 84 rfl rfl
theorem mw_1045 : (Jvm.Cond.sameMethod "java/lang/AbstractStringBuilder" "java/lang/AbstractStringBuilder" "append" "(I)Ljava/lang/AbstractStringBuilder;") ∈ mk_WL := mk_t5 85 rfl rfl
theorem mw_p0 : Cond.selects RJ4 (mk_pv.getD 0 yL_cell) (mk_pv.getD 0 yL_cell) ∈ mk_WL := List.mem_filter.mpr ⟨List.mem_append_left _ (List.mem_of_getElem? (i := 0) rfl), rfl⟩
theorem mw_p1 : Cond.selects RJ4 (mk_pv.getD 1 yL_cell) (mk_pv.getD 1 yL_cell) ∈ mk_WL := List.mem_filter.mpr ⟨List.mem_append_left _ (List.mem_of_getElem? (i := 1) rfl), rfl⟩
theorem mw_p2 : Cond.selects RJ4 (mk_pv.getD 2 yL_cell) (mk_pv.getD 2 yL_cell) ∈ mk_WL := List.mem_filter.mpr ⟨List.mem_append_left _ (List.mem_of_getElem? (i := 2) rfl), rfl⟩
theorem mw_p3 : Cond.selects RJ4 (mk_pv.getD 3 yL_cell) (mk_pv.getD 3 yL_cell) ∈ mk_WL := List.mem_filter.mpr ⟨List.mem_append_left _ (List.mem_of_getElem? (i := 3) rfl), rfl⟩
theorem mk_inX0 : ∀ w ∈ wsX00, w ∈ mk_WL := List.forall_mem_cons.mpr ⟨mw_304, List.forall_mem_cons.mpr ⟨mw_306, List.forall_mem_cons.mpr ⟨mw_308, fun _ h => absurd h List.not_mem_nil⟩⟩⟩
theorem mk_inX1 : ∀ w ∈ wsX10, w ∈ mk_WL := List.forall_mem_cons.mpr ⟨mw_221, List.forall_mem_cons.mpr ⟨mw_223, List.forall_mem_cons.mpr ⟨mw_225, List.forall_mem_cons.mpr ⟨mw_227, List.forall_mem_cons.mpr ⟨mw_229, List.forall_mem_cons.mpr ⟨mw_231, List.forall_mem_cons.mpr ⟨mw_233, List.forall_mem_cons.mpr ⟨mw_235, List.forall_mem_cons.mpr ⟨mw_237, List.forall_mem_cons.mpr ⟨mw_239, List.forall_mem_cons.mpr ⟨mw_241, List.forall_mem_cons.mpr ⟨mw_243, List.forall_mem_cons.mpr ⟨mw_245, List.forall_mem_cons.mpr ⟨mw_247, fun _ h => absurd h List.not_mem_nil⟩⟩⟩⟩⟩⟩⟩⟩⟩⟩⟩⟩⟩⟩
theorem mk_inX2 : ∀ w ∈ wsX20, w ∈ mk_WL := List.forall_mem_cons.mpr ⟨mw_320, List.forall_mem_cons.mpr ⟨mw_322, List.forall_mem_cons.mpr ⟨mw_324, List.forall_mem_cons.mpr ⟨mw_326, List.forall_mem_cons.mpr ⟨mw_328, fun _ h => absurd h List.not_mem_nil⟩⟩⟩⟩⟩
theorem mk_inX3 : ∀ w ∈ wsX30, w ∈ mk_WL := List.forall_mem_cons.mpr ⟨mw_99, List.forall_mem_cons.mpr ⟨mw_101, List.forall_mem_cons.mpr ⟨mw_103, List.forall_mem_cons.mpr ⟨mw_105, List.forall_mem_cons.mpr ⟨mw_107, List.forall_mem_cons.mpr ⟨mw_109, List.forall_mem_cons.mpr ⟨mw_111, List.forall_mem_cons.mpr ⟨mw_113, List.forall_mem_cons.mpr ⟨mw_115, List.forall_mem_cons.mpr ⟨mw_117, List.forall_mem_cons.mpr ⟨mw_119, List.forall_mem_cons.mpr ⟨mw_121, fun _ h => absurd h List.not_mem_nil⟩⟩⟩⟩⟩⟩⟩⟩⟩⟩⟩⟩
theorem mk_inX4 : ∀ w ∈ wsX40, w ∈ mk_WL := List.forall_mem_cons.mpr ⟨mw_265, List.forall_mem_cons.mpr ⟨mw_267, List.forall_mem_cons.mpr ⟨mw_269, List.forall_mem_cons.mpr ⟨mw_271, List.forall_mem_cons.mpr ⟨mw_273, List.forall_mem_cons.mpr ⟨mw_275, List.forall_mem_cons.mpr ⟨mw_277, List.forall_mem_cons.mpr ⟨mw_279, List.forall_mem_cons.mpr ⟨mw_281, List.forall_mem_cons.mpr ⟨mw_283, List.forall_mem_cons.mpr ⟨mw_285, List.forall_mem_cons.mpr ⟨mw_287, List.forall_mem_cons.mpr ⟨mw_289, fun _ h => absurd h List.not_mem_nil⟩⟩⟩⟩⟩⟩⟩⟩⟩⟩⟩⟩⟩
theorem mk_inX5 : ∀ w ∈ wsX50, w ∈ mk_WL := List.forall_mem_cons.mpr ⟨mw_134, List.forall_mem_cons.mpr ⟨mw_136, List.forall_mem_cons.mpr ⟨mw_138, List.forall_mem_cons.mpr ⟨mw_140, List.forall_mem_cons.mpr ⟨mw_142, List.forall_mem_cons.mpr ⟨mw_144, List.forall_mem_cons.mpr ⟨mw_146, List.forall_mem_cons.mpr ⟨mw_148, fun _ h => absurd h List.not_mem_nil⟩⟩⟩⟩⟩⟩⟩⟩
theorem mk_inX6 : ∀ w ∈ wsX60, w ∈ mk_WL := List.forall_mem_cons.mpr ⟨mw_172, List.forall_mem_cons.mpr ⟨mw_174, List.forall_mem_cons.mpr ⟨mw_176, List.forall_mem_cons.mpr ⟨mw_178, fun _ h => absurd h List.not_mem_nil⟩⟩⟩⟩
theorem mk_inX7 : ∀ w ∈ wsX70, w ∈ mk_WL := List.forall_mem_cons.mpr ⟨mw_48, List.forall_mem_cons.mpr ⟨mw_50, fun _ h => absurd h List.not_mem_nil⟩⟩
theorem mk_inX8 : ∀ w ∈ wsX80, w ∈ mk_WL := List.forall_mem_cons.mpr ⟨mw_341, List.forall_mem_cons.mpr ⟨mw_343, List.forall_mem_cons.mpr ⟨mw_345, List.forall_mem_cons.mpr ⟨mw_347, List.forall_mem_cons.mpr ⟨mw_349, List.forall_mem_cons.mpr ⟨mw_351, List.forall_mem_cons.mpr ⟨mw_353, List.forall_mem_cons.mpr ⟨mw_355, List.forall_mem_cons.mpr ⟨mw_357, fun _ h => absurd h List.not_mem_nil⟩⟩⟩⟩⟩⟩⟩⟩⟩
theorem mk_inX9 : ∀ w ∈ wsX90, w ∈ mk_WL := List.forall_mem_cons.mpr ⟨mw_933, List.forall_mem_cons.mpr ⟨mw_935, List.forall_mem_cons.mpr ⟨mw_937, List.forall_mem_cons.mpr ⟨mw_939, List.forall_mem_cons.mpr ⟨mw_941, List.forall_mem_cons.mpr ⟨mw_943, List.forall_mem_cons.mpr ⟨mw_945, List.forall_mem_cons.mpr ⟨mw_947, List.forall_mem_cons.mpr ⟨mw_949, fun _ h => absurd h List.not_mem_nil⟩⟩⟩⟩⟩⟩⟩⟩⟩
theorem mk_inJ0 : ∀ w ∈ wsJ00, w ∈ mk_WL := List.forall_mem_cons.mpr ⟨mw_900, List.forall_mem_cons.mpr ⟨mw_902, List.forall_mem_cons.mpr ⟨mw_904, List.forall_mem_cons.mpr ⟨mw_906, fun _ h => absurd h List.not_mem_nil⟩⟩⟩⟩
theorem mk_inJ4 : ∀ w ∈ wsJ40, w ∈ mk_WL := List.forall_mem_cons.mpr ⟨mw_716, List.forall_mem_cons.mpr ⟨mw_718, List.forall_mem_cons.mpr ⟨mw_720, List.forall_mem_cons.mpr ⟨mw_722, fun _ h => absurd h List.not_mem_nil⟩⟩⟩⟩
