/-! the words of the tables (laid by wip/p31/gen/words.py); TBX: a StringBuilder has its superclass private methods (proved at the start) -/
def TBX : List Cond := [Cond.selects "java/lang/StringBuilder" ⟨"java/lang/AbstractStringBuilder", "ensureCapacityInternal", "(I)V"⟩ ⟨"java/lang/AbstractStringBuilder", "ensureCapacityInternal", "(I)V"⟩, Cond.selects "java/lang/StringBuilder" ⟨"java/lang/AbstractStringBuilder", "newCapacity", "(I)I"⟩ ⟨"java/lang/AbstractStringBuilder", "newCapacity", "(I)I"⟩, Cond.selects "java/lang/StringBuilder" ⟨"java/lang/AbstractStringBuilder", "putStringAt", "(ILjava/lang/String;)V"⟩ ⟨"java/lang/AbstractStringBuilder", "putStringAt", "(ILjava/lang/String;)V"⟩, Cond.selects "java/lang/StringBuilder" ⟨"java/lang/AbstractStringBuilder", "inflateIfNeededFor", "(Ljava/lang/String;)V"⟩ ⟨"java/lang/AbstractStringBuilder", "inflateIfNeededFor", "(Ljava/lang/String;)V"⟩]
def TB : List Cond := (TBX ++ lw_tbl).filter goodWord
theorem TB_l {w : Cond} (h : w ∈ lw_tbl) (g : goodWord w = true) : w ∈ TB := List.mem_filter.mpr ⟨List.mem_append_right _ h, g⟩
theorem TB_0 {w : Cond} (h : w ∈ tables_1) (g : goodWord w = true) : w ∈ TB := TB_l (List.mem_append_right _ h) g
theorem TB_x {w : Cond} (i : Nat) (h : TBX[i]? = some w) (g : goodWord w = true) : w ∈ TB := List.mem_filter.mpr ⟨List.mem_append_left _ (List.mem_of_getElem? h), g⟩
theorem TB_s {w : Cond} (i : Nat) (h : (k2_sels lw_privs)[i]? = some w) (g : goodWord w = true) : w ∈ TB := TB_l (List.mem_append_left _ (List.mem_of_getElem? h)) g
theorem tpv_0 : Cond.selects "java/lang/StringBuilder" ⟨"java/lang/AbstractStringBuilder", "ensureCapacityInternal", "(I)V"⟩ ⟨"java/lang/AbstractStringBuilder", "ensureCapacityInternal", "(I)V"⟩ ∈ TB := TB_x 0 rfl rfl
theorem tpv_1 : Cond.selects "java/lang/StringBuilder" ⟨"java/lang/AbstractStringBuilder", "newCapacity", "(I)I"⟩ ⟨"java/lang/AbstractStringBuilder", "newCapacity", "(I)I"⟩ ∈ TB := TB_x 1 rfl rfl
theorem tpv_2 : Cond.selects "java/lang/StringBuilder" ⟨"java/lang/AbstractStringBuilder", "putStringAt", "(ILjava/lang/String;)V"⟩ ⟨"java/lang/AbstractStringBuilder", "putStringAt", "(ILjava/lang/String;)V"⟩ ∈ TB := TB_x 2 rfl rfl
theorem tpv_3 : Cond.selects "java/lang/StringBuilder" ⟨"java/lang/AbstractStringBuilder", "inflateIfNeededFor", "(Ljava/lang/String;)V"⟩ ⟨"java/lang/AbstractStringBuilder", "inflateIfNeededFor", "(Ljava/lang/String;)V"⟩ ∈ TB := TB_x 3 rfl rfl
theorem TB_1 {w : Cond} (i : Nat) (h : tables_1_1[i]? = some w) (g : goodWord w = true) : w ∈ TB := TB_0 (List.mem_append_left _ (List.mem_of_getElem? h)) g
theorem TB_2 {w : Cond} (i : Nat) (h : tables_1_2[i]? = some w) (g : goodWord w = true) : w ∈ TB := TB_0 (List.mem_append_right _ (List.mem_append_left _ (List.mem_of_getElem? h))) g
theorem TB_3 {w : Cond} (i : Nat) (h : tables_1_3[i]? = some w) (g : goodWord w = true) : w ∈ TB := TB_0 (List.mem_append_right _ (List.mem_append_right _ (List.mem_append_left _ (List.mem_of_getElem? h)))) g
theorem TB_4 {w : Cond} (i : Nat) (h : tables_1_4[i]? = some w) (g : goodWord w = true) : w ∈ TB := TB_0 (List.mem_append_right _ (List.mem_append_right _ (List.mem_append_right _ (List.mem_append_left _ (List.mem_of_getElem? h))))) g
theorem TB_5 {w : Cond} (i : Nat) (h : tables_1_5[i]? = some w) (g : goodWord w = true) : w ∈ TB := TB_0 (List.mem_append_right _ (List.mem_append_right _ (List.mem_append_right _ (List.mem_append_right _ (List.mem_of_getElem? h))))) g
theorem tw_0 : (Jvm.Cond.initialized "ForesightHubLaw") ∈ TB := TB_1 0 rfl rfl
theorem tw_1 : (Jvm.Cond.initialized "ForesightHub") ∈ TB := TB_1 1 rfl rfl
theorem tw_2 : (Jvm.Cond.initialized "ForesightHub$Reader") ∈ TB := TB_1 2 rfl rfl
theorem tw_3 : (Jvm.Cond.initialized "ForesightHub$Plan") ∈ TB := TB_1 3 rfl rfl
theorem tw_4 : (Jvm.Cond.initialized "ForesightHub$Hub") ∈ TB := TB_1 4 rfl rfl
theorem tw_5 : (Jvm.Cond.initialized "ForesightHub$State") ∈ TB := TB_1 5 rfl rfl
theorem tw_6 : (Jvm.Cond.initialized "ForesightHub$ErrorBook") ∈ TB := TB_1 6 rfl rfl
theorem tw_7 : (Jvm.Cond.initialized "ForesightHub$Log") ∈ TB := TB_1 7 rfl rfl
theorem tw_8 : (Jvm.Cond.initialized "ForesightHub$History") ∈ TB := TB_1 8 rfl rfl
theorem tw_9 : (Jvm.Cond.initialized "java/lang/Throwable") ∈ TB := TB_1 9 rfl rfl
theorem tw_10 : (Jvm.Cond.initialized "java/lang/Exception") ∈ TB := TB_1 10 rfl rfl
theorem tw_11 : (Jvm.Cond.initialized "java/lang/RuntimeException") ∈ TB := TB_1 11 rfl rfl
theorem tw_12 : (Jvm.Cond.initialized "java/lang/IllegalArgumentException") ∈ TB := TB_1 12 rfl rfl
theorem tw_13 : (Jvm.Cond.initialized "java/lang/Math") ∈ TB := TB_1 13 rfl rfl
theorem tw_14 : (Jvm.Cond.initialized "java/lang/System") ∈ TB := TB_1 14 rfl rfl
theorem tw_15 : (Jvm.Cond.initialized "java/lang/AbstractStringBuilder") ∈ TB := TB_1 15 rfl rfl
theorem tw_16 : (Jvm.Cond.initialized "java/lang/StringBuilder") ∈ TB := TB_1 16 rfl rfl
theorem tw_17 : (Jvm.Cond.initialized "java/lang/String") ∈ TB := TB_1 17 rfl rfl
theorem tw_18 : (Jvm.Cond.initialized "java/lang/StringUTF16") ∈ TB := TB_1 18 rfl rfl
theorem tw_19 : (Jvm.Cond.initialized "jdk/internal/util/ArraysSupport") ∈ TB := TB_1 19 rfl rfl
theorem tw_20 : (Jvm.Cond.initialized "java/util/Arrays") ∈ TB := TB_1 20 rfl rfl
theorem tw_21 : (Jvm.Cond.initialized "jdk/internal/util/Preconditions") ∈ TB := TB_1 21 rfl rfl
theorem tw_22 : (Jvm.Cond.initialized "java/lang/StringLatin1") ∈ TB := TB_1 22 rfl rfl
theorem tw_23 : (Jvm.Cond.initialized "java/lang/Integer") ∈ TB := TB_1 23 rfl rfl
theorem tw_24 : (Jvm.Cond.initialized "java/lang/IndexOutOfBoundsException") ∈ TB := TB_1 24 rfl rfl
theorem tw_25 : (Jvm.Cond.initialized "java/lang/IllegalStateException") ∈ TB := TB_1 25 rfl rfl
theorem tw_26 : (Jvm.Cond.classLink "ForesightHubLaw" (77 : Nat) "ForesightHub") ∈ TB := TB_1 26 rfl rfl
theorem tw_27 : (Jvm.Cond.instantiable "ForesightHub" (5 : Nat)) ∈ TB := TB_1 27 rfl rfl
theorem tw_28 : (Jvm.Cond.methodLink "ForesightHubLaw" (104 : Nat) ({ cls := "ForesightHub", name := "<init>", desc := "()V" } : Jvm.MethodName)) ∈ TB := TB_1 28 rfl rfl
theorem tw_29 : (Jvm.Cond.instanceMethod ({ cls := "ForesightHub", name := "<init>", desc := "()V" } : Jvm.MethodName)) ∈ TB := TB_1 29 rfl rfl
theorem tw_30 : (Jvm.Cond.code ({ cls := "ForesightHub", name := "<init>", desc := "()V" } : Jvm.MethodName) prog_1_method_1_code (2 : Nat) (Option.none : Option Jvm.ClassFile.FieldType)) ∈ TB := TB_1 30 rfl rfl
theorem tw_31 : (Jvm.Cond.methodLink "ForesightHub" (1 : Nat) ({ cls := "java/lang/Object", name := "<init>", desc := "()V" } : Jvm.MethodName)) ∈ TB := TB_1 31 rfl rfl
theorem tw_32 : (Jvm.Cond.instanceMethod ({ cls := "java/lang/Object", name := "<init>", desc := "()V" } : Jvm.MethodName)) ∈ TB := TB_1 32 rfl rfl
theorem tw_33 : (Jvm.Cond.code ({ cls := "java/lang/Object", name := "<init>", desc := "()V" } : Jvm.MethodName) object_method_1_code (1 : Nat) (Option.none : Option Jvm.ClassFile.FieldType)) ∈ TB := TB_1 33 rfl rfl
theorem tw_34 : (Jvm.Cond.classLink "ForesightHub" (7 : Nat) "ForesightHub$Reader") ∈ TB := TB_1 34 rfl rfl
theorem tw_35 : (Jvm.Cond.instantiable "ForesightHub$Reader" (14 : Nat)) ∈ TB := TB_1 35 rfl rfl
theorem tw_37 : (Jvm.Cond.instanceMethod ({ cls := "ForesightHub$Reader", name := "<init>", desc := "()V" } : Jvm.MethodName)) ∈ TB := TB_1 37 rfl rfl
theorem tw_38 : (Jvm.Cond.code ({ cls := "ForesightHub$Reader", name := "<init>", desc := "()V" } : Jvm.MethodName) prog_7_method_1_code (1 : Nat) (Option.none : Option Jvm.ClassFile.FieldType)) ∈ TB := TB_1 38 rfl rfl
theorem tw_39 : (Jvm.Cond.methodLink "ForesightHub$Reader" (3 : Nat) ({ cls := "java/lang/Object", name := "<init>", desc := "()V" } : Jvm.MethodName)) ∈ TB := TB_1 39 rfl rfl
theorem tw_40 : (Jvm.Cond.classLink "ForesightHub$Reader" (15 : Nat) "ForesightHub$Plan") ∈ TB := TB_1 40 rfl rfl
theorem tw_41 : (Jvm.Cond.instantiable "ForesightHub$Plan" (16 : Nat)) ∈ TB := TB_1 41 rfl rfl
theorem tw_42 : (Jvm.Cond.methodLink "ForesightHub$Reader" (17 : Nat) ({ cls := "ForesightHub$Plan", name := "<init>", desc := "()V" } : Jvm.MethodName)) ∈ TB := TB_1 42 rfl rfl
theorem tw_43 : (Jvm.Cond.instanceMethod ({ cls := "ForesightHub$Plan", name := "<init>", desc := "()V" } : Jvm.MethodName)) ∈ TB := TB_1 43 rfl rfl
theorem tw_44 : (Jvm.Cond.code ({ cls := "ForesightHub$Plan", name := "<init>", desc := "()V" } : Jvm.MethodName) prog_6_method_1_code (1 : Nat) (Option.none : Option Jvm.ClassFile.FieldType)) ∈ TB := TB_1 44 rfl rfl
theorem tw_45 : (Jvm.Cond.methodLink "ForesightHub$Plan" (3 : Nat) ({ cls := "java/lang/Object", name := "<init>", desc := "()V" } : Jvm.MethodName)) ∈ TB := TB_1 45 rfl rfl
theorem tw_46 : (Jvm.Cond.methodLink "ForesightHub$Plan" (39 : Nat) ({ cls := "ForesightHub$Plan", name := "clear", desc := "()V" } : Jvm.MethodName)) ∈ TB := TB_1 46 rfl rfl
theorem tw_47 : (Jvm.Cond.instanceMethod ({ cls := "ForesightHub$Plan", name := "clear", desc := "()V" } : Jvm.MethodName)) ∈ TB := TB_1 47 rfl rfl
theorem tw_48 : (Jvm.Cond.selects "ForesightHub$Plan" ({ cls := "ForesightHub$Plan", name := "clear", desc := "()V" } : Jvm.MethodName) ({ cls := "ForesightHub$Plan", name := "clear", desc := "()V" } : Jvm.MethodName)) ∈ TB := TB_1 48 rfl rfl
theorem tw_49 : (Jvm.Cond.code ({ cls := "ForesightHub$Plan", name := "clear", desc := "()V" } : Jvm.MethodName) prog_6_method_2_code (1 : Nat) (Option.none : Option Jvm.ClassFile.FieldType)) ∈ TB := TB_1 49 rfl rfl
theorem tw_50 : (Jvm.Cond.fieldLink "ForesightHub$Plan" (42 : Nat) "ForesightHub$Plan" "whole" "I") ∈ TB := TB_1 50 rfl rfl
theorem tw_51 : (Jvm.Cond.fieldLink "ForesightHub" (93 : Nat) "ForesightHub$Plan" "whole" "I") ∈ TB := TB_1 51 rfl rfl
theorem tw_52 : (Jvm.Cond.fieldLink "ForesightHub$Reader" (95 : Nat) "ForesightHub$Plan" "whole" "I") ∈ TB := TB_1 52 rfl rfl
theorem tw_53 : (Jvm.Cond.fieldLink "ForesightHub$Hub" (181 : Nat) "ForesightHub$Plan" "whole" "I") ∈ TB := TB_1 53 rfl rfl
theorem tw_54 : (Jvm.Cond.fieldLink "ForesightHub$Plan" (46 : Nat) "ForesightHub$Plan" "ports" "I") ∈ TB := TB_1 54 rfl rfl
theorem tw_55 : (Jvm.Cond.fieldLink "ForesightHub" (96 : Nat) "ForesightHub$Plan" "ports" "I") ∈ TB := TB_1 55 rfl rfl
theorem tw_56 : (Jvm.Cond.fieldLink "ForesightHub$Reader" (98 : Nat) "ForesightHub$Plan" "ports" "I") ∈ TB := TB_1 56 rfl rfl
theorem tw_57 : (Jvm.Cond.fieldLink "ForesightHub$Hub" (25 : Nat) "ForesightHub$Plan" "score" "I") ∈ TB := TB_1 57 rfl rfl
theorem tw_58 : (Jvm.Cond.fieldLink "ForesightHub$State" (49 : Nat) "ForesightHub$Plan" "score" "I") ∈ TB := TB_1 58 rfl rfl
theorem tw_59 : (Jvm.Cond.fieldLink "ForesightHub$Plan" (49 : Nat) "ForesightHub$Plan" "score" "I") ∈ TB := TB_1 59 rfl rfl
theorem tw_60 : (Jvm.Cond.fieldLink "ForesightHub$Reader" (183 : Nat) "ForesightHub$Plan" "score" "I") ∈ TB := TB_1 60 rfl rfl
theorem tw_61 : (Jvm.Cond.fieldLink "ForesightHub$Plan" (52 : Nat) "ForesightHub$Plan" "grace" "I") ∈ TB := TB_1 61 rfl rfl
theorem tw_62 : (Jvm.Cond.fieldLink "ForesightHub" (112 : Nat) "ForesightHub$Plan" "grace" "I") ∈ TB := TB_1 62 rfl rfl
theorem tw_63 : (Jvm.Cond.fieldLink "ForesightHub$Reader" (186 : Nat) "ForesightHub$Plan" "grace" "I") ∈ TB := TB_1 63 rfl rfl
theorem tw_64 : (Jvm.Cond.fieldLink "ForesightHub$Hub" (157 : Nat) "ForesightHub$Plan" "grace" "I") ∈ TB := TB_1 64 rfl rfl
theorem tw_65 : (Jvm.Cond.fieldLink "ForesightHub$Plan" (55 : Nat) "ForesightHub$Plan" "patterns" "I") ∈ TB := TB_1 65 rfl rfl
theorem tw_66 : (Jvm.Cond.fieldLink "ForesightHub" (87 : Nat) "ForesightHub$Plan" "patterns" "I") ∈ TB := TB_1 66 rfl rfl
theorem tw_67 : (Jvm.Cond.fieldLink "ForesightHub$Reader" (124 : Nat) "ForesightHub$Plan" "patterns" "I") ∈ TB := TB_1 67 rfl rfl
theorem tw_68 : (Jvm.Cond.fieldLink "ForesightHub$Hub" (87 : Nat) "ForesightHub$Plan" "patterns" "I") ∈ TB := TB_1 68 rfl rfl
theorem tw_69 : (Jvm.Cond.fieldLink "ForesightHub$Plan" (58 : Nat) "ForesightHub$Plan" "devices" "I") ∈ TB := TB_1 69 rfl rfl
theorem tw_70 : (Jvm.Cond.fieldLink "ForesightHub$State" (57 : Nat) "ForesightHub$Plan" "devices" "I") ∈ TB := TB_1 70 rfl rfl
theorem tw_71 : (Jvm.Cond.fieldLink "ForesightHub$Hub" (39 : Nat) "ForesightHub$Plan" "devices" "I") ∈ TB := TB_1 71 rfl rfl
theorem tw_72 : (Jvm.Cond.fieldLink "ForesightHub" (90 : Nat) "ForesightHub$Plan" "devices" "I") ∈ TB := TB_1 72 rfl rfl
theorem tw_73 : (Jvm.Cond.fieldLink "ForesightHub$Reader" (151 : Nat) "ForesightHub$Plan" "devices" "I") ∈ TB := TB_1 73 rfl rfl
theorem tw_74 : (Jvm.Cond.fieldLink "ForesightHub$Plan" (61 : Nat) "ForesightHub$Plan" "streams" "I") ∈ TB := TB_1 74 rfl rfl
theorem tw_75 : (Jvm.Cond.fieldLink "ForesightHub" (82 : Nat) "ForesightHub$Plan" "streams" "I") ∈ TB := TB_1 75 rfl rfl
theorem tw_76 : (Jvm.Cond.fieldLink "ForesightHub$Hub" (53 : Nat) "ForesightHub$Plan" "streams" "I") ∈ TB := TB_1 76 rfl rfl
theorem tw_77 : (Jvm.Cond.fieldLink "ForesightHub$Reader" (171 : Nat) "ForesightHub$Plan" "streams" "I") ∈ TB := TB_1 77 rfl rfl
theorem tw_78 : (Jvm.Cond.fieldLink "ForesightHub$Plan" (9 : Nat) "ForesightHub$Plan" "weight" "[I") ∈ TB := TB_1 78 rfl rfl
theorem tw_79 : (Jvm.Cond.fieldLink "ForesightHub$Reader" (131 : Nat) "ForesightHub$Plan" "weight" "[I") ∈ TB := TB_1 79 rfl rfl
theorem tw_80 : (Jvm.Cond.fieldLink "ForesightHub$Hub" (90 : Nat) "ForesightHub$Plan" "weight" "[I") ∈ TB := TB_1 80 rfl rfl
theorem tw_81 : (Jvm.Cond.fieldLink "ForesightHub$Plan" (15 : Nat) "ForesightHub$Plan" "within" "[I") ∈ TB := TB_1 81 rfl rfl
theorem tw_82 : (Jvm.Cond.fieldLink "ForesightHub$Reader" (135 : Nat) "ForesightHub$Plan" "within" "[I") ∈ TB := TB_1 82 rfl rfl
theorem tw_83 : (Jvm.Cond.fieldLink "ForesightHub$Hub" (100 : Nat) "ForesightHub$Plan" "within" "[I") ∈ TB := TB_1 83 rfl rfl
theorem tw_84 : (Jvm.Cond.fieldLink "ForesightHub$Plan" (18 : Nat) "ForesightHub$Plan" "patternErrors" "[I") ∈ TB := TB_1 84 rfl rfl
theorem tw_85 : (Jvm.Cond.fieldLink "ForesightHub$Reader" (148 : Nat) "ForesightHub$Plan" "patternErrors" "[I") ∈ TB := TB_1 85 rfl rfl
theorem tw_86 : (Jvm.Cond.fieldLink "ForesightHub$Hub" (124 : Nat) "ForesightHub$Plan" "patternErrors" "[I") ∈ TB := TB_1 86 rfl rfl
theorem tw_87 : (Jvm.Cond.fieldLink "ForesightHub$Plan" (21 : Nat) "ForesightHub$Plan" "patternKinds" "[I") ∈ TB := TB_1 87 rfl rfl
theorem tw_88 : (Jvm.Cond.fieldLink "ForesightHub$Reader" (145 : Nat) "ForesightHub$Plan" "patternKinds" "[I") ∈ TB := TB_1 88 rfl rfl
theorem tw_89 : (Jvm.Cond.fieldLink "ForesightHub$Hub" (127 : Nat) "ForesightHub$Plan" "patternKinds" "[I") ∈ TB := TB_1 89 rfl rfl
theorem tw_90 : (Jvm.Cond.fieldLink "ForesightHub$Plan" (24 : Nat) "ForesightHub$Plan" "firstPort" "[I") ∈ TB := TB_1 90 rfl rfl
theorem tw_91 : (Jvm.Cond.fieldLink "ForesightHub$State" (60 : Nat) "ForesightHub$Plan" "firstPort" "[I") ∈ TB := TB_1 91 rfl rfl
theorem tw_92 : (Jvm.Cond.fieldLink "ForesightHub$Reader" (157 : Nat) "ForesightHub$Plan" "firstPort" "[I") ∈ TB := TB_1 92 rfl rfl
theorem tw_93 : (Jvm.Cond.fieldLink "ForesightHub$Plan" (27 : Nat) "ForesightHub$Plan" "heir" "[I") ∈ TB := TB_1 93 rfl rfl
theorem tw_94 : (Jvm.Cond.fieldLink "ForesightHub" (134 : Nat) "ForesightHub$Plan" "heir" "[I") ∈ TB := TB_1 94 rfl rfl
theorem tw_95 : (Jvm.Cond.fieldLink "ForesightHub$Reader" (160 : Nat) "ForesightHub$Plan" "heir" "[I") ∈ TB := TB_1 95 rfl rfl
theorem tw_96 : (Jvm.Cond.fieldLink "ForesightHub$Hub" (169 : Nat) "ForesightHub$Plan" "heir" "[I") ∈ TB := TB_1 96 rfl rfl
theorem tw_97 : (Jvm.Cond.fieldLink "ForesightHub$Plan" (30 : Nat) "ForesightHub$Plan" "home" "[I") ∈ TB := TB_1 97 rfl rfl
theorem tw_98 : (Jvm.Cond.fieldLink "ForesightHub" (184 : Nat) "ForesightHub$Plan" "home" "[I") ∈ TB := TB_1 98 rfl rfl
theorem tw_99 : (Jvm.Cond.fieldLink "ForesightHub$Reader" (174 : Nat) "ForesightHub$Plan" "home" "[I") ∈ TB := TB_1 99 rfl rfl
theorem tw_100 : (Jvm.Cond.fieldLink "ForesightHub$Hub" (166 : Nat) "ForesightHub$Plan" "home" "[I") ∈ TB := TB_1 100 rfl rfl
theorem tw_101 : (Jvm.Cond.fieldLink "ForesightHub$Plan" (33 : Nat) "ForesightHub$Plan" "rate" "[I") ∈ TB := TB_1 101 rfl rfl
theorem tw_102 : (Jvm.Cond.fieldLink "ForesightHub" (175 : Nat) "ForesightHub$Plan" "rate" "[I") ∈ TB := TB_1 102 rfl rfl
theorem tw_103 : (Jvm.Cond.fieldLink "ForesightHub$Hub" (59 : Nat) "ForesightHub$Plan" "rate" "[I") ∈ TB := TB_1 103 rfl rfl
theorem tw_104 : (Jvm.Cond.fieldLink "ForesightHub$Reader" (177 : Nat) "ForesightHub$Plan" "rate" "[I") ∈ TB := TB_1 104 rfl rfl
theorem tw_105 : (Jvm.Cond.fieldLink "ForesightHub$Plan" (36 : Nat) "ForesightHub$Plan" "packet" "[I") ∈ TB := TB_1 105 rfl rfl
theorem tw_106 : (Jvm.Cond.fieldLink "ForesightHub" (178 : Nat) "ForesightHub$Plan" "packet" "[I") ∈ TB := TB_1 106 rfl rfl
theorem tw_107 : (Jvm.Cond.fieldLink "ForesightHub$Hub" (75 : Nat) "ForesightHub$Plan" "packet" "[I") ∈ TB := TB_1 107 rfl rfl
theorem tw_108 : (Jvm.Cond.fieldLink "ForesightHub$Reader" (180 : Nat) "ForesightHub$Plan" "packet" "[I") ∈ TB := TB_1 108 rfl rfl
theorem tw_141 : (Jvm.Cond.superclass "ForesightHub$Plan" "java/lang/Object") ∈ TB := TB_1 141 rfl rfl
theorem tw_142 : (Jvm.Cond.arrayClass Jvm.ClassFile.FieldType.byte) ∈ TB := TB_1 142 rfl rfl
theorem tw_143 : (Jvm.Cond.arrayClass Jvm.ClassFile.FieldType.int) ∈ TB := TB_1 143 rfl rfl
theorem tw_144 : (Jvm.Cond.fieldLink "ForesightHub$Reader" (9 : Nat) "ForesightHub$Reader" "buffer" "[B") ∈ TB := TB_1 144 rfl rfl
theorem tw_145 : (Jvm.Cond.fieldLink "ForesightHub$Reader" (32 : Nat) "ForesightHub$Reader" "filled" "I") ∈ TB := TB_1 145 rfl rfl
theorem tw_146 : (Jvm.Cond.fieldLink "ForesightHub" (49 : Nat) "ForesightHub$Reader" "filled" "I") ∈ TB := TB_1 146 rfl rfl
theorem tw_147 : (Jvm.Cond.fieldLink "ForesightHub$Reader" (51 : Nat) "ForesightHub$Reader" "textEnd" "I") ∈ TB := TB_1 147 rfl rfl
theorem tw_148 : (Jvm.Cond.fieldLink "ForesightHub$Reader" (54 : Nat) "ForesightHub$Reader" "position" "I") ∈ TB := TB_1 148 rfl rfl
theorem tw_149 : (Jvm.Cond.fieldLink "ForesightHub$Reader" (71 : Nat) "ForesightHub$Reader" "token" "I") ∈ TB := TB_1 149 rfl rfl
theorem tw_150 : (Jvm.Cond.fieldLink "ForesightHub$Reader" (197 : Nat) "ForesightHub$Reader" "tokenStart" "I") ∈ TB := TB_1 150 rfl rfl
theorem tw_151 : (Jvm.Cond.fieldLink "ForesightHub$Reader" (91 : Nat) "ForesightHub$Reader" "value" "J") ∈ TB := TB_1 151 rfl rfl
theorem tw_152 : (Jvm.Cond.fieldLink "ForesightHub$Reader" (36 : Nat) "ForesightHub$Reader" "faultOffset" "I") ∈ TB := TB_1 152 rfl rfl
theorem tw_153 : (Jvm.Cond.fieldLink "ForesightHub$Reader" (39 : Nat) "ForesightHub$Reader" "faultKind" "I") ∈ TB := TB_1 153 rfl rfl
theorem tw_154 : (Jvm.Cond.fieldLink "ForesightHub$Reader" (18 : Nat) "ForesightHub$Reader" "plan" "LForesightHub$Plan;") ∈ TB := TB_1 154 rfl rfl
theorem tw_155 : (Jvm.Cond.fieldLink "ForesightHub$Reader" (57 : Nat) "ForesightHub$Reader" "alarmTold" "Z") ∈ TB := TB_1 155 rfl rfl
theorem tw_156 : (Jvm.Cond.fieldLink "ForesightHub$Reader" (22 : Nat) "ForesightHub$Reader" "patternNames" "[J") ∈ TB := TB_1 156 rfl rfl
theorem tw_157 : (Jvm.Cond.fieldLink "ForesightHub$Reader" (26 : Nat) "ForesightHub$Reader" "deviceNames" "[J") ∈ TB := TB_1 157 rfl rfl
theorem tw_158 : (Jvm.Cond.fieldLink "ForesightHub$Reader" (29 : Nat) "ForesightHub$Reader" "streamNames" "[J") ∈ TB := TB_1 158 rfl rfl
theorem tw_187 : (Jvm.Cond.superclass "ForesightHub$Reader" "java/lang/Object") ∈ TB := TB_1 187 rfl rfl
theorem tw_188 : (Jvm.Cond.arrayClass Jvm.ClassFile.FieldType.long) ∈ TB := TB_1 188 rfl rfl
theorem tw_189 : (Jvm.Cond.classLink "ForesightHub" (16 : Nat) "ForesightHub$Hub") ∈ TB := TB_1 189 rfl rfl
theorem tw_190 : (Jvm.Cond.instantiable "ForesightHub$Hub" (2 : Nat)) ∈ TB := TB_1 190 rfl rfl
theorem tw_191 : (Jvm.Cond.methodLink "ForesightHub" (18 : Nat) ({ cls := "ForesightHub$Hub", name := "<init>", desc := "()V" } : Jvm.MethodName)) ∈ TB := TB_1 191 rfl rfl
theorem tw_192 : (Jvm.Cond.instanceMethod ({ cls := "ForesightHub$Hub", name := "<init>", desc := "()V" } : Jvm.MethodName)) ∈ TB := TB_1 192 rfl rfl
theorem tw_193 : (Jvm.Cond.code ({ cls := "ForesightHub$Hub", name := "<init>", desc := "()V" } : Jvm.MethodName) prog_4_method_1_code (1 : Nat) (Option.none : Option Jvm.ClassFile.FieldType)) ∈ TB := TB_1 193 rfl rfl
theorem tw_194 : (Jvm.Cond.methodLink "ForesightHub$Hub" (3 : Nat) ({ cls := "java/lang/Object", name := "<init>", desc := "()V" } : Jvm.MethodName)) ∈ TB := TB_1 194 rfl rfl
theorem tw_195 : (Jvm.Cond.classLink "ForesightHub$Hub" (9 : Nat) "ForesightHub$Plan") ∈ TB := TB_1 195 rfl rfl
theorem tw_196 : (Jvm.Cond.methodLink "ForesightHub$Hub" (11 : Nat) ({ cls := "ForesightHub$Plan", name := "<init>", desc := "()V" } : Jvm.MethodName)) ∈ TB := TB_1 196 rfl rfl
theorem tw_197 : (Jvm.Cond.classLink "ForesightHub$Hub" (18 : Nat) "ForesightHub$State") ∈ TB := TB_1 197 rfl rfl
theorem tw_198 : (Jvm.Cond.instantiable "ForesightHub$State" (10 : Nat)) ∈ TB := TB_1 198 rfl rfl
theorem tw_200 : (Jvm.Cond.instanceMethod ({ cls := "ForesightHub$State", name := "<init>", desc := "()V" } : Jvm.MethodName)) ∈ TB := TB_1 200 rfl rfl
theorem tw_201 : (Jvm.Cond.code ({ cls := "ForesightHub$State", name := "<init>", desc := "()V" } : Jvm.MethodName) prog_8_method_1_code (1 : Nat) (Option.none : Option Jvm.ClassFile.FieldType)) ∈ TB := TB_1 201 rfl rfl
theorem tw_202 : (Jvm.Cond.methodLink "ForesightHub$State" (3 : Nat) ({ cls := "java/lang/Object", name := "<init>", desc := "()V" } : Jvm.MethodName)) ∈ TB := TB_1 202 rfl rfl
theorem tw_203 : (Jvm.Cond.classLink "ForesightHub$State" (31 : Nat) "ForesightHub$ErrorBook") ∈ TB := TB_1 203 rfl rfl
theorem tw_204 : (Jvm.Cond.instantiable "ForesightHub$ErrorBook" (6 : Nat)) ∈ TB := TB_1 204 rfl rfl
theorem tw_206 : (Jvm.Cond.instanceMethod ({ cls := "ForesightHub$ErrorBook", name := "<init>", desc := "()V" } : Jvm.MethodName)) ∈ TB := TB_1 206 rfl rfl
theorem tw_207 : (Jvm.Cond.code ({ cls := "ForesightHub$ErrorBook", name := "<init>", desc := "()V" } : Jvm.MethodName) prog_2_method_1_code (1 : Nat) (Option.none : Option Jvm.ClassFile.FieldType)) ∈ TB := TB_1 207 rfl rfl
theorem tw_208 : (Jvm.Cond.methodLink "ForesightHub$ErrorBook" (3 : Nat) ({ cls := "java/lang/Object", name := "<init>", desc := "()V" } : Jvm.MethodName)) ∈ TB := TB_1 208 rfl rfl
theorem tw_209 : (Jvm.Cond.fieldLink "ForesightHub$ErrorBook" (9 : Nat) "ForesightHub$ErrorBook" "kept" "[I") ∈ TB := TB_1 209 rfl rfl
theorem tw_210 : (Jvm.Cond.fieldLink "ForesightHub" (151 : Nat) "ForesightHub$ErrorBook" "kept" "[I") ∈ TB := TB_1 210 rfl rfl
theorem tw_211 : (Jvm.Cond.fieldLink "ForesightHub$Hub" (107 : Nat) "ForesightHub$ErrorBook" "kept" "[I") ∈ TB := TB_1 211 rfl rfl
theorem tw_212 : (Jvm.Cond.fieldLink "ForesightHub$ErrorBook" (15 : Nat) "ForesightHub$ErrorBook" "kinds" "[I") ∈ TB := TB_1 212 rfl rfl
theorem tw_213 : (Jvm.Cond.fieldLink "ForesightHub$ErrorBook" (18 : Nat) "ForesightHub$ErrorBook" "times" "[I") ∈ TB := TB_1 213 rfl rfl
theorem tw_214 : (Jvm.Cond.fieldLink "ForesightHub$ErrorBook" (27 : Nat) "ForesightHub$ErrorBook" "causes" "I") ∈ TB := TB_1 214 rfl rfl
theorem tw_215 : (Jvm.Cond.fieldLink "ForesightHub$ErrorBook" (21 : Nat) "ForesightHub$ErrorBook" "causeOrder" "[I") ∈ TB := TB_1 215 rfl rfl
theorem tw_216 : (Jvm.Cond.fieldLink "ForesightHub$ErrorBook" (24 : Nat) "ForesightHub$ErrorBook" "causeTotals" "[I") ∈ TB := TB_1 216 rfl rfl
theorem tw_229 : (Jvm.Cond.superclass "ForesightHub$ErrorBook" "java/lang/Object") ∈ TB := TB_1 229 rfl rfl
theorem tw_230 : (Jvm.Cond.classLink "ForesightHub$State" (38 : Nat) "ForesightHub$Log") ∈ TB := TB_1 230 rfl rfl
theorem tw_231 : (Jvm.Cond.instantiable "ForesightHub$Log" (6 : Nat)) ∈ TB := TB_1 231 rfl rfl
theorem tw_233 : (Jvm.Cond.instanceMethod ({ cls := "ForesightHub$Log", name := "<init>", desc := "()V" } : Jvm.MethodName)) ∈ TB := TB_1 233 rfl rfl
theorem tw_234 : (Jvm.Cond.code ({ cls := "ForesightHub$Log", name := "<init>", desc := "()V" } : Jvm.MethodName) prog_5_method_1_code (1 : Nat) (Option.none : Option Jvm.ClassFile.FieldType)) ∈ TB := TB_1 234 rfl rfl
theorem tw_235 : (Jvm.Cond.methodLink "ForesightHub$Log" (3 : Nat) ({ cls := "java/lang/Object", name := "<init>", desc := "()V" } : Jvm.MethodName)) ∈ TB := TB_1 235 rfl rfl
theorem tw_236 : (Jvm.Cond.fieldLink "ForesightHub$Log" (24 : Nat) "ForesightHub$Log" "kept" "I") ∈ TB := TB_1 236 rfl rfl
theorem tw_237 : (Jvm.Cond.fieldLink "ForesightHub$Log" (28 : Nat) "ForesightHub$Log" "next" "I") ∈ TB := TB_1 237 rfl rfl
theorem tw_238 : (Jvm.Cond.fieldLink "ForesightHub$Log" (11 : Nat) "ForesightHub$Log" "kinds" "[I") ∈ TB := TB_1 238 rfl rfl
theorem tw_239 : (Jvm.Cond.fieldLink "ForesightHub$Log" (15 : Nat) "ForesightHub$Log" "items" "[I") ∈ TB := TB_1 239 rfl rfl
theorem tw_240 : (Jvm.Cond.fieldLink "ForesightHub$Log" (18 : Nat) "ForesightHub$Log" "times" "[I") ∈ TB := TB_2 0 rfl rfl
theorem tw_241 : (Jvm.Cond.fieldLink "ForesightHub$Log" (21 : Nat) "ForesightHub$Log" "totals" "[I") ∈ TB := TB_2 1 rfl rfl
theorem tw_242 : (Jvm.Cond.fieldLink "ForesightHub" (240 : Nat) "ForesightHub$Log" "totals" "[I") ∈ TB := TB_2 2 rfl rfl
theorem tw_243 : (Jvm.Cond.fieldLink "ForesightHub$Hub" (141 : Nat) "ForesightHub$Log" "totals" "[I") ∈ TB := TB_2 3 rfl rfl
theorem tw_256 : (Jvm.Cond.superclass "ForesightHub$Log" "java/lang/Object") ∈ TB := TB_2 16 rfl rfl
theorem tw_257 : (Jvm.Cond.fieldLink "ForesightHub$State" (45 : Nat) "ForesightHub$State" "time" "I") ∈ TB := TB_2 17 rfl rfl
theorem tw_258 : (Jvm.Cond.fieldLink "ForesightHub" (103 : Nat) "ForesightHub$State" "time" "I") ∈ TB := TB_2 18 rfl rfl
theorem tw_259 : (Jvm.Cond.fieldLink "ForesightHub$Hub" (97 : Nat) "ForesightHub$State" "time" "I") ∈ TB := TB_2 19 rfl rfl
theorem tw_260 : (Jvm.Cond.fieldLink "ForesightHub$Hub" (29 : Nat) "ForesightHub$State" "alarmScore" "I") ∈ TB := TB_2 20 rfl rfl
theorem tw_261 : (Jvm.Cond.fieldLink "ForesightHub$State" (54 : Nat) "ForesightHub$State" "alarmScore" "I") ∈ TB := TB_2 21 rfl rfl
theorem tw_262 : (Jvm.Cond.fieldLink "ForesightHub" (109 : Nat) "ForesightHub$State" "alarmScore" "I") ∈ TB := TB_2 22 rfl rfl
theorem tw_263 : (Jvm.Cond.fieldLink "ForesightHub$State" (9 : Nat) "ForesightHub$State" "port" "[I") ∈ TB := TB_2 23 rfl rfl
theorem tw_264 : (Jvm.Cond.fieldLink "ForesightHub$Hub" (46 : Nat) "ForesightHub$State" "port" "[I") ∈ TB := TB_2 24 rfl rfl
theorem tw_265 : (Jvm.Cond.fieldLink "ForesightHub" (130 : Nat) "ForesightHub$State" "port" "[I") ∈ TB := TB_2 25 rfl rfl
theorem tw_266 : (Jvm.Cond.fieldLink "ForesightHub$State" (15 : Nat) "ForesightHub$State" "alarmSince" "[I") ∈ TB := TB_2 26 rfl rfl
theorem tw_267 : (Jvm.Cond.fieldLink "ForesightHub$Hub" (50 : Nat) "ForesightHub$State" "alarmSince" "[I") ∈ TB := TB_2 27 rfl rfl
theorem tw_268 : (Jvm.Cond.fieldLink "ForesightHub$State" (18 : Nat) "ForesightHub$State" "holder" "[I") ∈ TB := TB_2 28 rfl rfl
theorem tw_269 : (Jvm.Cond.fieldLink "ForesightHub" (169 : Nat) "ForesightHub$State" "holder" "[I") ∈ TB := TB_2 29 rfl rfl
theorem tw_270 : (Jvm.Cond.fieldLink "ForesightHub$Hub" (56 : Nat) "ForesightHub$State" "holder" "[I") ∈ TB := TB_2 30 rfl rfl
theorem tw_271 : (Jvm.Cond.fieldLink "ForesightHub$State" (21 : Nat) "ForesightHub$State" "mode" "[I") ∈ TB := TB_2 31 rfl rfl
theorem tw_272 : (Jvm.Cond.fieldLink "ForesightHub" (166 : Nat) "ForesightHub$State" "mode" "[I") ∈ TB := TB_2 32 rfl rfl
theorem tw_273 : (Jvm.Cond.fieldLink "ForesightHub$Hub" (163 : Nat) "ForesightHub$State" "mode" "[I") ∈ TB := TB_2 33 rfl rfl
theorem tw_274 : (Jvm.Cond.fieldLink "ForesightHub$State" (24 : Nat) "ForesightHub$State" "done" "[I") ∈ TB := TB_2 34 rfl rfl
theorem tw_275 : (Jvm.Cond.fieldLink "ForesightHub" (181 : Nat) "ForesightHub$State" "done" "[I") ∈ TB := TB_2 35 rfl rfl
theorem tw_276 : (Jvm.Cond.fieldLink "ForesightHub$Hub" (62 : Nat) "ForesightHub$State" "done" "[I") ∈ TB := TB_2 36 rfl rfl
theorem tw_277 : (Jvm.Cond.fieldLink "ForesightHub$State" (27 : Nat) "ForesightHub$State" "sent" "[J") ∈ TB := TB_2 37 rfl rfl
theorem tw_278 : (Jvm.Cond.fieldLink "ForesightHub$Hub" (200 : Nat) "ForesightHub$State" "sent" "[J") ∈ TB := TB_2 38 rfl rfl
theorem tw_279 : (Jvm.Cond.fieldLink "ForesightHub$State" (34 : Nat) "ForesightHub$State" "errors" "LForesightHub$ErrorBook;") ∈ TB := TB_2 39 rfl rfl
theorem tw_280 : (Jvm.Cond.fieldLink "ForesightHub" (147 : Nat) "ForesightHub$State" "errors" "LForesightHub$ErrorBook;") ∈ TB := TB_2 40 rfl rfl
theorem tw_281 : (Jvm.Cond.fieldLink "ForesightHub$Hub" (103 : Nat) "ForesightHub$State" "errors" "LForesightHub$ErrorBook;") ∈ TB := TB_2 41 rfl rfl
theorem tw_282 : (Jvm.Cond.fieldLink "ForesightHub$State" (41 : Nat) "ForesightHub$State" "log" "LForesightHub$Log;") ∈ TB := TB_2 42 rfl rfl
theorem tw_283 : (Jvm.Cond.fieldLink "ForesightHub" (229 : Nat) "ForesightHub$State" "log" "LForesightHub$Log;") ∈ TB := TB_2 43 rfl rfl
theorem tw_284 : (Jvm.Cond.fieldLink "ForesightHub$Hub" (137 : Nat) "ForesightHub$State" "log" "LForesightHub$Log;") ∈ TB := TB_2 44 rfl rfl
theorem tw_305 : (Jvm.Cond.superclass "ForesightHub$State" "java/lang/Object") ∈ TB := TB_2 65 rfl rfl
theorem tw_306 : (Jvm.Cond.fieldLink "ForesightHub$Hub" (12 : Nat) "ForesightHub$Hub" "plan" "LForesightHub$Plan;") ∈ TB := TB_2 66 rfl rfl
theorem tw_307 : (Jvm.Cond.fieldLink "ForesightHub" (67 : Nat) "ForesightHub$Hub" "plan" "LForesightHub$Plan;") ∈ TB := TB_2 67 rfl rfl
theorem tw_308 : (Jvm.Cond.fieldLink "ForesightHub$Hub" (21 : Nat) "ForesightHub$Hub" "state" "LForesightHub$State;") ∈ TB := TB_2 68 rfl rfl
theorem tw_309 : (Jvm.Cond.fieldLink "ForesightHub" (99 : Nat) "ForesightHub$Hub" "state" "LForesightHub$State;") ∈ TB := TB_2 69 rfl rfl
theorem tw_314 : (Jvm.Cond.superclass "ForesightHub$Hub" "java/lang/Object") ∈ TB := TB_2 74 rfl rfl
theorem tw_315 : (Jvm.Cond.classLink "ForesightHub" (23 : Nat) "ForesightHub$History") ∈ TB := TB_2 75 rfl rfl
theorem tw_316 : (Jvm.Cond.instantiable "ForesightHub$History" (3 : Nat)) ∈ TB := TB_2 76 rfl rfl
theorem tw_317 : (Jvm.Cond.methodLink "ForesightHub" (25 : Nat) ({ cls := "ForesightHub$History", name := "<init>", desc := "()V" } : Jvm.MethodName)) ∈ TB := TB_2 77 rfl rfl
theorem tw_318 : (Jvm.Cond.instanceMethod ({ cls := "ForesightHub$History", name := "<init>", desc := "()V" } : Jvm.MethodName)) ∈ TB := TB_2 78 rfl rfl
theorem tw_319 : (Jvm.Cond.code ({ cls := "ForesightHub$History", name := "<init>", desc := "()V" } : Jvm.MethodName) prog_3_method_1_code (2 : Nat) (Option.none : Option Jvm.ClassFile.FieldType)) ∈ TB := TB_2 79 rfl rfl
theorem tw_320 : (Jvm.Cond.methodLink "ForesightHub$History" (1 : Nat) ({ cls := "java/lang/Object", name := "<init>", desc := "()V" } : Jvm.MethodName)) ∈ TB := TB_2 80 rfl rfl
theorem tw_321 : (Jvm.Cond.classLink "ForesightHub$History" (9 : Nat) "ForesightHub$State") ∈ TB := TB_2 81 rfl rfl
theorem tw_324 : (Jvm.Cond.fieldLink "ForesightHub$History" (11 : Nat) "ForesightHub$History" "states" "[LForesightHub$State;") ∈ TB := TB_2 84 rfl rfl
theorem tw_325 : (Jvm.Cond.fieldLink "ForesightHub$History" (16 : Nat) "ForesightHub$History" "kept" "I") ∈ TB := TB_2 85 rfl rfl
theorem tw_326 : (Jvm.Cond.fieldLink "ForesightHub" (115 : Nat) "ForesightHub$History" "kept" "I") ∈ TB := TB_2 86 rfl rfl
theorem tw_327 : (Jvm.Cond.fieldLink "ForesightHub$History" (20 : Nat) "ForesightHub$History" "next" "I") ∈ TB := TB_2 87 rfl rfl
theorem tw_334 : (Jvm.Cond.superclass "ForesightHub$History" "java/lang/Object") ∈ TB := TB_2 94 rfl rfl
theorem tw_335 : (Jvm.Cond.classLink "ForesightHub" (30 : Nat) "ForesightHub$State") ∈ TB := TB_2 95 rfl rfl
theorem tw_337 : (Jvm.Cond.fieldLink "ForesightHub" (10 : Nat) "ForesightHub" "reader" "LForesightHub$Reader;") ∈ TB := TB_2 97 rfl rfl
theorem tw_338 : (Jvm.Cond.fieldLink "ForesightHub" (19 : Nat) "ForesightHub" "hub" "LForesightHub$Hub;") ∈ TB := TB_2 98 rfl rfl
theorem tw_339 : (Jvm.Cond.fieldLink "ForesightHub" (26 : Nat) "ForesightHub" "history" "LForesightHub$History;") ∈ TB := TB_2 99 rfl rfl
theorem tw_340 : (Jvm.Cond.fieldLink "ForesightHub" (32 : Nat) "ForesightHub" "snapshots" "[LForesightHub$State;") ∈ TB := TB_2 100 rfl rfl
theorem tw_341 : (Jvm.Cond.fieldLink "ForesightHub" (36 : Nat) "ForesightHub" "snapshotTaken" "[Z") ∈ TB := TB_2 101 rfl rfl
theorem tw_352 : (Jvm.Cond.superclass "ForesightHub" "java/lang/Object") ∈ TB := TB_2 112 rfl rfl
theorem tw_353 : (Jvm.Cond.arrayClass Jvm.ClassFile.FieldType.boolean) ∈ TB := TB_2 113 rfl rfl
theorem tw_354 : (Jvm.Cond.methodLink "ForesightHubLaw" (85 : Nat) ({ cls := "ForesightHub", name := "size", desc := "(I)I" } : Jvm.MethodName)) ∈ TB := TB_2 114 rfl rfl
theorem tw_355 : (Jvm.Cond.instanceMethod ({ cls := "ForesightHub", name := "size", desc := "(I)I" } : Jvm.MethodName)) ∈ TB := TB_2 115 rfl rfl
theorem tw_356 : (Jvm.Cond.selects "ForesightHub" ({ cls := "ForesightHub", name := "size", desc := "(I)I" } : Jvm.MethodName) ({ cls := "ForesightHub", name := "size", desc := "(I)I" } : Jvm.MethodName)) ∈ TB := TB_2 116 rfl rfl
theorem tw_357 : (Jvm.Cond.code ({ cls := "ForesightHub", name := "size", desc := "(I)I" } : Jvm.MethodName) prog_1_method_4_code (2 : Nat) (Option.some Jvm.ClassFile.FieldType.int)) ∈ TB := TB_2 117 rfl rfl
theorem tw_358 : (Jvm.Cond.methodLink "ForesightHub" (106 : Nat) ({ cls := "ForesightHub$Hub", name := "reserved", desc := "()I" } : Jvm.MethodName)) ∈ TB := TB_2 118 rfl rfl
theorem tw_359 : (Jvm.Cond.instanceMethod ({ cls := "ForesightHub$Hub", name := "reserved", desc := "()I" } : Jvm.MethodName)) ∈ TB := TB_2 119 rfl rfl
theorem tw_360 : (Jvm.Cond.selects "ForesightHub$Hub" ({ cls := "ForesightHub$Hub", name := "reserved", desc := "()I" } : Jvm.MethodName) ({ cls := "ForesightHub$Hub", name := "reserved", desc := "()I" } : Jvm.MethodName)) ∈ TB := TB_2 120 rfl rfl
theorem tw_361 : (Jvm.Cond.code ({ cls := "ForesightHub$Hub", name := "reserved", desc := "()I" } : Jvm.MethodName) prog_4_method_26_code (3 : Nat) (Option.some Jvm.ClassFile.FieldType.int)) ∈ TB := TB_2 121 rfl rfl
theorem tw_362 : (Jvm.Cond.classLink "ForesightHub" (53 : Nat) "java/lang/IllegalArgumentException") ∈ TB := TB_2 122 rfl rfl
theorem tw_363 : (Jvm.Cond.instantiable "java/lang/IllegalArgumentException" (6 : Nat)) ∈ TB := TB_2 123 rfl rfl
theorem tw_371 : (Jvm.Cond.selects "java/lang/IllegalArgumentException" ({ cls := "java/lang/Throwable", name := "fillInStackTrace", desc := "(I)Ljava/lang/Throwable;" } : Jvm.MethodName) ({ cls := "java/lang/Throwable", name := "fillInStackTrace", desc := "(I)Ljava/lang/Throwable;" } : Jvm.MethodName)) ∈ TB := TB_2 131 rfl rfl
theorem tw_372 : (Jvm.Cond.selects "java/lang/IllegalArgumentException" ({ cls := "java/lang/Throwable", name := "fillInStackTrace", desc := "()Ljava/lang/Throwable;" } : Jvm.MethodName) ({ cls := "java/lang/Throwable", name := "fillInStackTrace", desc := "()Ljava/lang/Throwable;" } : Jvm.MethodName)) ∈ TB := TB_2 132 rfl rfl
theorem tw_383 : (Jvm.Cond.fieldLink "java/lang/Throwable" (198 : Nat) "java/lang/Throwable" "backtrace" "Ljava/lang/Object;") ∈ TB := TB_2 143 rfl rfl
theorem tw_384 : (Jvm.Cond.superclass "java/lang/Throwable" "java/lang/Object") ∈ TB := TB_2 144 rfl rfl
theorem tw_385 : (Jvm.Cond.instanceMethod ({ cls := "java/lang/Throwable", name := "<init>", desc := "()V" } : Jvm.MethodName)) ∈ TB := TB_2 145 rfl rfl
theorem tw_386 : (Jvm.Cond.code ({ cls := "java/lang/Throwable", name := "<init>", desc := "()V" } : Jvm.MethodName) prog_25_method_1_code (1 : Nat) (Option.none : Option Jvm.ClassFile.FieldType)) ∈ TB := TB_2 146 rfl rfl
theorem tw_387 : (Jvm.Cond.methodLink "java/lang/Throwable" (1 : Nat) ({ cls := "java/lang/Object", name := "<init>", desc := "()V" } : Jvm.MethodName)) ∈ TB := TB_2 147 rfl rfl
theorem tw_388 : (Jvm.Cond.fieldLink "java/lang/Throwable" (13 : Nat) "java/lang/Throwable" "UNASSIGNED_STACK" "[Ljava/lang/StackTraceElement;") ∈ TB := TB_2 148 rfl rfl
theorem tw_390 : (Jvm.Cond.fieldLink "java/lang/Throwable" (20 : Nat) "java/lang/Throwable" "SUPPRESSED_SENTINEL" "Ljava/util/List;") ∈ TB := TB_2 150 rfl rfl
theorem tw_392 : (Jvm.Cond.methodLink "java/lang/Throwable" (27 : Nat) ({ cls := "java/lang/Throwable", name := "fillInStackTrace", desc := "()Ljava/lang/Throwable;" } : Jvm.MethodName)) ∈ TB := TB_2 152 rfl rfl
theorem tw_393 : (Jvm.Cond.instanceMethod ({ cls := "java/lang/Throwable", name := "fillInStackTrace", desc := "()Ljava/lang/Throwable;" } : Jvm.MethodName)) ∈ TB := TB_2 153 rfl rfl
theorem tw_394 : (Jvm.Cond.sameMethod "java/lang/Throwable" "java/lang/Throwable" "fillInStackTrace" "()Ljava/lang/Throwable;") ∈ TB := TB_2 154 rfl rfl
theorem tw_395 : (Jvm.Cond.selects "java/lang/IllegalStateException" ({ cls := "java/lang/Throwable", name := "fillInStackTrace", desc := "()Ljava/lang/Throwable;" } : Jvm.MethodName) ({ cls := "java/lang/Throwable", name := "fillInStackTrace", desc := "()Ljava/lang/Throwable;" } : Jvm.MethodName)) ∈ TB := TB_2 155 rfl rfl
theorem tw_396 : (Jvm.Cond.selects "java/lang/IndexOutOfBoundsException" ({ cls := "java/lang/Throwable", name := "fillInStackTrace", desc := "()Ljava/lang/Throwable;" } : Jvm.MethodName) ({ cls := "java/lang/Throwable", name := "fillInStackTrace", desc := "()Ljava/lang/Throwable;" } : Jvm.MethodName)) ∈ TB := TB_2 156 rfl rfl
theorem tw_398 : (Jvm.Cond.methodLink "java/lang/Throwable" (202 : Nat) ({ cls := "java/lang/Throwable", name := "fillInStackTrace", desc := "(I)Ljava/lang/Throwable;" } : Jvm.MethodName)) ∈ TB := TB_2 158 rfl rfl
theorem tw_400 : (Jvm.Cond.instanceMethod ({ cls := "java/lang/Throwable", name := "fillInStackTrace", desc := "(I)Ljava/lang/Throwable;" } : Jvm.MethodName)) ∈ TB := TB_2 160 rfl rfl
theorem tw_401 : (Jvm.Cond.instantiable "java/lang/Throwable" (6 : Nat)) ∈ TB := TB_2 161 rfl rfl
theorem tw_402 : (Jvm.Cond.native ({ cls := "java/lang/Throwable", name := "fillInStackTrace", desc := "(I)Ljava/lang/Throwable;" } : Jvm.MethodName)) ∈ TB := TB_2 162 rfl rfl
theorem tw_404 : (Jvm.Cond.methodLink "ForesightHub" (57 : Nat) ({ cls := "java/lang/IllegalArgumentException", name := "<init>", desc := "(Ljava/lang/String;)V" } : Jvm.MethodName)) ∈ TB := TB_2 164 rfl rfl
theorem tw_405 : (Jvm.Cond.instanceMethod ({ cls := "java/lang/IllegalArgumentException", name := "<init>", desc := "(Ljava/lang/String;)V" } : Jvm.MethodName)) ∈ TB := TB_2 165 rfl rfl
theorem tw_406 : (Jvm.Cond.code ({ cls := "java/lang/IllegalArgumentException", name := "<init>", desc := "(Ljava/lang/String;)V" } : Jvm.MethodName) prog_14_method_2_code (2 : Nat) (Option.none : Option Jvm.ClassFile.FieldType)) ∈ TB := TB_2 166 rfl rfl
theorem tw_407 : (Jvm.Cond.methodLink "java/lang/IllegalArgumentException" (7 : Nat) ({ cls := "java/lang/RuntimeException", name := "<init>", desc := "(Ljava/lang/String;)V" } : Jvm.MethodName)) ∈ TB := TB_2 167 rfl rfl
theorem tw_408 : (Jvm.Cond.instanceMethod ({ cls := "java/lang/RuntimeException", name := "<init>", desc := "(Ljava/lang/String;)V" } : Jvm.MethodName)) ∈ TB := TB_2 168 rfl rfl
theorem tw_409 : (Jvm.Cond.code ({ cls := "java/lang/RuntimeException", name := "<init>", desc := "(Ljava/lang/String;)V" } : Jvm.MethodName) prog_19_method_2_code (2 : Nat) (Option.none : Option Jvm.ClassFile.FieldType)) ∈ TB := TB_2 169 rfl rfl
theorem tw_410 : (Jvm.Cond.methodLink "java/lang/RuntimeException" (7 : Nat) ({ cls := "java/lang/Exception", name := "<init>", desc := "(Ljava/lang/String;)V" } : Jvm.MethodName)) ∈ TB := TB_2 170 rfl rfl
theorem tw_411 : (Jvm.Cond.instanceMethod ({ cls := "java/lang/Exception", name := "<init>", desc := "(Ljava/lang/String;)V" } : Jvm.MethodName)) ∈ TB := TB_2 171 rfl rfl
theorem tw_412 : (Jvm.Cond.code ({ cls := "java/lang/Exception", name := "<init>", desc := "(Ljava/lang/String;)V" } : Jvm.MethodName) prog_13_method_2_code (2 : Nat) (Option.none : Option Jvm.ClassFile.FieldType)) ∈ TB := TB_2 172 rfl rfl
theorem tw_413 : (Jvm.Cond.methodLink "java/lang/Exception" (7 : Nat) ({ cls := "java/lang/Throwable", name := "<init>", desc := "(Ljava/lang/String;)V" } : Jvm.MethodName)) ∈ TB := TB_2 173 rfl rfl
theorem tw_414 : (Jvm.Cond.instanceMethod ({ cls := "java/lang/Throwable", name := "<init>", desc := "(Ljava/lang/String;)V" } : Jvm.MethodName)) ∈ TB := TB_2 174 rfl rfl
theorem tw_415 : (Jvm.Cond.code ({ cls := "java/lang/Throwable", name := "<init>", desc := "(Ljava/lang/String;)V" } : Jvm.MethodName) prog_25_method_2_code (2 : Nat) (Option.none : Option Jvm.ClassFile.FieldType)) ∈ TB := TB_2 175 rfl rfl
theorem tw_416 : (Jvm.Cond.fieldLink "java/lang/Throwable" (198 : Nat) "java/lang/Throwable" "backtrace" "Ljava/lang/Object;") ∈ TB := TB_2 176 rfl rfl
theorem tw_417 : (Jvm.Cond.fieldLink "java/lang/Throwable" (31 : Nat) "java/lang/Throwable" "detailMessage" "Ljava/lang/String;") ∈ TB := TB_2 177 rfl rfl
theorem tw_418 : (Jvm.Cond.fieldLink "java/lang/Throwable" (7 : Nat) "java/lang/Throwable" "cause" "Ljava/lang/Throwable;") ∈ TB := TB_2 178 rfl rfl
theorem tw_419 : (Jvm.Cond.fieldLink "java/lang/Throwable" (17 : Nat) "java/lang/Throwable" "stackTrace" "[Ljava/lang/StackTraceElement;") ∈ TB := TB_2 179 rfl rfl
theorem tw_420 : (Jvm.Cond.fieldLink "java/lang/Throwable" (24 : Nat) "java/lang/Throwable" "suppressedExceptions" "Ljava/util/List;") ∈ TB := TB_2 180 rfl rfl
theorem tw_428 : (Jvm.Cond.superclass "java/lang/IllegalArgumentException" "java/lang/RuntimeException") ∈ TB := TB_2 188 rfl rfl
theorem tw_429 : (Jvm.Cond.methodLink "ForesightHubLaw" (88 : Nat) ({ cls := "ForesightHub", name := "device", desc := "(II)I" } : Jvm.MethodName)) ∈ TB := TB_2 189 rfl rfl
theorem tw_430 : (Jvm.Cond.instanceMethod ({ cls := "ForesightHub", name := "device", desc := "(II)I" } : Jvm.MethodName)) ∈ TB := TB_2 190 rfl rfl
theorem tw_431 : (Jvm.Cond.selects "ForesightHub" ({ cls := "ForesightHub", name := "device", desc := "(II)I" } : Jvm.MethodName) ({ cls := "ForesightHub", name := "device", desc := "(II)I" } : Jvm.MethodName)) ∈ TB := TB_2 191 rfl rfl
theorem tw_432 : (Jvm.Cond.code ({ cls := "ForesightHub", name := "device", desc := "(II)I" } : Jvm.MethodName) prog_1_method_6_code (3 : Nat) (Option.some Jvm.ClassFile.FieldType.int)) ∈ TB := TB_2 192 rfl rfl
theorem tw_433 : (Jvm.Cond.methodLink "ForesightHub" (127 : Nat) ({ cls := "ForesightHub", name := "requireDevice", desc := "(I)V" } : Jvm.MethodName)) ∈ TB := TB_2 193 rfl rfl
theorem tw_435 : (Jvm.Cond.instanceMethod ({ cls := "ForesightHub", name := "requireDevice", desc := "(I)V" } : Jvm.MethodName)) ∈ TB := TB_2 195 rfl rfl
theorem tw_436 : (Jvm.Cond.code ({ cls := "ForesightHub", name := "requireDevice", desc := "(I)V" } : Jvm.MethodName) prog_1_method_30_code (2 : Nat) (Option.none : Option Jvm.ClassFile.FieldType)) ∈ TB := TB_2 196 rfl rfl
theorem tw_437 : (Jvm.Cond.methodLink "ForesightHub" (299 : Nat) ({ cls := "ForesightHub$Hub", name := "isDevice", desc := "(I)Z" } : Jvm.MethodName)) ∈ TB := TB_2 197 rfl rfl
theorem tw_438 : (Jvm.Cond.instanceMethod ({ cls := "ForesightHub$Hub", name := "isDevice", desc := "(I)Z" } : Jvm.MethodName)) ∈ TB := TB_2 198 rfl rfl
theorem tw_439 : (Jvm.Cond.selects "ForesightHub$Hub" ({ cls := "ForesightHub$Hub", name := "isDevice", desc := "(I)Z" } : Jvm.MethodName) ({ cls := "ForesightHub$Hub", name := "isDevice", desc := "(I)Z" } : Jvm.MethodName)) ∈ TB := TB_2 199 rfl rfl
theorem tw_440 : (Jvm.Cond.code ({ cls := "ForesightHub$Hub", name := "isDevice", desc := "(I)Z" } : Jvm.MethodName) prog_4_method_3_code (2 : Nat) (Option.some Jvm.ClassFile.FieldType.boolean)) ∈ TB := TB_2 200 rfl rfl
theorem tw_441 : (Jvm.Cond.classLink "ForesightHub" (302 : Nat) "java/lang/IndexOutOfBoundsException") ∈ TB := TB_2 201 rfl rfl
theorem tw_442 : (Jvm.Cond.instantiable "java/lang/IndexOutOfBoundsException" (6 : Nat)) ∈ TB := TB_2 202 rfl rfl
theorem tw_444 : (Jvm.Cond.selects "java/lang/IndexOutOfBoundsException" ({ cls := "java/lang/Throwable", name := "fillInStackTrace", desc := "(I)Ljava/lang/Throwable;" } : Jvm.MethodName) ({ cls := "java/lang/Throwable", name := "fillInStackTrace", desc := "(I)Ljava/lang/Throwable;" } : Jvm.MethodName)) ∈ TB := TB_2 204 rfl rfl
theorem tw_451 : (Jvm.Cond.methodLink "ForesightHub" (306 : Nat) ({ cls := "java/lang/IndexOutOfBoundsException", name := "<init>", desc := "(Ljava/lang/String;)V" } : Jvm.MethodName)) ∈ TB := TB_2 211 rfl rfl
theorem tw_452 : (Jvm.Cond.instanceMethod ({ cls := "java/lang/IndexOutOfBoundsException", name := "<init>", desc := "(Ljava/lang/String;)V" } : Jvm.MethodName)) ∈ TB := TB_2 212 rfl rfl
theorem tw_453 : (Jvm.Cond.code ({ cls := "java/lang/IndexOutOfBoundsException", name := "<init>", desc := "(Ljava/lang/String;)V" } : Jvm.MethodName) prog_16_method_2_code (2 : Nat) (Option.none : Option Jvm.ClassFile.FieldType)) ∈ TB := TB_2 213 rfl rfl
theorem tw_454 : (Jvm.Cond.methodLink "java/lang/IndexOutOfBoundsException" (7 : Nat) ({ cls := "java/lang/RuntimeException", name := "<init>", desc := "(Ljava/lang/String;)V" } : Jvm.MethodName)) ∈ TB := TB_2 214 rfl rfl
theorem tw_456 : (Jvm.Cond.superclass "java/lang/IndexOutOfBoundsException" "java/lang/RuntimeException") ∈ TB := TB_2 216 rfl rfl
theorem tw_457 : (Jvm.Cond.methodLink "ForesightHub" (137 : Nat) ({ cls := "ForesightHub$Hub", name := "inAlarm", desc := "(I)Z" } : Jvm.MethodName)) ∈ TB := TB_2 217 rfl rfl
theorem tw_458 : (Jvm.Cond.instanceMethod ({ cls := "ForesightHub$Hub", name := "inAlarm", desc := "(I)Z" } : Jvm.MethodName)) ∈ TB := TB_2 218 rfl rfl
theorem tw_459 : (Jvm.Cond.selects "ForesightHub$Hub" ({ cls := "ForesightHub$Hub", name := "inAlarm", desc := "(I)Z" } : Jvm.MethodName) ({ cls := "ForesightHub$Hub", name := "inAlarm", desc := "(I)Z" } : Jvm.MethodName)) ∈ TB := TB_2 219 rfl rfl
theorem tw_460 : (Jvm.Cond.code ({ cls := "ForesightHub$Hub", name := "inAlarm", desc := "(I)Z" } : Jvm.MethodName) prog_4_method_5_code (2 : Nat) (Option.some Jvm.ClassFile.FieldType.boolean)) ∈ TB := TB_2 220 rfl rfl
theorem tw_461 : (Jvm.Cond.methodLink "ForesightHub$Hub" (42 : Nat) ({ cls := "ForesightHub$Hub", name := "isDevice", desc := "(I)Z" } : Jvm.MethodName)) ∈ TB := TB_2 221 rfl rfl
theorem tw_462 : (Jvm.Cond.methodLink "ForesightHub" (140 : Nat) ({ cls := "ForesightHub$Hub", name := "scoreOf", desc := "(II)I" } : Jvm.MethodName)) ∈ TB := TB_2 222 rfl rfl
theorem tw_463 : (Jvm.Cond.instanceMethod ({ cls := "ForesightHub$Hub", name := "scoreOf", desc := "(II)I" } : Jvm.MethodName)) ∈ TB := TB_2 223 rfl rfl
theorem tw_464 : (Jvm.Cond.selects "ForesightHub$Hub" ({ cls := "ForesightHub$Hub", name := "scoreOf", desc := "(II)I" } : Jvm.MethodName) ({ cls := "ForesightHub$Hub", name := "scoreOf", desc := "(II)I" } : Jvm.MethodName)) ∈ TB := TB_2 224 rfl rfl
theorem tw_465 : (Jvm.Cond.code ({ cls := "ForesightHub$Hub", name := "scoreOf", desc := "(II)I" } : Jvm.MethodName) prog_4_method_14_code (6 : Nat) (Option.some Jvm.ClassFile.FieldType.int)) ∈ TB := TB_2 225 rfl rfl
theorem tw_466 : (Jvm.Cond.methodLink "ForesightHub$Hub" (84 : Nat) ({ cls := "ForesightHub$Hub", name := "matchingBits", desc := "(II)I" } : Jvm.MethodName)) ∈ TB := TB_2 226 rfl rfl
theorem tw_467 : (Jvm.Cond.instanceMethod ({ cls := "ForesightHub$Hub", name := "matchingBits", desc := "(II)I" } : Jvm.MethodName)) ∈ TB := TB_2 227 rfl rfl
theorem tw_468 : (Jvm.Cond.selects "ForesightHub$Hub" ({ cls := "ForesightHub$Hub", name := "matchingBits", desc := "(II)I" } : Jvm.MethodName) ({ cls := "ForesightHub$Hub", name := "matchingBits", desc := "(II)I" } : Jvm.MethodName)) ∈ TB := TB_2 228 rfl rfl
theorem tw_469 : (Jvm.Cond.code ({ cls := "ForesightHub$Hub", name := "matchingBits", desc := "(II)I" } : Jvm.MethodName) prog_4_method_15_code (5 : Nat) (Option.some Jvm.ClassFile.FieldType.int)) ∈ TB := TB_2 229 rfl rfl
theorem tw_470 : (Jvm.Cond.methodLink "ForesightHub$Hub" (93 : Nat) ({ cls := "ForesightHub$Hub", name := "matches", desc := "(III)Z" } : Jvm.MethodName)) ∈ TB := TB_2 230 rfl rfl
theorem tw_472 : (Jvm.Cond.instanceMethod ({ cls := "ForesightHub$Hub", name := "matches", desc := "(III)Z" } : Jvm.MethodName)) ∈ TB := TB_2 232 rfl rfl
theorem tw_473 : (Jvm.Cond.code ({ cls := "ForesightHub$Hub", name := "matches", desc := "(III)Z" } : Jvm.MethodName) prog_4_method_16_code (9 : Nat) (Option.some Jvm.ClassFile.FieldType.boolean)) ∈ TB := TB_2 233 rfl rfl
theorem tw_474 : (Jvm.Cond.methodLink "ForesightHub$Hub" (112 : Nat) ({ cls := "ForesightHub$ErrorBook", name := "staying", desc := "(I)I" } : Jvm.MethodName)) ∈ TB := TB_2 234 rfl rfl
theorem tw_475 : (Jvm.Cond.instanceMethod ({ cls := "ForesightHub$ErrorBook", name := "staying", desc := "(I)I" } : Jvm.MethodName)) ∈ TB := TB_2 235 rfl rfl
theorem tw_476 : (Jvm.Cond.selects "ForesightHub$ErrorBook" ({ cls := "ForesightHub$ErrorBook", name := "staying", desc := "(I)I" } : Jvm.MethodName) ({ cls := "ForesightHub$ErrorBook", name := "staying", desc := "(I)I" } : Jvm.MethodName)) ∈ TB := TB_2 236 rfl rfl
theorem tw_477 : (Jvm.Cond.code ({ cls := "ForesightHub$ErrorBook", name := "staying", desc := "(I)I" } : Jvm.MethodName) prog_2_method_11_code (2 : Nat) (Option.some Jvm.ClassFile.FieldType.int)) ∈ TB := TB_2 237 rfl rfl
theorem tw_478 : (Jvm.Cond.methodLink "ForesightHub$ErrorBook" (48 : Nat) ({ cls := "java/lang/Math", name := "min", desc := "(II)I" } : Jvm.MethodName)) ∈ TB := TB_2 238 rfl rfl
theorem tw_479 : (Jvm.Cond.static ({ cls := "java/lang/Math", name := "min", desc := "(II)I" } : Jvm.MethodName)) ∈ TB := TB_2 239 rfl rfl
theorem tw_480 : (Jvm.Cond.code ({ cls := "java/lang/Math", name := "min", desc := "(II)I" } : Jvm.MethodName) prog_18_method_69_code (2 : Nat) (Option.some Jvm.ClassFile.FieldType.int)) ∈ TB := TB_3 0 rfl rfl
theorem tw_481 : (Jvm.Cond.methodLink "ForesightHub$Hub" (115 : Nat) ({ cls := "ForesightHub$ErrorBook", name := "timeOf", desc := "(II)I" } : Jvm.MethodName)) ∈ TB := TB_3 1 rfl rfl
theorem tw_482 : (Jvm.Cond.instanceMethod ({ cls := "ForesightHub$ErrorBook", name := "timeOf", desc := "(II)I" } : Jvm.MethodName)) ∈ TB := TB_3 2 rfl rfl
theorem tw_483 : (Jvm.Cond.selects "ForesightHub$ErrorBook" ({ cls := "ForesightHub$ErrorBook", name := "timeOf", desc := "(II)I" } : Jvm.MethodName) ({ cls := "ForesightHub$ErrorBook", name := "timeOf", desc := "(II)I" } : Jvm.MethodName)) ∈ TB := TB_3 3 rfl rfl
theorem tw_484 : (Jvm.Cond.code ({ cls := "ForesightHub$ErrorBook", name := "timeOf", desc := "(II)I" } : Jvm.MethodName) prog_2_method_9_code (4 : Nat) (Option.some Jvm.ClassFile.FieldType.int)) ∈ TB := TB_3 4 rfl rfl
theorem tw_485 : (Jvm.Cond.methodLink "ForesightHub$ErrorBook" (44 : Nat) ({ cls := "ForesightHub$ErrorBook", name := "placeOf", desc := "(II)I" } : Jvm.MethodName)) ∈ TB := TB_3 5 rfl rfl
theorem tw_487 : (Jvm.Cond.instanceMethod ({ cls := "ForesightHub$ErrorBook", name := "placeOf", desc := "(II)I" } : Jvm.MethodName)) ∈ TB := TB_3 7 rfl rfl
theorem tw_488 : (Jvm.Cond.code ({ cls := "ForesightHub$ErrorBook", name := "placeOf", desc := "(II)I" } : Jvm.MethodName) prog_2_method_10_code (3 : Nat) (Option.some Jvm.ClassFile.FieldType.int)) ∈ TB := TB_3 8 rfl rfl
theorem tw_489 : (Jvm.Cond.methodLink "ForesightHub$Hub" (118 : Nat) ({ cls := "ForesightHub$ErrorBook", name := "kindOf", desc := "(II)I" } : Jvm.MethodName)) ∈ TB := TB_3 9 rfl rfl
theorem tw_490 : (Jvm.Cond.instanceMethod ({ cls := "ForesightHub$ErrorBook", name := "kindOf", desc := "(II)I" } : Jvm.MethodName)) ∈ TB := TB_3 10 rfl rfl
theorem tw_491 : (Jvm.Cond.selects "ForesightHub$ErrorBook" ({ cls := "ForesightHub$ErrorBook", name := "kindOf", desc := "(II)I" } : Jvm.MethodName) ({ cls := "ForesightHub$ErrorBook", name := "kindOf", desc := "(II)I" } : Jvm.MethodName)) ∈ TB := TB_3 11 rfl rfl
theorem tw_492 : (Jvm.Cond.code ({ cls := "ForesightHub$ErrorBook", name := "kindOf", desc := "(II)I" } : Jvm.MethodName) prog_2_method_8_code (4 : Nat) (Option.some Jvm.ClassFile.FieldType.int)) ∈ TB := TB_3 12 rfl rfl
theorem tw_493 : (Jvm.Cond.methodLink "ForesightHub$Hub" (121 : Nat) ({ cls := "ForesightHub$Hub", name := "isNextOf", desc := "(III)Z" } : Jvm.MethodName)) ∈ TB := TB_3 13 rfl rfl
theorem tw_495 : (Jvm.Cond.instanceMethod ({ cls := "ForesightHub$Hub", name := "isNextOf", desc := "(III)Z" } : Jvm.MethodName)) ∈ TB := TB_3 15 rfl rfl
theorem tw_496 : (Jvm.Cond.code ({ cls := "ForesightHub$Hub", name := "isNextOf", desc := "(III)Z" } : Jvm.MethodName) prog_4_method_17_code (4 : Nat) (Option.some Jvm.ClassFile.FieldType.boolean)) ∈ TB := TB_3 16 rfl rfl
theorem tw_497 : (Jvm.Cond.methodLink "ForesightHub" (144 : Nat) ({ cls := "ForesightHub$Hub", name := "matchingBits", desc := "(II)I" } : Jvm.MethodName)) ∈ TB := TB_3 17 rfl rfl
theorem tw_498 : (Jvm.Cond.methodLink "ForesightHub" (155 : Nat) ({ cls := "ForesightHub$Hub", name := "heldBits", desc := "(I)I" } : Jvm.MethodName)) ∈ TB := TB_3 18 rfl rfl
theorem tw_499 : (Jvm.Cond.instanceMethod ({ cls := "ForesightHub$Hub", name := "heldBits", desc := "(I)I" } : Jvm.MethodName)) ∈ TB := TB_3 19 rfl rfl
theorem tw_500 : (Jvm.Cond.selects "ForesightHub$Hub" ({ cls := "ForesightHub$Hub", name := "heldBits", desc := "(I)I" } : Jvm.MethodName) ({ cls := "ForesightHub$Hub", name := "heldBits", desc := "(I)I" } : Jvm.MethodName)) ∈ TB := TB_3 20 rfl rfl
theorem tw_501 : (Jvm.Cond.code ({ cls := "ForesightHub$Hub", name := "heldBits", desc := "(I)I" } : Jvm.MethodName) prog_4_method_8_code (4 : Nat) (Option.some Jvm.ClassFile.FieldType.int)) ∈ TB := TB_3 21 rfl rfl
theorem tw_502 : (Jvm.Cond.methodLink "ForesightHub" (158 : Nat) ({ cls := "ForesightHub$Hub", name := "reservedFor", desc := "(I)I" } : Jvm.MethodName)) ∈ TB := TB_3 22 rfl rfl
theorem tw_503 : (Jvm.Cond.instanceMethod ({ cls := "ForesightHub$Hub", name := "reservedFor", desc := "(I)I" } : Jvm.MethodName)) ∈ TB := TB_3 23 rfl rfl
theorem tw_504 : (Jvm.Cond.selects "ForesightHub$Hub" ({ cls := "ForesightHub$Hub", name := "reservedFor", desc := "(I)I" } : Jvm.MethodName) ({ cls := "ForesightHub$Hub", name := "reservedFor", desc := "(I)I" } : Jvm.MethodName)) ∈ TB := TB_3 24 rfl rfl
theorem tw_505 : (Jvm.Cond.code ({ cls := "ForesightHub$Hub", name := "reservedFor", desc := "(I)I" } : Jvm.MethodName) prog_4_method_9_code (4 : Nat) (Option.some Jvm.ClassFile.FieldType.int)) ∈ TB := TB_3 25 rfl rfl
theorem tw_507 : (Jvm.Cond.methodLink "ForesightHubLaw" (105 : Nat) ({ cls := "ForesightHub", name := "weakest", desc := "()I" } : Jvm.MethodName)) ∈ TB := TB_3 27 rfl rfl
theorem tw_508 : (Jvm.Cond.instanceMethod ({ cls := "ForesightHub", name := "weakest", desc := "()I" } : Jvm.MethodName)) ∈ TB := TB_3 28 rfl rfl
theorem tw_509 : (Jvm.Cond.selects "ForesightHub" ({ cls := "ForesightHub", name := "weakest", desc := "()I" } : Jvm.MethodName) ({ cls := "ForesightHub", name := "weakest", desc := "()I" } : Jvm.MethodName)) ∈ TB := TB_3 29 rfl rfl
theorem tw_510 : (Jvm.Cond.code ({ cls := "ForesightHub", name := "weakest", desc := "()I" } : Jvm.MethodName) prog_1_method_15_code (1 : Nat) (Option.some Jvm.ClassFile.FieldType.int)) ∈ TB := TB_3 30 rfl rfl
theorem tw_511 : (Jvm.Cond.methodLink "ForesightHub" (221 : Nat) ({ cls := "ForesightHub$Hub", name := "weakestDevice", desc := "()I" } : Jvm.MethodName)) ∈ TB := TB_3 31 rfl rfl
theorem tw_512 : (Jvm.Cond.instanceMethod ({ cls := "ForesightHub$Hub", name := "weakestDevice", desc := "()I" } : Jvm.MethodName)) ∈ TB := TB_3 32 rfl rfl
theorem tw_513 : (Jvm.Cond.selects "ForesightHub$Hub" ({ cls := "ForesightHub$Hub", name := "weakestDevice", desc := "()I" } : Jvm.MethodName) ({ cls := "ForesightHub$Hub", name := "weakestDevice", desc := "()I" } : Jvm.MethodName)) ∈ TB := TB_3 33 rfl rfl
theorem tw_514 : (Jvm.Cond.code ({ cls := "ForesightHub$Hub", name := "weakestDevice", desc := "()I" } : Jvm.MethodName) prog_4_method_13_code (4 : Nat) (Option.some Jvm.ClassFile.FieldType.int)) ∈ TB := TB_3 34 rfl rfl
theorem tw_515 : (Jvm.Cond.methodLink "ForesightHub$Hub" (78 : Nat) ({ cls := "ForesightHub$Hub", name := "isPluggedIn", desc := "(I)Z" } : Jvm.MethodName)) ∈ TB := TB_3 35 rfl rfl
theorem tw_516 : (Jvm.Cond.instanceMethod ({ cls := "ForesightHub$Hub", name := "isPluggedIn", desc := "(I)Z" } : Jvm.MethodName)) ∈ TB := TB_3 36 rfl rfl
theorem tw_517 : (Jvm.Cond.selects "ForesightHub$Hub" ({ cls := "ForesightHub$Hub", name := "isPluggedIn", desc := "(I)Z" } : Jvm.MethodName) ({ cls := "ForesightHub$Hub", name := "isPluggedIn", desc := "(I)Z" } : Jvm.MethodName)) ∈ TB := TB_3 37 rfl rfl
theorem tw_518 : (Jvm.Cond.code ({ cls := "ForesightHub$Hub", name := "isPluggedIn", desc := "(I)Z" } : Jvm.MethodName) prog_4_method_4_code (2 : Nat) (Option.some Jvm.ClassFile.FieldType.boolean)) ∈ TB := TB_3 38 rfl rfl
theorem tw_519 : (Jvm.Cond.methodLink "ForesightHub$Hub" (81 : Nat) ({ cls := "ForesightHub$Hub", name := "scoreOf", desc := "(II)I" } : Jvm.MethodName)) ∈ TB := TB_3 39 rfl rfl
theorem tw_520 : (Jvm.Cond.methodLink "ForesightHubLaw" (108 : Nat) ({ cls := "ForesightHub", name := "undo", desc := "()I" } : Jvm.MethodName)) ∈ TB := TB_3 40 rfl rfl
theorem tw_521 : (Jvm.Cond.instanceMethod ({ cls := "ForesightHub", name := "undo", desc := "()I" } : Jvm.MethodName)) ∈ TB := TB_3 41 rfl rfl
theorem tw_522 : (Jvm.Cond.selects "ForesightHub" ({ cls := "ForesightHub", name := "undo", desc := "()I" } : Jvm.MethodName) ({ cls := "ForesightHub", name := "undo", desc := "()I" } : Jvm.MethodName)) ∈ TB := TB_3 42 rfl rfl
theorem tw_523 : (Jvm.Cond.code ({ cls := "ForesightHub", name := "undo", desc := "()I" } : Jvm.MethodName) prog_1_method_27_code (1 : Nat) (Option.some Jvm.ClassFile.FieldType.int)) ∈ TB := TB_3 43 rfl rfl
theorem tw_524 : (Jvm.Cond.methodLink "ForesightHub" (292 : Nat) ({ cls := "ForesightHub$History", name := "takeBack", desc := "(LForesightHub$State;)Z" } : Jvm.MethodName)) ∈ TB := TB_3 44 rfl rfl
theorem tw_525 : (Jvm.Cond.instanceMethod ({ cls := "ForesightHub$History", name := "takeBack", desc := "(LForesightHub$State;)Z" } : Jvm.MethodName)) ∈ TB := TB_3 45 rfl rfl
theorem tw_526 : (Jvm.Cond.selects "ForesightHub$History" ({ cls := "ForesightHub$History", name := "takeBack", desc := "(LForesightHub$State;)Z" } : Jvm.MethodName) ({ cls := "ForesightHub$History", name := "takeBack", desc := "(LForesightHub$State;)Z" } : Jvm.MethodName)) ∈ TB := TB_3 46 rfl rfl
theorem tw_527 : (Jvm.Cond.code ({ cls := "ForesightHub$History", name := "takeBack", desc := "(LForesightHub$State;)Z" } : Jvm.MethodName) prog_3_method_4_code (2 : Nat) (Option.some Jvm.ClassFile.FieldType.boolean)) ∈ TB := TB_3 47 rfl rfl
theorem tw_528 : (Jvm.Cond.methodLink "ForesightHub$History" (33 : Nat) ({ cls := "java/lang/Math", name := "floorMod", desc := "(II)I" } : Jvm.MethodName)) ∈ TB := TB_3 48 rfl rfl
theorem tw_529 : (Jvm.Cond.static ({ cls := "java/lang/Math", name := "floorMod", desc := "(II)I" } : Jvm.MethodName)) ∈ TB := TB_3 49 rfl rfl
theorem tw_530 : (Jvm.Cond.code ({ cls := "java/lang/Math", name := "floorMod", desc := "(II)I" } : Jvm.MethodName) prog_18_method_50_code (3 : Nat) (Option.some Jvm.ClassFile.FieldType.int)) ∈ TB := TB_3 50 rfl rfl
theorem tw_531 : (Jvm.Cond.methodLink "ForesightHub$History" (23 : Nat) ({ cls := "ForesightHub$State", name := "copyFrom", desc := "(LForesightHub$State;)V" } : Jvm.MethodName)) ∈ TB := TB_3 51 rfl rfl
theorem tw_532 : (Jvm.Cond.instanceMethod ({ cls := "ForesightHub$State", name := "copyFrom", desc := "(LForesightHub$State;)V" } : Jvm.MethodName)) ∈ TB := TB_3 52 rfl rfl
theorem tw_533 : (Jvm.Cond.selects "ForesightHub$State" ({ cls := "ForesightHub$State", name := "copyFrom", desc := "(LForesightHub$State;)V" } : Jvm.MethodName) ({ cls := "ForesightHub$State", name := "copyFrom", desc := "(LForesightHub$State;)V" } : Jvm.MethodName)) ∈ TB := TB_3 53 rfl rfl
theorem tw_534 : (Jvm.Cond.code ({ cls := "ForesightHub$State", name := "copyFrom", desc := "(LForesightHub$State;)V" } : Jvm.MethodName) prog_8_method_3_code (2 : Nat) (Option.none : Option Jvm.ClassFile.FieldType)) ∈ TB := TB_3 54 rfl rfl
theorem tw_535 : (Jvm.Cond.methodLink "ForesightHub$State" (67 : Nat) ({ cls := "java/lang/System", name := "arraycopy", desc := "(Ljava/lang/Object;ILjava/lang/Object;II)V" } : Jvm.MethodName)) ∈ TB := TB_3 55 rfl rfl
theorem tw_536 : (Jvm.Cond.static ({ cls := "java/lang/System", name := "arraycopy", desc := "(Ljava/lang/Object;ILjava/lang/Object;II)V" } : Jvm.MethodName)) ∈ TB := TB_3 56 rfl rfl
theorem tw_537 : (Jvm.Cond.native ({ cls := "java/lang/System", name := "arraycopy", desc := "(Ljava/lang/Object;ILjava/lang/Object;II)V" } : Jvm.MethodName)) ∈ TB := TB_3 57 rfl rfl
theorem tw_538 : (Jvm.Cond.methodLink "ForesightHub$State" (73 : Nat) ({ cls := "ForesightHub$ErrorBook", name := "copyFrom", desc := "(LForesightHub$ErrorBook;)V" } : Jvm.MethodName)) ∈ TB := TB_3 58 rfl rfl
theorem tw_539 : (Jvm.Cond.instanceMethod ({ cls := "ForesightHub$ErrorBook", name := "copyFrom", desc := "(LForesightHub$ErrorBook;)V" } : Jvm.MethodName)) ∈ TB := TB_3 59 rfl rfl
theorem tw_540 : (Jvm.Cond.selects "ForesightHub$ErrorBook" ({ cls := "ForesightHub$ErrorBook", name := "copyFrom", desc := "(LForesightHub$ErrorBook;)V" } : Jvm.MethodName) ({ cls := "ForesightHub$ErrorBook", name := "copyFrom", desc := "(LForesightHub$ErrorBook;)V" } : Jvm.MethodName)) ∈ TB := TB_3 60 rfl rfl
theorem tw_541 : (Jvm.Cond.code ({ cls := "ForesightHub$ErrorBook", name := "copyFrom", desc := "(LForesightHub$ErrorBook;)V" } : Jvm.MethodName) prog_2_method_3_code (2 : Nat) (Option.none : Option Jvm.ClassFile.FieldType)) ∈ TB := TB_3 61 rfl rfl
theorem tw_542 : (Jvm.Cond.methodLink "ForesightHub$ErrorBook" (31 : Nat) ({ cls := "java/lang/System", name := "arraycopy", desc := "(Ljava/lang/Object;ILjava/lang/Object;II)V" } : Jvm.MethodName)) ∈ TB := TB_3 62 rfl rfl
theorem tw_543 : (Jvm.Cond.methodLink "ForesightHub$State" (77 : Nat) ({ cls := "ForesightHub$Log", name := "copyFrom", desc := "(LForesightHub$Log;)V" } : Jvm.MethodName)) ∈ TB := TB_3 63 rfl rfl
theorem tw_544 : (Jvm.Cond.instanceMethod ({ cls := "ForesightHub$Log", name := "copyFrom", desc := "(LForesightHub$Log;)V" } : Jvm.MethodName)) ∈ TB := TB_3 64 rfl rfl
theorem tw_545 : (Jvm.Cond.selects "ForesightHub$Log" ({ cls := "ForesightHub$Log", name := "copyFrom", desc := "(LForesightHub$Log;)V" } : Jvm.MethodName) ({ cls := "ForesightHub$Log", name := "copyFrom", desc := "(LForesightHub$Log;)V" } : Jvm.MethodName)) ∈ TB := TB_3 65 rfl rfl
theorem tw_546 : (Jvm.Cond.code ({ cls := "ForesightHub$Log", name := "copyFrom", desc := "(LForesightHub$Log;)V" } : Jvm.MethodName) prog_5_method_3_code (2 : Nat) (Option.none : Option Jvm.ClassFile.FieldType)) ∈ TB := TB_3 66 rfl rfl
theorem tw_547 : (Jvm.Cond.methodLink "ForesightHub$Log" (31 : Nat) ({ cls := "java/lang/System", name := "arraycopy", desc := "(Ljava/lang/Object;ILjava/lang/Object;II)V" } : Jvm.MethodName)) ∈ TB := TB_3 67 rfl rfl
theorem tw_548 : (Jvm.Cond.methodLink "ForesightHubLaw" (123 : Nat) ({ cls := "ForesightHub", name := "saveSnapshot", desc := "(I)Z" } : Jvm.MethodName)) ∈ TB := TB_3 68 rfl rfl
theorem tw_549 : (Jvm.Cond.instanceMethod ({ cls := "ForesightHub", name := "saveSnapshot", desc := "(I)Z" } : Jvm.MethodName)) ∈ TB := TB_3 69 rfl rfl
theorem tw_550 : (Jvm.Cond.selects "ForesightHub" ({ cls := "ForesightHub", name := "saveSnapshot", desc := "(I)Z" } : Jvm.MethodName) ({ cls := "ForesightHub", name := "saveSnapshot", desc := "(I)Z" } : Jvm.MethodName)) ∈ TB := TB_3 70 rfl rfl
theorem tw_551 : (Jvm.Cond.code ({ cls := "ForesightHub", name := "saveSnapshot", desc := "(I)Z" } : Jvm.MethodName) prog_1_method_28_code (2 : Nat) (Option.some Jvm.ClassFile.FieldType.boolean)) ∈ TB := TB_3 71 rfl rfl
theorem tw_552 : (Jvm.Cond.methodLink "ForesightHub" (296 : Nat) ({ cls := "ForesightHub$State", name := "copyFrom", desc := "(LForesightHub$State;)V" } : Jvm.MethodName)) ∈ TB := TB_3 72 rfl rfl
theorem tw_553 : (Jvm.Cond.methodLink "ForesightHubLaw" (131 : Nat) ({ cls := "ForesightHub", name := "restoreSnapshot", desc := "(I)Z" } : Jvm.MethodName)) ∈ TB := TB_3 73 rfl rfl
theorem tw_554 : (Jvm.Cond.instanceMethod ({ cls := "ForesightHub", name := "restoreSnapshot", desc := "(I)Z" } : Jvm.MethodName)) ∈ TB := TB_3 74 rfl rfl
theorem tw_555 : (Jvm.Cond.selects "ForesightHub" ({ cls := "ForesightHub", name := "restoreSnapshot", desc := "(I)Z" } : Jvm.MethodName) ({ cls := "ForesightHub", name := "restoreSnapshot", desc := "(I)Z" } : Jvm.MethodName)) ∈ TB := TB_3 75 rfl rfl
theorem tw_556 : (Jvm.Cond.code ({ cls := "ForesightHub", name := "restoreSnapshot", desc := "(I)Z" } : Jvm.MethodName) prog_1_method_29_code (2 : Nat) (Option.some Jvm.ClassFile.FieldType.boolean)) ∈ TB := TB_3 76 rfl rfl
theorem tw_557 : (Jvm.Cond.methodLink "ForesightHub" (79 : Nat) ({ cls := "ForesightHub$History", name := "clear", desc := "()V" } : Jvm.MethodName)) ∈ TB := TB_3 77 rfl rfl
theorem tw_558 : (Jvm.Cond.instanceMethod ({ cls := "ForesightHub$History", name := "clear", desc := "()V" } : Jvm.MethodName)) ∈ TB := TB_3 78 rfl rfl
theorem tw_559 : (Jvm.Cond.selects "ForesightHub$History" ({ cls := "ForesightHub$History", name := "clear", desc := "()V" } : Jvm.MethodName) ({ cls := "ForesightHub$History", name := "clear", desc := "()V" } : Jvm.MethodName)) ∈ TB := TB_3 79 rfl rfl
theorem tw_560 : (Jvm.Cond.code ({ cls := "ForesightHub$History", name := "clear", desc := "()V" } : Jvm.MethodName) prog_3_method_2_code (1 : Nat) (Option.none : Option Jvm.ClassFile.FieldType)) ∈ TB := TB_3 80 rfl rfl
theorem tw_561 : (Jvm.Cond.methodLink "ForesightHubLaw" (23 : Nat) ({ cls := "ForesightHubLaw", name := "pick", desc := "([III)I" } : Jvm.MethodName)) ∈ TB := TB_3 81 rfl rfl
theorem tw_562 : (Jvm.Cond.static ({ cls := "ForesightHubLaw", name := "pick", desc := "([III)I" } : Jvm.MethodName)) ∈ TB := TB_3 82 rfl rfl
theorem tw_563 : (Jvm.Cond.code ({ cls := "ForesightHubLaw", name := "pick", desc := "([III)I" } : Jvm.MethodName) method_3_code (3 : Nat) (Option.some Jvm.ClassFile.FieldType.int)) ∈ TB := TB_3 83 rfl rfl
theorem tw_564 : (Jvm.Cond.methodLink "ForesightHubLaw" (8 : Nat) ({ cls := "ForesightHubLaw", name := "cell", desc := "([II)I" } : Jvm.MethodName)) ∈ TB := TB_3 84 rfl rfl
theorem tw_565 : (Jvm.Cond.static ({ cls := "ForesightHubLaw", name := "cell", desc := "([II)I" } : Jvm.MethodName)) ∈ TB := TB_3 85 rfl rfl
theorem tw_566 : (Jvm.Cond.code ({ cls := "ForesightHubLaw", name := "cell", desc := "([II)I" } : Jvm.MethodName) method_2_code (2 : Nat) (Option.some Jvm.ClassFile.FieldType.int)) ∈ TB := TB_3 86 rfl rfl
theorem tw_567 : (Jvm.Cond.constant "ForesightHubLaw" (7 : Nat) (40503 : Int32)) ∈ TB := TB_3 87 rfl rfl
theorem tw_568 : (Jvm.Cond.constant "ForesightHubLaw" (14 : Nat) (65535 : Int32)) ∈ TB := TB_3 88 rfl rfl
theorem tw_569 : (Jvm.Cond.methodLink "ForesightHubLaw" (111 : Nat) ({ cls := "ForesightHubLaw", name := "begins", desc := "(LForesightHub;[I)Z" } : Jvm.MethodName)) ∈ TB := TB_3 89 rfl rfl
theorem tw_570 : (Jvm.Cond.static ({ cls := "ForesightHubLaw", name := "begins", desc := "(LForesightHub;[I)Z" } : Jvm.MethodName)) ∈ TB := TB_3 90 rfl rfl
theorem tw_571 : (Jvm.Cond.code ({ cls := "ForesightHubLaw", name := "begins", desc := "(LForesightHub;[I)Z" } : Jvm.MethodName) method_5_code (10 : Nat) (Option.some Jvm.ClassFile.FieldType.boolean)) ∈ TB := TB_3 91 rfl rfl
theorem tw_572 : (Jvm.Cond.classLink "ForesightHubLaw" (27 : Nat) "java/lang/StringBuilder") ∈ TB := TB_3 92 rfl rfl
theorem tw_573 : (Jvm.Cond.instantiable "java/lang/StringBuilder" (4 : Nat)) ∈ TB := TB_3 93 rfl rfl
theorem tw_575 : (Jvm.Cond.methodLink "ForesightHubLaw" (31 : Nat) ({ cls := "java/lang/StringBuilder", name := "<init>", desc := "(Ljava/lang/String;)V" } : Jvm.MethodName)) ∈ TB := TB_3 95 rfl rfl
theorem tw_576 : (Jvm.Cond.instanceMethod ({ cls := "java/lang/StringBuilder", name := "<init>", desc := "(Ljava/lang/String;)V" } : Jvm.MethodName)) ∈ TB := TB_3 96 rfl rfl
theorem tw_577 : (Jvm.Cond.code ({ cls := "java/lang/StringBuilder", name := "<init>", desc := "(Ljava/lang/String;)V" } : Jvm.MethodName) prog_21_method_3_code (2 : Nat) (Option.none : Option Jvm.ClassFile.FieldType)) ∈ TB := TB_3 97 rfl rfl
theorem tw_578 : (Jvm.Cond.methodLink "java/lang/StringBuilder" (7 : Nat) ({ cls := "java/lang/AbstractStringBuilder", name := "<init>", desc := "(Ljava/lang/String;)V" } : Jvm.MethodName)) ∈ TB := TB_3 98 rfl rfl
theorem tw_579 : (Jvm.Cond.instanceMethod ({ cls := "java/lang/AbstractStringBuilder", name := "<init>", desc := "(Ljava/lang/String;)V" } : Jvm.MethodName)) ∈ TB := TB_3 99 rfl rfl
theorem tw_580 : (Jvm.Cond.code ({ cls := "java/lang/AbstractStringBuilder", name := "<init>", desc := "(Ljava/lang/String;)V" } : Jvm.MethodName) prog_11_method_3_code (5 : Nat) (Option.none : Option Jvm.ClassFile.FieldType)) ∈ TB := TB_3 100 rfl rfl
theorem tw_581 : (Jvm.Cond.methodLink "java/lang/AbstractStringBuilder" (3 : Nat) ({ cls := "java/lang/Object", name := "<init>", desc := "()V" } : Jvm.MethodName)) ∈ TB := TB_3 101 rfl rfl
theorem tw_582 : (Jvm.Cond.methodLink "java/lang/AbstractStringBuilder" (32 : Nat) ({ cls := "java/lang/String", name := "length", desc := "()I" } : Jvm.MethodName)) ∈ TB := TB_3 102 rfl rfl
theorem tw_583 : (Jvm.Cond.instanceMethod ({ cls := "java/lang/String", name := "length", desc := "()I" } : Jvm.MethodName)) ∈ TB := TB_3 103 rfl rfl
theorem tw_584 : (Jvm.Cond.selects "java/lang/String" ({ cls := "java/lang/String", name := "length", desc := "()I" } : Jvm.MethodName) ({ cls := "java/lang/String", name := "length", desc := "()I" } : Jvm.MethodName)) ∈ TB := TB_3 104 rfl rfl
theorem tw_585 : (Jvm.Cond.code ({ cls := "java/lang/String", name := "length", desc := "()I" } : Jvm.MethodName) prog_20_method_54_code (1 : Nat) (Option.some Jvm.ClassFile.FieldType.int)) ∈ TB := TB_3 105 rfl rfl
theorem tw_586 : (Jvm.Cond.methodLink "java/lang/String" (335 : Nat) ({ cls := "java/lang/String", name := "coder", desc := "()B" } : Jvm.MethodName)) ∈ TB := TB_3 106 rfl rfl
theorem tw_587 : (Jvm.Cond.instanceMethod ({ cls := "java/lang/String", name := "coder", desc := "()B" } : Jvm.MethodName)) ∈ TB := TB_3 107 rfl rfl
theorem tw_588 : (Jvm.Cond.selects "java/lang/String" ({ cls := "java/lang/String", name := "coder", desc := "()B" } : Jvm.MethodName) ({ cls := "java/lang/String", name := "coder", desc := "()B" } : Jvm.MethodName)) ∈ TB := TB_3 108 rfl rfl
theorem tw_589 : (Jvm.Cond.code ({ cls := "java/lang/String", name := "coder", desc := "()B" } : Jvm.MethodName) prog_20_method_152_code (1 : Nat) (Option.some Jvm.ClassFile.FieldType.byte)) ∈ TB := TB_3 109 rfl rfl
theorem tw_590 : (Jvm.Cond.fieldLink "java/lang/String" (38 : Nat) "java/lang/String" "COMPACT_STRINGS" "Z") ∈ TB := TB_3 110 rfl rfl
theorem tw_592 : (Jvm.Cond.constant "java/lang/AbstractStringBuilder" (38 : Nat) (2147483631 : Int32)) ∈ TB := TB_3 112 rfl rfl
theorem tw_593 : (Jvm.Cond.constant "java/lang/AbstractStringBuilder" (39 : Nat) (2147483647 : Int32)) ∈ TB := TB_3 113 rfl rfl
theorem tw_594 : (Jvm.Cond.methodLink "java/lang/AbstractStringBuilder" (40 : Nat) ({ cls := "java/lang/String", name := "coder", desc := "()B" } : Jvm.MethodName)) ∈ TB := TB_3 114 rfl rfl
theorem tw_595 : (Jvm.Cond.methodLink "java/lang/AbstractStringBuilder" (26 : Nat) ({ cls := "java/lang/StringUTF16", name := "newBytesFor", desc := "(I)[B" } : Jvm.MethodName)) ∈ TB := TB_3 115 rfl rfl
theorem tw_596 : (Jvm.Cond.static ({ cls := "java/lang/StringUTF16", name := "newBytesFor", desc := "(I)[B" } : Jvm.MethodName)) ∈ TB := TB_3 116 rfl rfl
theorem tw_597 : (Jvm.Cond.code ({ cls := "java/lang/StringUTF16", name := "newBytesFor", desc := "(I)[B" } : Jvm.MethodName) prog_23_method_2_code (1 : Nat) (Option.some (Jvm.ClassFile.FieldType.array Jvm.ClassFile.FieldType.byte))) ∈ TB := TB_3 117 rfl rfl
theorem tw_598 : (Jvm.Cond.methodLink "java/lang/StringUTF16" (11 : Nat) ({ cls := "java/lang/StringUTF16", name := "newBytesLength", desc := "(I)I" } : Jvm.MethodName)) ∈ TB := TB_3 118 rfl rfl
theorem tw_599 : (Jvm.Cond.static ({ cls := "java/lang/StringUTF16", name := "newBytesLength", desc := "(I)I" } : Jvm.MethodName)) ∈ TB := TB_3 119 rfl rfl
theorem tw_600 : (Jvm.Cond.code ({ cls := "java/lang/StringUTF16", name := "newBytesLength", desc := "(I)I" } : Jvm.MethodName) prog_23_method_3_code (1 : Nat) (Option.some Jvm.ClassFile.FieldType.int)) ∈ TB := TB_3 120 rfl rfl
theorem tw_601 : (Jvm.Cond.constant "java/lang/StringUTF16" (20 : Nat) (1073741823 : Int32)) ∈ TB := TB_3 121 rfl rfl
theorem tw_602 : (Jvm.Cond.methodLink "java/lang/AbstractStringBuilder" (43 : Nat) ({ cls := "java/lang/AbstractStringBuilder", name := "append", desc := "(Ljava/lang/String;)Ljava/lang/AbstractStringBuilder;" } : Jvm.MethodName)) ∈ TB := TB_3 122 rfl rfl
theorem tw_603 : (Jvm.Cond.instanceMethod ({ cls := "java/lang/AbstractStringBuilder", name := "append", desc := "(Ljava/lang/String;)Ljava/lang/AbstractStringBuilder;" } : Jvm.MethodName)) ∈ TB := TB_3 123 rfl rfl
theorem tw_604 : (Jvm.Cond.sameMethod "java/lang/AbstractStringBuilder" "java/lang/AbstractStringBuilder" "append" "(Ljava/lang/String;)Ljava/lang/AbstractStringBuilder;") ∈ TB := TB_3 124 rfl rfl
theorem tw_605 : (Jvm.Cond.selects "java/lang/StringBuilder" ({ cls := "java/lang/AbstractStringBuilder", name := "append", desc := "(Ljava/lang/String;)Ljava/lang/AbstractStringBuilder;" } : Jvm.MethodName) ({ cls := "java/lang/StringBuilder", name := "append", desc := "(Ljava/lang/String;)Ljava/lang/AbstractStringBuilder;" } : Jvm.MethodName)) ∈ TB := TB_3 125 rfl rfl
theorem tw_606 : (Jvm.Cond.instanceMethod ({ cls := "java/lang/StringBuilder", name := "append", desc := "(Ljava/lang/String;)Ljava/lang/AbstractStringBuilder;" } : Jvm.MethodName)) ∈ TB := TB_3 126 rfl rfl
theorem tw_607 : (Jvm.Cond.code ({ cls := "java/lang/StringBuilder", name := "append", desc := "(Ljava/lang/String;)Ljava/lang/AbstractStringBuilder;" } : Jvm.MethodName) prog_21_method_80_code (2 : Nat) (Option.some (Jvm.ClassFile.FieldType.object "java/lang/AbstractStringBuilder"))) ∈ TB := TB_3 127 rfl rfl
theorem tw_608 : (Jvm.Cond.methodLink "java/lang/StringBuilder" (23 : Nat) ({ cls := "java/lang/StringBuilder", name := "append", desc := "(Ljava/lang/String;)Ljava/lang/StringBuilder;" } : Jvm.MethodName)) ∈ TB := TB_3 128 rfl rfl
theorem tw_609 : (Jvm.Cond.instanceMethod ({ cls := "java/lang/StringBuilder", name := "append", desc := "(Ljava/lang/String;)Ljava/lang/StringBuilder;" } : Jvm.MethodName)) ∈ TB := TB_3 129 rfl rfl
theorem tw_610 : (Jvm.Cond.selects "java/lang/StringBuilder" ({ cls := "java/lang/StringBuilder", name := "append", desc := "(Ljava/lang/String;)Ljava/lang/StringBuilder;" } : Jvm.MethodName) ({ cls := "java/lang/StringBuilder", name := "append", desc := "(Ljava/lang/String;)Ljava/lang/StringBuilder;" } : Jvm.MethodName)) ∈ TB := TB_3 130 rfl rfl
theorem tw_611 : (Jvm.Cond.code ({ cls := "java/lang/StringBuilder", name := "append", desc := "(Ljava/lang/String;)Ljava/lang/StringBuilder;" } : Jvm.MethodName) prog_21_method_7_code (2 : Nat) (Option.some (Jvm.ClassFile.FieldType.object "java/lang/StringBuilder"))) ∈ TB := TB_3 131 rfl rfl
theorem tw_612 : (Jvm.Cond.methodLink "java/lang/StringBuilder" (29 : Nat) ({ cls := "java/lang/AbstractStringBuilder", name := "append", desc := "(Ljava/lang/String;)Ljava/lang/AbstractStringBuilder;" } : Jvm.MethodName)) ∈ TB := TB_3 132 rfl rfl
theorem tw_613 : (Jvm.Cond.superclass "java/lang/StringBuilder" "java/lang/AbstractStringBuilder") ∈ TB := TB_3 133 rfl rfl
theorem tw_614 : (Jvm.Cond.code ({ cls := "java/lang/AbstractStringBuilder", name := "append", desc := "(Ljava/lang/String;)Ljava/lang/AbstractStringBuilder;" } : Jvm.MethodName) prog_11_method_22_code (3 : Nat) (Option.some (Jvm.ClassFile.FieldType.object "java/lang/AbstractStringBuilder"))) ∈ TB := TB_3 134 rfl rfl
theorem tw_615 : (Jvm.Cond.methodLink "java/lang/AbstractStringBuilder" (204 : Nat) ({ cls := "java/lang/AbstractStringBuilder", name := "appendNull", desc := "()Ljava/lang/AbstractStringBuilder;" } : Jvm.MethodName)) ∈ TB := TB_3 135 rfl rfl
theorem tw_617 : (Jvm.Cond.instanceMethod ({ cls := "java/lang/AbstractStringBuilder", name := "appendNull", desc := "()Ljava/lang/AbstractStringBuilder;" } : Jvm.MethodName)) ∈ TB := TB_3 137 rfl rfl
theorem tw_618 : (Jvm.Cond.code ({ cls := "java/lang/AbstractStringBuilder", name := "appendNull", desc := "()Ljava/lang/AbstractStringBuilder;" } : Jvm.MethodName) prog_11_method_26_code (3 : Nat) (Option.some (Jvm.ClassFile.FieldType.object "java/lang/AbstractStringBuilder"))) ∈ TB := TB_3 138 rfl rfl
theorem tw_619 : (Jvm.Cond.methodLink "java/lang/AbstractStringBuilder" (100 : Nat) ({ cls := "java/lang/AbstractStringBuilder", name := "ensureCapacityInternal", desc := "(I)V" } : Jvm.MethodName)) ∈ TB := TB_3 139 rfl rfl
theorem tw_621 : (Jvm.Cond.instanceMethod ({ cls := "java/lang/AbstractStringBuilder", name := "ensureCapacityInternal", desc := "(I)V" } : Jvm.MethodName)) ∈ TB := TB_3 141 rfl rfl
theorem tw_622 : (Jvm.Cond.code ({ cls := "java/lang/AbstractStringBuilder", name := "ensureCapacityInternal", desc := "(I)V" } : Jvm.MethodName) prog_11_method_9_code (3 : Nat) (Option.none : Option Jvm.ClassFile.FieldType)) ∈ TB := TB_3 142 rfl rfl
theorem tw_623 : (Jvm.Cond.methodLink "java/lang/AbstractStringBuilder" (104 : Nat) ({ cls := "java/lang/AbstractStringBuilder", name := "newCapacity", desc := "(I)I" } : Jvm.MethodName)) ∈ TB := TB_3 143 rfl rfl
theorem tw_625 : (Jvm.Cond.instanceMethod ({ cls := "java/lang/AbstractStringBuilder", name := "newCapacity", desc := "(I)I" } : Jvm.MethodName)) ∈ TB := TB_3 145 rfl rfl
theorem tw_626 : (Jvm.Cond.code ({ cls := "java/lang/AbstractStringBuilder", name := "newCapacity", desc := "(I)I" } : Jvm.MethodName) prog_11_method_10_code (6 : Nat) (Option.some Jvm.ClassFile.FieldType.int)) ∈ TB := TB_3 146 rfl rfl
theorem tw_627 : (Jvm.Cond.methodLink "java/lang/AbstractStringBuilder" (114 : Nat) ({ cls := "jdk/internal/util/ArraysSupport", name := "newLength", desc := "(III)I" } : Jvm.MethodName)) ∈ TB := TB_3 147 rfl rfl
theorem tw_628 : (Jvm.Cond.static ({ cls := "jdk/internal/util/ArraysSupport", name := "newLength", desc := "(III)I" } : Jvm.MethodName)) ∈ TB := TB_3 148 rfl rfl
theorem tw_629 : (Jvm.Cond.code ({ cls := "jdk/internal/util/ArraysSupport", name := "newLength", desc := "(III)I" } : Jvm.MethodName) prog_27_method_27_code (4 : Nat) (Option.some Jvm.ClassFile.FieldType.int)) ∈ TB := TB_3 149 rfl rfl
theorem tw_630 : (Jvm.Cond.methodLink "jdk/internal/util/ArraysSupport" (194 : Nat) ({ cls := "java/lang/Math", name := "max", desc := "(II)I" } : Jvm.MethodName)) ∈ TB := TB_3 150 rfl rfl
theorem tw_631 : (Jvm.Cond.static ({ cls := "java/lang/Math", name := "max", desc := "(II)I" } : Jvm.MethodName)) ∈ TB := TB_3 151 rfl rfl
theorem tw_632 : (Jvm.Cond.code ({ cls := "java/lang/Math", name := "max", desc := "(II)I" } : Jvm.MethodName) prog_18_method_65_code (2 : Nat) (Option.some Jvm.ClassFile.FieldType.int)) ∈ TB := TB_3 152 rfl rfl
theorem tw_633 : (Jvm.Cond.constant "jdk/internal/util/ArraysSupport" (200 : Nat) (2147483639 : Int32)) ∈ TB := TB_3 153 rfl rfl
theorem tw_634 : (Jvm.Cond.methodLink "jdk/internal/util/ArraysSupport" (201 : Nat) ({ cls := "jdk/internal/util/ArraysSupport", name := "hugeLength", desc := "(II)I" } : Jvm.MethodName)) ∈ TB := TB_3 154 rfl rfl
theorem tw_635 : (Jvm.Cond.static ({ cls := "jdk/internal/util/ArraysSupport", name := "hugeLength", desc := "(II)I" } : Jvm.MethodName)) ∈ TB := TB_3 155 rfl rfl
theorem tw_636 : (Jvm.Cond.code ({ cls := "jdk/internal/util/ArraysSupport", name := "hugeLength", desc := "(II)I" } : Jvm.MethodName) prog_27_method_28_code (3 : Nat) (Option.some Jvm.ClassFile.FieldType.int)) ∈ TB := TB_3 156 rfl rfl
theorem tw_637 : (Jvm.Cond.methodLink "java/lang/AbstractStringBuilder" (108 : Nat) ({ cls := "java/util/Arrays", name := "copyOf", desc := "([BI)[B" } : Jvm.MethodName)) ∈ TB := TB_3 157 rfl rfl
theorem tw_638 : (Jvm.Cond.static ({ cls := "java/util/Arrays", name := "copyOf", desc := "([BI)[B" } : Jvm.MethodName)) ∈ TB := TB_3 158 rfl rfl
theorem tw_639 : (Jvm.Cond.code ({ cls := "java/util/Arrays", name := "copyOf", desc := "([BI)[B" } : Jvm.MethodName) prog_26_method_121_code (3 : Nat) (Option.some (Jvm.ClassFile.FieldType.array Jvm.ClassFile.FieldType.byte))) ∈ TB := TB_3 159 rfl rfl
theorem tw_640 : (Jvm.Cond.methodLink "java/util/Arrays" (310 : Nat) ({ cls := "[B", name := "clone", desc := "()Ljava/lang/Object;" } : Jvm.MethodName)) ∈ TB := TB_3 160 rfl rfl
theorem tw_641 : (Jvm.Cond.sameMethod "[B" "java/lang/Object" "clone" "()Ljava/lang/Object;") ∈ TB := TB_3 161 rfl rfl
theorem tw_642 : (Jvm.Cond.native ({ cls := "java/lang/Object", name := "clone", desc := "()Ljava/lang/Object;" } : Jvm.MethodName)) ∈ TB := TB_3 162 rfl rfl
theorem tw_643 : (Jvm.Cond.instanceMethod ({ cls := "java/lang/Object", name := "clone", desc := "()Ljava/lang/Object;" } : Jvm.MethodName)) ∈ TB := TB_3 163 rfl rfl
theorem tw_644 : (Jvm.Cond.selects "[B" ({ cls := "[B", name := "clone", desc := "()Ljava/lang/Object;" } : Jvm.MethodName) ({ cls := "java/lang/Object", name := "clone", desc := "()Ljava/lang/Object;" } : Jvm.MethodName)) ∈ TB := TB_3 164 rfl rfl
theorem tw_646 : (Jvm.Cond.classLink "java/util/Arrays" (311 : Nat) "[B") ∈ TB := TB_3 166 rfl rfl
theorem tw_647 : (Jvm.Cond.methodLink "java/util/Arrays" (304 : Nat) ({ cls := "java/lang/Math", name := "min", desc := "(II)I" } : Jvm.MethodName)) ∈ TB := TB_3 167 rfl rfl
theorem tw_648 : (Jvm.Cond.methodLink "java/util/Arrays" (150 : Nat) ({ cls := "java/lang/System", name := "arraycopy", desc := "(Ljava/lang/Object;ILjava/lang/Object;II)V" } : Jvm.MethodName)) ∈ TB := TB_3 168 rfl rfl
theorem tw_649 : (Jvm.Cond.methodLink "java/lang/AbstractStringBuilder" (83 : Nat) ({ cls := "java/lang/AbstractStringBuilder", name := "isLatin1", desc := "()Z" } : Jvm.MethodName)) ∈ TB := TB_3 169 rfl rfl
theorem tw_650 : (Jvm.Cond.instanceMethod ({ cls := "java/lang/AbstractStringBuilder", name := "isLatin1", desc := "()Z" } : Jvm.MethodName)) ∈ TB := TB_3 170 rfl rfl
theorem tw_651 : (Jvm.Cond.sameMethod "java/lang/AbstractStringBuilder" "java/lang/AbstractStringBuilder" "isLatin1" "()Z") ∈ TB := TB_3 171 rfl rfl
theorem tw_652 : (Jvm.Cond.selects "java/lang/StringBuilder" ({ cls := "java/lang/AbstractStringBuilder", name := "isLatin1", desc := "()Z" } : Jvm.MethodName) ({ cls := "java/lang/AbstractStringBuilder", name := "isLatin1", desc := "()Z" } : Jvm.MethodName)) ∈ TB := TB_3 172 rfl rfl
theorem tw_653 : (Jvm.Cond.code ({ cls := "java/lang/AbstractStringBuilder", name := "isLatin1", desc := "()Z" } : Jvm.MethodName) prog_11_method_68_code (1 : Nat) (Option.some Jvm.ClassFile.FieldType.boolean)) ∈ TB := TB_3 173 rfl rfl
theorem tw_654 : (Jvm.Cond.fieldLink "java/lang/AbstractStringBuilder" (18 : Nat) "java/lang/String" "COMPACT_STRINGS" "Z") ∈ TB := TB_3 174 rfl rfl
theorem tw_655 : (Jvm.Cond.methodLink "java/lang/AbstractStringBuilder" (226 : Nat) ({ cls := "java/lang/StringUTF16", name := "putCharsAt", desc := "([BICCCC)I" } : Jvm.MethodName)) ∈ TB := TB_3 175 rfl rfl
theorem tw_656 : (Jvm.Cond.static ({ cls := "java/lang/StringUTF16", name := "putCharsAt", desc := "([BICCCC)I" } : Jvm.MethodName)) ∈ TB := TB_3 176 rfl rfl
theorem tw_657 : (Jvm.Cond.code ({ cls := "java/lang/StringUTF16", name := "putCharsAt", desc := "([BICCCC)I" } : Jvm.MethodName) prog_23_method_81_code (7 : Nat) (Option.some Jvm.ClassFile.FieldType.int)) ∈ TB := TB_3 177 rfl rfl
theorem tw_658 : (Jvm.Cond.methodLink "java/lang/StringUTF16" (96 : Nat) ({ cls := "java/lang/StringUTF16", name := "checkBoundsBeginEnd", desc := "(II[B)V" } : Jvm.MethodName)) ∈ TB := TB_3 178 rfl rfl
theorem tw_659 : (Jvm.Cond.static ({ cls := "java/lang/StringUTF16", name := "checkBoundsBeginEnd", desc := "(II[B)V" } : Jvm.MethodName)) ∈ TB := TB_3 179 rfl rfl
theorem tw_660 : (Jvm.Cond.code ({ cls := "java/lang/StringUTF16", name := "checkBoundsBeginEnd", desc := "(II[B)V" } : Jvm.MethodName) prog_23_method_93_code (3 : Nat) (Option.none : Option Jvm.ClassFile.FieldType)) ∈ TB := TB_3 180 rfl rfl
theorem tw_661 : (Jvm.Cond.methodLink "java/lang/StringUTF16" (48 : Nat) ({ cls := "java/lang/StringUTF16", name := "length", desc := "([B)I" } : Jvm.MethodName)) ∈ TB := TB_3 181 rfl rfl
theorem tw_662 : (Jvm.Cond.static ({ cls := "java/lang/StringUTF16", name := "length", desc := "([B)I" } : Jvm.MethodName)) ∈ TB := TB_3 182 rfl rfl
theorem tw_663 : (Jvm.Cond.code ({ cls := "java/lang/StringUTF16", name := "length", desc := "([B)I" } : Jvm.MethodName) prog_23_method_6_code (1 : Nat) (Option.some Jvm.ClassFile.FieldType.int)) ∈ TB := TB_3 183 rfl rfl
theorem tw_664 : (Jvm.Cond.methodLink "java/lang/StringUTF16" (241 : Nat) ({ cls := "java/lang/String", name := "checkBoundsBeginEnd", desc := "(III)V" } : Jvm.MethodName)) ∈ TB := TB_3 184 rfl rfl
theorem tw_665 : (Jvm.Cond.static ({ cls := "java/lang/String", name := "checkBoundsBeginEnd", desc := "(III)V" } : Jvm.MethodName)) ∈ TB := TB_3 185 rfl rfl
theorem tw_666 : (Jvm.Cond.code ({ cls := "java/lang/String", name := "checkBoundsBeginEnd", desc := "(III)V" } : Jvm.MethodName) prog_20_method_158_code (3 : Nat) (Option.none : Option Jvm.ClassFile.FieldType)) ∈ TB := TB_3 186 rfl rfl
theorem tw_667 : (Jvm.Cond.fieldLink "java/lang/String" (1053 : Nat) "jdk/internal/util/Preconditions" "SIOOBE_FORMATTER" "Ljava/util/function/BiFunction;") ∈ TB := TB_3 187 rfl rfl
theorem tw_669 : (Jvm.Cond.methodLink "java/lang/String" (1062 : Nat) ({ cls := "jdk/internal/util/Preconditions", name := "checkFromToIndex", desc := "(IIILjava/util/function/BiFunction;)I" } : Jvm.MethodName)) ∈ TB := TB_3 189 rfl rfl
theorem tw_670 : (Jvm.Cond.static ({ cls := "jdk/internal/util/Preconditions", name := "checkFromToIndex", desc := "(IIILjava/util/function/BiFunction;)I" } : Jvm.MethodName)) ∈ TB := TB_3 190 rfl rfl
theorem tw_671 : (Jvm.Cond.code ({ cls := "jdk/internal/util/Preconditions", name := "checkFromToIndex", desc := "(IIILjava/util/function/BiFunction;)I" } : Jvm.MethodName) prog_28_method_12_code (4 : Nat) (Option.some Jvm.ClassFile.FieldType.int)) ∈ TB := TB_3 191 rfl rfl
theorem tw_672 : (Jvm.Cond.methodLink "java/lang/StringUTF16" (111 : Nat) ({ cls := "java/lang/StringUTF16", name := "putChar", desc := "([BII)V" } : Jvm.MethodName)) ∈ TB := TB_3 192 rfl rfl
theorem tw_673 : (Jvm.Cond.static ({ cls := "java/lang/StringUTF16", name := "putChar", desc := "([BII)V" } : Jvm.MethodName)) ∈ TB := TB_3 193 rfl rfl
theorem tw_674 : (Jvm.Cond.code ({ cls := "java/lang/StringUTF16", name := "putChar", desc := "([BII)V" } : Jvm.MethodName) prog_23_method_4_code (3 : Nat) (Option.none : Option Jvm.ClassFile.FieldType)) ∈ TB := TB_3 194 rfl rfl
theorem tw_675 : (Jvm.Cond.fieldLink "java/lang/StringUTF16" (44 : Nat) "java/lang/StringUTF16" "$assertionsDisabled" "Z") ∈ TB := TB_3 195 rfl rfl
theorem tw_677 : (Jvm.Cond.fieldLink "java/lang/StringUTF16" (59 : Nat) "java/lang/StringUTF16" "HI_BYTE_SHIFT" "I") ∈ TB := TB_3 197 rfl rfl
theorem tw_679 : (Jvm.Cond.fieldLink "java/lang/StringUTF16" (63 : Nat) "java/lang/StringUTF16" "LO_BYTE_SHIFT" "I") ∈ TB := TB_3 199 rfl rfl
theorem tw_681 : (Jvm.Cond.methodLink "java/lang/AbstractStringBuilder" (208 : Nat) ({ cls := "java/lang/AbstractStringBuilder", name := "putStringAt", desc := "(ILjava/lang/String;)V" } : Jvm.MethodName)) ∈ TB := TB_3 201 rfl rfl
theorem tw_683 : (Jvm.Cond.instanceMethod ({ cls := "java/lang/AbstractStringBuilder", name := "putStringAt", desc := "(ILjava/lang/String;)V" } : Jvm.MethodName)) ∈ TB := TB_3 203 rfl rfl
theorem tw_684 : (Jvm.Cond.code ({ cls := "java/lang/AbstractStringBuilder", name := "putStringAt", desc := "(ILjava/lang/String;)V" } : Jvm.MethodName) prog_11_method_73_code (3 : Nat) (Option.none : Option Jvm.ClassFile.FieldType)) ∈ TB := TB_3 204 rfl rfl
theorem tw_685 : (Jvm.Cond.methodLink "java/lang/AbstractStringBuilder" (397 : Nat) ({ cls := "java/lang/AbstractStringBuilder", name := "inflateIfNeededFor", desc := "(Ljava/lang/String;)V" } : Jvm.MethodName)) ∈ TB := TB_3 205 rfl rfl
theorem tw_687 : (Jvm.Cond.instanceMethod ({ cls := "java/lang/AbstractStringBuilder", name := "inflateIfNeededFor", desc := "(Ljava/lang/String;)V" } : Jvm.MethodName)) ∈ TB := TB_3 207 rfl rfl
theorem tw_688 : (Jvm.Cond.code ({ cls := "java/lang/AbstractStringBuilder", name := "inflateIfNeededFor", desc := "(Ljava/lang/String;)V" } : Jvm.MethodName) prog_11_method_71_code (2 : Nat) (Option.none : Option Jvm.ClassFile.FieldType)) ∈ TB := TB_3 208 rfl rfl
theorem tw_689 : (Jvm.Cond.methodLink "java/lang/AbstractStringBuilder" (195 : Nat) ({ cls := "java/lang/AbstractStringBuilder", name := "inflate", desc := "()V" } : Jvm.MethodName)) ∈ TB := TB_3 209 rfl rfl
theorem tw_691 : (Jvm.Cond.instanceMethod ({ cls := "java/lang/AbstractStringBuilder", name := "inflate", desc := "()V" } : Jvm.MethodName)) ∈ TB := TB_3 211 rfl rfl
theorem tw_692 : (Jvm.Cond.code ({ cls := "java/lang/AbstractStringBuilder", name := "inflate", desc := "()V" } : Jvm.MethodName) prog_11_method_11_code (2 : Nat) (Option.none : Option Jvm.ClassFile.FieldType)) ∈ TB := TB_3 212 rfl rfl
theorem tw_693 : (Jvm.Cond.methodLink "java/lang/AbstractStringBuilder" (125 : Nat) ({ cls := "java/lang/StringLatin1", name := "inflate", desc := "([BI[BII)V" } : Jvm.MethodName)) ∈ TB := TB_3 213 rfl rfl
theorem tw_694 : (Jvm.Cond.static ({ cls := "java/lang/StringLatin1", name := "inflate", desc := "([BI[BII)V" } : Jvm.MethodName)) ∈ TB := TB_3 214 rfl rfl
theorem tw_695 : (Jvm.Cond.code ({ cls := "java/lang/StringLatin1", name := "inflate", desc := "([BI[BII)V" } : Jvm.MethodName) prog_22_method_50_code (5 : Nat) (Option.none : Option Jvm.ClassFile.FieldType)) ∈ TB := TB_3 215 rfl rfl
theorem tw_696 : (Jvm.Cond.methodLink "java/lang/StringLatin1" (240 : Nat) ({ cls := "java/lang/StringUTF16", name := "inflate", desc := "([BI[BII)V" } : Jvm.MethodName)) ∈ TB := TB_3 216 rfl rfl
theorem tw_697 : (Jvm.Cond.static ({ cls := "java/lang/StringUTF16", name := "inflate", desc := "([BI[BII)V" } : Jvm.MethodName)) ∈ TB := TB_3 217 rfl rfl
theorem tw_698 : (Jvm.Cond.code ({ cls := "java/lang/StringUTF16", name := "inflate", desc := "([BI[BII)V" } : Jvm.MethodName) prog_23_method_86_code (6 : Nat) (Option.none : Option Jvm.ClassFile.FieldType)) ∈ TB := TB_3 218 rfl rfl
theorem tw_699 : (Jvm.Cond.methodLink "java/lang/StringUTF16" (173 : Nat) ({ cls := "java/lang/StringUTF16", name := "checkBoundsOffCount", desc := "(II[B)V" } : Jvm.MethodName)) ∈ TB := TB_3 219 rfl rfl
theorem tw_700 : (Jvm.Cond.static ({ cls := "java/lang/StringUTF16", name := "checkBoundsOffCount", desc := "(II[B)V" } : Jvm.MethodName)) ∈ TB := TB_3 220 rfl rfl
theorem tw_701 : (Jvm.Cond.code ({ cls := "java/lang/StringUTF16", name := "checkBoundsOffCount", desc := "(II[B)V" } : Jvm.MethodName) prog_23_method_94_code (3 : Nat) (Option.none : Option Jvm.ClassFile.FieldType)) ∈ TB := TB_3 221 rfl rfl
theorem tw_702 : (Jvm.Cond.methodLink "java/lang/StringUTF16" (419 : Nat) ({ cls := "java/lang/String", name := "checkBoundsOffCount", desc := "(III)I" } : Jvm.MethodName)) ∈ TB := TB_3 222 rfl rfl
theorem tw_703 : (Jvm.Cond.static ({ cls := "java/lang/String", name := "checkBoundsOffCount", desc := "(III)I" } : Jvm.MethodName)) ∈ TB := TB_3 223 rfl rfl
theorem tw_704 : (Jvm.Cond.code ({ cls := "java/lang/String", name := "checkBoundsOffCount", desc := "(III)I" } : Jvm.MethodName) prog_20_method_157_code (3 : Nat) (Option.some Jvm.ClassFile.FieldType.int)) ∈ TB := TB_3 224 rfl rfl
theorem tw_705 : (Jvm.Cond.methodLink "java/lang/String" (1065 : Nat) ({ cls := "jdk/internal/util/Preconditions", name := "checkFromIndexSize", desc := "(IIILjava/util/function/BiFunction;)I" } : Jvm.MethodName)) ∈ TB := TB_3 225 rfl rfl
theorem tw_706 : (Jvm.Cond.static ({ cls := "jdk/internal/util/Preconditions", name := "checkFromIndexSize", desc := "(IIILjava/util/function/BiFunction;)I" } : Jvm.MethodName)) ∈ TB := TB_3 226 rfl rfl
theorem tw_707 : (Jvm.Cond.code ({ cls := "jdk/internal/util/Preconditions", name := "checkFromIndexSize", desc := "(IIILjava/util/function/BiFunction;)I" } : Jvm.MethodName) prog_28_method_13_code (4 : Nat) (Option.some Jvm.ClassFile.FieldType.int)) ∈ TB := TB_3 227 rfl rfl
theorem tw_708 : (Jvm.Cond.methodLink "java/lang/AbstractStringBuilder" (399 : Nat) ({ cls := "java/lang/String", name := "getBytes", desc := "([BIB)V" } : Jvm.MethodName)) ∈ TB := TB_3 228 rfl rfl
theorem tw_709 : (Jvm.Cond.instanceMethod ({ cls := "java/lang/String", name := "getBytes", desc := "([BIB)V" } : Jvm.MethodName)) ∈ TB := TB_3 229 rfl rfl
theorem tw_710 : (Jvm.Cond.selects "java/lang/String" ({ cls := "java/lang/String", name := "getBytes", desc := "([BIB)V" } : Jvm.MethodName) ({ cls := "java/lang/String", name := "getBytes", desc := "([BIB)V" } : Jvm.MethodName)) ∈ TB := TB_3 230 rfl rfl
theorem tw_711 : (Jvm.Cond.code ({ cls := "java/lang/String", name := "getBytes", desc := "([BIB)V" } : Jvm.MethodName) prog_20_method_147_code (4 : Nat) (Option.none : Option Jvm.ClassFile.FieldType)) ∈ TB := TB_3 231 rfl rfl
theorem tw_712 : (Jvm.Cond.methodLink "java/lang/String" (212 : Nat) ({ cls := "java/lang/System", name := "arraycopy", desc := "(Ljava/lang/Object;ILjava/lang/Object;II)V" } : Jvm.MethodName)) ∈ TB := TB_3 232 rfl rfl
theorem tw_713 : (Jvm.Cond.methodLink "java/lang/String" (106 : Nat) ({ cls := "java/lang/StringLatin1", name := "inflate", desc := "([BI[BII)V" } : Jvm.MethodName)) ∈ TB := TB_3 233 rfl rfl
theorem tw_714 : (Jvm.Cond.fieldLink "java/lang/AbstractStringBuilder" (15 : Nat) "java/lang/AbstractStringBuilder" "value" "[B") ∈ TB := TB_3 234 rfl rfl
theorem tw_715 : (Jvm.Cond.fieldLink "java/lang/AbstractStringBuilder" (22 : Nat) "java/lang/AbstractStringBuilder" "coder" "B") ∈ TB := TB_3 235 rfl rfl
theorem tw_716 : (Jvm.Cond.fieldLink "java/lang/AbstractStringBuilder" (79 : Nat) "java/lang/AbstractStringBuilder" "count" "I") ∈ TB := TB_3 236 rfl rfl
theorem tw_725 : (Jvm.Cond.methodLink "ForesightHubLaw" (34 : Nat) ({ cls := "java/lang/StringBuilder", name := "append", desc := "(I)Ljava/lang/StringBuilder;" } : Jvm.MethodName)) ∈ TB := TB_4 5 rfl rfl
theorem tw_726 : (Jvm.Cond.instanceMethod ({ cls := "java/lang/StringBuilder", name := "append", desc := "(I)Ljava/lang/StringBuilder;" } : Jvm.MethodName)) ∈ TB := TB_4 6 rfl rfl
theorem tw_727 : (Jvm.Cond.selects "java/lang/StringBuilder" ({ cls := "java/lang/StringBuilder", name := "append", desc := "(I)Ljava/lang/StringBuilder;" } : Jvm.MethodName) ({ cls := "java/lang/StringBuilder", name := "append", desc := "(I)Ljava/lang/StringBuilder;" } : Jvm.MethodName)) ∈ TB := TB_4 7 rfl rfl
theorem tw_728 : (Jvm.Cond.code ({ cls := "java/lang/StringBuilder", name := "append", desc := "(I)Ljava/lang/StringBuilder;" } : Jvm.MethodName) prog_21_method_15_code (2 : Nat) (Option.some (Jvm.ClassFile.FieldType.object "java/lang/StringBuilder"))) ∈ TB := TB_4 8 rfl rfl
theorem tw_729 : (Jvm.Cond.methodLink "java/lang/StringBuilder" (53 : Nat) ({ cls := "java/lang/AbstractStringBuilder", name := "append", desc := "(I)Ljava/lang/AbstractStringBuilder;" } : Jvm.MethodName)) ∈ TB := TB_4 9 rfl rfl
theorem tw_730 : (Jvm.Cond.instanceMethod ({ cls := "java/lang/AbstractStringBuilder", name := "append", desc := "(I)Ljava/lang/AbstractStringBuilder;" } : Jvm.MethodName)) ∈ TB := TB_4 10 rfl rfl
theorem tw_731 : (Jvm.Cond.code ({ cls := "java/lang/AbstractStringBuilder", name := "append", desc := "(I)Ljava/lang/AbstractStringBuilder;" } : Jvm.MethodName) prog_11_method_32_code (4 : Nat) (Option.some (Jvm.ClassFile.FieldType.object "java/lang/AbstractStringBuilder"))) ∈ TB := TB_4 11 rfl rfl
theorem tw_732 : (Jvm.Cond.methodLink "java/lang/AbstractStringBuilder" (245 : Nat) ({ cls := "java/lang/Integer", name := "stringSize", desc := "(I)I" } : Jvm.MethodName)) ∈ TB := TB_4 12 rfl rfl
theorem tw_733 : (Jvm.Cond.static ({ cls := "java/lang/Integer", name := "stringSize", desc := "(I)I" } : Jvm.MethodName)) ∈ TB := TB_4 13 rfl rfl
theorem tw_734 : (Jvm.Cond.code ({ cls := "java/lang/Integer", name := "stringSize", desc := "(I)I" } : Jvm.MethodName) prog_17_method_13_code (4 : Nat) (Option.some Jvm.ClassFile.FieldType.int)) ∈ TB := TB_4 14 rfl rfl
theorem tw_735 : (Jvm.Cond.methodLink "java/lang/AbstractStringBuilder" (248 : Nat) ({ cls := "java/lang/Integer", name := "getChars", desc := "(II[B)I" } : Jvm.MethodName)) ∈ TB := TB_4 15 rfl rfl
theorem tw_736 : (Jvm.Cond.static ({ cls := "java/lang/Integer", name := "getChars", desc := "(II[B)I" } : Jvm.MethodName)) ∈ TB := TB_4 16 rfl rfl
theorem tw_737 : (Jvm.Cond.code ({ cls := "java/lang/Integer", name := "getChars", desc := "(II[B)I" } : Jvm.MethodName) prog_17_method_12_code (7 : Nat) (Option.some Jvm.ClassFile.FieldType.int)) ∈ TB := TB_4 17 rfl rfl
theorem tw_738 : (Jvm.Cond.fieldLink "java/lang/Integer" (83 : Nat) "java/lang/Integer" "DigitOnes" "[B") ∈ TB := TB_4 18 rfl rfl
theorem tw_740 : (Jvm.Cond.fieldLink "java/lang/Integer" (87 : Nat) "java/lang/Integer" "DigitTens" "[B") ∈ TB := TB_4 20 rfl rfl
theorem tw_742 : (Jvm.Cond.methodLink "java/lang/AbstractStringBuilder" (251 : Nat) ({ cls := "java/lang/StringUTF16", name := "getChars", desc := "(III[B)I" } : Jvm.MethodName)) ∈ TB := TB_4 22 rfl rfl
theorem tw_743 : (Jvm.Cond.static ({ cls := "java/lang/StringUTF16", name := "getChars", desc := "(III[B)I" } : Jvm.MethodName)) ∈ TB := TB_4 23 rfl rfl
theorem tw_744 : (Jvm.Cond.code ({ cls := "java/lang/StringUTF16", name := "getChars", desc := "(III[B)I" } : Jvm.MethodName) prog_23_method_77_code (5 : Nat) (Option.some Jvm.ClassFile.FieldType.int)) ∈ TB := TB_4 24 rfl rfl
theorem tw_745 : (Jvm.Cond.methodLink "java/lang/StringUTF16" (393 : Nat) ({ cls := "java/lang/StringUTF16", name := "getChars", desc := "(II[B)I" } : Jvm.MethodName)) ∈ TB := TB_4 25 rfl rfl
theorem tw_746 : (Jvm.Cond.static ({ cls := "java/lang/StringUTF16", name := "getChars", desc := "(II[B)I" } : Jvm.MethodName)) ∈ TB := TB_4 26 rfl rfl
theorem tw_747 : (Jvm.Cond.code ({ cls := "java/lang/StringUTF16", name := "getChars", desc := "(II[B)I" } : Jvm.MethodName) prog_23_method_89_code (7 : Nat) (Option.some Jvm.ClassFile.FieldType.int)) ∈ TB := TB_4 27 rfl rfl
theorem tw_748 : (Jvm.Cond.fieldLink "java/lang/StringUTF16" (403 : Nat) "java/lang/Integer" "DigitOnes" "[B") ∈ TB := TB_4 28 rfl rfl
theorem tw_749 : (Jvm.Cond.fieldLink "java/lang/StringUTF16" (407 : Nat) "java/lang/Integer" "DigitTens" "[B") ∈ TB := TB_4 29 rfl rfl
theorem tw_751 : (Jvm.Cond.methodLink "ForesightHubLaw" (40 : Nat) ({ cls := "java/lang/StringBuilder", name := "append", desc := "(Ljava/lang/String;)Ljava/lang/StringBuilder;" } : Jvm.MethodName)) ∈ TB := TB_4 31 rfl rfl
theorem tw_753 : (Jvm.Cond.methodLink "ForesightHubLaw" (45 : Nat) ({ cls := "java/lang/StringBuilder", name := "append", desc := "(C)Ljava/lang/StringBuilder;" } : Jvm.MethodName)) ∈ TB := TB_4 33 rfl rfl
theorem tw_754 : (Jvm.Cond.instanceMethod ({ cls := "java/lang/StringBuilder", name := "append", desc := "(C)Ljava/lang/StringBuilder;" } : Jvm.MethodName)) ∈ TB := TB_4 34 rfl rfl
theorem tw_755 : (Jvm.Cond.selects "java/lang/StringBuilder" ({ cls := "java/lang/StringBuilder", name := "append", desc := "(C)Ljava/lang/StringBuilder;" } : Jvm.MethodName) ({ cls := "java/lang/StringBuilder", name := "append", desc := "(C)Ljava/lang/StringBuilder;" } : Jvm.MethodName)) ∈ TB := TB_4 35 rfl rfl
theorem tw_756 : (Jvm.Cond.code ({ cls := "java/lang/StringBuilder", name := "append", desc := "(C)Ljava/lang/StringBuilder;" } : Jvm.MethodName) prog_21_method_14_code (2 : Nat) (Option.some (Jvm.ClassFile.FieldType.object "java/lang/StringBuilder"))) ∈ TB := TB_4 36 rfl rfl
theorem tw_757 : (Jvm.Cond.methodLink "java/lang/StringBuilder" (50 : Nat) ({ cls := "java/lang/AbstractStringBuilder", name := "append", desc := "(C)Ljava/lang/AbstractStringBuilder;" } : Jvm.MethodName)) ∈ TB := TB_4 37 rfl rfl
theorem tw_758 : (Jvm.Cond.instanceMethod ({ cls := "java/lang/AbstractStringBuilder", name := "append", desc := "(C)Ljava/lang/AbstractStringBuilder;" } : Jvm.MethodName)) ∈ TB := TB_4 38 rfl rfl
theorem tw_759 : (Jvm.Cond.code ({ cls := "java/lang/AbstractStringBuilder", name := "append", desc := "(C)Ljava/lang/AbstractStringBuilder;" } : Jvm.MethodName) prog_11_method_31_code (2 : Nat) (Option.some (Jvm.ClassFile.FieldType.object "java/lang/AbstractStringBuilder"))) ∈ TB := TB_4 39 rfl rfl
theorem tw_760 : (Jvm.Cond.methodLink "java/lang/AbstractStringBuilder" (191 : Nat) ({ cls := "java/lang/StringLatin1", name := "canEncode", desc := "(C)Z" } : Jvm.MethodName)) ∈ TB := TB_4 40 rfl rfl
theorem tw_761 : (Jvm.Cond.static ({ cls := "java/lang/StringLatin1", name := "canEncode", desc := "(C)Z" } : Jvm.MethodName)) ∈ TB := TB_4 41 rfl rfl
theorem tw_762 : (Jvm.Cond.code ({ cls := "java/lang/StringLatin1", name := "canEncode", desc := "(C)Z" } : Jvm.MethodName) prog_22_method_3_code (1 : Nat) (Option.some Jvm.ClassFile.FieldType.boolean)) ∈ TB := TB_4 42 rfl rfl
theorem tw_763 : (Jvm.Cond.methodLink "java/lang/AbstractStringBuilder" (197 : Nat) ({ cls := "java/lang/StringUTF16", name := "putCharSB", desc := "([BII)V" } : Jvm.MethodName)) ∈ TB := TB_4 43 rfl rfl
theorem tw_764 : (Jvm.Cond.static ({ cls := "java/lang/StringUTF16", name := "putCharSB", desc := "([BII)V" } : Jvm.MethodName)) ∈ TB := TB_4 44 rfl rfl
theorem tw_765 : (Jvm.Cond.code ({ cls := "java/lang/StringUTF16", name := "putCharSB", desc := "([BII)V" } : Jvm.MethodName) prog_23_method_71_code (3 : Nat) (Option.none : Option Jvm.ClassFile.FieldType)) ∈ TB := TB_4 45 rfl rfl
theorem tw_766 : (Jvm.Cond.methodLink "java/lang/StringUTF16" (67 : Nat) ({ cls := "java/lang/StringUTF16", name := "checkIndex", desc := "(I[B)V" } : Jvm.MethodName)) ∈ TB := TB_4 46 rfl rfl
theorem tw_767 : (Jvm.Cond.static ({ cls := "java/lang/StringUTF16", name := "checkIndex", desc := "(I[B)V" } : Jvm.MethodName)) ∈ TB := TB_4 47 rfl rfl
theorem tw_768 : (Jvm.Cond.code ({ cls := "java/lang/StringUTF16", name := "checkIndex", desc := "(I[B)V" } : Jvm.MethodName) prog_23_method_91_code (2 : Nat) (Option.none : Option Jvm.ClassFile.FieldType)) ∈ TB := TB_4 48 rfl rfl
theorem tw_769 : (Jvm.Cond.methodLink "java/lang/StringUTF16" (414 : Nat) ({ cls := "java/lang/String", name := "checkIndex", desc := "(II)V" } : Jvm.MethodName)) ∈ TB := TB_4 49 rfl rfl
theorem tw_770 : (Jvm.Cond.static ({ cls := "java/lang/String", name := "checkIndex", desc := "(II)V" } : Jvm.MethodName)) ∈ TB := TB_4 50 rfl rfl
theorem tw_771 : (Jvm.Cond.code ({ cls := "java/lang/String", name := "checkIndex", desc := "(II)V" } : Jvm.MethodName) prog_20_method_155_code (2 : Nat) (Option.none : Option Jvm.ClassFile.FieldType)) ∈ TB := TB_4 51 rfl rfl
theorem tw_772 : (Jvm.Cond.methodLink "java/lang/String" (1059 : Nat) ({ cls := "jdk/internal/util/Preconditions", name := "checkIndex", desc := "(IILjava/util/function/BiFunction;)I" } : Jvm.MethodName)) ∈ TB := TB_4 52 rfl rfl
theorem tw_773 : (Jvm.Cond.static ({ cls := "jdk/internal/util/Preconditions", name := "checkIndex", desc := "(IILjava/util/function/BiFunction;)I" } : Jvm.MethodName)) ∈ TB := TB_4 53 rfl rfl
theorem tw_774 : (Jvm.Cond.code ({ cls := "jdk/internal/util/Preconditions", name := "checkIndex", desc := "(IILjava/util/function/BiFunction;)I" } : Jvm.MethodName) prog_28_method_11_code (3 : Nat) (Option.some Jvm.ClassFile.FieldType.int)) ∈ TB := TB_4 54 rfl rfl
theorem tw_776 : (Jvm.Cond.methodLink "ForesightHubLaw" (50 : Nat) ({ cls := "ForesightHubLaw", name := "kind", desc := "(I)Ljava/lang/String;" } : Jvm.MethodName)) ∈ TB := TB_4 56 rfl rfl
theorem tw_777 : (Jvm.Cond.static ({ cls := "ForesightHubLaw", name := "kind", desc := "(I)Ljava/lang/String;" } : Jvm.MethodName)) ∈ TB := TB_4 57 rfl rfl
theorem tw_778 : (Jvm.Cond.code ({ cls := "ForesightHubLaw", name := "kind", desc := "(I)Ljava/lang/String;" } : Jvm.MethodName) method_4_code (1 : Nat) (Option.some (Jvm.ClassFile.FieldType.object "java/lang/String"))) ∈ TB := TB_4 58 rfl rfl
theorem tw_790 : (Jvm.Cond.methodLink "ForesightHubLaw" (68 : Nat) ({ cls := "java/lang/StringBuilder", name := "length", desc := "()I" } : Jvm.MethodName)) ∈ TB := TB_4 70 rfl rfl
theorem tw_791 : (Jvm.Cond.instanceMethod ({ cls := "java/lang/StringBuilder", name := "length", desc := "()I" } : Jvm.MethodName)) ∈ TB := TB_4 71 rfl rfl
theorem tw_792 : (Jvm.Cond.selects "java/lang/StringBuilder" ({ cls := "java/lang/StringBuilder", name := "length", desc := "()I" } : Jvm.MethodName) ({ cls := "java/lang/StringBuilder", name := "length", desc := "()I" } : Jvm.MethodName)) ∈ TB := TB_4 72 rfl rfl
theorem tw_793 : (Jvm.Cond.code ({ cls := "java/lang/StringBuilder", name := "length", desc := "()I" } : Jvm.MethodName) prog_21_method_93_code (1 : Nat) (Option.some Jvm.ClassFile.FieldType.int)) ∈ TB := TB_4 73 rfl rfl
theorem tw_794 : (Jvm.Cond.methodLink "java/lang/StringBuilder" (343 : Nat) ({ cls := "java/lang/AbstractStringBuilder", name := "length", desc := "()I" } : Jvm.MethodName)) ∈ TB := TB_4 74 rfl rfl
theorem tw_795 : (Jvm.Cond.instanceMethod ({ cls := "java/lang/AbstractStringBuilder", name := "length", desc := "()I" } : Jvm.MethodName)) ∈ TB := TB_4 75 rfl rfl
theorem tw_796 : (Jvm.Cond.code ({ cls := "java/lang/AbstractStringBuilder", name := "length", desc := "()I" } : Jvm.MethodName) prog_11_method_6_code (1 : Nat) (Option.some Jvm.ClassFile.FieldType.int)) ∈ TB := TB_4 76 rfl rfl
theorem tw_797 : (Jvm.Cond.methodLink "ForesightHubLaw" (72 : Nat) ({ cls := "java/lang/StringBuilder", name := "charAt", desc := "(I)C" } : Jvm.MethodName)) ∈ TB := TB_4 77 rfl rfl
theorem tw_798 : (Jvm.Cond.instanceMethod ({ cls := "java/lang/StringBuilder", name := "charAt", desc := "(I)C" } : Jvm.MethodName)) ∈ TB := TB_4 78 rfl rfl
theorem tw_799 : (Jvm.Cond.selects "java/lang/StringBuilder" ({ cls := "java/lang/StringBuilder", name := "charAt", desc := "(I)C" } : Jvm.MethodName) ({ cls := "java/lang/StringBuilder", name := "charAt", desc := "(I)C" } : Jvm.MethodName)) ∈ TB := TB_4 79 rfl rfl
theorem tw_800 : (Jvm.Cond.code ({ cls := "java/lang/StringBuilder", name := "charAt", desc := "(I)C" } : Jvm.MethodName) prog_21_method_88_code (2 : Nat) (Option.some Jvm.ClassFile.FieldType.char)) ∈ TB := TB_4 80 rfl rfl
theorem tw_801 : (Jvm.Cond.methodLink "java/lang/StringBuilder" (329 : Nat) ({ cls := "java/lang/AbstractStringBuilder", name := "charAt", desc := "(I)C" } : Jvm.MethodName)) ∈ TB := TB_4 81 rfl rfl
theorem tw_802 : (Jvm.Cond.instanceMethod ({ cls := "java/lang/AbstractStringBuilder", name := "charAt", desc := "(I)C" } : Jvm.MethodName)) ∈ TB := TB_4 82 rfl rfl
theorem tw_803 : (Jvm.Cond.code ({ cls := "java/lang/AbstractStringBuilder", name := "charAt", desc := "(I)C" } : Jvm.MethodName) prog_11_method_14_code (5 : Nat) (Option.some Jvm.ClassFile.FieldType.char)) ∈ TB := TB_4 83 rfl rfl
theorem tw_804 : (Jvm.Cond.methodLink "java/lang/AbstractStringBuilder" (138 : Nat) ({ cls := "java/lang/Math", name := "min", desc := "(II)I" } : Jvm.MethodName)) ∈ TB := TB_4 84 rfl rfl
theorem tw_805 : (Jvm.Cond.methodLink "java/lang/AbstractStringBuilder" (144 : Nat) ({ cls := "java/lang/String", name := "checkIndex", desc := "(II)V" } : Jvm.MethodName)) ∈ TB := TB_4 85 rfl rfl
theorem tw_806 : (Jvm.Cond.methodLink "java/lang/AbstractStringBuilder" (148 : Nat) ({ cls := "java/lang/StringUTF16", name := "getChar", desc := "([BI)C" } : Jvm.MethodName)) ∈ TB := TB_4 86 rfl rfl
theorem tw_807 : (Jvm.Cond.static ({ cls := "java/lang/StringUTF16", name := "getChar", desc := "([BI)C" } : Jvm.MethodName)) ∈ TB := TB_4 87 rfl rfl
theorem tw_808 : (Jvm.Cond.code ({ cls := "java/lang/StringUTF16", name := "getChar", desc := "([BI)C" } : Jvm.MethodName) prog_23_method_5_code (2 : Nat) (Option.some Jvm.ClassFile.FieldType.char)) ∈ TB := TB_4 88 rfl rfl
theorem tw_809 : (Jvm.Cond.methodLink "ForesightHubLaw" (76 : Nat) ({ cls := "ForesightHub", name := "append", desc := "(IIIII)I" } : Jvm.MethodName)) ∈ TB := TB_4 89 rfl rfl
theorem tw_810 : (Jvm.Cond.instanceMethod ({ cls := "ForesightHub", name := "append", desc := "(IIIII)I" } : Jvm.MethodName)) ∈ TB := TB_4 90 rfl rfl
theorem tw_811 : (Jvm.Cond.selects "ForesightHub" ({ cls := "ForesightHub", name := "append", desc := "(IIIII)I" } : Jvm.MethodName) ({ cls := "ForesightHub", name := "append", desc := "(IIIII)I" } : Jvm.MethodName)) ∈ TB := TB_4 91 rfl rfl
theorem tw_812 : (Jvm.Cond.code ({ cls := "ForesightHub", name := "append", desc := "(IIIII)I" } : Jvm.MethodName) prog_1_method_2_code (6 : Nat) (Option.some Jvm.ClassFile.FieldType.int)) ∈ TB := TB_4 92 rfl rfl
theorem tw_813 : (Jvm.Cond.methodLink "ForesightHub" (41 : Nat) ({ cls := "ForesightHub$Reader", name := "hasRoomFor", desc := "(I)Z" } : Jvm.MethodName)) ∈ TB := TB_4 93 rfl rfl
theorem tw_814 : (Jvm.Cond.instanceMethod ({ cls := "ForesightHub$Reader", name := "hasRoomFor", desc := "(I)Z" } : Jvm.MethodName)) ∈ TB := TB_4 94 rfl rfl
theorem tw_815 : (Jvm.Cond.selects "ForesightHub$Reader" ({ cls := "ForesightHub$Reader", name := "hasRoomFor", desc := "(I)Z" } : Jvm.MethodName) ({ cls := "ForesightHub$Reader", name := "hasRoomFor", desc := "(I)Z" } : Jvm.MethodName)) ∈ TB := TB_4 95 rfl rfl
theorem tw_816 : (Jvm.Cond.code ({ cls := "ForesightHub$Reader", name := "hasRoomFor", desc := "(I)Z" } : Jvm.MethodName) prog_7_method_2_code (2 : Nat) (Option.some Jvm.ClassFile.FieldType.boolean)) ∈ TB := TB_4 96 rfl rfl
theorem tw_817 : (Jvm.Cond.methodLink "ForesightHub" (45 : Nat) ({ cls := "ForesightHub$Reader", name := "addBytesOf", desc := "(I)V" } : Jvm.MethodName)) ∈ TB := TB_4 97 rfl rfl
theorem tw_818 : (Jvm.Cond.instanceMethod ({ cls := "ForesightHub$Reader", name := "addBytesOf", desc := "(I)V" } : Jvm.MethodName)) ∈ TB := TB_4 98 rfl rfl
theorem tw_819 : (Jvm.Cond.selects "ForesightHub$Reader" ({ cls := "ForesightHub$Reader", name := "addBytesOf", desc := "(I)V" } : Jvm.MethodName) ({ cls := "ForesightHub$Reader", name := "addBytesOf", desc := "(I)V" } : Jvm.MethodName)) ∈ TB := TB_4 99 rfl rfl
theorem tw_820 : (Jvm.Cond.code ({ cls := "ForesightHub$Reader", name := "addBytesOf", desc := "(I)V" } : Jvm.MethodName) prog_7_method_3_code (3 : Nat) (Option.none : Option Jvm.ClassFile.FieldType)) ∈ TB := TB_4 100 rfl rfl
theorem tw_821 : (Jvm.Cond.methodLink "ForesightHubLaw" (81 : Nat) ({ cls := "ForesightHub", name := "parse", desc := "(I)I" } : Jvm.MethodName)) ∈ TB := TB_4 101 rfl rfl
theorem tw_822 : (Jvm.Cond.instanceMethod ({ cls := "ForesightHub", name := "parse", desc := "(I)I" } : Jvm.MethodName)) ∈ TB := TB_4 102 rfl rfl
theorem tw_823 : (Jvm.Cond.selects "ForesightHub" ({ cls := "ForesightHub", name := "parse", desc := "(I)I" } : Jvm.MethodName) ({ cls := "ForesightHub", name := "parse", desc := "(I)I" } : Jvm.MethodName)) ∈ TB := TB_4 103 rfl rfl
theorem tw_824 : (Jvm.Cond.code ({ cls := "ForesightHub", name := "parse", desc := "(I)I" } : Jvm.MethodName) prog_1_method_3_code (4 : Nat) (Option.some Jvm.ClassFile.FieldType.int)) ∈ TB := TB_4 104 rfl rfl
theorem tw_826 : (Jvm.Cond.methodLink "ForesightHub" (60 : Nat) ({ cls := "ForesightHub$Reader", name := "read", desc := "(I)Z" } : Jvm.MethodName)) ∈ TB := TB_4 106 rfl rfl
theorem tw_827 : (Jvm.Cond.instanceMethod ({ cls := "ForesightHub$Reader", name := "read", desc := "(I)Z" } : Jvm.MethodName)) ∈ TB := TB_4 107 rfl rfl
theorem tw_828 : (Jvm.Cond.selects "ForesightHub$Reader" ({ cls := "ForesightHub$Reader", name := "read", desc := "(I)Z" } : Jvm.MethodName) ({ cls := "ForesightHub$Reader", name := "read", desc := "(I)Z" } : Jvm.MethodName)) ∈ TB := TB_4 108 rfl rfl
theorem tw_829 : (Jvm.Cond.code ({ cls := "ForesightHub$Reader", name := "read", desc := "(I)Z" } : Jvm.MethodName) prog_7_method_6_code (3 : Nat) (Option.some Jvm.ClassFile.FieldType.boolean)) ∈ TB := TB_4 109 rfl rfl
theorem tw_830 : (Jvm.Cond.methodLink "ForesightHub$Reader" (42 : Nat) ({ cls := "java/lang/Math", name := "min", desc := "(II)I" } : Jvm.MethodName)) ∈ TB := TB_4 110 rfl rfl
theorem tw_831 : (Jvm.Cond.methodLink "ForesightHub$Reader" (48 : Nat) ({ cls := "java/lang/Math", name := "max", desc := "(II)I" } : Jvm.MethodName)) ∈ TB := TB_4 111 rfl rfl
theorem tw_832 : (Jvm.Cond.methodLink "ForesightHub$Reader" (61 : Nat) ({ cls := "ForesightHub$Plan", name := "clear", desc := "()V" } : Jvm.MethodName)) ∈ TB := TB_4 112 rfl rfl
theorem tw_833 : (Jvm.Cond.methodLink "ForesightHub$Reader" (64 : Nat) ({ cls := "ForesightHub$Reader", name := "advance", desc := "()V" } : Jvm.MethodName)) ∈ TB := TB_4 113 rfl rfl
theorem tw_835 : (Jvm.Cond.instanceMethod ({ cls := "ForesightHub$Reader", name := "advance", desc := "()V" } : Jvm.MethodName)) ∈ TB := TB_4 115 rfl rfl
theorem tw_836 : (Jvm.Cond.code ({ cls := "ForesightHub$Reader", name := "advance", desc := "()V" } : Jvm.MethodName) prog_7_method_23_code (3 : Nat) (Option.none : Option Jvm.ClassFile.FieldType)) ∈ TB := TB_4 116 rfl rfl
theorem tw_837 : (Jvm.Cond.methodLink "ForesightHub$Reader" (209 : Nat) ({ cls := "ForesightHub$Reader", name := "kindOfSign", desc := "(I)I" } : Jvm.MethodName)) ∈ TB := TB_4 117 rfl rfl
theorem tw_838 : (Jvm.Cond.static ({ cls := "ForesightHub$Reader", name := "kindOfSign", desc := "(I)I" } : Jvm.MethodName)) ∈ TB := TB_4 118 rfl rfl
theorem tw_839 : (Jvm.Cond.code ({ cls := "ForesightHub$Reader", name := "kindOfSign", desc := "(I)I" } : Jvm.MethodName) prog_7_method_24_code (1 : Nat) (Option.some Jvm.ClassFile.FieldType.int)) ∈ TB := TB_4 119 rfl rfl
theorem tw_840 : (Jvm.Cond.methodLink "ForesightHub$Reader" (67 : Nat) ({ cls := "ForesightHub$Reader", name := "readHeader", desc := "()Z" } : Jvm.MethodName)) ∈ TB := TB_4 120 rfl rfl
theorem tw_842 : (Jvm.Cond.instanceMethod ({ cls := "ForesightHub$Reader", name := "readHeader", desc := "()Z" } : Jvm.MethodName)) ∈ TB := TB_4 122 rfl rfl
theorem tw_843 : (Jvm.Cond.code ({ cls := "ForesightHub$Reader", name := "readHeader", desc := "()Z" } : Jvm.MethodName) prog_7_method_7_code (1 : Nat) (Option.some Jvm.ClassFile.FieldType.boolean)) ∈ TB := TB_4 123 rfl rfl
theorem tw_845 : (Jvm.Cond.methodLink "ForesightHub$Reader" (83 : Nat) ({ cls := "ForesightHub$Reader", name := "isWord", desc := "(Ljava/lang/String;)Z" } : Jvm.MethodName)) ∈ TB := TB_4 125 rfl rfl
theorem tw_847 : (Jvm.Cond.instanceMethod ({ cls := "ForesightHub$Reader", name := "isWord", desc := "(Ljava/lang/String;)Z" } : Jvm.MethodName)) ∈ TB := TB_4 127 rfl rfl
theorem tw_848 : (Jvm.Cond.code ({ cls := "ForesightHub$Reader", name := "isWord", desc := "(Ljava/lang/String;)Z" } : Jvm.MethodName) prog_7_method_21_code (3 : Nat) (Option.some Jvm.ClassFile.FieldType.boolean)) ∈ TB := TB_4 128 rfl rfl
theorem tw_849 : (Jvm.Cond.methodLink "ForesightHub$Reader" (200 : Nat) ({ cls := "java/lang/String", name := "length", desc := "()I" } : Jvm.MethodName)) ∈ TB := TB_4 129 rfl rfl
theorem tw_850 : (Jvm.Cond.methodLink "ForesightHub$Reader" (205 : Nat) ({ cls := "java/lang/String", name := "charAt", desc := "(I)C" } : Jvm.MethodName)) ∈ TB := TB_4 130 rfl rfl
theorem tw_851 : (Jvm.Cond.instanceMethod ({ cls := "java/lang/String", name := "charAt", desc := "(I)C" } : Jvm.MethodName)) ∈ TB := TB_4 131 rfl rfl
theorem tw_852 : (Jvm.Cond.selects "java/lang/String" ({ cls := "java/lang/String", name := "charAt", desc := "(I)C" } : Jvm.MethodName) ({ cls := "java/lang/String", name := "charAt", desc := "(I)C" } : Jvm.MethodName)) ∈ TB := TB_4 132 rfl rfl
theorem tw_853 : (Jvm.Cond.code ({ cls := "java/lang/String", name := "charAt", desc := "(I)C" } : Jvm.MethodName) prog_20_method_56_code (2 : Nat) (Option.some Jvm.ClassFile.FieldType.char)) ∈ TB := TB_4 133 rfl rfl
theorem tw_854 : (Jvm.Cond.methodLink "java/lang/String" (492 : Nat) ({ cls := "java/lang/String", name := "isLatin1", desc := "()Z" } : Jvm.MethodName)) ∈ TB := TB_4 134 rfl rfl
theorem tw_855 : (Jvm.Cond.instanceMethod ({ cls := "java/lang/String", name := "isLatin1", desc := "()Z" } : Jvm.MethodName)) ∈ TB := TB_4 135 rfl rfl
theorem tw_856 : (Jvm.Cond.selects "java/lang/String" ({ cls := "java/lang/String", name := "isLatin1", desc := "()Z" } : Jvm.MethodName) ({ cls := "java/lang/String", name := "isLatin1", desc := "()Z" } : Jvm.MethodName)) ∈ TB := TB_4 136 rfl rfl
theorem tw_857 : (Jvm.Cond.code ({ cls := "java/lang/String", name := "isLatin1", desc := "()Z" } : Jvm.MethodName) prog_20_method_154_code (1 : Nat) (Option.some Jvm.ClassFile.FieldType.boolean)) ∈ TB := TB_4 137 rfl rfl
theorem tw_858 : (Jvm.Cond.methodLink "java/lang/String" (495 : Nat) ({ cls := "java/lang/StringLatin1", name := "charAt", desc := "([BI)C" } : Jvm.MethodName)) ∈ TB := TB_4 138 rfl rfl
theorem tw_859 : (Jvm.Cond.static ({ cls := "java/lang/StringLatin1", name := "charAt", desc := "([BI)C" } : Jvm.MethodName)) ∈ TB := TB_4 139 rfl rfl
theorem tw_860 : (Jvm.Cond.code ({ cls := "java/lang/StringLatin1", name := "charAt", desc := "([BI)C" } : Jvm.MethodName) prog_22_method_2_code (2 : Nat) (Option.some Jvm.ClassFile.FieldType.char)) ∈ TB := TB_4 140 rfl rfl
theorem tw_861 : (Jvm.Cond.methodLink "java/lang/StringLatin1" (9 : Nat) ({ cls := "java/lang/String", name := "checkIndex", desc := "(II)V" } : Jvm.MethodName)) ∈ TB := TB_4 141 rfl rfl
theorem tw_862 : (Jvm.Cond.methodLink "java/lang/String" (498 : Nat) ({ cls := "java/lang/StringUTF16", name := "charAt", desc := "([BI)C" } : Jvm.MethodName)) ∈ TB := TB_4 142 rfl rfl
theorem tw_863 : (Jvm.Cond.static ({ cls := "java/lang/StringUTF16", name := "charAt", desc := "([BI)C" } : Jvm.MethodName)) ∈ TB := TB_4 143 rfl rfl
theorem tw_864 : (Jvm.Cond.code ({ cls := "java/lang/StringUTF16", name := "charAt", desc := "([BI)C" } : Jvm.MethodName) prog_23_method_83_code (2 : Nat) (Option.some Jvm.ClassFile.FieldType.char)) ∈ TB := TB_4 144 rfl rfl
theorem tw_865 : (Jvm.Cond.methodLink "java/lang/StringUTF16" (71 : Nat) ({ cls := "java/lang/StringUTF16", name := "getChar", desc := "([BI)C" } : Jvm.MethodName)) ∈ TB := TB_4 145 rfl rfl
theorem tw_866 : (Jvm.Cond.methodLink "ForesightHub$Reader" (77 : Nat) ({ cls := "ForesightHub$Reader", name := "fault", desc := "(I)Z" } : Jvm.MethodName)) ∈ TB := TB_4 146 rfl rfl
theorem tw_868 : (Jvm.Cond.instanceMethod ({ cls := "ForesightHub$Reader", name := "fault", desc := "(I)Z" } : Jvm.MethodName)) ∈ TB := TB_4 148 rfl rfl
theorem tw_869 : (Jvm.Cond.code ({ cls := "ForesightHub$Reader", name := "fault", desc := "(I)Z" } : Jvm.MethodName) prog_7_method_22_code (2 : Nat) (Option.some Jvm.ClassFile.FieldType.boolean)) ∈ TB := TB_4 149 rfl rfl
theorem tw_870 : (Jvm.Cond.methodLink "ForesightHub$Reader" (87 : Nat) ({ cls := "ForesightHub$Reader", name := "isNumberWithin", desc := "(II)Z" } : Jvm.MethodName)) ∈ TB := TB_4 150 rfl rfl
theorem tw_872 : (Jvm.Cond.instanceMethod ({ cls := "ForesightHub$Reader", name := "isNumberWithin", desc := "(II)Z" } : Jvm.MethodName)) ∈ TB := TB_4 152 rfl rfl
theorem tw_873 : (Jvm.Cond.code ({ cls := "ForesightHub$Reader", name := "isNumberWithin", desc := "(II)Z" } : Jvm.MethodName) prog_7_method_17_code (3 : Nat) (Option.some Jvm.ClassFile.FieldType.boolean)) ∈ TB := TB_4 153 rfl rfl
theorem tw_874 : (Jvm.Cond.methodLink "ForesightHub$Reader" (101 : Nat) ({ cls := "ForesightHub$Reader", name := "takeSemicolon", desc := "()Z" } : Jvm.MethodName)) ∈ TB := TB_4 154 rfl rfl
theorem tw_876 : (Jvm.Cond.instanceMethod ({ cls := "ForesightHub$Reader", name := "takeSemicolon", desc := "()Z" } : Jvm.MethodName)) ∈ TB := TB_4 156 rfl rfl
theorem tw_877 : (Jvm.Cond.code ({ cls := "ForesightHub$Reader", name := "takeSemicolon", desc := "()Z" } : Jvm.MethodName) prog_7_method_14_code (1 : Nat) (Option.some Jvm.ClassFile.FieldType.boolean)) ∈ TB := TB_4 157 rfl rfl
theorem tw_878 : (Jvm.Cond.methodLink "ForesightHub$Reader" (74 : Nat) ({ cls := "ForesightHub$Reader", name := "readStatement", desc := "()Z" } : Jvm.MethodName)) ∈ TB := TB_4 158 rfl rfl
theorem tw_880 : (Jvm.Cond.instanceMethod ({ cls := "ForesightHub$Reader", name := "readStatement", desc := "()Z" } : Jvm.MethodName)) ∈ TB := TB_4 160 rfl rfl
theorem tw_881 : (Jvm.Cond.code ({ cls := "ForesightHub$Reader", name := "readStatement", desc := "()Z" } : Jvm.MethodName) prog_7_method_8_code (1 : Nat) (Option.some Jvm.ClassFile.FieldType.boolean)) ∈ TB := TB_4 161 rfl rfl
theorem tw_883 : (Jvm.Cond.methodLink "ForesightHub$Reader" (106 : Nat) ({ cls := "ForesightHub$Reader", name := "readPattern", desc := "()Z" } : Jvm.MethodName)) ∈ TB := TB_4 163 rfl rfl
theorem tw_885 : (Jvm.Cond.instanceMethod ({ cls := "ForesightHub$Reader", name := "readPattern", desc := "()Z" } : Jvm.MethodName)) ∈ TB := TB_4 165 rfl rfl
theorem tw_886 : (Jvm.Cond.code ({ cls := "ForesightHub$Reader", name := "readPattern", desc := "()Z" } : Jvm.MethodName) prog_7_method_9_code (2 : Nat) (Option.some Jvm.ClassFile.FieldType.boolean)) ∈ TB := TB_4 166 rfl rfl
theorem tw_887 : (Jvm.Cond.methodLink "ForesightHub$Reader" (127 : Nat) ({ cls := "ForesightHub$Reader", name := "takeNewName", desc := "([JI)Z" } : Jvm.MethodName)) ∈ TB := TB_4 167 rfl rfl
theorem tw_889 : (Jvm.Cond.instanceMethod ({ cls := "ForesightHub$Reader", name := "takeNewName", desc := "([JI)Z" } : Jvm.MethodName)) ∈ TB := TB_4 169 rfl rfl
theorem tw_890 : (Jvm.Cond.code ({ cls := "ForesightHub$Reader", name := "takeNewName", desc := "([JI)Z" } : Jvm.MethodName) prog_7_method_15_code (3 : Nat) (Option.some Jvm.ClassFile.FieldType.boolean)) ∈ TB := TB_4 170 rfl rfl
theorem tw_891 : (Jvm.Cond.methodLink "ForesightHub$Reader" (167 : Nat) ({ cls := "ForesightHub$Reader", name := "indexOfWord", desc := "([JI)I" } : Jvm.MethodName)) ∈ TB := TB_4 171 rfl rfl
theorem tw_893 : (Jvm.Cond.instanceMethod ({ cls := "ForesightHub$Reader", name := "indexOfWord", desc := "([JI)I" } : Jvm.MethodName)) ∈ TB := TB_4 173 rfl rfl
theorem tw_894 : (Jvm.Cond.code ({ cls := "ForesightHub$Reader", name := "indexOfWord", desc := "([JI)I" } : Jvm.MethodName) prog_7_method_19_code (4 : Nat) (Option.some Jvm.ClassFile.FieldType.int)) ∈ TB := TB_4 174 rfl rfl
theorem tw_895 : (Jvm.Cond.methodLink "ForesightHub$Reader" (138 : Nat) ({ cls := "ForesightHub$Reader", name := "readPatternErrors", desc := "(I)Z" } : Jvm.MethodName)) ∈ TB := TB_4 175 rfl rfl
theorem tw_897 : (Jvm.Cond.instanceMethod ({ cls := "ForesightHub$Reader", name := "readPatternErrors", desc := "(I)Z" } : Jvm.MethodName)) ∈ TB := TB_4 177 rfl rfl
theorem tw_898 : (Jvm.Cond.code ({ cls := "ForesightHub$Reader", name := "readPatternErrors", desc := "(I)Z" } : Jvm.MethodName) prog_7_method_10_code (3 : Nat) (Option.some Jvm.ClassFile.FieldType.boolean)) ∈ TB := TB_4 178 rfl rfl
theorem tw_899 : (Jvm.Cond.methodLink "ForesightHub$Reader" (141 : Nat) ({ cls := "ForesightHub$Reader", name := "kindOfWord", desc := "()I" } : Jvm.MethodName)) ∈ TB := TB_4 179 rfl rfl
theorem tw_901 : (Jvm.Cond.instanceMethod ({ cls := "ForesightHub$Reader", name := "kindOfWord", desc := "()I" } : Jvm.MethodName)) ∈ TB := TB_4 181 rfl rfl
theorem tw_902 : (Jvm.Cond.code ({ cls := "ForesightHub$Reader", name := "kindOfWord", desc := "()I" } : Jvm.MethodName) prog_7_method_20_code (1 : Nat) (Option.some Jvm.ClassFile.FieldType.int)) ∈ TB := TB_4 182 rfl rfl
theorem tw_908 : (Jvm.Cond.methodLink "ForesightHub$Reader" (111 : Nat) ({ cls := "ForesightHub$Reader", name := "readDevice", desc := "()Z" } : Jvm.MethodName)) ∈ TB := TB_4 188 rfl rfl
theorem tw_910 : (Jvm.Cond.instanceMethod ({ cls := "ForesightHub$Reader", name := "readDevice", desc := "()Z" } : Jvm.MethodName)) ∈ TB := TB_4 190 rfl rfl
theorem tw_911 : (Jvm.Cond.code ({ cls := "ForesightHub$Reader", name := "readDevice", desc := "()Z" } : Jvm.MethodName) prog_7_method_11_code (2 : Nat) (Option.some Jvm.ClassFile.FieldType.boolean)) ∈ TB := TB_4 191 rfl rfl
theorem tw_912 : (Jvm.Cond.methodLink "ForesightHub$Reader" (154 : Nat) ({ cls := "ForesightHub$Reader", name := "isTakenPort", desc := "(I)Z" } : Jvm.MethodName)) ∈ TB := TB_4 192 rfl rfl
theorem tw_914 : (Jvm.Cond.instanceMethod ({ cls := "ForesightHub$Reader", name := "isTakenPort", desc := "(I)Z" } : Jvm.MethodName)) ∈ TB := TB_4 194 rfl rfl
theorem tw_915 : (Jvm.Cond.code ({ cls := "ForesightHub$Reader", name := "isTakenPort", desc := "(I)Z" } : Jvm.MethodName) prog_7_method_18_code (3 : Nat) (Option.some Jvm.ClassFile.FieldType.boolean)) ∈ TB := TB_4 195 rfl rfl
theorem tw_917 : (Jvm.Cond.methodLink "ForesightHub$Reader" (164 : Nat) ({ cls := "ForesightHub$Reader", name := "isKnownDevice", desc := "()Z" } : Jvm.MethodName)) ∈ TB := TB_4 197 rfl rfl
theorem tw_919 : (Jvm.Cond.instanceMethod ({ cls := "ForesightHub$Reader", name := "isKnownDevice", desc := "()Z" } : Jvm.MethodName)) ∈ TB := TB_4 199 rfl rfl
theorem tw_920 : (Jvm.Cond.code ({ cls := "ForesightHub$Reader", name := "isKnownDevice", desc := "()Z" } : Jvm.MethodName) prog_7_method_16_code (1 : Nat) (Option.some Jvm.ClassFile.FieldType.boolean)) ∈ TB := TB_4 200 rfl rfl
theorem tw_922 : (Jvm.Cond.methodLink "ForesightHub$Reader" (116 : Nat) ({ cls := "ForesightHub$Reader", name := "readStream", desc := "()Z" } : Jvm.MethodName)) ∈ TB := TB_4 202 rfl rfl
theorem tw_924 : (Jvm.Cond.instanceMethod ({ cls := "ForesightHub$Reader", name := "readStream", desc := "()Z" } : Jvm.MethodName)) ∈ TB := TB_4 204 rfl rfl
theorem tw_925 : (Jvm.Cond.code ({ cls := "ForesightHub$Reader", name := "readStream", desc := "()Z" } : Jvm.MethodName) prog_7_method_12_code (2 : Nat) (Option.some Jvm.ClassFile.FieldType.boolean)) ∈ TB := TB_4 205 rfl rfl
theorem tw_927 : (Jvm.Cond.methodLink "ForesightHub$Reader" (121 : Nat) ({ cls := "ForesightHub$Reader", name := "readAlarm", desc := "()Z" } : Jvm.MethodName)) ∈ TB := TB_4 207 rfl rfl
theorem tw_929 : (Jvm.Cond.instanceMethod ({ cls := "ForesightHub$Reader", name := "readAlarm", desc := "()Z" } : Jvm.MethodName)) ∈ TB := TB_4 209 rfl rfl
theorem tw_930 : (Jvm.Cond.code ({ cls := "ForesightHub$Reader", name := "readAlarm", desc := "()Z" } : Jvm.MethodName) prog_7_method_13_code (1 : Nat) (Option.some Jvm.ClassFile.FieldType.boolean)) ∈ TB := TB_4 210 rfl rfl
theorem tw_931 : (Jvm.Cond.methodLink "ForesightHub" (63 : Nat) ({ cls := "ForesightHub$Reader", name := "faultAnswer", desc := "()I" } : Jvm.MethodName)) ∈ TB := TB_4 211 rfl rfl
theorem tw_932 : (Jvm.Cond.instanceMethod ({ cls := "ForesightHub$Reader", name := "faultAnswer", desc := "()I" } : Jvm.MethodName)) ∈ TB := TB_4 212 rfl rfl
theorem tw_933 : (Jvm.Cond.selects "ForesightHub$Reader" ({ cls := "ForesightHub$Reader", name := "faultAnswer", desc := "()I" } : Jvm.MethodName) ({ cls := "ForesightHub$Reader", name := "faultAnswer", desc := "()I" } : Jvm.MethodName)) ∈ TB := TB_4 213 rfl rfl
theorem tw_934 : (Jvm.Cond.code ({ cls := "ForesightHub$Reader", name := "faultAnswer", desc := "()I" } : Jvm.MethodName) prog_7_method_5_code (1 : Nat) (Option.some Jvm.ClassFile.FieldType.int)) ∈ TB := TB_4 214 rfl rfl
theorem tw_935 : (Jvm.Cond.methodLink "ForesightHub" (71 : Nat) ({ cls := "ForesightHub$Reader", name := "exchangePlan", desc := "(LForesightHub$Plan;)LForesightHub$Plan;" } : Jvm.MethodName)) ∈ TB := TB_4 215 rfl rfl
theorem tw_936 : (Jvm.Cond.instanceMethod ({ cls := "ForesightHub$Reader", name := "exchangePlan", desc := "(LForesightHub$Plan;)LForesightHub$Plan;" } : Jvm.MethodName)) ∈ TB := TB_4 216 rfl rfl
theorem tw_937 : (Jvm.Cond.selects "ForesightHub$Reader" ({ cls := "ForesightHub$Reader", name := "exchangePlan", desc := "(LForesightHub$Plan;)LForesightHub$Plan;" } : Jvm.MethodName) ({ cls := "ForesightHub$Reader", name := "exchangePlan", desc := "(LForesightHub$Plan;)LForesightHub$Plan;" } : Jvm.MethodName)) ∈ TB := TB_4 217 rfl rfl
theorem tw_938 : (Jvm.Cond.code ({ cls := "ForesightHub$Reader", name := "exchangePlan", desc := "(LForesightHub$Plan;)LForesightHub$Plan;" } : Jvm.MethodName) prog_7_method_4_code (3 : Nat) (Option.some (Jvm.ClassFile.FieldType.object "ForesightHub$Plan"))) ∈ TB := TB_4 218 rfl rfl
theorem tw_939 : (Jvm.Cond.methodLink "ForesightHub" (75 : Nat) ({ cls := "ForesightHub$Hub", name := "begin", desc := "(LForesightHub$Plan;)V" } : Jvm.MethodName)) ∈ TB := TB_4 219 rfl rfl
theorem tw_940 : (Jvm.Cond.instanceMethod ({ cls := "ForesightHub$Hub", name := "begin", desc := "(LForesightHub$Plan;)V" } : Jvm.MethodName)) ∈ TB := TB_4 220 rfl rfl
theorem tw_941 : (Jvm.Cond.selects "ForesightHub$Hub" ({ cls := "ForesightHub$Hub", name := "begin", desc := "(LForesightHub$Plan;)V" } : Jvm.MethodName) ({ cls := "ForesightHub$Hub", name := "begin", desc := "(LForesightHub$Plan;)V" } : Jvm.MethodName)) ∈ TB := TB_4 221 rfl rfl
theorem tw_942 : (Jvm.Cond.code ({ cls := "ForesightHub$Hub", name := "begin", desc := "(LForesightHub$Plan;)V" } : Jvm.MethodName) prog_4_method_2_code (2 : Nat) (Option.none : Option Jvm.ClassFile.FieldType)) ∈ TB := TB_4 222 rfl rfl
theorem tw_943 : (Jvm.Cond.methodLink "ForesightHub$Hub" (32 : Nat) ({ cls := "ForesightHub$State", name := "begin", desc := "(LForesightHub$Plan;)V" } : Jvm.MethodName)) ∈ TB := TB_4 223 rfl rfl
theorem tw_944 : (Jvm.Cond.instanceMethod ({ cls := "ForesightHub$State", name := "begin", desc := "(LForesightHub$Plan;)V" } : Jvm.MethodName)) ∈ TB := TB_4 224 rfl rfl
theorem tw_945 : (Jvm.Cond.selects "ForesightHub$State" ({ cls := "ForesightHub$State", name := "begin", desc := "(LForesightHub$Plan;)V" } : Jvm.MethodName) ({ cls := "ForesightHub$State", name := "begin", desc := "(LForesightHub$Plan;)V" } : Jvm.MethodName)) ∈ TB := TB_4 225 rfl rfl
theorem tw_946 : (Jvm.Cond.code ({ cls := "ForesightHub$State", name := "begin", desc := "(LForesightHub$Plan;)V" } : Jvm.MethodName) prog_8_method_2_code (3 : Nat) (Option.none : Option Jvm.ClassFile.FieldType)) ∈ TB := TB_4 226 rfl rfl
theorem tw_947 : (Jvm.Cond.methodLink "ForesightHub$State" (63 : Nat) ({ cls := "ForesightHub$ErrorBook", name := "clear", desc := "()V" } : Jvm.MethodName)) ∈ TB := TB_4 227 rfl rfl
theorem tw_948 : (Jvm.Cond.instanceMethod ({ cls := "ForesightHub$ErrorBook", name := "clear", desc := "()V" } : Jvm.MethodName)) ∈ TB := TB_4 228 rfl rfl
theorem tw_949 : (Jvm.Cond.selects "ForesightHub$ErrorBook" ({ cls := "ForesightHub$ErrorBook", name := "clear", desc := "()V" } : Jvm.MethodName) ({ cls := "ForesightHub$ErrorBook", name := "clear", desc := "()V" } : Jvm.MethodName)) ∈ TB := TB_4 229 rfl rfl
theorem tw_950 : (Jvm.Cond.code ({ cls := "ForesightHub$ErrorBook", name := "clear", desc := "()V" } : Jvm.MethodName) prog_2_method_2_code (2 : Nat) (Option.none : Option Jvm.ClassFile.FieldType)) ∈ TB := TB_4 230 rfl rfl
theorem tw_951 : (Jvm.Cond.methodLink "ForesightHub$State" (66 : Nat) ({ cls := "ForesightHub$Log", name := "clear", desc := "()V" } : Jvm.MethodName)) ∈ TB := TB_4 231 rfl rfl
theorem tw_952 : (Jvm.Cond.instanceMethod ({ cls := "ForesightHub$Log", name := "clear", desc := "()V" } : Jvm.MethodName)) ∈ TB := TB_4 232 rfl rfl
theorem tw_953 : (Jvm.Cond.selects "ForesightHub$Log" ({ cls := "ForesightHub$Log", name := "clear", desc := "()V" } : Jvm.MethodName) ({ cls := "ForesightHub$Log", name := "clear", desc := "()V" } : Jvm.MethodName)) ∈ TB := TB_4 233 rfl rfl
theorem tw_954 : (Jvm.Cond.code ({ cls := "ForesightHub$Log", name := "clear", desc := "()V" } : Jvm.MethodName) prog_5_method_2_code (2 : Nat) (Option.none : Option Jvm.ClassFile.FieldType)) ∈ TB := TB_4 234 rfl rfl
theorem tw_955 : (Jvm.Cond.methodLink "ForesightHub$Hub" (36 : Nat) ({ cls := "ForesightHub$Hub", name := "settle", desc := "()V" } : Jvm.MethodName)) ∈ TB := TB_4 235 rfl rfl
theorem tw_956 : (Jvm.Cond.instanceMethod ({ cls := "ForesightHub$Hub", name := "settle", desc := "()V" } : Jvm.MethodName)) ∈ TB := TB_4 236 rfl rfl
theorem tw_957 : (Jvm.Cond.selects "ForesightHub$Hub" ({ cls := "ForesightHub$Hub", name := "settle", desc := "()V" } : Jvm.MethodName) ({ cls := "ForesightHub$Hub", name := "settle", desc := "()V" } : Jvm.MethodName)) ∈ TB := TB_4 237 rfl rfl
theorem tw_958 : (Jvm.Cond.code ({ cls := "ForesightHub$Hub", name := "settle", desc := "()V" } : Jvm.MethodName) prog_4_method_30_code (5 : Nat) (Option.none : Option Jvm.ClassFile.FieldType)) ∈ TB := TB_4 238 rfl rfl
theorem tw_959 : (Jvm.Cond.methodLink "ForesightHub$Hub" (178 : Nat) ({ cls := "ForesightHub$Hub", name := "settleHeld", desc := "(I)V" } : Jvm.MethodName)) ∈ TB := TB_4 239 rfl rfl
theorem tw_961 : (Jvm.Cond.instanceMethod ({ cls := "ForesightHub$Hub", name := "settleHeld", desc := "(I)V" } : Jvm.MethodName)) ∈ TB := TB_5 1 rfl rfl
theorem tw_962 : (Jvm.Cond.code ({ cls := "ForesightHub$Hub", name := "settleHeld", desc := "(I)V" } : Jvm.MethodName) prog_4_method_31_code (3 : Nat) (Option.none : Option Jvm.ClassFile.FieldType)) ∈ TB := TB_5 2 rfl rfl
theorem tw_963 : (Jvm.Cond.methodLink "ForesightHub$Hub" (175 : Nat) ({ cls := "ForesightHub$Hub", name := "wantedHolder", desc := "(I)I" } : Jvm.MethodName)) ∈ TB := TB_5 3 rfl rfl
theorem tw_964 : (Jvm.Cond.instanceMethod ({ cls := "ForesightHub$Hub", name := "wantedHolder", desc := "(I)I" } : Jvm.MethodName)) ∈ TB := TB_5 4 rfl rfl
theorem tw_965 : (Jvm.Cond.selects "ForesightHub$Hub" ({ cls := "ForesightHub$Hub", name := "wantedHolder", desc := "(I)I" } : Jvm.MethodName) ({ cls := "ForesightHub$Hub", name := "wantedHolder", desc := "(I)I" } : Jvm.MethodName)) ∈ TB := TB_5 5 rfl rfl
theorem tw_966 : (Jvm.Cond.code ({ cls := "ForesightHub$Hub", name := "wantedHolder", desc := "(I)I" } : Jvm.MethodName) prog_4_method_28_code (4 : Nat) (Option.some Jvm.ClassFile.FieldType.int)) ∈ TB := TB_5 6 rfl rfl
theorem tw_967 : (Jvm.Cond.methodLink "ForesightHub$Hub" (130 : Nat) ({ cls := "ForesightHub$Hub", name := "canHold", desc := "(I)Z" } : Jvm.MethodName)) ∈ TB := TB_5 7 rfl rfl
theorem tw_969 : (Jvm.Cond.instanceMethod ({ cls := "ForesightHub$Hub", name := "canHold", desc := "(I)Z" } : Jvm.MethodName)) ∈ TB := TB_5 9 rfl rfl
theorem tw_970 : (Jvm.Cond.code ({ cls := "ForesightHub$Hub", name := "canHold", desc := "(I)Z" } : Jvm.MethodName) prog_4_method_6_code (2 : Nat) (Option.some Jvm.ClassFile.FieldType.boolean)) ∈ TB := TB_5 10 rfl rfl
theorem tw_971 : (Jvm.Cond.methodLink "ForesightHub$Hub" (172 : Nat) ({ cls := "ForesightHub$Hub", name := "heirOfHome", desc := "(I)I" } : Jvm.MethodName)) ∈ TB := TB_5 11 rfl rfl
theorem tw_973 : (Jvm.Cond.instanceMethod ({ cls := "ForesightHub$Hub", name := "heirOfHome", desc := "(I)I" } : Jvm.MethodName)) ∈ TB := TB_5 13 rfl rfl
theorem tw_974 : (Jvm.Cond.code ({ cls := "ForesightHub$Hub", name := "heirOfHome", desc := "(I)I" } : Jvm.MethodName) prog_4_method_27_code (3 : Nat) (Option.some Jvm.ClassFile.FieldType.int)) ∈ TB := TB_5 14 rfl rfl
theorem tw_975 : (Jvm.Cond.methodLink "ForesightHub$Hub" (153 : Nat) ({ cls := "ForesightHub$Log", name := "add", desc := "(III)V" } : Jvm.MethodName)) ∈ TB := TB_5 15 rfl rfl
theorem tw_976 : (Jvm.Cond.instanceMethod ({ cls := "ForesightHub$Log", name := "add", desc := "(III)V" } : Jvm.MethodName)) ∈ TB := TB_5 16 rfl rfl
theorem tw_977 : (Jvm.Cond.selects "ForesightHub$Log" ({ cls := "ForesightHub$Log", name := "add", desc := "(III)V" } : Jvm.MethodName) ({ cls := "ForesightHub$Log", name := "add", desc := "(III)V" } : Jvm.MethodName)) ∈ TB := TB_5 17 rfl rfl
theorem tw_978 : (Jvm.Cond.code ({ cls := "ForesightHub$Log", name := "add", desc := "(III)V" } : Jvm.MethodName) prog_5_method_4_code (4 : Nat) (Option.none : Option Jvm.ClassFile.FieldType)) ∈ TB := TB_5 18 rfl rfl
theorem tw_979 : (Jvm.Cond.methodLink "ForesightHub$Log" (37 : Nat) ({ cls := "java/lang/Math", name := "min", desc := "(II)I" } : Jvm.MethodName)) ∈ TB := TB_5 19 rfl rfl
theorem tw_980 : (Jvm.Cond.methodLink "ForesightHub$Hub" (184 : Nat) ({ cls := "ForesightHub$Hub", name := "reserved", desc := "()I" } : Jvm.MethodName)) ∈ TB := TB_5 20 rfl rfl
theorem tw_981 : (Jvm.Cond.methodLink "ForesightHubLaw" (115 : Nat) ({ cls := "ForesightHubLaw", name := "acts", desc := "(LForesightHub;[II)Z" } : Jvm.MethodName)) ∈ TB := TB_5 21 rfl rfl
theorem tw_982 : (Jvm.Cond.static ({ cls := "ForesightHubLaw", name := "acts", desc := "(LForesightHub;[II)Z" } : Jvm.MethodName)) ∈ TB := TB_5 22 rfl rfl
theorem tw_983 : (Jvm.Cond.code ({ cls := "ForesightHubLaw", name := "acts", desc := "(LForesightHub;[II)Z" } : Jvm.MethodName) method_6_code (6 : Nat) (Option.some Jvm.ClassFile.FieldType.boolean)) ∈ TB := TB_5 23 rfl rfl
theorem tw_984 : (Jvm.Cond.methodLink "ForesightHubLaw" (92 : Nat) ({ cls := "ForesightHub", name := "fail", desc := "(II)I" } : Jvm.MethodName)) ∈ TB := TB_5 24 rfl rfl
theorem tw_985 : (Jvm.Cond.instanceMethod ({ cls := "ForesightHub", name := "fail", desc := "(II)I" } : Jvm.MethodName)) ∈ TB := TB_5 25 rfl rfl
theorem tw_986 : (Jvm.Cond.selects "ForesightHub" ({ cls := "ForesightHub", name := "fail", desc := "(II)I" } : Jvm.MethodName) ({ cls := "ForesightHub", name := "fail", desc := "(II)I" } : Jvm.MethodName)) ∈ TB := TB_5 26 rfl rfl
theorem tw_987 : (Jvm.Cond.code ({ cls := "ForesightHub", name := "fail", desc := "(II)I" } : Jvm.MethodName) prog_1_method_21_code (3 : Nat) (Option.some Jvm.ClassFile.FieldType.int)) ∈ TB := TB_5 27 rfl rfl
theorem tw_988 : (Jvm.Cond.methodLink "ForesightHub" (206 : Nat) ({ cls := "ForesightHub", name := "requireKind", desc := "(I)V" } : Jvm.MethodName)) ∈ TB := TB_5 28 rfl rfl
theorem tw_990 : (Jvm.Cond.instanceMethod ({ cls := "ForesightHub", name := "requireKind", desc := "(I)V" } : Jvm.MethodName)) ∈ TB := TB_5 30 rfl rfl
theorem tw_991 : (Jvm.Cond.code ({ cls := "ForesightHub", name := "requireKind", desc := "(I)V" } : Jvm.MethodName) prog_1_method_33_code (2 : Nat) (Option.none : Option Jvm.ClassFile.FieldType)) ∈ TB := TB_5 31 rfl rfl
theorem tw_993 : (Jvm.Cond.methodLink "ForesightHub" (252 : Nat) ({ cls := "ForesightHub", name := "requirePluggedIn", desc := "(I)V" } : Jvm.MethodName)) ∈ TB := TB_5 33 rfl rfl
theorem tw_995 : (Jvm.Cond.instanceMethod ({ cls := "ForesightHub", name := "requirePluggedIn", desc := "(I)V" } : Jvm.MethodName)) ∈ TB := TB_5 35 rfl rfl
theorem tw_996 : (Jvm.Cond.code ({ cls := "ForesightHub", name := "requirePluggedIn", desc := "(I)V" } : Jvm.MethodName) prog_1_method_34_code (2 : Nat) (Option.none : Option Jvm.ClassFile.FieldType)) ∈ TB := TB_5 36 rfl rfl
theorem tw_997 : (Jvm.Cond.methodLink "ForesightHub" (209 : Nat) ({ cls := "ForesightHub$Hub", name := "isPluggedIn", desc := "(I)Z" } : Jvm.MethodName)) ∈ TB := TB_5 37 rfl rfl
theorem tw_998 : (Jvm.Cond.classLink "ForesightHub" (259 : Nat) "java/lang/IllegalStateException") ∈ TB := TB_5 38 rfl rfl
theorem tw_999 : (Jvm.Cond.instantiable "java/lang/IllegalStateException" (6 : Nat)) ∈ TB := TB_5 39 rfl rfl
theorem tw_1001 : (Jvm.Cond.selects "java/lang/IllegalStateException" ({ cls := "java/lang/Throwable", name := "fillInStackTrace", desc := "(I)Ljava/lang/Throwable;" } : Jvm.MethodName) ({ cls := "java/lang/Throwable", name := "fillInStackTrace", desc := "(I)Ljava/lang/Throwable;" } : Jvm.MethodName)) ∈ TB := TB_5 41 rfl rfl
theorem tw_1008 : (Jvm.Cond.methodLink "ForesightHub" (263 : Nat) ({ cls := "java/lang/IllegalStateException", name := "<init>", desc := "(Ljava/lang/String;)V" } : Jvm.MethodName)) ∈ TB := TB_5 48 rfl rfl
theorem tw_1009 : (Jvm.Cond.instanceMethod ({ cls := "java/lang/IllegalStateException", name := "<init>", desc := "(Ljava/lang/String;)V" } : Jvm.MethodName)) ∈ TB := TB_5 49 rfl rfl
theorem tw_1010 : (Jvm.Cond.code ({ cls := "java/lang/IllegalStateException", name := "<init>", desc := "(Ljava/lang/String;)V" } : Jvm.MethodName) prog_15_method_2_code (2 : Nat) (Option.none : Option Jvm.ClassFile.FieldType)) ∈ TB := TB_5 50 rfl rfl
theorem tw_1011 : (Jvm.Cond.methodLink "java/lang/IllegalStateException" (7 : Nat) ({ cls := "java/lang/RuntimeException", name := "<init>", desc := "(Ljava/lang/String;)V" } : Jvm.MethodName)) ∈ TB := TB_5 51 rfl rfl
theorem tw_1013 : (Jvm.Cond.superclass "java/lang/IllegalStateException" "java/lang/RuntimeException") ∈ TB := TB_5 53 rfl rfl
theorem tw_1014 : (Jvm.Cond.methodLink "ForesightHub" (245 : Nat) ({ cls := "ForesightHub$History", name := "remember", desc := "(LForesightHub$State;)V" } : Jvm.MethodName)) ∈ TB := TB_5 54 rfl rfl
theorem tw_1015 : (Jvm.Cond.instanceMethod ({ cls := "ForesightHub$History", name := "remember", desc := "(LForesightHub$State;)V" } : Jvm.MethodName)) ∈ TB := TB_5 55 rfl rfl
theorem tw_1016 : (Jvm.Cond.selects "ForesightHub$History" ({ cls := "ForesightHub$History", name := "remember", desc := "(LForesightHub$State;)V" } : Jvm.MethodName) ({ cls := "ForesightHub$History", name := "remember", desc := "(LForesightHub$State;)V" } : Jvm.MethodName)) ∈ TB := TB_5 56 rfl rfl
theorem tw_1017 : (Jvm.Cond.code ({ cls := "ForesightHub$History", name := "remember", desc := "(LForesightHub$State;)V" } : Jvm.MethodName) prog_3_method_3_code (2 : Nat) (Option.none : Option Jvm.ClassFile.FieldType)) ∈ TB := TB_5 57 rfl rfl
theorem tw_1018 : (Jvm.Cond.methodLink "ForesightHub$History" (27 : Nat) ({ cls := "java/lang/Math", name := "min", desc := "(II)I" } : Jvm.MethodName)) ∈ TB := TB_5 58 rfl rfl
theorem tw_1019 : (Jvm.Cond.methodLink "ForesightHub" (255 : Nat) ({ cls := "ForesightHub$Hub", name := "takeError", desc := "(II)V" } : Jvm.MethodName)) ∈ TB := TB_5 59 rfl rfl
theorem tw_1020 : (Jvm.Cond.instanceMethod ({ cls := "ForesightHub$Hub", name := "takeError", desc := "(II)V" } : Jvm.MethodName)) ∈ TB := TB_5 60 rfl rfl
theorem tw_1021 : (Jvm.Cond.selects "ForesightHub$Hub" ({ cls := "ForesightHub$Hub", name := "takeError", desc := "(II)V" } : Jvm.MethodName) ({ cls := "ForesightHub$Hub", name := "takeError", desc := "(II)V" } : Jvm.MethodName)) ∈ TB := TB_5 61 rfl rfl
theorem tw_1022 : (Jvm.Cond.code ({ cls := "ForesightHub$Hub", name := "takeError", desc := "(II)V" } : Jvm.MethodName) prog_4_method_19_code (3 : Nat) (Option.none : Option Jvm.ClassFile.FieldType)) ∈ TB := TB_5 62 rfl rfl
theorem tw_1023 : (Jvm.Cond.methodLink "ForesightHub$Hub" (133 : Nat) ({ cls := "ForesightHub$ErrorBook", name := "add", desc := "(III)V" } : Jvm.MethodName)) ∈ TB := TB_5 63 rfl rfl
theorem tw_1024 : (Jvm.Cond.instanceMethod ({ cls := "ForesightHub$ErrorBook", name := "add", desc := "(III)V" } : Jvm.MethodName)) ∈ TB := TB_5 64 rfl rfl
theorem tw_1025 : (Jvm.Cond.selects "ForesightHub$ErrorBook" ({ cls := "ForesightHub$ErrorBook", name := "add", desc := "(III)V" } : Jvm.MethodName) ({ cls := "ForesightHub$ErrorBook", name := "add", desc := "(III)V" } : Jvm.MethodName)) ∈ TB := TB_5 65 rfl rfl
theorem tw_1026 : (Jvm.Cond.code ({ cls := "ForesightHub$ErrorBook", name := "add", desc := "(III)V" } : Jvm.MethodName) prog_2_method_4_code (5 : Nat) (Option.none : Option Jvm.ClassFile.FieldType)) ∈ TB := TB_5 66 rfl rfl
theorem tw_1027 : (Jvm.Cond.methodLink "ForesightHub$ErrorBook" (37 : Nat) ({ cls := "ForesightHub$ErrorBook", name := "dropOldest", desc := "(I)V" } : Jvm.MethodName)) ∈ TB := TB_5 67 rfl rfl
theorem tw_1029 : (Jvm.Cond.instanceMethod ({ cls := "ForesightHub$ErrorBook", name := "dropOldest", desc := "(I)V" } : Jvm.MethodName)) ∈ TB := TB_5 69 rfl rfl
theorem tw_1030 : (Jvm.Cond.code ({ cls := "ForesightHub$ErrorBook", name := "dropOldest", desc := "(I)V" } : Jvm.MethodName) prog_2_method_5_code (4 : Nat) (Option.none : Option Jvm.ClassFile.FieldType)) ∈ TB := TB_5 70 rfl rfl
theorem tw_1031 : (Jvm.Cond.methodLink "ForesightHub$ErrorBook" (41 : Nat) ({ cls := "ForesightHub$ErrorBook", name := "countCause", desc := "(I)V" } : Jvm.MethodName)) ∈ TB := TB_5 71 rfl rfl
theorem tw_1033 : (Jvm.Cond.instanceMethod ({ cls := "ForesightHub$ErrorBook", name := "countCause", desc := "(I)V" } : Jvm.MethodName)) ∈ TB := TB_5 73 rfl rfl
theorem tw_1034 : (Jvm.Cond.code ({ cls := "ForesightHub$ErrorBook", name := "countCause", desc := "(I)V" } : Jvm.MethodName) prog_2_method_6_code (2 : Nat) (Option.none : Option Jvm.ClassFile.FieldType)) ∈ TB := TB_5 74 rfl rfl
theorem tw_1035 : (Jvm.Cond.methodLink "ForesightHub$Hub" (146 : Nat) ({ cls := "ForesightHub$Hub", name := "inAlarm", desc := "(I)Z" } : Jvm.MethodName)) ∈ TB := TB_5 75 rfl rfl
theorem tw_1036 : (Jvm.Cond.methodLink "ForesightHub$Hub" (149 : Nat) ({ cls := "ForesightHub$Hub", name := "beginAlarm", desc := "(I)V" } : Jvm.MethodName)) ∈ TB := TB_5 76 rfl rfl
theorem tw_1037 : (Jvm.Cond.instanceMethod ({ cls := "ForesightHub$Hub", name := "beginAlarm", desc := "(I)V" } : Jvm.MethodName)) ∈ TB := TB_5 77 rfl rfl
theorem tw_1038 : (Jvm.Cond.selects "ForesightHub$Hub" ({ cls := "ForesightHub$Hub", name := "beginAlarm", desc := "(I)V" } : Jvm.MethodName) ({ cls := "ForesightHub$Hub", name := "beginAlarm", desc := "(I)V" } : Jvm.MethodName)) ∈ TB := TB_5 78 rfl rfl
theorem tw_1039 : (Jvm.Cond.code ({ cls := "ForesightHub$Hub", name := "beginAlarm", desc := "(I)V" } : Jvm.MethodName) prog_4_method_20_code (2 : Nat) (Option.none : Option Jvm.ClassFile.FieldType)) ∈ TB := TB_5 79 rfl rfl
theorem tw_1040 : (Jvm.Cond.methodLink "ForesightHubLaw" (95 : Nat) ({ cls := "ForesightHub", name := "plug", desc := "(II)I" } : Jvm.MethodName)) ∈ TB := TB_5 80 rfl rfl
theorem tw_1041 : (Jvm.Cond.instanceMethod ({ cls := "ForesightHub", name := "plug", desc := "(II)I" } : Jvm.MethodName)) ∈ TB := TB_5 81 rfl rfl
theorem tw_1042 : (Jvm.Cond.selects "ForesightHub" ({ cls := "ForesightHub", name := "plug", desc := "(II)I" } : Jvm.MethodName) ({ cls := "ForesightHub", name := "plug", desc := "(II)I" } : Jvm.MethodName)) ∈ TB := TB_5 82 rfl rfl
theorem tw_1043 : (Jvm.Cond.code ({ cls := "ForesightHub", name := "plug", desc := "(II)I" } : Jvm.MethodName) prog_1_method_25_code (3 : Nat) (Option.some Jvm.ClassFile.FieldType.int)) ∈ TB := TB_5 83 rfl rfl
theorem tw_1044 : (Jvm.Cond.methodLink "ForesightHub" (120 : Nat) ({ cls := "ForesightHub", name := "requirePort", desc := "(I)V" } : Jvm.MethodName)) ∈ TB := TB_5 84 rfl rfl
theorem tw_1046 : (Jvm.Cond.instanceMethod ({ cls := "ForesightHub", name := "requirePort", desc := "(I)V" } : Jvm.MethodName)) ∈ TB := TB_5 86 rfl rfl
theorem tw_1047 : (Jvm.Cond.code ({ cls := "ForesightHub", name := "requirePort", desc := "(I)V" } : Jvm.MethodName) prog_1_method_32_code (2 : Nat) (Option.none : Option Jvm.ClassFile.FieldType)) ∈ TB := TB_5 87 rfl rfl
theorem tw_1050 : (Jvm.Cond.methodLink "ForesightHub" (123 : Nat) ({ cls := "ForesightHub$Hub", name := "pluggedInAt", desc := "(I)I" } : Jvm.MethodName)) ∈ TB := TB_5 90 rfl rfl
theorem tw_1051 : (Jvm.Cond.instanceMethod ({ cls := "ForesightHub$Hub", name := "pluggedInAt", desc := "(I)I" } : Jvm.MethodName)) ∈ TB := TB_5 91 rfl rfl
theorem tw_1052 : (Jvm.Cond.selects "ForesightHub$Hub" ({ cls := "ForesightHub$Hub", name := "pluggedInAt", desc := "(I)I" } : Jvm.MethodName) ({ cls := "ForesightHub$Hub", name := "pluggedInAt", desc := "(I)I" } : Jvm.MethodName)) ∈ TB := TB_5 92 rfl rfl
theorem tw_1053 : (Jvm.Cond.code ({ cls := "ForesightHub$Hub", name := "pluggedInAt", desc := "(I)I" } : Jvm.MethodName) prog_4_method_7_code (3 : Nat) (Option.some Jvm.ClassFile.FieldType.int)) ∈ TB := TB_5 93 rfl rfl
theorem tw_1055 : (Jvm.Cond.methodLink "ForesightHub" (287 : Nat) ({ cls := "ForesightHub$Hub", name := "putIn", desc := "(II)V" } : Jvm.MethodName)) ∈ TB := TB_5 95 rfl rfl
theorem tw_1056 : (Jvm.Cond.instanceMethod ({ cls := "ForesightHub$Hub", name := "putIn", desc := "(II)V" } : Jvm.MethodName)) ∈ TB := TB_5 96 rfl rfl
theorem tw_1057 : (Jvm.Cond.selects "ForesightHub$Hub" ({ cls := "ForesightHub$Hub", name := "putIn", desc := "(II)V" } : Jvm.MethodName) ({ cls := "ForesightHub$Hub", name := "putIn", desc := "(II)V" } : Jvm.MethodName)) ∈ TB := TB_5 97 rfl rfl
theorem tw_1058 : (Jvm.Cond.code ({ cls := "ForesightHub$Hub", name := "putIn", desc := "(II)V" } : Jvm.MethodName) prog_4_method_25_code (3 : Nat) (Option.none : Option Jvm.ClassFile.FieldType)) ∈ TB := TB_5 98 rfl rfl
theorem tw_1059 : (Jvm.Cond.methodLink "ForesightHub" (275 : Nat) ({ cls := "java/lang/Integer", name := "bitCount", desc := "(I)I" } : Jvm.MethodName)) ∈ TB := TB_5 99 rfl rfl
theorem tw_1060 : (Jvm.Cond.static ({ cls := "java/lang/Integer", name := "bitCount", desc := "(I)I" } : Jvm.MethodName)) ∈ TB := TB_5 100 rfl rfl
theorem tw_1061 : (Jvm.Cond.code ({ cls := "java/lang/Integer", name := "bitCount", desc := "(I)I" } : Jvm.MethodName) prog_17_method_49_code (1 : Nat) (Option.some Jvm.ClassFile.FieldType.int)) ∈ TB := TB_5 101 rfl rfl
theorem tw_1062 : (Jvm.Cond.constant "java/lang/Integer" (265 : Nat) (1431655765 : Int32)) ∈ TB := TB_5 102 rfl rfl
theorem tw_1063 : (Jvm.Cond.constant "java/lang/Integer" (266 : Nat) (858993459 : Int32)) ∈ TB := TB_5 103 rfl rfl
theorem tw_1064 : (Jvm.Cond.constant "java/lang/Integer" (267 : Nat) (252645135 : Int32)) ∈ TB := TB_5 104 rfl rfl
theorem tw_1065 : (Jvm.Cond.methodLink "ForesightHubLaw" (98 : Nat) ({ cls := "ForesightHub", name := "callOff", desc := "(I)I" } : Jvm.MethodName)) ∈ TB := TB_5 105 rfl rfl
theorem tw_1066 : (Jvm.Cond.instanceMethod ({ cls := "ForesightHub", name := "callOff", desc := "(I)I" } : Jvm.MethodName)) ∈ TB := TB_5 106 rfl rfl
theorem tw_1067 : (Jvm.Cond.selects "ForesightHub" ({ cls := "ForesightHub", name := "callOff", desc := "(I)I" } : Jvm.MethodName) ({ cls := "ForesightHub", name := "callOff", desc := "(I)I" } : Jvm.MethodName)) ∈ TB := TB_5 107 rfl rfl
theorem tw_1068 : (Jvm.Cond.code ({ cls := "ForesightHub", name := "callOff", desc := "(I)I" } : Jvm.MethodName) prog_1_method_23_code (2 : Nat) (Option.some Jvm.ClassFile.FieldType.int)) ∈ TB := TB_5 108 rfl rfl
theorem tw_1070 : (Jvm.Cond.methodLink "ForesightHub" (272 : Nat) ({ cls := "ForesightHub$Hub", name := "endWrongAlarm", desc := "(I)V" } : Jvm.MethodName)) ∈ TB := TB_5 110 rfl rfl
theorem tw_1071 : (Jvm.Cond.instanceMethod ({ cls := "ForesightHub$Hub", name := "endWrongAlarm", desc := "(I)V" } : Jvm.MethodName)) ∈ TB := TB_5 111 rfl rfl
theorem tw_1072 : (Jvm.Cond.selects "ForesightHub$Hub" ({ cls := "ForesightHub$Hub", name := "endWrongAlarm", desc := "(I)V" } : Jvm.MethodName) ({ cls := "ForesightHub$Hub", name := "endWrongAlarm", desc := "(I)V" } : Jvm.MethodName)) ∈ TB := TB_5 112 rfl rfl
theorem tw_1073 : (Jvm.Cond.code ({ cls := "ForesightHub$Hub", name := "endWrongAlarm", desc := "(I)V" } : Jvm.MethodName) prog_4_method_21_code (2 : Nat) (Option.none : Option Jvm.ClassFile.FieldType)) ∈ TB := TB_5 113 rfl rfl
theorem tw_1074 : (Jvm.Cond.methodLink "ForesightHub$Hub" (154 : Nat) ({ cls := "ForesightHub$ErrorBook", name := "forget", desc := "(I)V" } : Jvm.MethodName)) ∈ TB := TB_5 114 rfl rfl
theorem tw_1075 : (Jvm.Cond.instanceMethod ({ cls := "ForesightHub$ErrorBook", name := "forget", desc := "(I)V" } : Jvm.MethodName)) ∈ TB := TB_5 115 rfl rfl
theorem tw_1076 : (Jvm.Cond.selects "ForesightHub$ErrorBook" ({ cls := "ForesightHub$ErrorBook", name := "forget", desc := "(I)V" } : Jvm.MethodName) ({ cls := "ForesightHub$ErrorBook", name := "forget", desc := "(I)V" } : Jvm.MethodName)) ∈ TB := TB_5 116 rfl rfl
theorem tw_1077 : (Jvm.Cond.code ({ cls := "ForesightHub$ErrorBook", name := "forget", desc := "(I)V" } : Jvm.MethodName) prog_2_method_7_code (2 : Nat) (Option.none : Option Jvm.ClassFile.FieldType)) ∈ TB := TB_5 117 rfl rfl
theorem tw_1078 : (Jvm.Cond.methodLink "ForesightHub" (267 : Nat) ({ cls := "ForesightHub$Hub", name := "settle", desc := "()V" } : Jvm.MethodName)) ∈ TB := TB_5 118 rfl rfl
theorem tw_1079 : (Jvm.Cond.methodLink "ForesightHubLaw" (101 : Nat) ({ cls := "ForesightHub", name := "frames", desc := "(I)I" } : Jvm.MethodName)) ∈ TB := TB_5 119 rfl rfl
theorem tw_1080 : (Jvm.Cond.instanceMethod ({ cls := "ForesightHub", name := "frames", desc := "(I)I" } : Jvm.MethodName)) ∈ TB := TB_5 120 rfl rfl
theorem tw_1081 : (Jvm.Cond.selects "ForesightHub" ({ cls := "ForesightHub", name := "frames", desc := "(I)I" } : Jvm.MethodName) ({ cls := "ForesightHub", name := "frames", desc := "(I)I" } : Jvm.MethodName)) ∈ TB := TB_5 121 rfl rfl
theorem tw_1082 : (Jvm.Cond.code ({ cls := "ForesightHub", name := "frames", desc := "(I)I" } : Jvm.MethodName) prog_1_method_20_code (3 : Nat) (Option.some Jvm.ClassFile.FieldType.int)) ∈ TB := TB_5 122 rfl rfl
theorem tw_1084 : (Jvm.Cond.methodLink "ForesightHub" (249 : Nat) ({ cls := "ForesightHub$Hub", name := "passFrame", desc := "()V" } : Jvm.MethodName)) ∈ TB := TB_5 124 rfl rfl
theorem tw_1085 : (Jvm.Cond.instanceMethod ({ cls := "ForesightHub$Hub", name := "passFrame", desc := "()V" } : Jvm.MethodName)) ∈ TB := TB_5 125 rfl rfl
theorem tw_1086 : (Jvm.Cond.selects "ForesightHub$Hub" ({ cls := "ForesightHub$Hub", name := "passFrame", desc := "()V" } : Jvm.MethodName) ({ cls := "ForesightHub$Hub", name := "passFrame", desc := "()V" } : Jvm.MethodName)) ∈ TB := TB_5 126 rfl rfl
theorem tw_1087 : (Jvm.Cond.code ({ cls := "ForesightHub$Hub", name := "passFrame", desc := "()V" } : Jvm.MethodName) prog_4_method_32_code (2 : Nat) (Option.none : Option Jvm.ClassFile.FieldType)) ∈ TB := TB_5 127 rfl rfl
theorem tw_1088 : (Jvm.Cond.methodLink "ForesightHub$Hub" (188 : Nat) ({ cls := "ForesightHub$Hub", name := "sendOn", desc := "(I)V" } : Jvm.MethodName)) ∈ TB := TB_5 128 rfl rfl
theorem tw_1090 : (Jvm.Cond.instanceMethod ({ cls := "ForesightHub$Hub", name := "sendOn", desc := "(I)V" } : Jvm.MethodName)) ∈ TB := TB_5 130 rfl rfl
theorem tw_1091 : (Jvm.Cond.code ({ cls := "ForesightHub$Hub", name := "sendOn", desc := "(I)V" } : Jvm.MethodName) prog_4_method_33_code (4 : Nat) (Option.none : Option Jvm.ClassFile.FieldType)) ∈ TB := TB_5 131 rfl rfl
theorem tw_1092 : (Jvm.Cond.methodLink "ForesightHub$Hub" (191 : Nat) ({ cls := "ForesightHub$Hub", name := "sendToPacketEnd", desc := "(I)V" } : Jvm.MethodName)) ∈ TB := TB_5 132 rfl rfl
theorem tw_1094 : (Jvm.Cond.instanceMethod ({ cls := "ForesightHub$Hub", name := "sendToPacketEnd", desc := "(I)V" } : Jvm.MethodName)) ∈ TB := TB_5 134 rfl rfl
theorem tw_1095 : (Jvm.Cond.code ({ cls := "ForesightHub$Hub", name := "sendToPacketEnd", desc := "(I)V" } : Jvm.MethodName) prog_4_method_34_code (3 : Nat) (Option.none : Option Jvm.ClassFile.FieldType)) ∈ TB := TB_5 135 rfl rfl
theorem tw_1096 : (Jvm.Cond.methodLink "ForesightHub$Hub" (194 : Nat) ({ cls := "ForesightHub$Hub", name := "isWrongAlarm", desc := "(I)Z" } : Jvm.MethodName)) ∈ TB := TB_5 136 rfl rfl
theorem tw_1098 : (Jvm.Cond.instanceMethod ({ cls := "ForesightHub$Hub", name := "isWrongAlarm", desc := "(I)Z" } : Jvm.MethodName)) ∈ TB := TB_5 138 rfl rfl
theorem tw_1099 : (Jvm.Cond.code ({ cls := "ForesightHub$Hub", name := "isWrongAlarm", desc := "(I)Z" } : Jvm.MethodName) prog_4_method_22_code (2 : Nat) (Option.some Jvm.ClassFile.FieldType.boolean)) ∈ TB := TB_5 139 rfl rfl
theorem tw_1100 : (Jvm.Cond.methodLink "ForesightHub$Hub" (197 : Nat) ({ cls := "ForesightHub$Hub", name := "endWrongAlarm", desc := "(I)V" } : Jvm.MethodName)) ∈ TB := TB_5 140 rfl rfl
theorem tw_1101 : (Jvm.Cond.methodLink "ForesightHubLaw" (119 : Nat) ({ cls := "ForesightHubLaw", name := "isWithin", desc := "(LForesightHub;)Z" } : Jvm.MethodName)) ∈ TB := TB_5 141 rfl rfl
theorem tw_1102 : (Jvm.Cond.static ({ cls := "ForesightHubLaw", name := "isWithin", desc := "(LForesightHub;)Z" } : Jvm.MethodName)) ∈ TB := TB_5 142 rfl rfl
theorem tw_1103 : (Jvm.Cond.code ({ cls := "ForesightHubLaw", name := "isWithin", desc := "(LForesightHub;)Z" } : Jvm.MethodName) method_8_code (4 : Nat) (Option.some Jvm.ClassFile.FieldType.boolean)) ∈ TB := TB_5 143 rfl rfl
theorem tw_1104 : (Jvm.Cond.methodLink "ForesightHubLaw" (140 : Nat) ({ cls := "ForesightHub", name := "stream", desc := "(II)I" } : Jvm.MethodName)) ∈ TB := TB_5 144 rfl rfl
theorem tw_1105 : (Jvm.Cond.instanceMethod ({ cls := "ForesightHub", name := "stream", desc := "(II)I" } : Jvm.MethodName)) ∈ TB := TB_5 145 rfl rfl
theorem tw_1106 : (Jvm.Cond.selects "ForesightHub" ({ cls := "ForesightHub", name := "stream", desc := "(II)I" } : Jvm.MethodName) ({ cls := "ForesightHub", name := "stream", desc := "(II)I" } : Jvm.MethodName)) ∈ TB := TB_5 146 rfl rfl
theorem tw_1107 : (Jvm.Cond.code ({ cls := "ForesightHub", name := "stream", desc := "(II)I" } : Jvm.MethodName) prog_1_method_7_code (3 : Nat) (Option.some Jvm.ClassFile.FieldType.int)) ∈ TB := TB_5 147 rfl rfl
theorem tw_1108 : (Jvm.Cond.methodLink "ForesightHub" (163 : Nat) ({ cls := "ForesightHub", name := "requireStream", desc := "(I)V" } : Jvm.MethodName)) ∈ TB := TB_5 148 rfl rfl
theorem tw_1110 : (Jvm.Cond.instanceMethod ({ cls := "ForesightHub", name := "requireStream", desc := "(I)V" } : Jvm.MethodName)) ∈ TB := TB_5 150 rfl rfl
theorem tw_1111 : (Jvm.Cond.code ({ cls := "ForesightHub", name := "requireStream", desc := "(I)V" } : Jvm.MethodName) prog_1_method_31_code (2 : Nat) (Option.none : Option Jvm.ClassFile.FieldType)) ∈ TB := TB_5 151 rfl rfl
theorem tw_1113 : (Jvm.Cond.methodLink "ForesightHub" (172 : Nat) ({ cls := "ForesightHub$Hub", name := "wantedHolder", desc := "(I)I" } : Jvm.MethodName)) ∈ TB := TB_5 153 rfl rfl
theorem tw_1115 : (Jvm.Cond.methodLink "ForesightHubLaw" (127 : Nat) ({ cls := "ForesightHubLaw", name := "isForeseen", desc := "(LForesightHub;I)Z" } : Jvm.MethodName)) ∈ TB := TB_5 155 rfl rfl
theorem tw_1116 : (Jvm.Cond.static ({ cls := "ForesightHubLaw", name := "isForeseen", desc := "(LForesightHub;I)Z" } : Jvm.MethodName)) ∈ TB := TB_5 156 rfl rfl
theorem tw_1117 : (Jvm.Cond.code ({ cls := "ForesightHubLaw", name := "isForeseen", desc := "(LForesightHub;I)Z" } : Jvm.MethodName) method_9_code (5 : Nat) (Option.some Jvm.ClassFile.FieldType.boolean)) ∈ TB := TB_5 157 rfl rfl
theorem tw_1118 : (Jvm.Cond.methodLink "ForesightHubLaw" (143 : Nat) ({ cls := "ForesightHub", name := "framesToClear", desc := "(I)I" } : Jvm.MethodName)) ∈ TB := TB_5 158 rfl rfl
theorem tw_1119 : (Jvm.Cond.instanceMethod ({ cls := "ForesightHub", name := "framesToClear", desc := "(I)I" } : Jvm.MethodName)) ∈ TB := TB_5 159 rfl rfl
theorem tw_1120 : (Jvm.Cond.selects "ForesightHub" ({ cls := "ForesightHub", name := "framesToClear", desc := "(I)I" } : Jvm.MethodName) ({ cls := "ForesightHub", name := "framesToClear", desc := "(I)I" } : Jvm.MethodName)) ∈ TB := TB_5 160 rfl rfl
theorem tw_1121 : (Jvm.Cond.code ({ cls := "ForesightHub", name := "framesToClear", desc := "(I)I" } : Jvm.MethodName) prog_1_method_13_code (2 : Nat) (Option.some Jvm.ClassFile.FieldType.int)) ∈ TB := TB_5 161 rfl rfl
theorem tw_1122 : (Jvm.Cond.methodLink "ForesightHub" (215 : Nat) ({ cls := "ForesightHub$Hub", name := "clearingFrames", desc := "(I)I" } : Jvm.MethodName)) ∈ TB := TB_5 162 rfl rfl
theorem tw_1123 : (Jvm.Cond.instanceMethod ({ cls := "ForesightHub$Hub", name := "clearingFrames", desc := "(I)I" } : Jvm.MethodName)) ∈ TB := TB_5 163 rfl rfl
theorem tw_1124 : (Jvm.Cond.selects "ForesightHub$Hub" ({ cls := "ForesightHub$Hub", name := "clearingFrames", desc := "(I)I" } : Jvm.MethodName) ({ cls := "ForesightHub$Hub", name := "clearingFrames", desc := "(I)I" } : Jvm.MethodName)) ∈ TB := TB_5 164 rfl rfl
theorem tw_1125 : (Jvm.Cond.code ({ cls := "ForesightHub$Hub", name := "clearingFrames", desc := "(I)I" } : Jvm.MethodName) prog_4_method_11_code (4 : Nat) (Option.some Jvm.ClassFile.FieldType.int)) ∈ TB := TB_5 165 rfl rfl
theorem tw_1126 : (Jvm.Cond.methodLink "ForesightHub$Hub" (65 : Nat) ({ cls := "ForesightHub$Hub", name := "framesToPacketEnd", desc := "(I)I" } : Jvm.MethodName)) ∈ TB := TB_5 166 rfl rfl
theorem tw_1128 : (Jvm.Cond.instanceMethod ({ cls := "ForesightHub$Hub", name := "framesToPacketEnd", desc := "(I)I" } : Jvm.MethodName)) ∈ TB := TB_5 168 rfl rfl
theorem tw_1129 : (Jvm.Cond.code ({ cls := "ForesightHub$Hub", name := "framesToPacketEnd", desc := "(I)I" } : Jvm.MethodName) prog_4_method_12_code (4 : Nat) (Option.some Jvm.ClassFile.FieldType.int)) ∈ TB := TB_5 169 rfl rfl
theorem tw_1130 : (Jvm.Cond.methodLink "ForesightHub$Hub" (69 : Nat) ({ cls := "java/lang/Math", name := "max", desc := "(II)I" } : Jvm.MethodName)) ∈ TB := TB_5 170 rfl rfl
theorem tw_1131 : (Jvm.Cond.methodLink "ForesightHubLaw" (146 : Nat) ({ cls := "ForesightHub", name := "account", desc := "(I)I" } : Jvm.MethodName)) ∈ TB := TB_5 171 rfl rfl
theorem tw_1132 : (Jvm.Cond.instanceMethod ({ cls := "ForesightHub", name := "account", desc := "(I)I" } : Jvm.MethodName)) ∈ TB := TB_5 172 rfl rfl
theorem tw_1133 : (Jvm.Cond.selects "ForesightHub" ({ cls := "ForesightHub", name := "account", desc := "(I)I" } : Jvm.MethodName) ({ cls := "ForesightHub", name := "account", desc := "(I)I" } : Jvm.MethodName)) ∈ TB := TB_5 173 rfl rfl
theorem tw_1134 : (Jvm.Cond.code ({ cls := "ForesightHub", name := "account", desc := "(I)I" } : Jvm.MethodName) prog_1_method_18_code (2 : Nat) (Option.some Jvm.ClassFile.FieldType.int)) ∈ TB := TB_5 174 rfl rfl
theorem tw_1136 : (Jvm.Cond.methodLink "ForesightHubLaw" (149 : Nat) ({ cls := "ForesightHub", name := "warn", desc := "(I)I" } : Jvm.MethodName)) ∈ TB := TB_5 176 rfl rfl
theorem tw_1137 : (Jvm.Cond.instanceMethod ({ cls := "ForesightHub", name := "warn", desc := "(I)I" } : Jvm.MethodName)) ∈ TB := TB_5 177 rfl rfl
theorem tw_1138 : (Jvm.Cond.selects "ForesightHub" ({ cls := "ForesightHub", name := "warn", desc := "(I)I" } : Jvm.MethodName) ({ cls := "ForesightHub", name := "warn", desc := "(I)I" } : Jvm.MethodName)) ∈ TB := TB_5 178 rfl rfl
theorem tw_1139 : (Jvm.Cond.code ({ cls := "ForesightHub", name := "warn", desc := "(I)I" } : Jvm.MethodName) prog_1_method_22_code (3 : Nat) (Option.some Jvm.ClassFile.FieldType.int)) ∈ TB := TB_5 179 rfl rfl
theorem tw_1141 : (Jvm.Cond.methodLink "ForesightHub" (264 : Nat) ({ cls := "ForesightHub$Hub", name := "beginAlarm", desc := "(I)V" } : Jvm.MethodName)) ∈ TB := TB_5 181 rfl rfl
theorem tw_1142 : (Jvm.Cond.methodLink "ForesightHubLaw" (152 : Nat) ({ cls := "ForesightHub", name := "atStake", desc := "(I)I" } : Jvm.MethodName)) ∈ TB := TB_5 182 rfl rfl
theorem tw_1143 : (Jvm.Cond.instanceMethod ({ cls := "ForesightHub", name := "atStake", desc := "(I)I" } : Jvm.MethodName)) ∈ TB := TB_5 183 rfl rfl
theorem tw_1144 : (Jvm.Cond.selects "ForesightHub" ({ cls := "ForesightHub", name := "atStake", desc := "(I)I" } : Jvm.MethodName) ({ cls := "ForesightHub", name := "atStake", desc := "(I)I" } : Jvm.MethodName)) ∈ TB := TB_5 184 rfl rfl
theorem tw_1145 : (Jvm.Cond.code ({ cls := "ForesightHub", name := "atStake", desc := "(I)I" } : Jvm.MethodName) prog_1_method_14_code (2 : Nat) (Option.some Jvm.ClassFile.FieldType.int)) ∈ TB := TB_5 185 rfl rfl
theorem tw_1146 : (Jvm.Cond.methodLink "ForesightHub" (218 : Nat) ({ cls := "ForesightHub$Hub", name := "unitsAtStake", desc := "(I)I" } : Jvm.MethodName)) ∈ TB := TB_5 186 rfl rfl
theorem tw_1147 : (Jvm.Cond.instanceMethod ({ cls := "ForesightHub$Hub", name := "unitsAtStake", desc := "(I)I" } : Jvm.MethodName)) ∈ TB := TB_5 187 rfl rfl
theorem tw_1148 : (Jvm.Cond.selects "ForesightHub$Hub" ({ cls := "ForesightHub$Hub", name := "unitsAtStake", desc := "(I)I" } : Jvm.MethodName) ({ cls := "ForesightHub$Hub", name := "unitsAtStake", desc := "(I)I" } : Jvm.MethodName)) ∈ TB := TB_5 188 rfl rfl
theorem tw_1149 : (Jvm.Cond.code ({ cls := "ForesightHub$Hub", name := "unitsAtStake", desc := "(I)I" } : Jvm.MethodName) prog_4_method_10_code (4 : Nat) (Option.some Jvm.ClassFile.FieldType.int)) ∈ TB := TB_5 189 rfl rfl
theorem tw_1150 : (Jvm.Cond.methodLink "ForesightHubLaw" (155 : Nat) ({ cls := "ForesightHub", name := "unplug", desc := "(I)I" } : Jvm.MethodName)) ∈ TB := TB_5 190 rfl rfl
theorem tw_1151 : (Jvm.Cond.instanceMethod ({ cls := "ForesightHub", name := "unplug", desc := "(I)I" } : Jvm.MethodName)) ∈ TB := TB_5 191 rfl rfl
theorem tw_1152 : (Jvm.Cond.selects "ForesightHub" ({ cls := "ForesightHub", name := "unplug", desc := "(I)I" } : Jvm.MethodName) ({ cls := "ForesightHub", name := "unplug", desc := "(I)I" } : Jvm.MethodName)) ∈ TB := TB_5 192 rfl rfl
theorem tw_1153 : (Jvm.Cond.code ({ cls := "ForesightHub", name := "unplug", desc := "(I)I" } : Jvm.MethodName) prog_1_method_24_code (2 : Nat) (Option.some Jvm.ClassFile.FieldType.int)) ∈ TB := TB_5 193 rfl rfl
theorem tw_1154 : (Jvm.Cond.methodLink "ForesightHub" (280 : Nat) ({ cls := "ForesightHub$Hub", name := "pullOut", desc := "(I)I" } : Jvm.MethodName)) ∈ TB := TB_5 194 rfl rfl
theorem tw_1155 : (Jvm.Cond.instanceMethod ({ cls := "ForesightHub$Hub", name := "pullOut", desc := "(I)I" } : Jvm.MethodName)) ∈ TB := TB_5 195 rfl rfl
theorem tw_1156 : (Jvm.Cond.selects "ForesightHub$Hub" ({ cls := "ForesightHub$Hub", name := "pullOut", desc := "(I)I" } : Jvm.MethodName) ({ cls := "ForesightHub$Hub", name := "pullOut", desc := "(I)I" } : Jvm.MethodName)) ∈ TB := TB_5 196 rfl rfl
theorem tw_1157 : (Jvm.Cond.code ({ cls := "ForesightHub$Hub", name := "pullOut", desc := "(I)I" } : Jvm.MethodName) prog_4_method_23_code (4 : Nat) (Option.some Jvm.ClassFile.FieldType.int)) ∈ TB := TB_5 197 rfl rfl
theorem tw_1158 : (Jvm.Cond.methodLink "ForesightHub$Hub" (160 : Nat) ({ cls := "ForesightHub$Hub", name := "dropStream", desc := "(I)I" } : Jvm.MethodName)) ∈ TB := TB_5 198 rfl rfl
theorem tw_1160 : (Jvm.Cond.instanceMethod ({ cls := "ForesightHub$Hub", name := "dropStream", desc := "(I)I" } : Jvm.MethodName)) ∈ TB := TB_5 200 rfl rfl
theorem tw_1161 : (Jvm.Cond.code ({ cls := "ForesightHub$Hub", name := "dropStream", desc := "(I)I" } : Jvm.MethodName) prog_4_method_24_code (3 : Nat) (Option.some Jvm.ClassFile.FieldType.int)) ∈ TB := TB_5 201 rfl rfl
theorem tw_1162 : (Jvm.Cond.methodLink "ForesightHubLaw" (134 : Nat) ({ cls := "ForesightHubLaw", name := "isTorn", desc := "(LForesightHub;I)Z" } : Jvm.MethodName)) ∈ TB := TB_5 202 rfl rfl
theorem tw_1163 : (Jvm.Cond.static ({ cls := "ForesightHubLaw", name := "isTorn", desc := "(LForesightHub;I)Z" } : Jvm.MethodName)) ∈ TB := TB_5 203 rfl rfl
theorem tw_1164 : (Jvm.Cond.code ({ cls := "ForesightHubLaw", name := "isTorn", desc := "(LForesightHub;I)Z" } : Jvm.MethodName) method_10_code (7 : Nat) (Option.some Jvm.ClassFile.FieldType.boolean)) ∈ TB := TB_5 204 rfl rfl
theorem tw_1165 : (Jvm.Cond.methodLink "ForesightHubLaw" (137 : Nat) ({ cls := "ForesightHubLaw", name := "refuses", desc := "(LForesightHub;)Z" } : Jvm.MethodName)) ∈ TB := TB_5 205 rfl rfl
theorem tw_1166 : (Jvm.Cond.static ({ cls := "ForesightHubLaw", name := "refuses", desc := "(LForesightHub;)Z" } : Jvm.MethodName)) ∈ TB := TB_5 206 rfl rfl
theorem tw_1167 : (Jvm.Cond.codeWith ({ cls := "ForesightHubLaw", name := "refuses", desc := "(LForesightHub;)Z" } : Jvm.MethodName) method_11_code (2 : Nat) (Option.some Jvm.ClassFile.FieldType.boolean) [((0 : Nat), (7 : Nat), (8 : Nat), (158 : Nat))]) ∈ TB := TB_5 207 rfl rfl
theorem tw_1168 : (Jvm.Cond.classLink "ForesightHubLaw" (158 : Nat) "java/lang/IllegalArgumentException") ∈ TB := TB_5 208 rfl rfl
theorem tw_1169 : (Jvm.Cond.sameMethod "java/lang/Throwable" "java/lang/Throwable" "fillInStackTrace" "(I)Ljava/lang/Throwable;") ∈ TB := TB_5 209 rfl rfl
theorem tw_1170 : (Jvm.Cond.sameMethod "java/lang/AbstractStringBuilder" "java/lang/AbstractStringBuilder" "appendNull" "()Ljava/lang/AbstractStringBuilder;") ∈ TB := TB_5 210 rfl rfl
theorem tw_1171 : (Jvm.Cond.sameMethod "java/lang/AbstractStringBuilder" "java/lang/AbstractStringBuilder" "ensureCapacityInternal" "(I)V") ∈ TB := TB_5 211 rfl rfl
theorem tw_1172 : (Jvm.Cond.sameMethod "java/lang/AbstractStringBuilder" "java/lang/AbstractStringBuilder" "newCapacity" "(I)I") ∈ TB := TB_5 212 rfl rfl
theorem tw_1173 : (Jvm.Cond.sameMethod "java/lang/AbstractStringBuilder" "java/lang/AbstractStringBuilder" "putStringAt" "(ILjava/lang/String;)V") ∈ TB := TB_5 213 rfl rfl
theorem tw_1174 : (Jvm.Cond.sameMethod "java/lang/AbstractStringBuilder" "java/lang/AbstractStringBuilder" "inflateIfNeededFor" "(Ljava/lang/String;)V") ∈ TB := TB_5 214 rfl rfl
theorem tw_1175 : (Jvm.Cond.sameMethod "java/lang/AbstractStringBuilder" "java/lang/AbstractStringBuilder" "inflate" "()V") ∈ TB := TB_5 215 rfl rfl
theorem tw_1176 : (Jvm.Cond.sameMethod "java/lang/AbstractStringBuilder" "java/lang/AbstractStringBuilder" "append" "(I)Ljava/lang/AbstractStringBuilder;") ∈ TB := TB_5 216 rfl rfl
theorem tw_1177 : (Jvm.Cond.sameMethod "java/lang/AbstractStringBuilder" "java/lang/AbstractStringBuilder" "append" "(C)Ljava/lang/AbstractStringBuilder;") ∈ TB := TB_5 217 rfl rfl
theorem tw_1178 : (Jvm.Cond.sameMethod "java/lang/AbstractStringBuilder" "java/lang/AbstractStringBuilder" "length" "()I") ∈ TB := TB_5 218 rfl rfl
theorem tw_1179 : (Jvm.Cond.sameMethod "java/lang/AbstractStringBuilder" "java/lang/AbstractStringBuilder" "charAt" "(I)C") ∈ TB := TB_5 219 rfl rfl
theorem tw_1180 : (Jvm.Cond.fieldLink "java/lang/String" (9 : Nat) "java/lang/String" "value" "[B") ∈ TB := TB_5 220 rfl rfl
theorem tw_1181 : (Jvm.Cond.fieldLink "java/lang/String" (15 : Nat) "java/lang/String" "coder" "B") ∈ TB := TB_5 221 rfl rfl
theorem ts_0 : Cond.selects "java/lang/Throwable" ⟨"java/lang/Throwable", "fillInStackTrace", "(I)Ljava/lang/Throwable;"⟩ ⟨"java/lang/Throwable", "fillInStackTrace", "(I)Ljava/lang/Throwable;"⟩ ∈ TB := TB_s 0 (by decide +kernel) rfl
theorem ts_1 : Cond.selects "ForesightHub" ⟨"ForesightHub", "requireDevice", "(I)V"⟩ ⟨"ForesightHub", "requireDevice", "(I)V"⟩ ∈ TB := TB_s 1 (by decide +kernel) rfl
theorem ts_2 : Cond.selects "ForesightHub$Hub" ⟨"ForesightHub$Hub", "matches", "(III)Z"⟩ ⟨"ForesightHub$Hub", "matches", "(III)Z"⟩ ∈ TB := TB_s 2 (by decide +kernel) rfl
theorem ts_3 : Cond.selects "ForesightHub$ErrorBook" ⟨"ForesightHub$ErrorBook", "placeOf", "(II)I"⟩ ⟨"ForesightHub$ErrorBook", "placeOf", "(II)I"⟩ ∈ TB := TB_s 3 (by decide +kernel) rfl
theorem ts_4 : Cond.selects "ForesightHub$Hub" ⟨"ForesightHub$Hub", "isNextOf", "(III)Z"⟩ ⟨"ForesightHub$Hub", "isNextOf", "(III)Z"⟩ ∈ TB := TB_s 4 (by decide +kernel) rfl
theorem ts_5 : Cond.selects "ForesightHub$Reader" ⟨"ForesightHub$Reader", "advance", "()V"⟩ ⟨"ForesightHub$Reader", "advance", "()V"⟩ ∈ TB := TB_s 5 (by decide +kernel) rfl
theorem ts_6 : Cond.selects "ForesightHub$Reader" ⟨"ForesightHub$Reader", "readHeader", "()Z"⟩ ⟨"ForesightHub$Reader", "readHeader", "()Z"⟩ ∈ TB := TB_s 6 (by decide +kernel) rfl
theorem ts_7 : Cond.selects "ForesightHub$Reader" ⟨"ForesightHub$Reader", "isWord", "(Ljava/lang/String;)Z"⟩ ⟨"ForesightHub$Reader", "isWord", "(Ljava/lang/String;)Z"⟩ ∈ TB := TB_s 7 (by decide +kernel) rfl
theorem ts_8 : Cond.selects "ForesightHub$Reader" ⟨"ForesightHub$Reader", "fault", "(I)Z"⟩ ⟨"ForesightHub$Reader", "fault", "(I)Z"⟩ ∈ TB := TB_s 8 (by decide +kernel) rfl
theorem ts_9 : Cond.selects "ForesightHub$Reader" ⟨"ForesightHub$Reader", "isNumberWithin", "(II)Z"⟩ ⟨"ForesightHub$Reader", "isNumberWithin", "(II)Z"⟩ ∈ TB := TB_s 9 (by decide +kernel) rfl
theorem ts_10 : Cond.selects "ForesightHub$Reader" ⟨"ForesightHub$Reader", "takeSemicolon", "()Z"⟩ ⟨"ForesightHub$Reader", "takeSemicolon", "()Z"⟩ ∈ TB := TB_s 10 (by decide +kernel) rfl
theorem ts_11 : Cond.selects "ForesightHub$Reader" ⟨"ForesightHub$Reader", "readStatement", "()Z"⟩ ⟨"ForesightHub$Reader", "readStatement", "()Z"⟩ ∈ TB := TB_s 11 (by decide +kernel) rfl
theorem ts_12 : Cond.selects "ForesightHub$Reader" ⟨"ForesightHub$Reader", "readPattern", "()Z"⟩ ⟨"ForesightHub$Reader", "readPattern", "()Z"⟩ ∈ TB := TB_s 12 (by decide +kernel) rfl
theorem ts_13 : Cond.selects "ForesightHub$Reader" ⟨"ForesightHub$Reader", "takeNewName", "([JI)Z"⟩ ⟨"ForesightHub$Reader", "takeNewName", "([JI)Z"⟩ ∈ TB := TB_s 13 (by decide +kernel) rfl
theorem ts_14 : Cond.selects "ForesightHub$Reader" ⟨"ForesightHub$Reader", "indexOfWord", "([JI)I"⟩ ⟨"ForesightHub$Reader", "indexOfWord", "([JI)I"⟩ ∈ TB := TB_s 14 (by decide +kernel) rfl
theorem ts_15 : Cond.selects "ForesightHub$Reader" ⟨"ForesightHub$Reader", "readPatternErrors", "(I)Z"⟩ ⟨"ForesightHub$Reader", "readPatternErrors", "(I)Z"⟩ ∈ TB := TB_s 15 (by decide +kernel) rfl
theorem ts_16 : Cond.selects "ForesightHub$Reader" ⟨"ForesightHub$Reader", "kindOfWord", "()I"⟩ ⟨"ForesightHub$Reader", "kindOfWord", "()I"⟩ ∈ TB := TB_s 16 (by decide +kernel) rfl
theorem ts_17 : Cond.selects "ForesightHub$Reader" ⟨"ForesightHub$Reader", "readDevice", "()Z"⟩ ⟨"ForesightHub$Reader", "readDevice", "()Z"⟩ ∈ TB := TB_s 17 (by decide +kernel) rfl
theorem ts_18 : Cond.selects "ForesightHub$Reader" ⟨"ForesightHub$Reader", "isTakenPort", "(I)Z"⟩ ⟨"ForesightHub$Reader", "isTakenPort", "(I)Z"⟩ ∈ TB := TB_s 18 (by decide +kernel) rfl
theorem ts_19 : Cond.selects "ForesightHub$Reader" ⟨"ForesightHub$Reader", "isKnownDevice", "()Z"⟩ ⟨"ForesightHub$Reader", "isKnownDevice", "()Z"⟩ ∈ TB := TB_s 19 (by decide +kernel) rfl
theorem ts_20 : Cond.selects "ForesightHub$Reader" ⟨"ForesightHub$Reader", "readStream", "()Z"⟩ ⟨"ForesightHub$Reader", "readStream", "()Z"⟩ ∈ TB := TB_s 20 (by decide +kernel) rfl
theorem ts_21 : Cond.selects "ForesightHub$Reader" ⟨"ForesightHub$Reader", "readAlarm", "()Z"⟩ ⟨"ForesightHub$Reader", "readAlarm", "()Z"⟩ ∈ TB := TB_s 21 (by decide +kernel) rfl
theorem ts_22 : Cond.selects "ForesightHub$Hub" ⟨"ForesightHub$Hub", "settleHeld", "(I)V"⟩ ⟨"ForesightHub$Hub", "settleHeld", "(I)V"⟩ ∈ TB := TB_s 22 (by decide +kernel) rfl
theorem ts_23 : Cond.selects "ForesightHub$Hub" ⟨"ForesightHub$Hub", "canHold", "(I)Z"⟩ ⟨"ForesightHub$Hub", "canHold", "(I)Z"⟩ ∈ TB := TB_s 23 (by decide +kernel) rfl
theorem ts_24 : Cond.selects "ForesightHub$Hub" ⟨"ForesightHub$Hub", "heirOfHome", "(I)I"⟩ ⟨"ForesightHub$Hub", "heirOfHome", "(I)I"⟩ ∈ TB := TB_s 24 (by decide +kernel) rfl
theorem ts_25 : Cond.selects "ForesightHub" ⟨"ForesightHub", "requireKind", "(I)V"⟩ ⟨"ForesightHub", "requireKind", "(I)V"⟩ ∈ TB := TB_s 25 (by decide +kernel) rfl
theorem ts_26 : Cond.selects "ForesightHub" ⟨"ForesightHub", "requirePluggedIn", "(I)V"⟩ ⟨"ForesightHub", "requirePluggedIn", "(I)V"⟩ ∈ TB := TB_s 26 (by decide +kernel) rfl
theorem ts_27 : Cond.selects "ForesightHub$ErrorBook" ⟨"ForesightHub$ErrorBook", "dropOldest", "(I)V"⟩ ⟨"ForesightHub$ErrorBook", "dropOldest", "(I)V"⟩ ∈ TB := TB_s 27 (by decide +kernel) rfl
theorem ts_28 : Cond.selects "ForesightHub$ErrorBook" ⟨"ForesightHub$ErrorBook", "countCause", "(I)V"⟩ ⟨"ForesightHub$ErrorBook", "countCause", "(I)V"⟩ ∈ TB := TB_s 28 (by decide +kernel) rfl
theorem ts_29 : Cond.selects "ForesightHub" ⟨"ForesightHub", "requirePort", "(I)V"⟩ ⟨"ForesightHub", "requirePort", "(I)V"⟩ ∈ TB := TB_s 29 (by decide +kernel) rfl
theorem ts_30 : Cond.selects "ForesightHub$Hub" ⟨"ForesightHub$Hub", "sendOn", "(I)V"⟩ ⟨"ForesightHub$Hub", "sendOn", "(I)V"⟩ ∈ TB := TB_s 30 (by decide +kernel) rfl
theorem ts_31 : Cond.selects "ForesightHub$Hub" ⟨"ForesightHub$Hub", "sendToPacketEnd", "(I)V"⟩ ⟨"ForesightHub$Hub", "sendToPacketEnd", "(I)V"⟩ ∈ TB := TB_s 31 (by decide +kernel) rfl
theorem ts_32 : Cond.selects "ForesightHub$Hub" ⟨"ForesightHub$Hub", "isWrongAlarm", "(I)Z"⟩ ⟨"ForesightHub$Hub", "isWrongAlarm", "(I)Z"⟩ ∈ TB := TB_s 32 (by decide +kernel) rfl
theorem ts_33 : Cond.selects "ForesightHub" ⟨"ForesightHub", "requireStream", "(I)V"⟩ ⟨"ForesightHub", "requireStream", "(I)V"⟩ ∈ TB := TB_s 33 (by decide +kernel) rfl
theorem ts_34 : Cond.selects "ForesightHub$Hub" ⟨"ForesightHub$Hub", "framesToPacketEnd", "(I)I"⟩ ⟨"ForesightHub$Hub", "framesToPacketEnd", "(I)I"⟩ ∈ TB := TB_s 34 (by decide +kernel) rfl
theorem ts_35 : Cond.selects "ForesightHub$Hub" ⟨"ForesightHub$Hub", "dropStream", "(I)I"⟩ ⟨"ForesightHub$Hub", "dropStream", "(I)I"⟩ ∈ TB := TB_s 35 (by decide +kernel) rfl
theorem inT0 : ∀ v ∈ u_ws RX0 TX0 6, v ∈ lw_tbl := by decide +kernel
theorem inB0 : ∀ v ∈ u_ws RX0 TX0 6, v ∈ TB := fun v hv => TB_l (inT0 v hv) (List.all_eq_true.mp (show (u_ws RX0 TX0 6).all goodWord = true by decide +kernel) v hv)
theorem inT1 : ∀ v ∈ u_ws RX1 TX1 3, v ∈ lw_tbl := by decide +kernel
theorem inB1 : ∀ v ∈ u_ws RX1 TX1 3, v ∈ TB := fun v hv => TB_l (inT1 v hv) (List.all_eq_true.mp (show (u_ws RX1 TX1 3).all goodWord = true by decide +kernel) v hv)
theorem inT2 : ∀ v ∈ u_ws RX2 TX2 2, v ∈ lw_tbl := by decide +kernel
theorem inB2 : ∀ v ∈ u_ws RX2 TX2 2, v ∈ TB := fun v hv => TB_l (inT2 v hv) (List.all_eq_true.mp (show (u_ws RX2 TX2 2).all goodWord = true by decide +kernel) v hv)
theorem inT3 : ∀ v ∈ u_ws RX3 TX3 6, v ∈ lw_tbl := by decide +kernel
theorem inB3 : ∀ v ∈ u_ws RX3 TX3 6, v ∈ TB := fun v hv => TB_l (inT3 v hv) (List.all_eq_true.mp (show (u_ws RX3 TX3 6).all goodWord = true by decide +kernel) v hv)
theorem inT4 : ∀ v ∈ u_ws RX4 TX4 16, v ∈ lw_tbl := by decide +kernel
theorem inB4 : ∀ v ∈ u_ws RX4 TX4 16, v ∈ TB := fun v hv => TB_l (inT4 v hv) (List.all_eq_true.mp (show (u_ws RX4 TX4 16).all goodWord = true by decide +kernel) v hv)
theorem inT5 : ∀ v ∈ u_ws RX5 TX5 14, v ∈ lw_tbl := by decide +kernel
theorem inB5 : ∀ v ∈ u_ws RX5 TX5 14, v ∈ TB := fun v hv => TB_l (inT5 v hv) (List.all_eq_true.mp (show (u_ws RX5 TX5 14).all goodWord = true by decide +kernel) v hv)
theorem inT6 : ∀ v ∈ u_ws RX6 TX6 10, v ∈ lw_tbl := by decide +kernel
theorem inB6 : ∀ v ∈ u_ws RX6 TX6 10, v ∈ TB := fun v hv => TB_l (inT6 v hv) (List.all_eq_true.mp (show (u_ws RX6 TX6 10).all goodWord = true by decide +kernel) v hv)
theorem inT7 : ∀ v ∈ u_ws RX7 TX7 5, v ∈ lw_tbl := by decide +kernel
theorem inB7 : ∀ v ∈ u_ws RX7 TX7 5, v ∈ TB := fun v hv => TB_l (inT7 v hv) (List.all_eq_true.mp (show (u_ws RX7 TX7 5).all goodWord = true by decide +kernel) v hv)
theorem inT8 : ∀ v ∈ u_ws RJ4 TJ4 4, v ∈ lw_tbl := by decide +kernel
theorem inB8 : ∀ v ∈ u_ws RJ4 TJ4 4, v ∈ TB := fun v hv => TB_l (inT8 v hv) (List.all_eq_true.mp (show (u_ws RJ4 TJ4 4).all goodWord = true by decide +kernel) v hv)
