/-! the words of the tables (laid by wip/whole/gen/words.py) -/
def TB : List Cond := lw_tbl.filter goodWord
theorem TB_0 {w : Cond} (h : w ∈ tables_1) (g : goodWord w = true) : w ∈ TB := List.mem_filter.mpr ⟨List.mem_append_right _ h, g⟩
theorem TB_s {w : Cond} (i : Nat) (h : (k2_sels lw_privs)[i]? = some w) (g : goodWord w = true) : w ∈ TB := List.mem_filter.mpr ⟨List.mem_append_left _ (List.mem_of_getElem? h), g⟩
theorem TB_1 {w : Cond} (i : Nat) (h : tables_1_1[i]? = some w) (g : goodWord w = true) : w ∈ TB := TB_0 (List.mem_append_left _ (List.mem_of_getElem? h)) g
theorem TB_2 {w : Cond} (i : Nat) (h : tables_1_2[i]? = some w) (g : goodWord w = true) : w ∈ TB := TB_0 (List.mem_append_right _ (List.mem_append_left _ (List.mem_of_getElem? h))) g
theorem TB_3 {w : Cond} (i : Nat) (h : tables_1_3[i]? = some w) (g : goodWord w = true) : w ∈ TB := TB_0 (List.mem_append_right _ (List.mem_append_right _ (List.mem_append_left _ (List.mem_of_getElem? h)))) g
theorem TB_4 {w : Cond} (i : Nat) (h : tables_1_4[i]? = some w) (g : goodWord w = true) : w ∈ TB := TB_0 (List.mem_append_right _ (List.mem_append_right _ (List.mem_append_right _ (List.mem_append_left _ (List.mem_of_getElem? h))))) g
theorem TB_5 {w : Cond} (i : Nat) (h : tables_1_5[i]? = some w) (g : goodWord w = true) : w ∈ TB := TB_0 (List.mem_append_right _ (List.mem_append_right _ (List.mem_append_right _ (List.mem_append_right _ (List.mem_append_left _ (List.mem_of_getElem? h)))))) g
theorem TB_6 {w : Cond} (i : Nat) (h : tables_1_6[i]? = some w) (g : goodWord w = true) : w ∈ TB := TB_0 (List.mem_append_right _ (List.mem_append_right _ (List.mem_append_right _ (List.mem_append_right _ (List.mem_append_right _ (List.mem_append_left _ (List.mem_of_getElem? h))))))) g
theorem TB_7 {w : Cond} (i : Nat) (h : tables_1_7[i]? = some w) (g : goodWord w = true) : w ∈ TB := TB_0 (List.mem_append_right _ (List.mem_append_right _ (List.mem_append_right _ (List.mem_append_right _ (List.mem_append_right _ (List.mem_append_right _ (List.mem_of_getElem? h))))))) g
theorem tw_0 : (Jvm.Cond.initialized "ForesightHubLaw") ∈ TB := TB_1 0 rfl rfl
theorem tw_1 : (Jvm.Cond.initialized "ForesightHub") ∈ TB := TB_1 1 rfl rfl
theorem tw_2 : (Jvm.Cond.initialized "ForesightHub$Reader") ∈ TB := TB_1 2 rfl rfl
theorem tw_3 : (Jvm.Cond.initialized "ForesightHub$Plan") ∈ TB := TB_1 3 rfl rfl
theorem tw_4 : (Jvm.Cond.initialized "ForesightHub$Hub") ∈ TB := TB_1 4 rfl rfl
theorem tw_5 : (Jvm.Cond.initialized "ForesightHub$State") ∈ TB := TB_1 5 rfl rfl
theorem tw_6 : (Jvm.Cond.initialized "ForesightHub$ErrorBook") ∈ TB := TB_1 6 rfl rfl
theorem tw_7 : (Jvm.Cond.initialized "ForesightHub$Log") ∈ TB := TB_1 7 rfl rfl
theorem tw_8 : (Jvm.Cond.initialized "ForesightHub$History") ∈ TB := TB_1 8 rfl rfl
theorem tw_9 : (Jvm.Cond.initialized "ForesightHubModel") ∈ TB := TB_1 9 rfl rfl
theorem tw_10 : (Jvm.Cond.initialized "java/lang/Throwable") ∈ TB := TB_1 10 rfl rfl
theorem tw_11 : (Jvm.Cond.initialized "java/lang/Exception") ∈ TB := TB_1 11 rfl rfl
theorem tw_12 : (Jvm.Cond.initialized "java/lang/RuntimeException") ∈ TB := TB_1 12 rfl rfl
theorem tw_13 : (Jvm.Cond.initialized "java/lang/IllegalArgumentException") ∈ TB := TB_1 13 rfl rfl
theorem tw_14 : (Jvm.Cond.initialized "java/lang/Math") ∈ TB := TB_1 14 rfl rfl
theorem tw_15 : (Jvm.Cond.initialized "java/lang/String") ∈ TB := TB_1 15 rfl rfl
theorem tw_16 : (Jvm.Cond.initialized "java/lang/StringLatin1") ∈ TB := TB_1 16 rfl rfl
theorem tw_17 : (Jvm.Cond.initialized "jdk/internal/util/Preconditions") ∈ TB := TB_1 17 rfl rfl
theorem tw_18 : (Jvm.Cond.initialized "java/lang/StringUTF16") ∈ TB := TB_1 18 rfl rfl
theorem tw_19 : (Jvm.Cond.initialized "java/lang/IndexOutOfBoundsException") ∈ TB := TB_1 19 rfl rfl
theorem tw_20 : (Jvm.Cond.initialized "java/lang/System") ∈ TB := TB_1 20 rfl rfl
theorem tw_21 : (Jvm.Cond.initialized "java/lang/IllegalStateException") ∈ TB := TB_1 21 rfl rfl
theorem tw_22 : (Jvm.Cond.initialized "java/lang/Integer") ∈ TB := TB_1 22 rfl rfl
theorem tw_23 : (Jvm.Cond.classLink "ForesightHubLaw" (8 : Nat) "ForesightHub") ∈ TB := TB_1 23 rfl rfl
theorem tw_24 : (Jvm.Cond.instantiable "ForesightHub" (5 : Nat)) ∈ TB := TB_1 24 rfl rfl
theorem tw_25 : (Jvm.Cond.methodLink "ForesightHubLaw" (85 : Nat) ({ cls := "ForesightHub", name := "<init>", desc := "()V" } : Jvm.MethodName)) ∈ TB := TB_1 25 rfl rfl
theorem tw_26 : (Jvm.Cond.instanceMethod ({ cls := "ForesightHub", name := "<init>", desc := "()V" } : Jvm.MethodName)) ∈ TB := TB_1 26 rfl rfl
theorem tw_27 : (Jvm.Cond.code ({ cls := "ForesightHub", name := "<init>", desc := "()V" } : Jvm.MethodName) prog_1_method_1_code (2 : Nat) (Option.none : Option Jvm.ClassFile.FieldType)) ∈ TB := TB_1 27 rfl rfl
theorem tw_28 : (Jvm.Cond.methodLink "ForesightHub" (1 : Nat) ({ cls := "java/lang/Object", name := "<init>", desc := "()V" } : Jvm.MethodName)) ∈ TB := TB_1 28 rfl rfl
theorem tw_29 : (Jvm.Cond.instanceMethod ({ cls := "java/lang/Object", name := "<init>", desc := "()V" } : Jvm.MethodName)) ∈ TB := TB_1 29 rfl rfl
theorem tw_30 : (Jvm.Cond.code ({ cls := "java/lang/Object", name := "<init>", desc := "()V" } : Jvm.MethodName) object_method_1_code (1 : Nat) (Option.none : Option Jvm.ClassFile.FieldType)) ∈ TB := TB_1 30 rfl rfl
theorem tw_31 : (Jvm.Cond.classLink "ForesightHub" (7 : Nat) "ForesightHub$Reader") ∈ TB := TB_1 31 rfl rfl
theorem tw_32 : (Jvm.Cond.instantiable "ForesightHub$Reader" (14 : Nat)) ∈ TB := TB_1 32 rfl rfl
theorem tw_34 : (Jvm.Cond.instanceMethod ({ cls := "ForesightHub$Reader", name := "<init>", desc := "()V" } : Jvm.MethodName)) ∈ TB := TB_1 34 rfl rfl
theorem tw_35 : (Jvm.Cond.code ({ cls := "ForesightHub$Reader", name := "<init>", desc := "()V" } : Jvm.MethodName) prog_7_method_1_code (1 : Nat) (Option.none : Option Jvm.ClassFile.FieldType)) ∈ TB := TB_1 35 rfl rfl
theorem tw_36 : (Jvm.Cond.methodLink "ForesightHub$Reader" (3 : Nat) ({ cls := "java/lang/Object", name := "<init>", desc := "()V" } : Jvm.MethodName)) ∈ TB := TB_1 36 rfl rfl
theorem tw_37 : (Jvm.Cond.classLink "ForesightHub$Reader" (15 : Nat) "ForesightHub$Plan") ∈ TB := TB_1 37 rfl rfl
theorem tw_38 : (Jvm.Cond.instantiable "ForesightHub$Plan" (16 : Nat)) ∈ TB := TB_1 38 rfl rfl
theorem tw_39 : (Jvm.Cond.methodLink "ForesightHub$Reader" (17 : Nat) ({ cls := "ForesightHub$Plan", name := "<init>", desc := "()V" } : Jvm.MethodName)) ∈ TB := TB_1 39 rfl rfl
theorem tw_40 : (Jvm.Cond.instanceMethod ({ cls := "ForesightHub$Plan", name := "<init>", desc := "()V" } : Jvm.MethodName)) ∈ TB := TB_1 40 rfl rfl
theorem tw_41 : (Jvm.Cond.code ({ cls := "ForesightHub$Plan", name := "<init>", desc := "()V" } : Jvm.MethodName) prog_6_method_1_code (1 : Nat) (Option.none : Option Jvm.ClassFile.FieldType)) ∈ TB := TB_1 41 rfl rfl
theorem tw_42 : (Jvm.Cond.methodLink "ForesightHub$Plan" (3 : Nat) ({ cls := "java/lang/Object", name := "<init>", desc := "()V" } : Jvm.MethodName)) ∈ TB := TB_1 42 rfl rfl
theorem tw_43 : (Jvm.Cond.methodLink "ForesightHub$Plan" (39 : Nat) ({ cls := "ForesightHub$Plan", name := "clear", desc := "()V" } : Jvm.MethodName)) ∈ TB := TB_1 43 rfl rfl
theorem tw_44 : (Jvm.Cond.instanceMethod ({ cls := "ForesightHub$Plan", name := "clear", desc := "()V" } : Jvm.MethodName)) ∈ TB := TB_1 44 rfl rfl
theorem tw_45 : (Jvm.Cond.selects "ForesightHub$Plan" ({ cls := "ForesightHub$Plan", name := "clear", desc := "()V" } : Jvm.MethodName) ({ cls := "ForesightHub$Plan", name := "clear", desc := "()V" } : Jvm.MethodName)) ∈ TB := TB_1 45 rfl rfl
theorem tw_46 : (Jvm.Cond.code ({ cls := "ForesightHub$Plan", name := "clear", desc := "()V" } : Jvm.MethodName) prog_6_method_2_code (1 : Nat) (Option.none : Option Jvm.ClassFile.FieldType)) ∈ TB := TB_1 46 rfl rfl
theorem tw_47 : (Jvm.Cond.fieldLink "ForesightHub$Plan" (42 : Nat) "ForesightHub$Plan" "whole" "I") ∈ TB := TB_1 47 rfl rfl
theorem tw_48 : (Jvm.Cond.fieldLink "ForesightHub" (93 : Nat) "ForesightHub$Plan" "whole" "I") ∈ TB := TB_1 48 rfl rfl
theorem tw_49 : (Jvm.Cond.fieldLink "ForesightHub$Reader" (95 : Nat) "ForesightHub$Plan" "whole" "I") ∈ TB := TB_1 49 rfl rfl
theorem tw_50 : (Jvm.Cond.fieldLink "ForesightHub$Hub" (181 : Nat) "ForesightHub$Plan" "whole" "I") ∈ TB := TB_1 50 rfl rfl
theorem tw_51 : (Jvm.Cond.fieldLink "ForesightHub$Plan" (46 : Nat) "ForesightHub$Plan" "ports" "I") ∈ TB := TB_1 51 rfl rfl
theorem tw_52 : (Jvm.Cond.fieldLink "ForesightHub" (96 : Nat) "ForesightHub$Plan" "ports" "I") ∈ TB := TB_1 52 rfl rfl
theorem tw_53 : (Jvm.Cond.fieldLink "ForesightHub$Reader" (98 : Nat) "ForesightHub$Plan" "ports" "I") ∈ TB := TB_1 53 rfl rfl
theorem tw_54 : (Jvm.Cond.fieldLink "ForesightHub$Hub" (25 : Nat) "ForesightHub$Plan" "score" "I") ∈ TB := TB_1 54 rfl rfl
theorem tw_55 : (Jvm.Cond.fieldLink "ForesightHub$State" (49 : Nat) "ForesightHub$Plan" "score" "I") ∈ TB := TB_1 55 rfl rfl
theorem tw_56 : (Jvm.Cond.fieldLink "ForesightHub$Plan" (49 : Nat) "ForesightHub$Plan" "score" "I") ∈ TB := TB_1 56 rfl rfl
theorem tw_57 : (Jvm.Cond.fieldLink "ForesightHub$Reader" (183 : Nat) "ForesightHub$Plan" "score" "I") ∈ TB := TB_1 57 rfl rfl
theorem tw_58 : (Jvm.Cond.fieldLink "ForesightHub$Plan" (52 : Nat) "ForesightHub$Plan" "grace" "I") ∈ TB := TB_1 58 rfl rfl
theorem tw_59 : (Jvm.Cond.fieldLink "ForesightHub" (112 : Nat) "ForesightHub$Plan" "grace" "I") ∈ TB := TB_1 59 rfl rfl
theorem tw_60 : (Jvm.Cond.fieldLink "ForesightHub$Reader" (186 : Nat) "ForesightHub$Plan" "grace" "I") ∈ TB := TB_1 60 rfl rfl
theorem tw_61 : (Jvm.Cond.fieldLink "ForesightHub$Hub" (157 : Nat) "ForesightHub$Plan" "grace" "I") ∈ TB := TB_1 61 rfl rfl
theorem tw_62 : (Jvm.Cond.fieldLink "ForesightHub$Plan" (55 : Nat) "ForesightHub$Plan" "patterns" "I") ∈ TB := TB_1 62 rfl rfl
theorem tw_63 : (Jvm.Cond.fieldLink "ForesightHub" (87 : Nat) "ForesightHub$Plan" "patterns" "I") ∈ TB := TB_1 63 rfl rfl
theorem tw_64 : (Jvm.Cond.fieldLink "ForesightHub$Reader" (124 : Nat) "ForesightHub$Plan" "patterns" "I") ∈ TB := TB_1 64 rfl rfl
theorem tw_65 : (Jvm.Cond.fieldLink "ForesightHub$Hub" (87 : Nat) "ForesightHub$Plan" "patterns" "I") ∈ TB := TB_1 65 rfl rfl
theorem tw_66 : (Jvm.Cond.fieldLink "ForesightHub$Plan" (58 : Nat) "ForesightHub$Plan" "devices" "I") ∈ TB := TB_1 66 rfl rfl
theorem tw_67 : (Jvm.Cond.fieldLink "ForesightHub$State" (57 : Nat) "ForesightHub$Plan" "devices" "I") ∈ TB := TB_1 67 rfl rfl
theorem tw_68 : (Jvm.Cond.fieldLink "ForesightHub$Hub" (39 : Nat) "ForesightHub$Plan" "devices" "I") ∈ TB := TB_1 68 rfl rfl
theorem tw_69 : (Jvm.Cond.fieldLink "ForesightHub" (90 : Nat) "ForesightHub$Plan" "devices" "I") ∈ TB := TB_1 69 rfl rfl
theorem tw_70 : (Jvm.Cond.fieldLink "ForesightHub$Reader" (151 : Nat) "ForesightHub$Plan" "devices" "I") ∈ TB := TB_1 70 rfl rfl
theorem tw_71 : (Jvm.Cond.fieldLink "ForesightHub$Plan" (61 : Nat) "ForesightHub$Plan" "streams" "I") ∈ TB := TB_1 71 rfl rfl
theorem tw_72 : (Jvm.Cond.fieldLink "ForesightHub" (82 : Nat) "ForesightHub$Plan" "streams" "I") ∈ TB := TB_1 72 rfl rfl
theorem tw_73 : (Jvm.Cond.fieldLink "ForesightHub$Hub" (53 : Nat) "ForesightHub$Plan" "streams" "I") ∈ TB := TB_1 73 rfl rfl
theorem tw_74 : (Jvm.Cond.fieldLink "ForesightHub$Reader" (171 : Nat) "ForesightHub$Plan" "streams" "I") ∈ TB := TB_1 74 rfl rfl
theorem tw_75 : (Jvm.Cond.fieldLink "ForesightHub$Plan" (9 : Nat) "ForesightHub$Plan" "weight" "[I") ∈ TB := TB_1 75 rfl rfl
theorem tw_76 : (Jvm.Cond.fieldLink "ForesightHub$Reader" (131 : Nat) "ForesightHub$Plan" "weight" "[I") ∈ TB := TB_1 76 rfl rfl
theorem tw_77 : (Jvm.Cond.fieldLink "ForesightHub$Hub" (90 : Nat) "ForesightHub$Plan" "weight" "[I") ∈ TB := TB_1 77 rfl rfl
theorem tw_78 : (Jvm.Cond.fieldLink "ForesightHub$Plan" (15 : Nat) "ForesightHub$Plan" "within" "[I") ∈ TB := TB_1 78 rfl rfl
theorem tw_79 : (Jvm.Cond.fieldLink "ForesightHub$Reader" (135 : Nat) "ForesightHub$Plan" "within" "[I") ∈ TB := TB_1 79 rfl rfl
theorem tw_80 : (Jvm.Cond.fieldLink "ForesightHub$Hub" (100 : Nat) "ForesightHub$Plan" "within" "[I") ∈ TB := TB_1 80 rfl rfl
theorem tw_81 : (Jvm.Cond.fieldLink "ForesightHub$Plan" (18 : Nat) "ForesightHub$Plan" "patternErrors" "[I") ∈ TB := TB_1 81 rfl rfl
theorem tw_82 : (Jvm.Cond.fieldLink "ForesightHub$Reader" (148 : Nat) "ForesightHub$Plan" "patternErrors" "[I") ∈ TB := TB_1 82 rfl rfl
theorem tw_83 : (Jvm.Cond.fieldLink "ForesightHub$Hub" (124 : Nat) "ForesightHub$Plan" "patternErrors" "[I") ∈ TB := TB_1 83 rfl rfl
theorem tw_84 : (Jvm.Cond.fieldLink "ForesightHub$Plan" (21 : Nat) "ForesightHub$Plan" "patternKinds" "[I") ∈ TB := TB_1 84 rfl rfl
theorem tw_85 : (Jvm.Cond.fieldLink "ForesightHub$Reader" (145 : Nat) "ForesightHub$Plan" "patternKinds" "[I") ∈ TB := TB_1 85 rfl rfl
theorem tw_86 : (Jvm.Cond.fieldLink "ForesightHub$Hub" (127 : Nat) "ForesightHub$Plan" "patternKinds" "[I") ∈ TB := TB_1 86 rfl rfl
theorem tw_87 : (Jvm.Cond.fieldLink "ForesightHub$Plan" (24 : Nat) "ForesightHub$Plan" "firstPort" "[I") ∈ TB := TB_1 87 rfl rfl
theorem tw_88 : (Jvm.Cond.fieldLink "ForesightHub$State" (60 : Nat) "ForesightHub$Plan" "firstPort" "[I") ∈ TB := TB_1 88 rfl rfl
theorem tw_89 : (Jvm.Cond.fieldLink "ForesightHub$Reader" (157 : Nat) "ForesightHub$Plan" "firstPort" "[I") ∈ TB := TB_1 89 rfl rfl
theorem tw_90 : (Jvm.Cond.fieldLink "ForesightHub$Plan" (27 : Nat) "ForesightHub$Plan" "heir" "[I") ∈ TB := TB_1 90 rfl rfl
theorem tw_91 : (Jvm.Cond.fieldLink "ForesightHub" (134 : Nat) "ForesightHub$Plan" "heir" "[I") ∈ TB := TB_1 91 rfl rfl
theorem tw_92 : (Jvm.Cond.fieldLink "ForesightHub$Reader" (160 : Nat) "ForesightHub$Plan" "heir" "[I") ∈ TB := TB_1 92 rfl rfl
theorem tw_93 : (Jvm.Cond.fieldLink "ForesightHub$Hub" (169 : Nat) "ForesightHub$Plan" "heir" "[I") ∈ TB := TB_1 93 rfl rfl
theorem tw_94 : (Jvm.Cond.fieldLink "ForesightHub$Plan" (30 : Nat) "ForesightHub$Plan" "home" "[I") ∈ TB := TB_1 94 rfl rfl
theorem tw_95 : (Jvm.Cond.fieldLink "ForesightHub" (184 : Nat) "ForesightHub$Plan" "home" "[I") ∈ TB := TB_1 95 rfl rfl
theorem tw_96 : (Jvm.Cond.fieldLink "ForesightHub$Reader" (174 : Nat) "ForesightHub$Plan" "home" "[I") ∈ TB := TB_1 96 rfl rfl
theorem tw_97 : (Jvm.Cond.fieldLink "ForesightHub$Hub" (166 : Nat) "ForesightHub$Plan" "home" "[I") ∈ TB := TB_1 97 rfl rfl
theorem tw_98 : (Jvm.Cond.fieldLink "ForesightHub$Plan" (33 : Nat) "ForesightHub$Plan" "rate" "[I") ∈ TB := TB_1 98 rfl rfl
theorem tw_99 : (Jvm.Cond.fieldLink "ForesightHub" (175 : Nat) "ForesightHub$Plan" "rate" "[I") ∈ TB := TB_1 99 rfl rfl
theorem tw_100 : (Jvm.Cond.fieldLink "ForesightHub$Hub" (59 : Nat) "ForesightHub$Plan" "rate" "[I") ∈ TB := TB_1 100 rfl rfl
theorem tw_101 : (Jvm.Cond.fieldLink "ForesightHub$Reader" (177 : Nat) "ForesightHub$Plan" "rate" "[I") ∈ TB := TB_1 101 rfl rfl
theorem tw_102 : (Jvm.Cond.fieldLink "ForesightHub$Plan" (36 : Nat) "ForesightHub$Plan" "packet" "[I") ∈ TB := TB_1 102 rfl rfl
theorem tw_103 : (Jvm.Cond.fieldLink "ForesightHub" (178 : Nat) "ForesightHub$Plan" "packet" "[I") ∈ TB := TB_1 103 rfl rfl
theorem tw_104 : (Jvm.Cond.fieldLink "ForesightHub$Hub" (75 : Nat) "ForesightHub$Plan" "packet" "[I") ∈ TB := TB_1 104 rfl rfl
theorem tw_105 : (Jvm.Cond.fieldLink "ForesightHub$Reader" (180 : Nat) "ForesightHub$Plan" "packet" "[I") ∈ TB := TB_1 105 rfl rfl
theorem tw_138 : (Jvm.Cond.superclass "ForesightHub$Plan" "java/lang/Object") ∈ TB := TB_1 138 rfl rfl
theorem tw_139 : (Jvm.Cond.arrayClass Jvm.ClassFile.FieldType.byte) ∈ TB := TB_1 139 rfl rfl
theorem tw_140 : (Jvm.Cond.arrayClass Jvm.ClassFile.FieldType.int) ∈ TB := TB_1 140 rfl rfl
theorem tw_141 : (Jvm.Cond.fieldLink "ForesightHub$Reader" (9 : Nat) "ForesightHub$Reader" "buffer" "[B") ∈ TB := TB_1 141 rfl rfl
theorem tw_142 : (Jvm.Cond.fieldLink "ForesightHub$Reader" (32 : Nat) "ForesightHub$Reader" "filled" "I") ∈ TB := TB_1 142 rfl rfl
theorem tw_143 : (Jvm.Cond.fieldLink "ForesightHub" (49 : Nat) "ForesightHub$Reader" "filled" "I") ∈ TB := TB_1 143 rfl rfl
theorem tw_144 : (Jvm.Cond.fieldLink "ForesightHub$Reader" (51 : Nat) "ForesightHub$Reader" "textEnd" "I") ∈ TB := TB_1 144 rfl rfl
theorem tw_145 : (Jvm.Cond.fieldLink "ForesightHub$Reader" (54 : Nat) "ForesightHub$Reader" "position" "I") ∈ TB := TB_1 145 rfl rfl
theorem tw_146 : (Jvm.Cond.fieldLink "ForesightHub$Reader" (71 : Nat) "ForesightHub$Reader" "token" "I") ∈ TB := TB_1 146 rfl rfl
theorem tw_147 : (Jvm.Cond.fieldLink "ForesightHub$Reader" (197 : Nat) "ForesightHub$Reader" "tokenStart" "I") ∈ TB := TB_1 147 rfl rfl
theorem tw_148 : (Jvm.Cond.fieldLink "ForesightHub$Reader" (91 : Nat) "ForesightHub$Reader" "value" "J") ∈ TB := TB_1 148 rfl rfl
theorem tw_149 : (Jvm.Cond.fieldLink "ForesightHub$Reader" (36 : Nat) "ForesightHub$Reader" "faultOffset" "I") ∈ TB := TB_1 149 rfl rfl
theorem tw_150 : (Jvm.Cond.fieldLink "ForesightHub$Reader" (39 : Nat) "ForesightHub$Reader" "faultKind" "I") ∈ TB := TB_1 150 rfl rfl
theorem tw_151 : (Jvm.Cond.fieldLink "ForesightHub$Reader" (18 : Nat) "ForesightHub$Reader" "plan" "LForesightHub$Plan;") ∈ TB := TB_1 151 rfl rfl
theorem tw_152 : (Jvm.Cond.fieldLink "ForesightHub$Reader" (57 : Nat) "ForesightHub$Reader" "alarmTold" "Z") ∈ TB := TB_1 152 rfl rfl
theorem tw_153 : (Jvm.Cond.fieldLink "ForesightHub$Reader" (22 : Nat) "ForesightHub$Reader" "patternNames" "[J") ∈ TB := TB_1 153 rfl rfl
theorem tw_154 : (Jvm.Cond.fieldLink "ForesightHub$Reader" (26 : Nat) "ForesightHub$Reader" "deviceNames" "[J") ∈ TB := TB_1 154 rfl rfl
theorem tw_155 : (Jvm.Cond.fieldLink "ForesightHub$Reader" (29 : Nat) "ForesightHub$Reader" "streamNames" "[J") ∈ TB := TB_1 155 rfl rfl
theorem tw_184 : (Jvm.Cond.superclass "ForesightHub$Reader" "java/lang/Object") ∈ TB := TB_1 184 rfl rfl
theorem tw_185 : (Jvm.Cond.arrayClass Jvm.ClassFile.FieldType.long) ∈ TB := TB_1 185 rfl rfl
theorem tw_186 : (Jvm.Cond.classLink "ForesightHub" (16 : Nat) "ForesightHub$Hub") ∈ TB := TB_1 186 rfl rfl
theorem tw_187 : (Jvm.Cond.instantiable "ForesightHub$Hub" (2 : Nat)) ∈ TB := TB_1 187 rfl rfl
theorem tw_188 : (Jvm.Cond.methodLink "ForesightHub" (18 : Nat) ({ cls := "ForesightHub$Hub", name := "<init>", desc := "()V" } : Jvm.MethodName)) ∈ TB := TB_1 188 rfl rfl
theorem tw_189 : (Jvm.Cond.instanceMethod ({ cls := "ForesightHub$Hub", name := "<init>", desc := "()V" } : Jvm.MethodName)) ∈ TB := TB_1 189 rfl rfl
theorem tw_190 : (Jvm.Cond.code ({ cls := "ForesightHub$Hub", name := "<init>", desc := "()V" } : Jvm.MethodName) prog_4_method_1_code (1 : Nat) (Option.none : Option Jvm.ClassFile.FieldType)) ∈ TB := TB_1 190 rfl rfl
theorem tw_191 : (Jvm.Cond.methodLink "ForesightHub$Hub" (3 : Nat) ({ cls := "java/lang/Object", name := "<init>", desc := "()V" } : Jvm.MethodName)) ∈ TB := TB_1 191 rfl rfl
theorem tw_192 : (Jvm.Cond.classLink "ForesightHub$Hub" (9 : Nat) "ForesightHub$Plan") ∈ TB := TB_1 192 rfl rfl
theorem tw_193 : (Jvm.Cond.methodLink "ForesightHub$Hub" (11 : Nat) ({ cls := "ForesightHub$Plan", name := "<init>", desc := "()V" } : Jvm.MethodName)) ∈ TB := TB_1 193 rfl rfl
theorem tw_194 : (Jvm.Cond.classLink "ForesightHub$Hub" (18 : Nat) "ForesightHub$State") ∈ TB := TB_1 194 rfl rfl
theorem tw_195 : (Jvm.Cond.instantiable "ForesightHub$State" (10 : Nat)) ∈ TB := TB_1 195 rfl rfl
theorem tw_197 : (Jvm.Cond.instanceMethod ({ cls := "ForesightHub$State", name := "<init>", desc := "()V" } : Jvm.MethodName)) ∈ TB := TB_1 197 rfl rfl
theorem tw_198 : (Jvm.Cond.code ({ cls := "ForesightHub$State", name := "<init>", desc := "()V" } : Jvm.MethodName) prog_8_method_1_code (1 : Nat) (Option.none : Option Jvm.ClassFile.FieldType)) ∈ TB := TB_1 198 rfl rfl
theorem tw_199 : (Jvm.Cond.methodLink "ForesightHub$State" (3 : Nat) ({ cls := "java/lang/Object", name := "<init>", desc := "()V" } : Jvm.MethodName)) ∈ TB := TB_1 199 rfl rfl
theorem tw_200 : (Jvm.Cond.classLink "ForesightHub$State" (31 : Nat) "ForesightHub$ErrorBook") ∈ TB := TB_1 200 rfl rfl
theorem tw_201 : (Jvm.Cond.instantiable "ForesightHub$ErrorBook" (6 : Nat)) ∈ TB := TB_1 201 rfl rfl
theorem tw_203 : (Jvm.Cond.instanceMethod ({ cls := "ForesightHub$ErrorBook", name := "<init>", desc := "()V" } : Jvm.MethodName)) ∈ TB := TB_1 203 rfl rfl
theorem tw_204 : (Jvm.Cond.code ({ cls := "ForesightHub$ErrorBook", name := "<init>", desc := "()V" } : Jvm.MethodName) prog_2_method_1_code (1 : Nat) (Option.none : Option Jvm.ClassFile.FieldType)) ∈ TB := TB_1 204 rfl rfl
theorem tw_205 : (Jvm.Cond.methodLink "ForesightHub$ErrorBook" (3 : Nat) ({ cls := "java/lang/Object", name := "<init>", desc := "()V" } : Jvm.MethodName)) ∈ TB := TB_1 205 rfl rfl
theorem tw_206 : (Jvm.Cond.fieldLink "ForesightHub$ErrorBook" (9 : Nat) "ForesightHub$ErrorBook" "kept" "[I") ∈ TB := TB_1 206 rfl rfl
theorem tw_207 : (Jvm.Cond.fieldLink "ForesightHub" (151 : Nat) "ForesightHub$ErrorBook" "kept" "[I") ∈ TB := TB_1 207 rfl rfl
theorem tw_208 : (Jvm.Cond.fieldLink "ForesightHub$Hub" (107 : Nat) "ForesightHub$ErrorBook" "kept" "[I") ∈ TB := TB_1 208 rfl rfl
theorem tw_209 : (Jvm.Cond.fieldLink "ForesightHub$ErrorBook" (15 : Nat) "ForesightHub$ErrorBook" "kinds" "[I") ∈ TB := TB_1 209 rfl rfl
theorem tw_210 : (Jvm.Cond.fieldLink "ForesightHub$ErrorBook" (18 : Nat) "ForesightHub$ErrorBook" "times" "[I") ∈ TB := TB_1 210 rfl rfl
theorem tw_211 : (Jvm.Cond.fieldLink "ForesightHub$ErrorBook" (27 : Nat) "ForesightHub$ErrorBook" "causes" "I") ∈ TB := TB_1 211 rfl rfl
theorem tw_212 : (Jvm.Cond.fieldLink "ForesightHub$ErrorBook" (21 : Nat) "ForesightHub$ErrorBook" "causeOrder" "[I") ∈ TB := TB_1 212 rfl rfl
theorem tw_213 : (Jvm.Cond.fieldLink "ForesightHub$ErrorBook" (24 : Nat) "ForesightHub$ErrorBook" "causeTotals" "[I") ∈ TB := TB_1 213 rfl rfl
theorem tw_226 : (Jvm.Cond.superclass "ForesightHub$ErrorBook" "java/lang/Object") ∈ TB := TB_1 226 rfl rfl
theorem tw_227 : (Jvm.Cond.classLink "ForesightHub$State" (38 : Nat) "ForesightHub$Log") ∈ TB := TB_1 227 rfl rfl
theorem tw_228 : (Jvm.Cond.instantiable "ForesightHub$Log" (6 : Nat)) ∈ TB := TB_1 228 rfl rfl
theorem tw_230 : (Jvm.Cond.instanceMethod ({ cls := "ForesightHub$Log", name := "<init>", desc := "()V" } : Jvm.MethodName)) ∈ TB := TB_1 230 rfl rfl
theorem tw_231 : (Jvm.Cond.code ({ cls := "ForesightHub$Log", name := "<init>", desc := "()V" } : Jvm.MethodName) prog_5_method_1_code (1 : Nat) (Option.none : Option Jvm.ClassFile.FieldType)) ∈ TB := TB_1 231 rfl rfl
theorem tw_232 : (Jvm.Cond.methodLink "ForesightHub$Log" (3 : Nat) ({ cls := "java/lang/Object", name := "<init>", desc := "()V" } : Jvm.MethodName)) ∈ TB := TB_1 232 rfl rfl
theorem tw_233 : (Jvm.Cond.fieldLink "ForesightHub$Log" (24 : Nat) "ForesightHub$Log" "kept" "I") ∈ TB := TB_1 233 rfl rfl
theorem tw_234 : (Jvm.Cond.fieldLink "ForesightHub$Log" (28 : Nat) "ForesightHub$Log" "next" "I") ∈ TB := TB_1 234 rfl rfl
theorem tw_235 : (Jvm.Cond.fieldLink "ForesightHub$Log" (11 : Nat) "ForesightHub$Log" "kinds" "[I") ∈ TB := TB_1 235 rfl rfl
theorem tw_236 : (Jvm.Cond.fieldLink "ForesightHub$Log" (15 : Nat) "ForesightHub$Log" "items" "[I") ∈ TB := TB_1 236 rfl rfl
theorem tw_237 : (Jvm.Cond.fieldLink "ForesightHub$Log" (18 : Nat) "ForesightHub$Log" "times" "[I") ∈ TB := TB_1 237 rfl rfl
theorem tw_238 : (Jvm.Cond.fieldLink "ForesightHub$Log" (21 : Nat) "ForesightHub$Log" "totals" "[I") ∈ TB := TB_1 238 rfl rfl
theorem tw_239 : (Jvm.Cond.fieldLink "ForesightHub" (240 : Nat) "ForesightHub$Log" "totals" "[I") ∈ TB := TB_1 239 rfl rfl
theorem tw_240 : (Jvm.Cond.fieldLink "ForesightHub$Hub" (141 : Nat) "ForesightHub$Log" "totals" "[I") ∈ TB := TB_2 0 rfl rfl
theorem tw_253 : (Jvm.Cond.superclass "ForesightHub$Log" "java/lang/Object") ∈ TB := TB_2 13 rfl rfl
theorem tw_254 : (Jvm.Cond.fieldLink "ForesightHub$State" (45 : Nat) "ForesightHub$State" "time" "I") ∈ TB := TB_2 14 rfl rfl
theorem tw_255 : (Jvm.Cond.fieldLink "ForesightHub" (103 : Nat) "ForesightHub$State" "time" "I") ∈ TB := TB_2 15 rfl rfl
theorem tw_256 : (Jvm.Cond.fieldLink "ForesightHub$Hub" (97 : Nat) "ForesightHub$State" "time" "I") ∈ TB := TB_2 16 rfl rfl
theorem tw_257 : (Jvm.Cond.fieldLink "ForesightHub$Hub" (29 : Nat) "ForesightHub$State" "alarmScore" "I") ∈ TB := TB_2 17 rfl rfl
theorem tw_258 : (Jvm.Cond.fieldLink "ForesightHub$State" (54 : Nat) "ForesightHub$State" "alarmScore" "I") ∈ TB := TB_2 18 rfl rfl
theorem tw_259 : (Jvm.Cond.fieldLink "ForesightHub" (109 : Nat) "ForesightHub$State" "alarmScore" "I") ∈ TB := TB_2 19 rfl rfl
theorem tw_260 : (Jvm.Cond.fieldLink "ForesightHub$State" (9 : Nat) "ForesightHub$State" "port" "[I") ∈ TB := TB_2 20 rfl rfl
theorem tw_261 : (Jvm.Cond.fieldLink "ForesightHub$Hub" (46 : Nat) "ForesightHub$State" "port" "[I") ∈ TB := TB_2 21 rfl rfl
theorem tw_262 : (Jvm.Cond.fieldLink "ForesightHub" (130 : Nat) "ForesightHub$State" "port" "[I") ∈ TB := TB_2 22 rfl rfl
theorem tw_263 : (Jvm.Cond.fieldLink "ForesightHub$State" (15 : Nat) "ForesightHub$State" "alarmSince" "[I") ∈ TB := TB_2 23 rfl rfl
theorem tw_264 : (Jvm.Cond.fieldLink "ForesightHub$Hub" (50 : Nat) "ForesightHub$State" "alarmSince" "[I") ∈ TB := TB_2 24 rfl rfl
theorem tw_265 : (Jvm.Cond.fieldLink "ForesightHub$State" (18 : Nat) "ForesightHub$State" "holder" "[I") ∈ TB := TB_2 25 rfl rfl
theorem tw_266 : (Jvm.Cond.fieldLink "ForesightHub" (169 : Nat) "ForesightHub$State" "holder" "[I") ∈ TB := TB_2 26 rfl rfl
theorem tw_267 : (Jvm.Cond.fieldLink "ForesightHub$Hub" (56 : Nat) "ForesightHub$State" "holder" "[I") ∈ TB := TB_2 27 rfl rfl
theorem tw_268 : (Jvm.Cond.fieldLink "ForesightHub$State" (21 : Nat) "ForesightHub$State" "mode" "[I") ∈ TB := TB_2 28 rfl rfl
theorem tw_269 : (Jvm.Cond.fieldLink "ForesightHub" (166 : Nat) "ForesightHub$State" "mode" "[I") ∈ TB := TB_2 29 rfl rfl
theorem tw_270 : (Jvm.Cond.fieldLink "ForesightHub$Hub" (163 : Nat) "ForesightHub$State" "mode" "[I") ∈ TB := TB_2 30 rfl rfl
theorem tw_271 : (Jvm.Cond.fieldLink "ForesightHub$State" (24 : Nat) "ForesightHub$State" "done" "[I") ∈ TB := TB_2 31 rfl rfl
theorem tw_272 : (Jvm.Cond.fieldLink "ForesightHub" (181 : Nat) "ForesightHub$State" "done" "[I") ∈ TB := TB_2 32 rfl rfl
theorem tw_273 : (Jvm.Cond.fieldLink "ForesightHub$Hub" (62 : Nat) "ForesightHub$State" "done" "[I") ∈ TB := TB_2 33 rfl rfl
theorem tw_274 : (Jvm.Cond.fieldLink "ForesightHub$State" (27 : Nat) "ForesightHub$State" "sent" "[J") ∈ TB := TB_2 34 rfl rfl
theorem tw_275 : (Jvm.Cond.fieldLink "ForesightHub" (189 : Nat) "ForesightHub$State" "sent" "[J") ∈ TB := TB_2 35 rfl rfl
theorem tw_276 : (Jvm.Cond.fieldLink "ForesightHub$Hub" (200 : Nat) "ForesightHub$State" "sent" "[J") ∈ TB := TB_2 36 rfl rfl
theorem tw_277 : (Jvm.Cond.fieldLink "ForesightHub$State" (34 : Nat) "ForesightHub$State" "errors" "LForesightHub$ErrorBook;") ∈ TB := TB_2 37 rfl rfl
theorem tw_278 : (Jvm.Cond.fieldLink "ForesightHub" (147 : Nat) "ForesightHub$State" "errors" "LForesightHub$ErrorBook;") ∈ TB := TB_2 38 rfl rfl
theorem tw_279 : (Jvm.Cond.fieldLink "ForesightHub$Hub" (103 : Nat) "ForesightHub$State" "errors" "LForesightHub$ErrorBook;") ∈ TB := TB_2 39 rfl rfl
theorem tw_280 : (Jvm.Cond.fieldLink "ForesightHub$State" (41 : Nat) "ForesightHub$State" "log" "LForesightHub$Log;") ∈ TB := TB_2 40 rfl rfl
theorem tw_281 : (Jvm.Cond.fieldLink "ForesightHub" (229 : Nat) "ForesightHub$State" "log" "LForesightHub$Log;") ∈ TB := TB_2 41 rfl rfl
theorem tw_282 : (Jvm.Cond.fieldLink "ForesightHub$Hub" (137 : Nat) "ForesightHub$State" "log" "LForesightHub$Log;") ∈ TB := TB_2 42 rfl rfl
theorem tw_303 : (Jvm.Cond.superclass "ForesightHub$State" "java/lang/Object") ∈ TB := TB_2 63 rfl rfl
theorem tw_304 : (Jvm.Cond.fieldLink "ForesightHub$Hub" (12 : Nat) "ForesightHub$Hub" "plan" "LForesightHub$Plan;") ∈ TB := TB_2 64 rfl rfl
theorem tw_305 : (Jvm.Cond.fieldLink "ForesightHub" (67 : Nat) "ForesightHub$Hub" "plan" "LForesightHub$Plan;") ∈ TB := TB_2 65 rfl rfl
theorem tw_306 : (Jvm.Cond.fieldLink "ForesightHub$Hub" (21 : Nat) "ForesightHub$Hub" "state" "LForesightHub$State;") ∈ TB := TB_2 66 rfl rfl
theorem tw_307 : (Jvm.Cond.fieldLink "ForesightHub" (99 : Nat) "ForesightHub$Hub" "state" "LForesightHub$State;") ∈ TB := TB_2 67 rfl rfl
theorem tw_312 : (Jvm.Cond.superclass "ForesightHub$Hub" "java/lang/Object") ∈ TB := TB_2 72 rfl rfl
theorem tw_313 : (Jvm.Cond.classLink "ForesightHub" (23 : Nat) "ForesightHub$History") ∈ TB := TB_2 73 rfl rfl
theorem tw_314 : (Jvm.Cond.instantiable "ForesightHub$History" (3 : Nat)) ∈ TB := TB_2 74 rfl rfl
theorem tw_315 : (Jvm.Cond.methodLink "ForesightHub" (25 : Nat) ({ cls := "ForesightHub$History", name := "<init>", desc := "()V" } : Jvm.MethodName)) ∈ TB := TB_2 75 rfl rfl
theorem tw_316 : (Jvm.Cond.instanceMethod ({ cls := "ForesightHub$History", name := "<init>", desc := "()V" } : Jvm.MethodName)) ∈ TB := TB_2 76 rfl rfl
theorem tw_317 : (Jvm.Cond.code ({ cls := "ForesightHub$History", name := "<init>", desc := "()V" } : Jvm.MethodName) prog_3_method_1_code (2 : Nat) (Option.none : Option Jvm.ClassFile.FieldType)) ∈ TB := TB_2 77 rfl rfl
theorem tw_318 : (Jvm.Cond.methodLink "ForesightHub$History" (1 : Nat) ({ cls := "java/lang/Object", name := "<init>", desc := "()V" } : Jvm.MethodName)) ∈ TB := TB_2 78 rfl rfl
theorem tw_319 : (Jvm.Cond.classLink "ForesightHub$History" (9 : Nat) "ForesightHub$State") ∈ TB := TB_2 79 rfl rfl
theorem tw_322 : (Jvm.Cond.fieldLink "ForesightHub$History" (11 : Nat) "ForesightHub$History" "states" "[LForesightHub$State;") ∈ TB := TB_2 82 rfl rfl
theorem tw_323 : (Jvm.Cond.fieldLink "ForesightHub$History" (16 : Nat) "ForesightHub$History" "kept" "I") ∈ TB := TB_2 83 rfl rfl
theorem tw_324 : (Jvm.Cond.fieldLink "ForesightHub" (115 : Nat) "ForesightHub$History" "kept" "I") ∈ TB := TB_2 84 rfl rfl
theorem tw_325 : (Jvm.Cond.fieldLink "ForesightHub$History" (20 : Nat) "ForesightHub$History" "next" "I") ∈ TB := TB_2 85 rfl rfl
theorem tw_332 : (Jvm.Cond.superclass "ForesightHub$History" "java/lang/Object") ∈ TB := TB_2 92 rfl rfl
theorem tw_333 : (Jvm.Cond.classLink "ForesightHub" (30 : Nat) "ForesightHub$State") ∈ TB := TB_2 93 rfl rfl
theorem tw_335 : (Jvm.Cond.fieldLink "ForesightHub" (10 : Nat) "ForesightHub" "reader" "LForesightHub$Reader;") ∈ TB := TB_2 95 rfl rfl
theorem tw_336 : (Jvm.Cond.fieldLink "ForesightHub" (19 : Nat) "ForesightHub" "hub" "LForesightHub$Hub;") ∈ TB := TB_2 96 rfl rfl
theorem tw_337 : (Jvm.Cond.fieldLink "ForesightHub" (26 : Nat) "ForesightHub" "history" "LForesightHub$History;") ∈ TB := TB_2 97 rfl rfl
theorem tw_338 : (Jvm.Cond.fieldLink "ForesightHub" (32 : Nat) "ForesightHub" "snapshots" "[LForesightHub$State;") ∈ TB := TB_2 98 rfl rfl
theorem tw_339 : (Jvm.Cond.fieldLink "ForesightHub" (36 : Nat) "ForesightHub" "snapshotTaken" "[Z") ∈ TB := TB_2 99 rfl rfl
theorem tw_350 : (Jvm.Cond.superclass "ForesightHub" "java/lang/Object") ∈ TB := TB_2 110 rfl rfl
theorem tw_351 : (Jvm.Cond.arrayClass Jvm.ClassFile.FieldType.boolean) ∈ TB := TB_2 111 rfl rfl
theorem tw_352 : (Jvm.Cond.methodLink "ForesightHubLaw" (89 : Nat) ({ cls := "ForesightHub", name := "append", desc := "(IIIII)I" } : Jvm.MethodName)) ∈ TB := TB_2 112 rfl rfl
theorem tw_353 : (Jvm.Cond.instanceMethod ({ cls := "ForesightHub", name := "append", desc := "(IIIII)I" } : Jvm.MethodName)) ∈ TB := TB_2 113 rfl rfl
theorem tw_354 : (Jvm.Cond.selects "ForesightHub" ({ cls := "ForesightHub", name := "append", desc := "(IIIII)I" } : Jvm.MethodName) ({ cls := "ForesightHub", name := "append", desc := "(IIIII)I" } : Jvm.MethodName)) ∈ TB := TB_2 114 rfl rfl
theorem tw_355 : (Jvm.Cond.code ({ cls := "ForesightHub", name := "append", desc := "(IIIII)I" } : Jvm.MethodName) prog_1_method_2_code (6 : Nat) (Option.some Jvm.ClassFile.FieldType.int)) ∈ TB := TB_2 115 rfl rfl
theorem tw_356 : (Jvm.Cond.methodLink "ForesightHub" (41 : Nat) ({ cls := "ForesightHub$Reader", name := "hasRoomFor", desc := "(I)Z" } : Jvm.MethodName)) ∈ TB := TB_2 116 rfl rfl
theorem tw_357 : (Jvm.Cond.instanceMethod ({ cls := "ForesightHub$Reader", name := "hasRoomFor", desc := "(I)Z" } : Jvm.MethodName)) ∈ TB := TB_2 117 rfl rfl
theorem tw_358 : (Jvm.Cond.selects "ForesightHub$Reader" ({ cls := "ForesightHub$Reader", name := "hasRoomFor", desc := "(I)Z" } : Jvm.MethodName) ({ cls := "ForesightHub$Reader", name := "hasRoomFor", desc := "(I)Z" } : Jvm.MethodName)) ∈ TB := TB_2 118 rfl rfl
theorem tw_359 : (Jvm.Cond.code ({ cls := "ForesightHub$Reader", name := "hasRoomFor", desc := "(I)Z" } : Jvm.MethodName) prog_7_method_2_code (2 : Nat) (Option.some Jvm.ClassFile.FieldType.boolean)) ∈ TB := TB_2 119 rfl rfl
theorem tw_360 : (Jvm.Cond.methodLink "ForesightHub" (45 : Nat) ({ cls := "ForesightHub$Reader", name := "addBytesOf", desc := "(I)V" } : Jvm.MethodName)) ∈ TB := TB_2 120 rfl rfl
theorem tw_361 : (Jvm.Cond.instanceMethod ({ cls := "ForesightHub$Reader", name := "addBytesOf", desc := "(I)V" } : Jvm.MethodName)) ∈ TB := TB_2 121 rfl rfl
theorem tw_362 : (Jvm.Cond.selects "ForesightHub$Reader" ({ cls := "ForesightHub$Reader", name := "addBytesOf", desc := "(I)V" } : Jvm.MethodName) ({ cls := "ForesightHub$Reader", name := "addBytesOf", desc := "(I)V" } : Jvm.MethodName)) ∈ TB := TB_2 122 rfl rfl
theorem tw_363 : (Jvm.Cond.code ({ cls := "ForesightHub$Reader", name := "addBytesOf", desc := "(I)V" } : Jvm.MethodName) prog_7_method_3_code (3 : Nat) (Option.none : Option Jvm.ClassFile.FieldType)) ∈ TB := TB_2 123 rfl rfl
theorem tw_364 : (Jvm.Cond.methodLink "ForesightHubLaw" (139 : Nat) ({ cls := "ForesightHub", name := "weakest", desc := "()I" } : Jvm.MethodName)) ∈ TB := TB_2 124 rfl rfl
theorem tw_365 : (Jvm.Cond.instanceMethod ({ cls := "ForesightHub", name := "weakest", desc := "()I" } : Jvm.MethodName)) ∈ TB := TB_2 125 rfl rfl
theorem tw_366 : (Jvm.Cond.selects "ForesightHub" ({ cls := "ForesightHub", name := "weakest", desc := "()I" } : Jvm.MethodName) ({ cls := "ForesightHub", name := "weakest", desc := "()I" } : Jvm.MethodName)) ∈ TB := TB_2 126 rfl rfl
theorem tw_367 : (Jvm.Cond.code ({ cls := "ForesightHub", name := "weakest", desc := "()I" } : Jvm.MethodName) prog_1_method_15_code (1 : Nat) (Option.some Jvm.ClassFile.FieldType.int)) ∈ TB := TB_2 127 rfl rfl
theorem tw_368 : (Jvm.Cond.methodLink "ForesightHub" (221 : Nat) ({ cls := "ForesightHub$Hub", name := "weakestDevice", desc := "()I" } : Jvm.MethodName)) ∈ TB := TB_2 128 rfl rfl
theorem tw_369 : (Jvm.Cond.instanceMethod ({ cls := "ForesightHub$Hub", name := "weakestDevice", desc := "()I" } : Jvm.MethodName)) ∈ TB := TB_2 129 rfl rfl
theorem tw_370 : (Jvm.Cond.selects "ForesightHub$Hub" ({ cls := "ForesightHub$Hub", name := "weakestDevice", desc := "()I" } : Jvm.MethodName) ({ cls := "ForesightHub$Hub", name := "weakestDevice", desc := "()I" } : Jvm.MethodName)) ∈ TB := TB_2 130 rfl rfl
theorem tw_371 : (Jvm.Cond.code ({ cls := "ForesightHub$Hub", name := "weakestDevice", desc := "()I" } : Jvm.MethodName) prog_4_method_13_code (4 : Nat) (Option.some Jvm.ClassFile.FieldType.int)) ∈ TB := TB_2 131 rfl rfl
theorem tw_372 : (Jvm.Cond.methodLink "ForesightHub$Hub" (78 : Nat) ({ cls := "ForesightHub$Hub", name := "isPluggedIn", desc := "(I)Z" } : Jvm.MethodName)) ∈ TB := TB_2 132 rfl rfl
theorem tw_373 : (Jvm.Cond.instanceMethod ({ cls := "ForesightHub$Hub", name := "isPluggedIn", desc := "(I)Z" } : Jvm.MethodName)) ∈ TB := TB_2 133 rfl rfl
theorem tw_374 : (Jvm.Cond.selects "ForesightHub$Hub" ({ cls := "ForesightHub$Hub", name := "isPluggedIn", desc := "(I)Z" } : Jvm.MethodName) ({ cls := "ForesightHub$Hub", name := "isPluggedIn", desc := "(I)Z" } : Jvm.MethodName)) ∈ TB := TB_2 134 rfl rfl
theorem tw_375 : (Jvm.Cond.code ({ cls := "ForesightHub$Hub", name := "isPluggedIn", desc := "(I)Z" } : Jvm.MethodName) prog_4_method_4_code (2 : Nat) (Option.some Jvm.ClassFile.FieldType.boolean)) ∈ TB := TB_2 135 rfl rfl
theorem tw_376 : (Jvm.Cond.methodLink "ForesightHub$Hub" (42 : Nat) ({ cls := "ForesightHub$Hub", name := "isDevice", desc := "(I)Z" } : Jvm.MethodName)) ∈ TB := TB_2 136 rfl rfl
theorem tw_377 : (Jvm.Cond.instanceMethod ({ cls := "ForesightHub$Hub", name := "isDevice", desc := "(I)Z" } : Jvm.MethodName)) ∈ TB := TB_2 137 rfl rfl
theorem tw_378 : (Jvm.Cond.selects "ForesightHub$Hub" ({ cls := "ForesightHub$Hub", name := "isDevice", desc := "(I)Z" } : Jvm.MethodName) ({ cls := "ForesightHub$Hub", name := "isDevice", desc := "(I)Z" } : Jvm.MethodName)) ∈ TB := TB_2 138 rfl rfl
theorem tw_379 : (Jvm.Cond.code ({ cls := "ForesightHub$Hub", name := "isDevice", desc := "(I)Z" } : Jvm.MethodName) prog_4_method_3_code (2 : Nat) (Option.some Jvm.ClassFile.FieldType.boolean)) ∈ TB := TB_2 139 rfl rfl
theorem tw_380 : (Jvm.Cond.methodLink "ForesightHub$Hub" (81 : Nat) ({ cls := "ForesightHub$Hub", name := "scoreOf", desc := "(II)I" } : Jvm.MethodName)) ∈ TB := TB_2 140 rfl rfl
theorem tw_381 : (Jvm.Cond.instanceMethod ({ cls := "ForesightHub$Hub", name := "scoreOf", desc := "(II)I" } : Jvm.MethodName)) ∈ TB := TB_2 141 rfl rfl
theorem tw_382 : (Jvm.Cond.selects "ForesightHub$Hub" ({ cls := "ForesightHub$Hub", name := "scoreOf", desc := "(II)I" } : Jvm.MethodName) ({ cls := "ForesightHub$Hub", name := "scoreOf", desc := "(II)I" } : Jvm.MethodName)) ∈ TB := TB_2 142 rfl rfl
theorem tw_383 : (Jvm.Cond.code ({ cls := "ForesightHub$Hub", name := "scoreOf", desc := "(II)I" } : Jvm.MethodName) prog_4_method_14_code (6 : Nat) (Option.some Jvm.ClassFile.FieldType.int)) ∈ TB := TB_2 143 rfl rfl
theorem tw_384 : (Jvm.Cond.methodLink "ForesightHub$Hub" (84 : Nat) ({ cls := "ForesightHub$Hub", name := "matchingBits", desc := "(II)I" } : Jvm.MethodName)) ∈ TB := TB_2 144 rfl rfl
theorem tw_385 : (Jvm.Cond.instanceMethod ({ cls := "ForesightHub$Hub", name := "matchingBits", desc := "(II)I" } : Jvm.MethodName)) ∈ TB := TB_2 145 rfl rfl
theorem tw_386 : (Jvm.Cond.selects "ForesightHub$Hub" ({ cls := "ForesightHub$Hub", name := "matchingBits", desc := "(II)I" } : Jvm.MethodName) ({ cls := "ForesightHub$Hub", name := "matchingBits", desc := "(II)I" } : Jvm.MethodName)) ∈ TB := TB_2 146 rfl rfl
theorem tw_387 : (Jvm.Cond.code ({ cls := "ForesightHub$Hub", name := "matchingBits", desc := "(II)I" } : Jvm.MethodName) prog_4_method_15_code (5 : Nat) (Option.some Jvm.ClassFile.FieldType.int)) ∈ TB := TB_2 147 rfl rfl
theorem tw_388 : (Jvm.Cond.methodLink "ForesightHub$Hub" (93 : Nat) ({ cls := "ForesightHub$Hub", name := "matches", desc := "(III)Z" } : Jvm.MethodName)) ∈ TB := TB_2 148 rfl rfl
theorem tw_390 : (Jvm.Cond.instanceMethod ({ cls := "ForesightHub$Hub", name := "matches", desc := "(III)Z" } : Jvm.MethodName)) ∈ TB := TB_2 150 rfl rfl
theorem tw_391 : (Jvm.Cond.code ({ cls := "ForesightHub$Hub", name := "matches", desc := "(III)Z" } : Jvm.MethodName) prog_4_method_16_code (9 : Nat) (Option.some Jvm.ClassFile.FieldType.boolean)) ∈ TB := TB_2 151 rfl rfl
theorem tw_392 : (Jvm.Cond.methodLink "ForesightHub$Hub" (112 : Nat) ({ cls := "ForesightHub$ErrorBook", name := "staying", desc := "(I)I" } : Jvm.MethodName)) ∈ TB := TB_2 152 rfl rfl
theorem tw_393 : (Jvm.Cond.instanceMethod ({ cls := "ForesightHub$ErrorBook", name := "staying", desc := "(I)I" } : Jvm.MethodName)) ∈ TB := TB_2 153 rfl rfl
theorem tw_394 : (Jvm.Cond.selects "ForesightHub$ErrorBook" ({ cls := "ForesightHub$ErrorBook", name := "staying", desc := "(I)I" } : Jvm.MethodName) ({ cls := "ForesightHub$ErrorBook", name := "staying", desc := "(I)I" } : Jvm.MethodName)) ∈ TB := TB_2 154 rfl rfl
theorem tw_395 : (Jvm.Cond.code ({ cls := "ForesightHub$ErrorBook", name := "staying", desc := "(I)I" } : Jvm.MethodName) prog_2_method_11_code (2 : Nat) (Option.some Jvm.ClassFile.FieldType.int)) ∈ TB := TB_2 155 rfl rfl
theorem tw_396 : (Jvm.Cond.methodLink "ForesightHub$ErrorBook" (48 : Nat) ({ cls := "java/lang/Math", name := "min", desc := "(II)I" } : Jvm.MethodName)) ∈ TB := TB_2 156 rfl rfl
theorem tw_397 : (Jvm.Cond.static ({ cls := "java/lang/Math", name := "min", desc := "(II)I" } : Jvm.MethodName)) ∈ TB := TB_2 157 rfl rfl
theorem tw_398 : (Jvm.Cond.code ({ cls := "java/lang/Math", name := "min", desc := "(II)I" } : Jvm.MethodName) prog_16_method_69_code (2 : Nat) (Option.some Jvm.ClassFile.FieldType.int)) ∈ TB := TB_2 158 rfl rfl
theorem tw_399 : (Jvm.Cond.methodLink "ForesightHub$Hub" (115 : Nat) ({ cls := "ForesightHub$ErrorBook", name := "timeOf", desc := "(II)I" } : Jvm.MethodName)) ∈ TB := TB_2 159 rfl rfl
theorem tw_400 : (Jvm.Cond.instanceMethod ({ cls := "ForesightHub$ErrorBook", name := "timeOf", desc := "(II)I" } : Jvm.MethodName)) ∈ TB := TB_2 160 rfl rfl
theorem tw_401 : (Jvm.Cond.selects "ForesightHub$ErrorBook" ({ cls := "ForesightHub$ErrorBook", name := "timeOf", desc := "(II)I" } : Jvm.MethodName) ({ cls := "ForesightHub$ErrorBook", name := "timeOf", desc := "(II)I" } : Jvm.MethodName)) ∈ TB := TB_2 161 rfl rfl
theorem tw_402 : (Jvm.Cond.code ({ cls := "ForesightHub$ErrorBook", name := "timeOf", desc := "(II)I" } : Jvm.MethodName) prog_2_method_9_code (4 : Nat) (Option.some Jvm.ClassFile.FieldType.int)) ∈ TB := TB_2 162 rfl rfl
theorem tw_403 : (Jvm.Cond.methodLink "ForesightHub$ErrorBook" (44 : Nat) ({ cls := "ForesightHub$ErrorBook", name := "placeOf", desc := "(II)I" } : Jvm.MethodName)) ∈ TB := TB_2 163 rfl rfl
theorem tw_405 : (Jvm.Cond.instanceMethod ({ cls := "ForesightHub$ErrorBook", name := "placeOf", desc := "(II)I" } : Jvm.MethodName)) ∈ TB := TB_2 165 rfl rfl
theorem tw_406 : (Jvm.Cond.code ({ cls := "ForesightHub$ErrorBook", name := "placeOf", desc := "(II)I" } : Jvm.MethodName) prog_2_method_10_code (3 : Nat) (Option.some Jvm.ClassFile.FieldType.int)) ∈ TB := TB_2 166 rfl rfl
theorem tw_407 : (Jvm.Cond.methodLink "ForesightHub$Hub" (118 : Nat) ({ cls := "ForesightHub$ErrorBook", name := "kindOf", desc := "(II)I" } : Jvm.MethodName)) ∈ TB := TB_2 167 rfl rfl
theorem tw_408 : (Jvm.Cond.instanceMethod ({ cls := "ForesightHub$ErrorBook", name := "kindOf", desc := "(II)I" } : Jvm.MethodName)) ∈ TB := TB_2 168 rfl rfl
theorem tw_409 : (Jvm.Cond.selects "ForesightHub$ErrorBook" ({ cls := "ForesightHub$ErrorBook", name := "kindOf", desc := "(II)I" } : Jvm.MethodName) ({ cls := "ForesightHub$ErrorBook", name := "kindOf", desc := "(II)I" } : Jvm.MethodName)) ∈ TB := TB_2 169 rfl rfl
theorem tw_410 : (Jvm.Cond.code ({ cls := "ForesightHub$ErrorBook", name := "kindOf", desc := "(II)I" } : Jvm.MethodName) prog_2_method_8_code (4 : Nat) (Option.some Jvm.ClassFile.FieldType.int)) ∈ TB := TB_2 170 rfl rfl
theorem tw_411 : (Jvm.Cond.methodLink "ForesightHub$Hub" (121 : Nat) ({ cls := "ForesightHub$Hub", name := "isNextOf", desc := "(III)Z" } : Jvm.MethodName)) ∈ TB := TB_2 171 rfl rfl
theorem tw_413 : (Jvm.Cond.instanceMethod ({ cls := "ForesightHub$Hub", name := "isNextOf", desc := "(III)Z" } : Jvm.MethodName)) ∈ TB := TB_2 173 rfl rfl
theorem tw_414 : (Jvm.Cond.code ({ cls := "ForesightHub$Hub", name := "isNextOf", desc := "(III)Z" } : Jvm.MethodName) prog_4_method_17_code (4 : Nat) (Option.some Jvm.ClassFile.FieldType.boolean)) ∈ TB := TB_2 174 rfl rfl
theorem tw_415 : (Jvm.Cond.methodLink "ForesightHubLaw" (152 : Nat) ({ cls := "ForesightHub", name := "rightShare", desc := "()D" } : Jvm.MethodName)) ∈ TB := TB_2 175 rfl rfl
theorem tw_416 : (Jvm.Cond.instanceMethod ({ cls := "ForesightHub", name := "rightShare", desc := "()D" } : Jvm.MethodName)) ∈ TB := TB_2 176 rfl rfl
theorem tw_417 : (Jvm.Cond.selects "ForesightHub" ({ cls := "ForesightHub", name := "rightShare", desc := "()D" } : Jvm.MethodName) ({ cls := "ForesightHub", name := "rightShare", desc := "()D" } : Jvm.MethodName)) ∈ TB := TB_2 177 rfl rfl
theorem tw_418 : (Jvm.Cond.code ({ cls := "ForesightHub", name := "rightShare", desc := "()D" } : Jvm.MethodName) prog_1_method_19_code (3 : Nat) (Option.some Jvm.ClassFile.FieldType.double)) ∈ TB := TB_2 178 rfl rfl
theorem tw_419 : (Jvm.Cond.methodLink "ForesightHubLaw" (178 : Nat) ({ cls := "ForesightHub", name := "undo", desc := "()I" } : Jvm.MethodName)) ∈ TB := TB_2 179 rfl rfl
theorem tw_420 : (Jvm.Cond.instanceMethod ({ cls := "ForesightHub", name := "undo", desc := "()I" } : Jvm.MethodName)) ∈ TB := TB_2 180 rfl rfl
theorem tw_421 : (Jvm.Cond.selects "ForesightHub" ({ cls := "ForesightHub", name := "undo", desc := "()I" } : Jvm.MethodName) ({ cls := "ForesightHub", name := "undo", desc := "()I" } : Jvm.MethodName)) ∈ TB := TB_2 181 rfl rfl
theorem tw_422 : (Jvm.Cond.code ({ cls := "ForesightHub", name := "undo", desc := "()I" } : Jvm.MethodName) prog_1_method_27_code (1 : Nat) (Option.some Jvm.ClassFile.FieldType.int)) ∈ TB := TB_2 182 rfl rfl
theorem tw_423 : (Jvm.Cond.methodLink "ForesightHub" (292 : Nat) ({ cls := "ForesightHub$History", name := "takeBack", desc := "(LForesightHub$State;)Z" } : Jvm.MethodName)) ∈ TB := TB_2 183 rfl rfl
theorem tw_424 : (Jvm.Cond.instanceMethod ({ cls := "ForesightHub$History", name := "takeBack", desc := "(LForesightHub$State;)Z" } : Jvm.MethodName)) ∈ TB := TB_2 184 rfl rfl
theorem tw_425 : (Jvm.Cond.selects "ForesightHub$History" ({ cls := "ForesightHub$History", name := "takeBack", desc := "(LForesightHub$State;)Z" } : Jvm.MethodName) ({ cls := "ForesightHub$History", name := "takeBack", desc := "(LForesightHub$State;)Z" } : Jvm.MethodName)) ∈ TB := TB_2 185 rfl rfl
theorem tw_426 : (Jvm.Cond.code ({ cls := "ForesightHub$History", name := "takeBack", desc := "(LForesightHub$State;)Z" } : Jvm.MethodName) prog_3_method_4_code (2 : Nat) (Option.some Jvm.ClassFile.FieldType.boolean)) ∈ TB := TB_2 186 rfl rfl
theorem tw_427 : (Jvm.Cond.methodLink "ForesightHub$History" (33 : Nat) ({ cls := "java/lang/Math", name := "floorMod", desc := "(II)I" } : Jvm.MethodName)) ∈ TB := TB_2 187 rfl rfl
theorem tw_428 : (Jvm.Cond.static ({ cls := "java/lang/Math", name := "floorMod", desc := "(II)I" } : Jvm.MethodName)) ∈ TB := TB_2 188 rfl rfl
theorem tw_429 : (Jvm.Cond.code ({ cls := "java/lang/Math", name := "floorMod", desc := "(II)I" } : Jvm.MethodName) prog_16_method_50_code (3 : Nat) (Option.some Jvm.ClassFile.FieldType.int)) ∈ TB := TB_2 189 rfl rfl
theorem tw_430 : (Jvm.Cond.methodLink "ForesightHub$History" (23 : Nat) ({ cls := "ForesightHub$State", name := "copyFrom", desc := "(LForesightHub$State;)V" } : Jvm.MethodName)) ∈ TB := TB_2 190 rfl rfl
theorem tw_431 : (Jvm.Cond.instanceMethod ({ cls := "ForesightHub$State", name := "copyFrom", desc := "(LForesightHub$State;)V" } : Jvm.MethodName)) ∈ TB := TB_2 191 rfl rfl
theorem tw_432 : (Jvm.Cond.selects "ForesightHub$State" ({ cls := "ForesightHub$State", name := "copyFrom", desc := "(LForesightHub$State;)V" } : Jvm.MethodName) ({ cls := "ForesightHub$State", name := "copyFrom", desc := "(LForesightHub$State;)V" } : Jvm.MethodName)) ∈ TB := TB_2 192 rfl rfl
theorem tw_433 : (Jvm.Cond.code ({ cls := "ForesightHub$State", name := "copyFrom", desc := "(LForesightHub$State;)V" } : Jvm.MethodName) prog_8_method_3_code (2 : Nat) (Option.none : Option Jvm.ClassFile.FieldType)) ∈ TB := TB_2 193 rfl rfl
theorem tw_434 : (Jvm.Cond.methodLink "ForesightHub$State" (67 : Nat) ({ cls := "java/lang/System", name := "arraycopy", desc := "(Ljava/lang/Object;ILjava/lang/Object;II)V" } : Jvm.MethodName)) ∈ TB := TB_2 194 rfl rfl
theorem tw_435 : (Jvm.Cond.static ({ cls := "java/lang/System", name := "arraycopy", desc := "(Ljava/lang/Object;ILjava/lang/Object;II)V" } : Jvm.MethodName)) ∈ TB := TB_2 195 rfl rfl
theorem tw_436 : (Jvm.Cond.native ({ cls := "java/lang/System", name := "arraycopy", desc := "(Ljava/lang/Object;ILjava/lang/Object;II)V" } : Jvm.MethodName)) ∈ TB := TB_2 196 rfl rfl
theorem tw_437 : (Jvm.Cond.methodLink "ForesightHub$State" (73 : Nat) ({ cls := "ForesightHub$ErrorBook", name := "copyFrom", desc := "(LForesightHub$ErrorBook;)V" } : Jvm.MethodName)) ∈ TB := TB_2 197 rfl rfl
theorem tw_438 : (Jvm.Cond.instanceMethod ({ cls := "ForesightHub$ErrorBook", name := "copyFrom", desc := "(LForesightHub$ErrorBook;)V" } : Jvm.MethodName)) ∈ TB := TB_2 198 rfl rfl
theorem tw_439 : (Jvm.Cond.selects "ForesightHub$ErrorBook" ({ cls := "ForesightHub$ErrorBook", name := "copyFrom", desc := "(LForesightHub$ErrorBook;)V" } : Jvm.MethodName) ({ cls := "ForesightHub$ErrorBook", name := "copyFrom", desc := "(LForesightHub$ErrorBook;)V" } : Jvm.MethodName)) ∈ TB := TB_2 199 rfl rfl
theorem tw_440 : (Jvm.Cond.code ({ cls := "ForesightHub$ErrorBook", name := "copyFrom", desc := "(LForesightHub$ErrorBook;)V" } : Jvm.MethodName) prog_2_method_3_code (2 : Nat) (Option.none : Option Jvm.ClassFile.FieldType)) ∈ TB := TB_2 200 rfl rfl
theorem tw_441 : (Jvm.Cond.methodLink "ForesightHub$ErrorBook" (31 : Nat) ({ cls := "java/lang/System", name := "arraycopy", desc := "(Ljava/lang/Object;ILjava/lang/Object;II)V" } : Jvm.MethodName)) ∈ TB := TB_2 201 rfl rfl
theorem tw_442 : (Jvm.Cond.methodLink "ForesightHub$State" (77 : Nat) ({ cls := "ForesightHub$Log", name := "copyFrom", desc := "(LForesightHub$Log;)V" } : Jvm.MethodName)) ∈ TB := TB_2 202 rfl rfl
theorem tw_443 : (Jvm.Cond.instanceMethod ({ cls := "ForesightHub$Log", name := "copyFrom", desc := "(LForesightHub$Log;)V" } : Jvm.MethodName)) ∈ TB := TB_2 203 rfl rfl
theorem tw_444 : (Jvm.Cond.selects "ForesightHub$Log" ({ cls := "ForesightHub$Log", name := "copyFrom", desc := "(LForesightHub$Log;)V" } : Jvm.MethodName) ({ cls := "ForesightHub$Log", name := "copyFrom", desc := "(LForesightHub$Log;)V" } : Jvm.MethodName)) ∈ TB := TB_2 204 rfl rfl
theorem tw_445 : (Jvm.Cond.code ({ cls := "ForesightHub$Log", name := "copyFrom", desc := "(LForesightHub$Log;)V" } : Jvm.MethodName) prog_5_method_3_code (2 : Nat) (Option.none : Option Jvm.ClassFile.FieldType)) ∈ TB := TB_2 205 rfl rfl
theorem tw_446 : (Jvm.Cond.methodLink "ForesightHub$Log" (31 : Nat) ({ cls := "java/lang/System", name := "arraycopy", desc := "(Ljava/lang/Object;ILjava/lang/Object;II)V" } : Jvm.MethodName)) ∈ TB := TB_2 206 rfl rfl
theorem tw_447 : (Jvm.Cond.methodLink "ForesightHubLaw" (182 : Nat) ({ cls := "ForesightHub", name := "saveSnapshot", desc := "(I)Z" } : Jvm.MethodName)) ∈ TB := TB_2 207 rfl rfl
theorem tw_448 : (Jvm.Cond.instanceMethod ({ cls := "ForesightHub", name := "saveSnapshot", desc := "(I)Z" } : Jvm.MethodName)) ∈ TB := TB_2 208 rfl rfl
theorem tw_449 : (Jvm.Cond.selects "ForesightHub" ({ cls := "ForesightHub", name := "saveSnapshot", desc := "(I)Z" } : Jvm.MethodName) ({ cls := "ForesightHub", name := "saveSnapshot", desc := "(I)Z" } : Jvm.MethodName)) ∈ TB := TB_2 209 rfl rfl
theorem tw_450 : (Jvm.Cond.code ({ cls := "ForesightHub", name := "saveSnapshot", desc := "(I)Z" } : Jvm.MethodName) prog_1_method_28_code (2 : Nat) (Option.some Jvm.ClassFile.FieldType.boolean)) ∈ TB := TB_2 210 rfl rfl
theorem tw_451 : (Jvm.Cond.methodLink "ForesightHub" (296 : Nat) ({ cls := "ForesightHub$State", name := "copyFrom", desc := "(LForesightHub$State;)V" } : Jvm.MethodName)) ∈ TB := TB_2 211 rfl rfl
theorem tw_452 : (Jvm.Cond.methodLink "ForesightHubLaw" (187 : Nat) ({ cls := "ForesightHub", name := "restoreSnapshot", desc := "(I)Z" } : Jvm.MethodName)) ∈ TB := TB_2 212 rfl rfl
theorem tw_453 : (Jvm.Cond.instanceMethod ({ cls := "ForesightHub", name := "restoreSnapshot", desc := "(I)Z" } : Jvm.MethodName)) ∈ TB := TB_2 213 rfl rfl
theorem tw_454 : (Jvm.Cond.selects "ForesightHub" ({ cls := "ForesightHub", name := "restoreSnapshot", desc := "(I)Z" } : Jvm.MethodName) ({ cls := "ForesightHub", name := "restoreSnapshot", desc := "(I)Z" } : Jvm.MethodName)) ∈ TB := TB_2 214 rfl rfl
theorem tw_455 : (Jvm.Cond.code ({ cls := "ForesightHub", name := "restoreSnapshot", desc := "(I)Z" } : Jvm.MethodName) prog_1_method_29_code (2 : Nat) (Option.some Jvm.ClassFile.FieldType.boolean)) ∈ TB := TB_2 215 rfl rfl
theorem tw_456 : (Jvm.Cond.methodLink "ForesightHub" (79 : Nat) ({ cls := "ForesightHub$History", name := "clear", desc := "()V" } : Jvm.MethodName)) ∈ TB := TB_2 216 rfl rfl
theorem tw_457 : (Jvm.Cond.instanceMethod ({ cls := "ForesightHub$History", name := "clear", desc := "()V" } : Jvm.MethodName)) ∈ TB := TB_2 217 rfl rfl
theorem tw_458 : (Jvm.Cond.selects "ForesightHub$History" ({ cls := "ForesightHub$History", name := "clear", desc := "()V" } : Jvm.MethodName) ({ cls := "ForesightHub$History", name := "clear", desc := "()V" } : Jvm.MethodName)) ∈ TB := TB_2 218 rfl rfl
theorem tw_459 : (Jvm.Cond.code ({ cls := "ForesightHub$History", name := "clear", desc := "()V" } : Jvm.MethodName) prog_3_method_2_code (1 : Nat) (Option.none : Option Jvm.ClassFile.FieldType)) ∈ TB := TB_2 219 rfl rfl
theorem tw_460 : (Jvm.Cond.methodLink "ForesightHubLaw" (94 : Nat) ({ cls := "ForesightHubLaw", name := "parse", desc := "(LForesightHub;I[J)I" } : Jvm.MethodName)) ∈ TB := TB_2 220 rfl rfl
theorem tw_461 : (Jvm.Cond.static ({ cls := "ForesightHubLaw", name := "parse", desc := "(LForesightHub;I[J)I" } : Jvm.MethodName)) ∈ TB := TB_2 221 rfl rfl
theorem tw_462 : (Jvm.Cond.codeWith ({ cls := "ForesightHubLaw", name := "parse", desc := "(LForesightHub;I[J)I" } : Jvm.MethodName) method_3_code (4 : Nat) (Option.some Jvm.ClassFile.FieldType.int) [((0 : Nat), (9 : Nat), (12 : Nat), (13 : Nat))]) ∈ TB := TB_2 222 rfl rfl
theorem tw_463 : (Jvm.Cond.classLink "ForesightHubLaw" (13 : Nat) "java/lang/IllegalArgumentException") ∈ TB := TB_2 223 rfl rfl
theorem tw_464 : (Jvm.Cond.methodLink "ForesightHubLaw" (7 : Nat) ({ cls := "ForesightHub", name := "parse", desc := "(I)I" } : Jvm.MethodName)) ∈ TB := TB_2 224 rfl rfl
theorem tw_465 : (Jvm.Cond.instanceMethod ({ cls := "ForesightHub", name := "parse", desc := "(I)I" } : Jvm.MethodName)) ∈ TB := TB_2 225 rfl rfl
theorem tw_466 : (Jvm.Cond.selects "ForesightHub" ({ cls := "ForesightHub", name := "parse", desc := "(I)I" } : Jvm.MethodName) ({ cls := "ForesightHub", name := "parse", desc := "(I)I" } : Jvm.MethodName)) ∈ TB := TB_2 226 rfl rfl
theorem tw_467 : (Jvm.Cond.code ({ cls := "ForesightHub", name := "parse", desc := "(I)I" } : Jvm.MethodName) prog_1_method_3_code (4 : Nat) (Option.some Jvm.ClassFile.FieldType.int)) ∈ TB := TB_2 227 rfl rfl
theorem tw_468 : (Jvm.Cond.classLink "ForesightHub" (53 : Nat) "java/lang/IllegalArgumentException") ∈ TB := TB_2 228 rfl rfl
theorem tw_469 : (Jvm.Cond.instantiable "java/lang/IllegalArgumentException" (6 : Nat)) ∈ TB := TB_2 229 rfl rfl
theorem tw_477 : (Jvm.Cond.selects "java/lang/IllegalArgumentException" ({ cls := "java/lang/Throwable", name := "fillInStackTrace", desc := "(I)Ljava/lang/Throwable;" } : Jvm.MethodName) ({ cls := "java/lang/Throwable", name := "fillInStackTrace", desc := "(I)Ljava/lang/Throwable;" } : Jvm.MethodName)) ∈ TB := TB_2 237 rfl rfl
theorem tw_478 : (Jvm.Cond.selects "java/lang/IllegalArgumentException" ({ cls := "java/lang/Throwable", name := "fillInStackTrace", desc := "()Ljava/lang/Throwable;" } : Jvm.MethodName) ({ cls := "java/lang/Throwable", name := "fillInStackTrace", desc := "()Ljava/lang/Throwable;" } : Jvm.MethodName)) ∈ TB := TB_2 238 rfl rfl
theorem tw_489 : (Jvm.Cond.fieldLink "java/lang/Throwable" (198 : Nat) "java/lang/Throwable" "backtrace" "Ljava/lang/Object;") ∈ TB := TB_3 9 rfl rfl
theorem tw_490 : (Jvm.Cond.superclass "java/lang/Throwable" "java/lang/Object") ∈ TB := TB_3 10 rfl rfl
theorem tw_491 : (Jvm.Cond.instanceMethod ({ cls := "java/lang/Throwable", name := "<init>", desc := "()V" } : Jvm.MethodName)) ∈ TB := TB_3 11 rfl rfl
theorem tw_492 : (Jvm.Cond.code ({ cls := "java/lang/Throwable", name := "<init>", desc := "()V" } : Jvm.MethodName) prog_22_method_1_code (1 : Nat) (Option.none : Option Jvm.ClassFile.FieldType)) ∈ TB := TB_3 12 rfl rfl
theorem tw_493 : (Jvm.Cond.methodLink "java/lang/Throwable" (1 : Nat) ({ cls := "java/lang/Object", name := "<init>", desc := "()V" } : Jvm.MethodName)) ∈ TB := TB_3 13 rfl rfl
theorem tw_494 : (Jvm.Cond.fieldLink "java/lang/Throwable" (13 : Nat) "java/lang/Throwable" "UNASSIGNED_STACK" "[Ljava/lang/StackTraceElement;") ∈ TB := TB_3 14 rfl rfl
theorem tw_496 : (Jvm.Cond.fieldLink "java/lang/Throwable" (20 : Nat) "java/lang/Throwable" "SUPPRESSED_SENTINEL" "Ljava/util/List;") ∈ TB := TB_3 16 rfl rfl
theorem tw_498 : (Jvm.Cond.methodLink "java/lang/Throwable" (27 : Nat) ({ cls := "java/lang/Throwable", name := "fillInStackTrace", desc := "()Ljava/lang/Throwable;" } : Jvm.MethodName)) ∈ TB := TB_3 18 rfl rfl
theorem tw_499 : (Jvm.Cond.instanceMethod ({ cls := "java/lang/Throwable", name := "fillInStackTrace", desc := "()Ljava/lang/Throwable;" } : Jvm.MethodName)) ∈ TB := TB_3 19 rfl rfl
theorem tw_501 : (Jvm.Cond.selects "java/lang/IllegalStateException" ({ cls := "java/lang/Throwable", name := "fillInStackTrace", desc := "()Ljava/lang/Throwable;" } : Jvm.MethodName) ({ cls := "java/lang/Throwable", name := "fillInStackTrace", desc := "()Ljava/lang/Throwable;" } : Jvm.MethodName)) ∈ TB := TB_3 21 rfl rfl
theorem tw_502 : (Jvm.Cond.selects "java/lang/IndexOutOfBoundsException" ({ cls := "java/lang/Throwable", name := "fillInStackTrace", desc := "()Ljava/lang/Throwable;" } : Jvm.MethodName) ({ cls := "java/lang/Throwable", name := "fillInStackTrace", desc := "()Ljava/lang/Throwable;" } : Jvm.MethodName)) ∈ TB := TB_3 22 rfl rfl
theorem tw_504 : (Jvm.Cond.methodLink "java/lang/Throwable" (202 : Nat) ({ cls := "java/lang/Throwable", name := "fillInStackTrace", desc := "(I)Ljava/lang/Throwable;" } : Jvm.MethodName)) ∈ TB := TB_3 24 rfl rfl
theorem tw_506 : (Jvm.Cond.instanceMethod ({ cls := "java/lang/Throwable", name := "fillInStackTrace", desc := "(I)Ljava/lang/Throwable;" } : Jvm.MethodName)) ∈ TB := TB_3 26 rfl rfl
theorem tw_507 : (Jvm.Cond.instantiable "java/lang/Throwable" (6 : Nat)) ∈ TB := TB_3 27 rfl rfl
theorem tw_508 : (Jvm.Cond.native ({ cls := "java/lang/Throwable", name := "fillInStackTrace", desc := "(I)Ljava/lang/Throwable;" } : Jvm.MethodName)) ∈ TB := TB_3 28 rfl rfl
theorem tw_510 : (Jvm.Cond.methodLink "ForesightHub" (57 : Nat) ({ cls := "java/lang/IllegalArgumentException", name := "<init>", desc := "(Ljava/lang/String;)V" } : Jvm.MethodName)) ∈ TB := TB_3 30 rfl rfl
theorem tw_511 : (Jvm.Cond.instanceMethod ({ cls := "java/lang/IllegalArgumentException", name := "<init>", desc := "(Ljava/lang/String;)V" } : Jvm.MethodName)) ∈ TB := TB_3 31 rfl rfl
theorem tw_512 : (Jvm.Cond.code ({ cls := "java/lang/IllegalArgumentException", name := "<init>", desc := "(Ljava/lang/String;)V" } : Jvm.MethodName) prog_12_method_2_code (2 : Nat) (Option.none : Option Jvm.ClassFile.FieldType)) ∈ TB := TB_3 32 rfl rfl
theorem tw_513 : (Jvm.Cond.methodLink "java/lang/IllegalArgumentException" (7 : Nat) ({ cls := "java/lang/RuntimeException", name := "<init>", desc := "(Ljava/lang/String;)V" } : Jvm.MethodName)) ∈ TB := TB_3 33 rfl rfl
theorem tw_514 : (Jvm.Cond.instanceMethod ({ cls := "java/lang/RuntimeException", name := "<init>", desc := "(Ljava/lang/String;)V" } : Jvm.MethodName)) ∈ TB := TB_3 34 rfl rfl
theorem tw_515 : (Jvm.Cond.code ({ cls := "java/lang/RuntimeException", name := "<init>", desc := "(Ljava/lang/String;)V" } : Jvm.MethodName) prog_17_method_2_code (2 : Nat) (Option.none : Option Jvm.ClassFile.FieldType)) ∈ TB := TB_3 35 rfl rfl
theorem tw_516 : (Jvm.Cond.methodLink "java/lang/RuntimeException" (7 : Nat) ({ cls := "java/lang/Exception", name := "<init>", desc := "(Ljava/lang/String;)V" } : Jvm.MethodName)) ∈ TB := TB_3 36 rfl rfl
theorem tw_517 : (Jvm.Cond.instanceMethod ({ cls := "java/lang/Exception", name := "<init>", desc := "(Ljava/lang/String;)V" } : Jvm.MethodName)) ∈ TB := TB_3 37 rfl rfl
theorem tw_518 : (Jvm.Cond.code ({ cls := "java/lang/Exception", name := "<init>", desc := "(Ljava/lang/String;)V" } : Jvm.MethodName) prog_11_method_2_code (2 : Nat) (Option.none : Option Jvm.ClassFile.FieldType)) ∈ TB := TB_3 38 rfl rfl
theorem tw_519 : (Jvm.Cond.methodLink "java/lang/Exception" (7 : Nat) ({ cls := "java/lang/Throwable", name := "<init>", desc := "(Ljava/lang/String;)V" } : Jvm.MethodName)) ∈ TB := TB_3 39 rfl rfl
theorem tw_520 : (Jvm.Cond.instanceMethod ({ cls := "java/lang/Throwable", name := "<init>", desc := "(Ljava/lang/String;)V" } : Jvm.MethodName)) ∈ TB := TB_3 40 rfl rfl
theorem tw_521 : (Jvm.Cond.code ({ cls := "java/lang/Throwable", name := "<init>", desc := "(Ljava/lang/String;)V" } : Jvm.MethodName) prog_22_method_2_code (2 : Nat) (Option.none : Option Jvm.ClassFile.FieldType)) ∈ TB := TB_3 41 rfl rfl
theorem tw_522 : (Jvm.Cond.fieldLink "java/lang/Throwable" (198 : Nat) "java/lang/Throwable" "backtrace" "Ljava/lang/Object;") ∈ TB := TB_3 42 rfl rfl
theorem tw_523 : (Jvm.Cond.fieldLink "java/lang/Throwable" (31 : Nat) "java/lang/Throwable" "detailMessage" "Ljava/lang/String;") ∈ TB := TB_3 43 rfl rfl
theorem tw_524 : (Jvm.Cond.fieldLink "java/lang/Throwable" (7 : Nat) "java/lang/Throwable" "cause" "Ljava/lang/Throwable;") ∈ TB := TB_3 44 rfl rfl
theorem tw_525 : (Jvm.Cond.fieldLink "java/lang/Throwable" (17 : Nat) "java/lang/Throwable" "stackTrace" "[Ljava/lang/StackTraceElement;") ∈ TB := TB_3 45 rfl rfl
theorem tw_526 : (Jvm.Cond.fieldLink "java/lang/Throwable" (24 : Nat) "java/lang/Throwable" "suppressedExceptions" "Ljava/util/List;") ∈ TB := TB_3 46 rfl rfl
theorem tw_534 : (Jvm.Cond.superclass "java/lang/IllegalArgumentException" "java/lang/RuntimeException") ∈ TB := TB_3 54 rfl rfl
theorem tw_535 : (Jvm.Cond.methodLink "ForesightHub" (60 : Nat) ({ cls := "ForesightHub$Reader", name := "read", desc := "(I)Z" } : Jvm.MethodName)) ∈ TB := TB_3 55 rfl rfl
theorem tw_536 : (Jvm.Cond.instanceMethod ({ cls := "ForesightHub$Reader", name := "read", desc := "(I)Z" } : Jvm.MethodName)) ∈ TB := TB_3 56 rfl rfl
theorem tw_537 : (Jvm.Cond.selects "ForesightHub$Reader" ({ cls := "ForesightHub$Reader", name := "read", desc := "(I)Z" } : Jvm.MethodName) ({ cls := "ForesightHub$Reader", name := "read", desc := "(I)Z" } : Jvm.MethodName)) ∈ TB := TB_3 57 rfl rfl
theorem tw_538 : (Jvm.Cond.code ({ cls := "ForesightHub$Reader", name := "read", desc := "(I)Z" } : Jvm.MethodName) prog_7_method_6_code (3 : Nat) (Option.some Jvm.ClassFile.FieldType.boolean)) ∈ TB := TB_3 58 rfl rfl
theorem tw_539 : (Jvm.Cond.methodLink "ForesightHub$Reader" (42 : Nat) ({ cls := "java/lang/Math", name := "min", desc := "(II)I" } : Jvm.MethodName)) ∈ TB := TB_3 59 rfl rfl
theorem tw_540 : (Jvm.Cond.methodLink "ForesightHub$Reader" (48 : Nat) ({ cls := "java/lang/Math", name := "max", desc := "(II)I" } : Jvm.MethodName)) ∈ TB := TB_3 60 rfl rfl
theorem tw_541 : (Jvm.Cond.static ({ cls := "java/lang/Math", name := "max", desc := "(II)I" } : Jvm.MethodName)) ∈ TB := TB_3 61 rfl rfl
theorem tw_542 : (Jvm.Cond.code ({ cls := "java/lang/Math", name := "max", desc := "(II)I" } : Jvm.MethodName) prog_16_method_65_code (2 : Nat) (Option.some Jvm.ClassFile.FieldType.int)) ∈ TB := TB_3 62 rfl rfl
theorem tw_543 : (Jvm.Cond.methodLink "ForesightHub$Reader" (61 : Nat) ({ cls := "ForesightHub$Plan", name := "clear", desc := "()V" } : Jvm.MethodName)) ∈ TB := TB_3 63 rfl rfl
theorem tw_544 : (Jvm.Cond.methodLink "ForesightHub$Reader" (64 : Nat) ({ cls := "ForesightHub$Reader", name := "advance", desc := "()V" } : Jvm.MethodName)) ∈ TB := TB_3 64 rfl rfl
theorem tw_546 : (Jvm.Cond.instanceMethod ({ cls := "ForesightHub$Reader", name := "advance", desc := "()V" } : Jvm.MethodName)) ∈ TB := TB_3 66 rfl rfl
theorem tw_547 : (Jvm.Cond.code ({ cls := "ForesightHub$Reader", name := "advance", desc := "()V" } : Jvm.MethodName) prog_7_method_23_code (3 : Nat) (Option.none : Option Jvm.ClassFile.FieldType)) ∈ TB := TB_3 67 rfl rfl
theorem tw_548 : (Jvm.Cond.methodLink "ForesightHub$Reader" (209 : Nat) ({ cls := "ForesightHub$Reader", name := "kindOfSign", desc := "(I)I" } : Jvm.MethodName)) ∈ TB := TB_3 68 rfl rfl
theorem tw_549 : (Jvm.Cond.static ({ cls := "ForesightHub$Reader", name := "kindOfSign", desc := "(I)I" } : Jvm.MethodName)) ∈ TB := TB_3 69 rfl rfl
theorem tw_550 : (Jvm.Cond.code ({ cls := "ForesightHub$Reader", name := "kindOfSign", desc := "(I)I" } : Jvm.MethodName) prog_7_method_24_code (1 : Nat) (Option.some Jvm.ClassFile.FieldType.int)) ∈ TB := TB_3 70 rfl rfl
theorem tw_551 : (Jvm.Cond.methodLink "ForesightHub$Reader" (67 : Nat) ({ cls := "ForesightHub$Reader", name := "readHeader", desc := "()Z" } : Jvm.MethodName)) ∈ TB := TB_3 71 rfl rfl
theorem tw_553 : (Jvm.Cond.instanceMethod ({ cls := "ForesightHub$Reader", name := "readHeader", desc := "()Z" } : Jvm.MethodName)) ∈ TB := TB_3 73 rfl rfl
theorem tw_554 : (Jvm.Cond.code ({ cls := "ForesightHub$Reader", name := "readHeader", desc := "()Z" } : Jvm.MethodName) prog_7_method_7_code (1 : Nat) (Option.some Jvm.ClassFile.FieldType.boolean)) ∈ TB := TB_3 74 rfl rfl
theorem tw_556 : (Jvm.Cond.methodLink "ForesightHub$Reader" (83 : Nat) ({ cls := "ForesightHub$Reader", name := "isWord", desc := "(Ljava/lang/String;)Z" } : Jvm.MethodName)) ∈ TB := TB_3 76 rfl rfl
theorem tw_558 : (Jvm.Cond.instanceMethod ({ cls := "ForesightHub$Reader", name := "isWord", desc := "(Ljava/lang/String;)Z" } : Jvm.MethodName)) ∈ TB := TB_3 78 rfl rfl
theorem tw_559 : (Jvm.Cond.code ({ cls := "ForesightHub$Reader", name := "isWord", desc := "(Ljava/lang/String;)Z" } : Jvm.MethodName) prog_7_method_21_code (3 : Nat) (Option.some Jvm.ClassFile.FieldType.boolean)) ∈ TB := TB_3 79 rfl rfl
theorem tw_560 : (Jvm.Cond.methodLink "ForesightHub$Reader" (200 : Nat) ({ cls := "java/lang/String", name := "length", desc := "()I" } : Jvm.MethodName)) ∈ TB := TB_3 80 rfl rfl
theorem tw_561 : (Jvm.Cond.instanceMethod ({ cls := "java/lang/String", name := "length", desc := "()I" } : Jvm.MethodName)) ∈ TB := TB_3 81 rfl rfl
theorem tw_562 : (Jvm.Cond.selects "java/lang/String" ({ cls := "java/lang/String", name := "length", desc := "()I" } : Jvm.MethodName) ({ cls := "java/lang/String", name := "length", desc := "()I" } : Jvm.MethodName)) ∈ TB := TB_3 82 rfl rfl
theorem tw_563 : (Jvm.Cond.code ({ cls := "java/lang/String", name := "length", desc := "()I" } : Jvm.MethodName) prog_18_method_54_code (1 : Nat) (Option.some Jvm.ClassFile.FieldType.int)) ∈ TB := TB_3 83 rfl rfl
theorem tw_564 : (Jvm.Cond.methodLink "java/lang/String" (335 : Nat) ({ cls := "java/lang/String", name := "coder", desc := "()B" } : Jvm.MethodName)) ∈ TB := TB_3 84 rfl rfl
theorem tw_565 : (Jvm.Cond.instanceMethod ({ cls := "java/lang/String", name := "coder", desc := "()B" } : Jvm.MethodName)) ∈ TB := TB_3 85 rfl rfl
theorem tw_566 : (Jvm.Cond.selects "java/lang/String" ({ cls := "java/lang/String", name := "coder", desc := "()B" } : Jvm.MethodName) ({ cls := "java/lang/String", name := "coder", desc := "()B" } : Jvm.MethodName)) ∈ TB := TB_3 86 rfl rfl
theorem tw_567 : (Jvm.Cond.code ({ cls := "java/lang/String", name := "coder", desc := "()B" } : Jvm.MethodName) prog_18_method_152_code (1 : Nat) (Option.some Jvm.ClassFile.FieldType.byte)) ∈ TB := TB_3 87 rfl rfl
theorem tw_568 : (Jvm.Cond.fieldLink "java/lang/String" (38 : Nat) "java/lang/String" "COMPACT_STRINGS" "Z") ∈ TB := TB_3 88 rfl rfl
theorem tw_570 : (Jvm.Cond.methodLink "ForesightHub$Reader" (205 : Nat) ({ cls := "java/lang/String", name := "charAt", desc := "(I)C" } : Jvm.MethodName)) ∈ TB := TB_3 90 rfl rfl
theorem tw_571 : (Jvm.Cond.instanceMethod ({ cls := "java/lang/String", name := "charAt", desc := "(I)C" } : Jvm.MethodName)) ∈ TB := TB_3 91 rfl rfl
theorem tw_572 : (Jvm.Cond.selects "java/lang/String" ({ cls := "java/lang/String", name := "charAt", desc := "(I)C" } : Jvm.MethodName) ({ cls := "java/lang/String", name := "charAt", desc := "(I)C" } : Jvm.MethodName)) ∈ TB := TB_3 92 rfl rfl
theorem tw_573 : (Jvm.Cond.code ({ cls := "java/lang/String", name := "charAt", desc := "(I)C" } : Jvm.MethodName) prog_18_method_56_code (2 : Nat) (Option.some Jvm.ClassFile.FieldType.char)) ∈ TB := TB_3 93 rfl rfl
theorem tw_574 : (Jvm.Cond.methodLink "java/lang/String" (492 : Nat) ({ cls := "java/lang/String", name := "isLatin1", desc := "()Z" } : Jvm.MethodName)) ∈ TB := TB_3 94 rfl rfl
theorem tw_575 : (Jvm.Cond.instanceMethod ({ cls := "java/lang/String", name := "isLatin1", desc := "()Z" } : Jvm.MethodName)) ∈ TB := TB_3 95 rfl rfl
theorem tw_576 : (Jvm.Cond.selects "java/lang/String" ({ cls := "java/lang/String", name := "isLatin1", desc := "()Z" } : Jvm.MethodName) ({ cls := "java/lang/String", name := "isLatin1", desc := "()Z" } : Jvm.MethodName)) ∈ TB := TB_3 96 rfl rfl
theorem tw_577 : (Jvm.Cond.code ({ cls := "java/lang/String", name := "isLatin1", desc := "()Z" } : Jvm.MethodName) prog_18_method_154_code (1 : Nat) (Option.some Jvm.ClassFile.FieldType.boolean)) ∈ TB := TB_3 97 rfl rfl
theorem tw_578 : (Jvm.Cond.methodLink "java/lang/String" (495 : Nat) ({ cls := "java/lang/StringLatin1", name := "charAt", desc := "([BI)C" } : Jvm.MethodName)) ∈ TB := TB_3 98 rfl rfl
theorem tw_579 : (Jvm.Cond.static ({ cls := "java/lang/StringLatin1", name := "charAt", desc := "([BI)C" } : Jvm.MethodName)) ∈ TB := TB_3 99 rfl rfl
theorem tw_580 : (Jvm.Cond.code ({ cls := "java/lang/StringLatin1", name := "charAt", desc := "([BI)C" } : Jvm.MethodName) prog_19_method_2_code (2 : Nat) (Option.some Jvm.ClassFile.FieldType.char)) ∈ TB := TB_3 100 rfl rfl
theorem tw_581 : (Jvm.Cond.methodLink "java/lang/StringLatin1" (9 : Nat) ({ cls := "java/lang/String", name := "checkIndex", desc := "(II)V" } : Jvm.MethodName)) ∈ TB := TB_3 101 rfl rfl
theorem tw_582 : (Jvm.Cond.static ({ cls := "java/lang/String", name := "checkIndex", desc := "(II)V" } : Jvm.MethodName)) ∈ TB := TB_3 102 rfl rfl
theorem tw_583 : (Jvm.Cond.code ({ cls := "java/lang/String", name := "checkIndex", desc := "(II)V" } : Jvm.MethodName) prog_18_method_155_code (2 : Nat) (Option.none : Option Jvm.ClassFile.FieldType)) ∈ TB := TB_3 103 rfl rfl
theorem tw_584 : (Jvm.Cond.fieldLink "java/lang/String" (1053 : Nat) "jdk/internal/util/Preconditions" "SIOOBE_FORMATTER" "Ljava/util/function/BiFunction;") ∈ TB := TB_3 104 rfl rfl
theorem tw_586 : (Jvm.Cond.methodLink "java/lang/String" (1059 : Nat) ({ cls := "jdk/internal/util/Preconditions", name := "checkIndex", desc := "(IILjava/util/function/BiFunction;)I" } : Jvm.MethodName)) ∈ TB := TB_3 106 rfl rfl
theorem tw_587 : (Jvm.Cond.static ({ cls := "jdk/internal/util/Preconditions", name := "checkIndex", desc := "(IILjava/util/function/BiFunction;)I" } : Jvm.MethodName)) ∈ TB := TB_3 107 rfl rfl
theorem tw_588 : (Jvm.Cond.code ({ cls := "jdk/internal/util/Preconditions", name := "checkIndex", desc := "(IILjava/util/function/BiFunction;)I" } : Jvm.MethodName) prog_23_method_11_code (3 : Nat) (Option.some Jvm.ClassFile.FieldType.int)) ∈ TB := TB_3 108 rfl rfl
theorem tw_589 : (Jvm.Cond.methodLink "java/lang/String" (498 : Nat) ({ cls := "java/lang/StringUTF16", name := "charAt", desc := "([BI)C" } : Jvm.MethodName)) ∈ TB := TB_3 109 rfl rfl
theorem tw_590 : (Jvm.Cond.static ({ cls := "java/lang/StringUTF16", name := "charAt", desc := "([BI)C" } : Jvm.MethodName)) ∈ TB := TB_3 110 rfl rfl
theorem tw_591 : (Jvm.Cond.code ({ cls := "java/lang/StringUTF16", name := "charAt", desc := "([BI)C" } : Jvm.MethodName) prog_20_method_83_code (2 : Nat) (Option.some Jvm.ClassFile.FieldType.char)) ∈ TB := TB_3 111 rfl rfl
theorem tw_592 : (Jvm.Cond.methodLink "java/lang/StringUTF16" (67 : Nat) ({ cls := "java/lang/StringUTF16", name := "checkIndex", desc := "(I[B)V" } : Jvm.MethodName)) ∈ TB := TB_3 112 rfl rfl
theorem tw_593 : (Jvm.Cond.static ({ cls := "java/lang/StringUTF16", name := "checkIndex", desc := "(I[B)V" } : Jvm.MethodName)) ∈ TB := TB_3 113 rfl rfl
theorem tw_594 : (Jvm.Cond.code ({ cls := "java/lang/StringUTF16", name := "checkIndex", desc := "(I[B)V" } : Jvm.MethodName) prog_20_method_91_code (2 : Nat) (Option.none : Option Jvm.ClassFile.FieldType)) ∈ TB := TB_3 114 rfl rfl
theorem tw_595 : (Jvm.Cond.methodLink "java/lang/StringUTF16" (48 : Nat) ({ cls := "java/lang/StringUTF16", name := "length", desc := "([B)I" } : Jvm.MethodName)) ∈ TB := TB_3 115 rfl rfl
theorem tw_596 : (Jvm.Cond.static ({ cls := "java/lang/StringUTF16", name := "length", desc := "([B)I" } : Jvm.MethodName)) ∈ TB := TB_3 116 rfl rfl
theorem tw_597 : (Jvm.Cond.code ({ cls := "java/lang/StringUTF16", name := "length", desc := "([B)I" } : Jvm.MethodName) prog_20_method_6_code (1 : Nat) (Option.some Jvm.ClassFile.FieldType.int)) ∈ TB := TB_3 117 rfl rfl
theorem tw_598 : (Jvm.Cond.methodLink "java/lang/StringUTF16" (414 : Nat) ({ cls := "java/lang/String", name := "checkIndex", desc := "(II)V" } : Jvm.MethodName)) ∈ TB := TB_3 118 rfl rfl
theorem tw_599 : (Jvm.Cond.methodLink "java/lang/StringUTF16" (71 : Nat) ({ cls := "java/lang/StringUTF16", name := "getChar", desc := "([BI)C" } : Jvm.MethodName)) ∈ TB := TB_3 119 rfl rfl
theorem tw_600 : (Jvm.Cond.static ({ cls := "java/lang/StringUTF16", name := "getChar", desc := "([BI)C" } : Jvm.MethodName)) ∈ TB := TB_3 120 rfl rfl
theorem tw_601 : (Jvm.Cond.code ({ cls := "java/lang/StringUTF16", name := "getChar", desc := "([BI)C" } : Jvm.MethodName) prog_20_method_5_code (2 : Nat) (Option.some Jvm.ClassFile.FieldType.char)) ∈ TB := TB_3 121 rfl rfl
theorem tw_602 : (Jvm.Cond.fieldLink "java/lang/StringUTF16" (44 : Nat) "java/lang/StringUTF16" "$assertionsDisabled" "Z") ∈ TB := TB_3 122 rfl rfl
theorem tw_604 : (Jvm.Cond.fieldLink "java/lang/StringUTF16" (59 : Nat) "java/lang/StringUTF16" "HI_BYTE_SHIFT" "I") ∈ TB := TB_3 124 rfl rfl
theorem tw_606 : (Jvm.Cond.fieldLink "java/lang/StringUTF16" (63 : Nat) "java/lang/StringUTF16" "LO_BYTE_SHIFT" "I") ∈ TB := TB_3 126 rfl rfl
theorem tw_608 : (Jvm.Cond.methodLink "ForesightHub$Reader" (77 : Nat) ({ cls := "ForesightHub$Reader", name := "fault", desc := "(I)Z" } : Jvm.MethodName)) ∈ TB := TB_3 128 rfl rfl
theorem tw_610 : (Jvm.Cond.instanceMethod ({ cls := "ForesightHub$Reader", name := "fault", desc := "(I)Z" } : Jvm.MethodName)) ∈ TB := TB_3 130 rfl rfl
theorem tw_611 : (Jvm.Cond.code ({ cls := "ForesightHub$Reader", name := "fault", desc := "(I)Z" } : Jvm.MethodName) prog_7_method_22_code (2 : Nat) (Option.some Jvm.ClassFile.FieldType.boolean)) ∈ TB := TB_3 131 rfl rfl
theorem tw_612 : (Jvm.Cond.methodLink "ForesightHub$Reader" (87 : Nat) ({ cls := "ForesightHub$Reader", name := "isNumberWithin", desc := "(II)Z" } : Jvm.MethodName)) ∈ TB := TB_3 132 rfl rfl
theorem tw_614 : (Jvm.Cond.instanceMethod ({ cls := "ForesightHub$Reader", name := "isNumberWithin", desc := "(II)Z" } : Jvm.MethodName)) ∈ TB := TB_3 134 rfl rfl
theorem tw_615 : (Jvm.Cond.code ({ cls := "ForesightHub$Reader", name := "isNumberWithin", desc := "(II)Z" } : Jvm.MethodName) prog_7_method_17_code (3 : Nat) (Option.some Jvm.ClassFile.FieldType.boolean)) ∈ TB := TB_3 135 rfl rfl
theorem tw_616 : (Jvm.Cond.methodLink "ForesightHub$Reader" (101 : Nat) ({ cls := "ForesightHub$Reader", name := "takeSemicolon", desc := "()Z" } : Jvm.MethodName)) ∈ TB := TB_3 136 rfl rfl
theorem tw_618 : (Jvm.Cond.instanceMethod ({ cls := "ForesightHub$Reader", name := "takeSemicolon", desc := "()Z" } : Jvm.MethodName)) ∈ TB := TB_3 138 rfl rfl
theorem tw_619 : (Jvm.Cond.code ({ cls := "ForesightHub$Reader", name := "takeSemicolon", desc := "()Z" } : Jvm.MethodName) prog_7_method_14_code (1 : Nat) (Option.some Jvm.ClassFile.FieldType.boolean)) ∈ TB := TB_3 139 rfl rfl
theorem tw_620 : (Jvm.Cond.methodLink "ForesightHub$Reader" (74 : Nat) ({ cls := "ForesightHub$Reader", name := "readStatement", desc := "()Z" } : Jvm.MethodName)) ∈ TB := TB_3 140 rfl rfl
theorem tw_622 : (Jvm.Cond.instanceMethod ({ cls := "ForesightHub$Reader", name := "readStatement", desc := "()Z" } : Jvm.MethodName)) ∈ TB := TB_3 142 rfl rfl
theorem tw_623 : (Jvm.Cond.code ({ cls := "ForesightHub$Reader", name := "readStatement", desc := "()Z" } : Jvm.MethodName) prog_7_method_8_code (1 : Nat) (Option.some Jvm.ClassFile.FieldType.boolean)) ∈ TB := TB_3 143 rfl rfl
theorem tw_625 : (Jvm.Cond.methodLink "ForesightHub$Reader" (106 : Nat) ({ cls := "ForesightHub$Reader", name := "readPattern", desc := "()Z" } : Jvm.MethodName)) ∈ TB := TB_3 145 rfl rfl
theorem tw_627 : (Jvm.Cond.instanceMethod ({ cls := "ForesightHub$Reader", name := "readPattern", desc := "()Z" } : Jvm.MethodName)) ∈ TB := TB_3 147 rfl rfl
theorem tw_628 : (Jvm.Cond.code ({ cls := "ForesightHub$Reader", name := "readPattern", desc := "()Z" } : Jvm.MethodName) prog_7_method_9_code (2 : Nat) (Option.some Jvm.ClassFile.FieldType.boolean)) ∈ TB := TB_3 148 rfl rfl
theorem tw_629 : (Jvm.Cond.methodLink "ForesightHub$Reader" (127 : Nat) ({ cls := "ForesightHub$Reader", name := "takeNewName", desc := "([JI)Z" } : Jvm.MethodName)) ∈ TB := TB_3 149 rfl rfl
theorem tw_631 : (Jvm.Cond.instanceMethod ({ cls := "ForesightHub$Reader", name := "takeNewName", desc := "([JI)Z" } : Jvm.MethodName)) ∈ TB := TB_3 151 rfl rfl
theorem tw_632 : (Jvm.Cond.code ({ cls := "ForesightHub$Reader", name := "takeNewName", desc := "([JI)Z" } : Jvm.MethodName) prog_7_method_15_code (3 : Nat) (Option.some Jvm.ClassFile.FieldType.boolean)) ∈ TB := TB_3 152 rfl rfl
theorem tw_633 : (Jvm.Cond.methodLink "ForesightHub$Reader" (167 : Nat) ({ cls := "ForesightHub$Reader", name := "indexOfWord", desc := "([JI)I" } : Jvm.MethodName)) ∈ TB := TB_3 153 rfl rfl
theorem tw_635 : (Jvm.Cond.instanceMethod ({ cls := "ForesightHub$Reader", name := "indexOfWord", desc := "([JI)I" } : Jvm.MethodName)) ∈ TB := TB_3 155 rfl rfl
theorem tw_636 : (Jvm.Cond.code ({ cls := "ForesightHub$Reader", name := "indexOfWord", desc := "([JI)I" } : Jvm.MethodName) prog_7_method_19_code (4 : Nat) (Option.some Jvm.ClassFile.FieldType.int)) ∈ TB := TB_3 156 rfl rfl
theorem tw_637 : (Jvm.Cond.methodLink "ForesightHub$Reader" (138 : Nat) ({ cls := "ForesightHub$Reader", name := "readPatternErrors", desc := "(I)Z" } : Jvm.MethodName)) ∈ TB := TB_3 157 rfl rfl
theorem tw_639 : (Jvm.Cond.instanceMethod ({ cls := "ForesightHub$Reader", name := "readPatternErrors", desc := "(I)Z" } : Jvm.MethodName)) ∈ TB := TB_3 159 rfl rfl
theorem tw_640 : (Jvm.Cond.code ({ cls := "ForesightHub$Reader", name := "readPatternErrors", desc := "(I)Z" } : Jvm.MethodName) prog_7_method_10_code (3 : Nat) (Option.some Jvm.ClassFile.FieldType.boolean)) ∈ TB := TB_3 160 rfl rfl
theorem tw_641 : (Jvm.Cond.methodLink "ForesightHub$Reader" (141 : Nat) ({ cls := "ForesightHub$Reader", name := "kindOfWord", desc := "()I" } : Jvm.MethodName)) ∈ TB := TB_3 161 rfl rfl
theorem tw_643 : (Jvm.Cond.instanceMethod ({ cls := "ForesightHub$Reader", name := "kindOfWord", desc := "()I" } : Jvm.MethodName)) ∈ TB := TB_3 163 rfl rfl
theorem tw_644 : (Jvm.Cond.code ({ cls := "ForesightHub$Reader", name := "kindOfWord", desc := "()I" } : Jvm.MethodName) prog_7_method_20_code (1 : Nat) (Option.some Jvm.ClassFile.FieldType.int)) ∈ TB := TB_3 164 rfl rfl
theorem tw_650 : (Jvm.Cond.methodLink "ForesightHub$Reader" (111 : Nat) ({ cls := "ForesightHub$Reader", name := "readDevice", desc := "()Z" } : Jvm.MethodName)) ∈ TB := TB_3 170 rfl rfl
theorem tw_652 : (Jvm.Cond.instanceMethod ({ cls := "ForesightHub$Reader", name := "readDevice", desc := "()Z" } : Jvm.MethodName)) ∈ TB := TB_3 172 rfl rfl
theorem tw_653 : (Jvm.Cond.code ({ cls := "ForesightHub$Reader", name := "readDevice", desc := "()Z" } : Jvm.MethodName) prog_7_method_11_code (2 : Nat) (Option.some Jvm.ClassFile.FieldType.boolean)) ∈ TB := TB_3 173 rfl rfl
theorem tw_654 : (Jvm.Cond.methodLink "ForesightHub$Reader" (154 : Nat) ({ cls := "ForesightHub$Reader", name := "isTakenPort", desc := "(I)Z" } : Jvm.MethodName)) ∈ TB := TB_3 174 rfl rfl
theorem tw_656 : (Jvm.Cond.instanceMethod ({ cls := "ForesightHub$Reader", name := "isTakenPort", desc := "(I)Z" } : Jvm.MethodName)) ∈ TB := TB_3 176 rfl rfl
theorem tw_657 : (Jvm.Cond.code ({ cls := "ForesightHub$Reader", name := "isTakenPort", desc := "(I)Z" } : Jvm.MethodName) prog_7_method_18_code (3 : Nat) (Option.some Jvm.ClassFile.FieldType.boolean)) ∈ TB := TB_3 177 rfl rfl
theorem tw_659 : (Jvm.Cond.methodLink "ForesightHub$Reader" (164 : Nat) ({ cls := "ForesightHub$Reader", name := "isKnownDevice", desc := "()Z" } : Jvm.MethodName)) ∈ TB := TB_3 179 rfl rfl
theorem tw_661 : (Jvm.Cond.instanceMethod ({ cls := "ForesightHub$Reader", name := "isKnownDevice", desc := "()Z" } : Jvm.MethodName)) ∈ TB := TB_3 181 rfl rfl
theorem tw_662 : (Jvm.Cond.code ({ cls := "ForesightHub$Reader", name := "isKnownDevice", desc := "()Z" } : Jvm.MethodName) prog_7_method_16_code (1 : Nat) (Option.some Jvm.ClassFile.FieldType.boolean)) ∈ TB := TB_3 182 rfl rfl
theorem tw_664 : (Jvm.Cond.methodLink "ForesightHub$Reader" (116 : Nat) ({ cls := "ForesightHub$Reader", name := "readStream", desc := "()Z" } : Jvm.MethodName)) ∈ TB := TB_3 184 rfl rfl
theorem tw_666 : (Jvm.Cond.instanceMethod ({ cls := "ForesightHub$Reader", name := "readStream", desc := "()Z" } : Jvm.MethodName)) ∈ TB := TB_3 186 rfl rfl
theorem tw_667 : (Jvm.Cond.code ({ cls := "ForesightHub$Reader", name := "readStream", desc := "()Z" } : Jvm.MethodName) prog_7_method_12_code (2 : Nat) (Option.some Jvm.ClassFile.FieldType.boolean)) ∈ TB := TB_3 187 rfl rfl
theorem tw_669 : (Jvm.Cond.methodLink "ForesightHub$Reader" (121 : Nat) ({ cls := "ForesightHub$Reader", name := "readAlarm", desc := "()Z" } : Jvm.MethodName)) ∈ TB := TB_3 189 rfl rfl
theorem tw_671 : (Jvm.Cond.instanceMethod ({ cls := "ForesightHub$Reader", name := "readAlarm", desc := "()Z" } : Jvm.MethodName)) ∈ TB := TB_3 191 rfl rfl
theorem tw_672 : (Jvm.Cond.code ({ cls := "ForesightHub$Reader", name := "readAlarm", desc := "()Z" } : Jvm.MethodName) prog_7_method_13_code (1 : Nat) (Option.some Jvm.ClassFile.FieldType.boolean)) ∈ TB := TB_3 192 rfl rfl
theorem tw_673 : (Jvm.Cond.methodLink "ForesightHub" (63 : Nat) ({ cls := "ForesightHub$Reader", name := "faultAnswer", desc := "()I" } : Jvm.MethodName)) ∈ TB := TB_3 193 rfl rfl
theorem tw_674 : (Jvm.Cond.instanceMethod ({ cls := "ForesightHub$Reader", name := "faultAnswer", desc := "()I" } : Jvm.MethodName)) ∈ TB := TB_3 194 rfl rfl
theorem tw_675 : (Jvm.Cond.selects "ForesightHub$Reader" ({ cls := "ForesightHub$Reader", name := "faultAnswer", desc := "()I" } : Jvm.MethodName) ({ cls := "ForesightHub$Reader", name := "faultAnswer", desc := "()I" } : Jvm.MethodName)) ∈ TB := TB_3 195 rfl rfl
theorem tw_676 : (Jvm.Cond.code ({ cls := "ForesightHub$Reader", name := "faultAnswer", desc := "()I" } : Jvm.MethodName) prog_7_method_5_code (1 : Nat) (Option.some Jvm.ClassFile.FieldType.int)) ∈ TB := TB_3 196 rfl rfl
theorem tw_677 : (Jvm.Cond.methodLink "ForesightHub" (71 : Nat) ({ cls := "ForesightHub$Reader", name := "exchangePlan", desc := "(LForesightHub$Plan;)LForesightHub$Plan;" } : Jvm.MethodName)) ∈ TB := TB_3 197 rfl rfl
theorem tw_678 : (Jvm.Cond.instanceMethod ({ cls := "ForesightHub$Reader", name := "exchangePlan", desc := "(LForesightHub$Plan;)LForesightHub$Plan;" } : Jvm.MethodName)) ∈ TB := TB_3 198 rfl rfl
theorem tw_679 : (Jvm.Cond.selects "ForesightHub$Reader" ({ cls := "ForesightHub$Reader", name := "exchangePlan", desc := "(LForesightHub$Plan;)LForesightHub$Plan;" } : Jvm.MethodName) ({ cls := "ForesightHub$Reader", name := "exchangePlan", desc := "(LForesightHub$Plan;)LForesightHub$Plan;" } : Jvm.MethodName)) ∈ TB := TB_3 199 rfl rfl
theorem tw_680 : (Jvm.Cond.code ({ cls := "ForesightHub$Reader", name := "exchangePlan", desc := "(LForesightHub$Plan;)LForesightHub$Plan;" } : Jvm.MethodName) prog_7_method_4_code (3 : Nat) (Option.some (Jvm.ClassFile.FieldType.object "ForesightHub$Plan"))) ∈ TB := TB_3 200 rfl rfl
theorem tw_681 : (Jvm.Cond.methodLink "ForesightHub" (75 : Nat) ({ cls := "ForesightHub$Hub", name := "begin", desc := "(LForesightHub$Plan;)V" } : Jvm.MethodName)) ∈ TB := TB_3 201 rfl rfl
theorem tw_682 : (Jvm.Cond.instanceMethod ({ cls := "ForesightHub$Hub", name := "begin", desc := "(LForesightHub$Plan;)V" } : Jvm.MethodName)) ∈ TB := TB_3 202 rfl rfl
theorem tw_683 : (Jvm.Cond.selects "ForesightHub$Hub" ({ cls := "ForesightHub$Hub", name := "begin", desc := "(LForesightHub$Plan;)V" } : Jvm.MethodName) ({ cls := "ForesightHub$Hub", name := "begin", desc := "(LForesightHub$Plan;)V" } : Jvm.MethodName)) ∈ TB := TB_3 203 rfl rfl
theorem tw_684 : (Jvm.Cond.code ({ cls := "ForesightHub$Hub", name := "begin", desc := "(LForesightHub$Plan;)V" } : Jvm.MethodName) prog_4_method_2_code (2 : Nat) (Option.none : Option Jvm.ClassFile.FieldType)) ∈ TB := TB_3 204 rfl rfl
theorem tw_685 : (Jvm.Cond.methodLink "ForesightHub$Hub" (32 : Nat) ({ cls := "ForesightHub$State", name := "begin", desc := "(LForesightHub$Plan;)V" } : Jvm.MethodName)) ∈ TB := TB_3 205 rfl rfl
theorem tw_686 : (Jvm.Cond.instanceMethod ({ cls := "ForesightHub$State", name := "begin", desc := "(LForesightHub$Plan;)V" } : Jvm.MethodName)) ∈ TB := TB_3 206 rfl rfl
theorem tw_687 : (Jvm.Cond.selects "ForesightHub$State" ({ cls := "ForesightHub$State", name := "begin", desc := "(LForesightHub$Plan;)V" } : Jvm.MethodName) ({ cls := "ForesightHub$State", name := "begin", desc := "(LForesightHub$Plan;)V" } : Jvm.MethodName)) ∈ TB := TB_3 207 rfl rfl
theorem tw_688 : (Jvm.Cond.code ({ cls := "ForesightHub$State", name := "begin", desc := "(LForesightHub$Plan;)V" } : Jvm.MethodName) prog_8_method_2_code (3 : Nat) (Option.none : Option Jvm.ClassFile.FieldType)) ∈ TB := TB_3 208 rfl rfl
theorem tw_689 : (Jvm.Cond.methodLink "ForesightHub$State" (63 : Nat) ({ cls := "ForesightHub$ErrorBook", name := "clear", desc := "()V" } : Jvm.MethodName)) ∈ TB := TB_3 209 rfl rfl
theorem tw_690 : (Jvm.Cond.instanceMethod ({ cls := "ForesightHub$ErrorBook", name := "clear", desc := "()V" } : Jvm.MethodName)) ∈ TB := TB_3 210 rfl rfl
theorem tw_691 : (Jvm.Cond.selects "ForesightHub$ErrorBook" ({ cls := "ForesightHub$ErrorBook", name := "clear", desc := "()V" } : Jvm.MethodName) ({ cls := "ForesightHub$ErrorBook", name := "clear", desc := "()V" } : Jvm.MethodName)) ∈ TB := TB_3 211 rfl rfl
theorem tw_692 : (Jvm.Cond.code ({ cls := "ForesightHub$ErrorBook", name := "clear", desc := "()V" } : Jvm.MethodName) prog_2_method_2_code (2 : Nat) (Option.none : Option Jvm.ClassFile.FieldType)) ∈ TB := TB_3 212 rfl rfl
theorem tw_693 : (Jvm.Cond.methodLink "ForesightHub$State" (66 : Nat) ({ cls := "ForesightHub$Log", name := "clear", desc := "()V" } : Jvm.MethodName)) ∈ TB := TB_3 213 rfl rfl
theorem tw_694 : (Jvm.Cond.instanceMethod ({ cls := "ForesightHub$Log", name := "clear", desc := "()V" } : Jvm.MethodName)) ∈ TB := TB_3 214 rfl rfl
theorem tw_695 : (Jvm.Cond.selects "ForesightHub$Log" ({ cls := "ForesightHub$Log", name := "clear", desc := "()V" } : Jvm.MethodName) ({ cls := "ForesightHub$Log", name := "clear", desc := "()V" } : Jvm.MethodName)) ∈ TB := TB_3 215 rfl rfl
theorem tw_696 : (Jvm.Cond.code ({ cls := "ForesightHub$Log", name := "clear", desc := "()V" } : Jvm.MethodName) prog_5_method_2_code (2 : Nat) (Option.none : Option Jvm.ClassFile.FieldType)) ∈ TB := TB_3 216 rfl rfl
theorem tw_697 : (Jvm.Cond.methodLink "ForesightHub$Hub" (36 : Nat) ({ cls := "ForesightHub$Hub", name := "settle", desc := "()V" } : Jvm.MethodName)) ∈ TB := TB_3 217 rfl rfl
theorem tw_698 : (Jvm.Cond.instanceMethod ({ cls := "ForesightHub$Hub", name := "settle", desc := "()V" } : Jvm.MethodName)) ∈ TB := TB_3 218 rfl rfl
theorem tw_699 : (Jvm.Cond.selects "ForesightHub$Hub" ({ cls := "ForesightHub$Hub", name := "settle", desc := "()V" } : Jvm.MethodName) ({ cls := "ForesightHub$Hub", name := "settle", desc := "()V" } : Jvm.MethodName)) ∈ TB := TB_3 219 rfl rfl
theorem tw_700 : (Jvm.Cond.code ({ cls := "ForesightHub$Hub", name := "settle", desc := "()V" } : Jvm.MethodName) prog_4_method_30_code (5 : Nat) (Option.none : Option Jvm.ClassFile.FieldType)) ∈ TB := TB_3 220 rfl rfl
theorem tw_701 : (Jvm.Cond.methodLink "ForesightHub$Hub" (178 : Nat) ({ cls := "ForesightHub$Hub", name := "settleHeld", desc := "(I)V" } : Jvm.MethodName)) ∈ TB := TB_3 221 rfl rfl
theorem tw_703 : (Jvm.Cond.instanceMethod ({ cls := "ForesightHub$Hub", name := "settleHeld", desc := "(I)V" } : Jvm.MethodName)) ∈ TB := TB_3 223 rfl rfl
theorem tw_704 : (Jvm.Cond.code ({ cls := "ForesightHub$Hub", name := "settleHeld", desc := "(I)V" } : Jvm.MethodName) prog_4_method_31_code (3 : Nat) (Option.none : Option Jvm.ClassFile.FieldType)) ∈ TB := TB_3 224 rfl rfl
theorem tw_705 : (Jvm.Cond.methodLink "ForesightHub$Hub" (175 : Nat) ({ cls := "ForesightHub$Hub", name := "wantedHolder", desc := "(I)I" } : Jvm.MethodName)) ∈ TB := TB_3 225 rfl rfl
theorem tw_706 : (Jvm.Cond.instanceMethod ({ cls := "ForesightHub$Hub", name := "wantedHolder", desc := "(I)I" } : Jvm.MethodName)) ∈ TB := TB_3 226 rfl rfl
theorem tw_707 : (Jvm.Cond.selects "ForesightHub$Hub" ({ cls := "ForesightHub$Hub", name := "wantedHolder", desc := "(I)I" } : Jvm.MethodName) ({ cls := "ForesightHub$Hub", name := "wantedHolder", desc := "(I)I" } : Jvm.MethodName)) ∈ TB := TB_3 227 rfl rfl
theorem tw_708 : (Jvm.Cond.code ({ cls := "ForesightHub$Hub", name := "wantedHolder", desc := "(I)I" } : Jvm.MethodName) prog_4_method_28_code (4 : Nat) (Option.some Jvm.ClassFile.FieldType.int)) ∈ TB := TB_3 228 rfl rfl
theorem tw_709 : (Jvm.Cond.methodLink "ForesightHub$Hub" (130 : Nat) ({ cls := "ForesightHub$Hub", name := "canHold", desc := "(I)Z" } : Jvm.MethodName)) ∈ TB := TB_3 229 rfl rfl
theorem tw_711 : (Jvm.Cond.instanceMethod ({ cls := "ForesightHub$Hub", name := "canHold", desc := "(I)Z" } : Jvm.MethodName)) ∈ TB := TB_3 231 rfl rfl
theorem tw_712 : (Jvm.Cond.code ({ cls := "ForesightHub$Hub", name := "canHold", desc := "(I)Z" } : Jvm.MethodName) prog_4_method_6_code (2 : Nat) (Option.some Jvm.ClassFile.FieldType.boolean)) ∈ TB := TB_3 232 rfl rfl
theorem tw_713 : (Jvm.Cond.methodLink "ForesightHub$Hub" (172 : Nat) ({ cls := "ForesightHub$Hub", name := "heirOfHome", desc := "(I)I" } : Jvm.MethodName)) ∈ TB := TB_3 233 rfl rfl
theorem tw_715 : (Jvm.Cond.instanceMethod ({ cls := "ForesightHub$Hub", name := "heirOfHome", desc := "(I)I" } : Jvm.MethodName)) ∈ TB := TB_3 235 rfl rfl
theorem tw_716 : (Jvm.Cond.code ({ cls := "ForesightHub$Hub", name := "heirOfHome", desc := "(I)I" } : Jvm.MethodName) prog_4_method_27_code (3 : Nat) (Option.some Jvm.ClassFile.FieldType.int)) ∈ TB := TB_3 236 rfl rfl
theorem tw_717 : (Jvm.Cond.methodLink "ForesightHub$Hub" (153 : Nat) ({ cls := "ForesightHub$Log", name := "add", desc := "(III)V" } : Jvm.MethodName)) ∈ TB := TB_3 237 rfl rfl
theorem tw_718 : (Jvm.Cond.instanceMethod ({ cls := "ForesightHub$Log", name := "add", desc := "(III)V" } : Jvm.MethodName)) ∈ TB := TB_3 238 rfl rfl
theorem tw_719 : (Jvm.Cond.selects "ForesightHub$Log" ({ cls := "ForesightHub$Log", name := "add", desc := "(III)V" } : Jvm.MethodName) ({ cls := "ForesightHub$Log", name := "add", desc := "(III)V" } : Jvm.MethodName)) ∈ TB := TB_3 239 rfl rfl
theorem tw_720 : (Jvm.Cond.code ({ cls := "ForesightHub$Log", name := "add", desc := "(III)V" } : Jvm.MethodName) prog_5_method_4_code (4 : Nat) (Option.none : Option Jvm.ClassFile.FieldType)) ∈ TB := TB_4 0 rfl rfl
theorem tw_721 : (Jvm.Cond.methodLink "ForesightHub$Log" (37 : Nat) ({ cls := "java/lang/Math", name := "min", desc := "(II)I" } : Jvm.MethodName)) ∈ TB := TB_4 1 rfl rfl
theorem tw_722 : (Jvm.Cond.methodLink "ForesightHub$Hub" (184 : Nat) ({ cls := "ForesightHub$Hub", name := "reserved", desc := "()I" } : Jvm.MethodName)) ∈ TB := TB_4 2 rfl rfl
theorem tw_723 : (Jvm.Cond.instanceMethod ({ cls := "ForesightHub$Hub", name := "reserved", desc := "()I" } : Jvm.MethodName)) ∈ TB := TB_4 3 rfl rfl
theorem tw_724 : (Jvm.Cond.selects "ForesightHub$Hub" ({ cls := "ForesightHub$Hub", name := "reserved", desc := "()I" } : Jvm.MethodName) ({ cls := "ForesightHub$Hub", name := "reserved", desc := "()I" } : Jvm.MethodName)) ∈ TB := TB_4 4 rfl rfl
theorem tw_725 : (Jvm.Cond.code ({ cls := "ForesightHub$Hub", name := "reserved", desc := "()I" } : Jvm.MethodName) prog_4_method_26_code (3 : Nat) (Option.some Jvm.ClassFile.FieldType.int)) ∈ TB := TB_4 5 rfl rfl
theorem tw_726 : (Jvm.Cond.methodLink "ForesightHubLaw" (104 : Nat) ({ cls := "ForesightHubLaw", name := "size", desc := "(LForesightHub;I[J)I" } : Jvm.MethodName)) ∈ TB := TB_4 6 rfl rfl
theorem tw_727 : (Jvm.Cond.static ({ cls := "ForesightHubLaw", name := "size", desc := "(LForesightHub;I[J)I" } : Jvm.MethodName)) ∈ TB := TB_4 7 rfl rfl
theorem tw_728 : (Jvm.Cond.codeWith ({ cls := "ForesightHubLaw", name := "size", desc := "(LForesightHub;I[J)I" } : Jvm.MethodName) method_4_code (4 : Nat) (Option.some Jvm.ClassFile.FieldType.int) [((0 : Nat), (9 : Nat), (12 : Nat), (13 : Nat))]) ∈ TB := TB_4 8 rfl rfl
theorem tw_729 : (Jvm.Cond.methodLink "ForesightHubLaw" (15 : Nat) ({ cls := "ForesightHub", name := "size", desc := "(I)I" } : Jvm.MethodName)) ∈ TB := TB_4 9 rfl rfl
theorem tw_730 : (Jvm.Cond.instanceMethod ({ cls := "ForesightHub", name := "size", desc := "(I)I" } : Jvm.MethodName)) ∈ TB := TB_4 10 rfl rfl
theorem tw_731 : (Jvm.Cond.selects "ForesightHub" ({ cls := "ForesightHub", name := "size", desc := "(I)I" } : Jvm.MethodName) ({ cls := "ForesightHub", name := "size", desc := "(I)I" } : Jvm.MethodName)) ∈ TB := TB_4 11 rfl rfl
theorem tw_732 : (Jvm.Cond.code ({ cls := "ForesightHub", name := "size", desc := "(I)I" } : Jvm.MethodName) prog_1_method_4_code (2 : Nat) (Option.some Jvm.ClassFile.FieldType.int)) ∈ TB := TB_4 12 rfl rfl
theorem tw_733 : (Jvm.Cond.methodLink "ForesightHub" (106 : Nat) ({ cls := "ForesightHub$Hub", name := "reserved", desc := "()I" } : Jvm.MethodName)) ∈ TB := TB_4 13 rfl rfl
theorem tw_735 : (Jvm.Cond.methodLink "ForesightHubLaw" (107 : Nat) ({ cls := "ForesightHubLaw", name := "deviceAt", desc := "(LForesightHub;I[J)I" } : Jvm.MethodName)) ∈ TB := TB_4 15 rfl rfl
theorem tw_736 : (Jvm.Cond.static ({ cls := "ForesightHubLaw", name := "deviceAt", desc := "(LForesightHub;I[J)I" } : Jvm.MethodName)) ∈ TB := TB_4 16 rfl rfl
theorem tw_737 : (Jvm.Cond.codeWith ({ cls := "ForesightHubLaw", name := "deviceAt", desc := "(LForesightHub;I[J)I" } : Jvm.MethodName) method_5_code (4 : Nat) (Option.some Jvm.ClassFile.FieldType.int) [((0 : Nat), (9 : Nat), (12 : Nat), (21 : Nat))]) ∈ TB := TB_4 17 rfl rfl
theorem tw_738 : (Jvm.Cond.classLink "ForesightHubLaw" (21 : Nat) "java/lang/IndexOutOfBoundsException") ∈ TB := TB_4 18 rfl rfl
theorem tw_739 : (Jvm.Cond.methodLink "ForesightHubLaw" (18 : Nat) ({ cls := "ForesightHub", name := "deviceAt", desc := "(I)I" } : Jvm.MethodName)) ∈ TB := TB_4 19 rfl rfl
theorem tw_740 : (Jvm.Cond.instanceMethod ({ cls := "ForesightHub", name := "deviceAt", desc := "(I)I" } : Jvm.MethodName)) ∈ TB := TB_4 20 rfl rfl
theorem tw_741 : (Jvm.Cond.selects "ForesightHub" ({ cls := "ForesightHub", name := "deviceAt", desc := "(I)I" } : Jvm.MethodName) ({ cls := "ForesightHub", name := "deviceAt", desc := "(I)I" } : Jvm.MethodName)) ∈ TB := TB_4 21 rfl rfl
theorem tw_742 : (Jvm.Cond.code ({ cls := "ForesightHub", name := "deviceAt", desc := "(I)I" } : Jvm.MethodName) prog_1_method_5_code (2 : Nat) (Option.some Jvm.ClassFile.FieldType.int)) ∈ TB := TB_4 22 rfl rfl
theorem tw_743 : (Jvm.Cond.methodLink "ForesightHub" (120 : Nat) ({ cls := "ForesightHub", name := "requirePort", desc := "(I)V" } : Jvm.MethodName)) ∈ TB := TB_4 23 rfl rfl
theorem tw_745 : (Jvm.Cond.instanceMethod ({ cls := "ForesightHub", name := "requirePort", desc := "(I)V" } : Jvm.MethodName)) ∈ TB := TB_4 25 rfl rfl
theorem tw_746 : (Jvm.Cond.code ({ cls := "ForesightHub", name := "requirePort", desc := "(I)V" } : Jvm.MethodName) prog_1_method_32_code (2 : Nat) (Option.none : Option Jvm.ClassFile.FieldType)) ∈ TB := TB_4 26 rfl rfl
theorem tw_747 : (Jvm.Cond.classLink "ForesightHub" (302 : Nat) "java/lang/IndexOutOfBoundsException") ∈ TB := TB_4 27 rfl rfl
theorem tw_748 : (Jvm.Cond.instantiable "java/lang/IndexOutOfBoundsException" (6 : Nat)) ∈ TB := TB_4 28 rfl rfl
theorem tw_750 : (Jvm.Cond.selects "java/lang/IndexOutOfBoundsException" ({ cls := "java/lang/Throwable", name := "fillInStackTrace", desc := "(I)Ljava/lang/Throwable;" } : Jvm.MethodName) ({ cls := "java/lang/Throwable", name := "fillInStackTrace", desc := "(I)Ljava/lang/Throwable;" } : Jvm.MethodName)) ∈ TB := TB_4 30 rfl rfl
theorem tw_757 : (Jvm.Cond.methodLink "ForesightHub" (306 : Nat) ({ cls := "java/lang/IndexOutOfBoundsException", name := "<init>", desc := "(Ljava/lang/String;)V" } : Jvm.MethodName)) ∈ TB := TB_4 37 rfl rfl
theorem tw_758 : (Jvm.Cond.instanceMethod ({ cls := "java/lang/IndexOutOfBoundsException", name := "<init>", desc := "(Ljava/lang/String;)V" } : Jvm.MethodName)) ∈ TB := TB_4 38 rfl rfl
theorem tw_759 : (Jvm.Cond.code ({ cls := "java/lang/IndexOutOfBoundsException", name := "<init>", desc := "(Ljava/lang/String;)V" } : Jvm.MethodName) prog_14_method_2_code (2 : Nat) (Option.none : Option Jvm.ClassFile.FieldType)) ∈ TB := TB_4 39 rfl rfl
theorem tw_760 : (Jvm.Cond.methodLink "java/lang/IndexOutOfBoundsException" (7 : Nat) ({ cls := "java/lang/RuntimeException", name := "<init>", desc := "(Ljava/lang/String;)V" } : Jvm.MethodName)) ∈ TB := TB_4 40 rfl rfl
theorem tw_762 : (Jvm.Cond.superclass "java/lang/IndexOutOfBoundsException" "java/lang/RuntimeException") ∈ TB := TB_4 42 rfl rfl
theorem tw_763 : (Jvm.Cond.methodLink "ForesightHub" (123 : Nat) ({ cls := "ForesightHub$Hub", name := "pluggedInAt", desc := "(I)I" } : Jvm.MethodName)) ∈ TB := TB_4 43 rfl rfl
theorem tw_764 : (Jvm.Cond.instanceMethod ({ cls := "ForesightHub$Hub", name := "pluggedInAt", desc := "(I)I" } : Jvm.MethodName)) ∈ TB := TB_4 44 rfl rfl
theorem tw_765 : (Jvm.Cond.selects "ForesightHub$Hub" ({ cls := "ForesightHub$Hub", name := "pluggedInAt", desc := "(I)I" } : Jvm.MethodName) ({ cls := "ForesightHub$Hub", name := "pluggedInAt", desc := "(I)I" } : Jvm.MethodName)) ∈ TB := TB_4 45 rfl rfl
theorem tw_766 : (Jvm.Cond.code ({ cls := "ForesightHub$Hub", name := "pluggedInAt", desc := "(I)I" } : Jvm.MethodName) prog_4_method_7_code (3 : Nat) (Option.some Jvm.ClassFile.FieldType.int)) ∈ TB := TB_4 46 rfl rfl
theorem tw_767 : (Jvm.Cond.methodLink "ForesightHubLaw" (110 : Nat) ({ cls := "ForesightHubLaw", name := "device", desc := "(LForesightHub;II[J)I" } : Jvm.MethodName)) ∈ TB := TB_4 47 rfl rfl
theorem tw_768 : (Jvm.Cond.static ({ cls := "ForesightHubLaw", name := "device", desc := "(LForesightHub;II[J)I" } : Jvm.MethodName)) ∈ TB := TB_4 48 rfl rfl
theorem tw_769 : (Jvm.Cond.codeWith ({ cls := "ForesightHubLaw", name := "device", desc := "(LForesightHub;II[J)I" } : Jvm.MethodName) method_6_code (5 : Nat) (Option.some Jvm.ClassFile.FieldType.int) [((0 : Nat), (10 : Nat), (13 : Nat), (21 : Nat)), ((0 : Nat), (10 : Nat), (17 : Nat), (13 : Nat))]) ∈ TB := TB_4 49 rfl rfl
theorem tw_770 : (Jvm.Cond.methodLink "ForesightHubLaw" (23 : Nat) ({ cls := "ForesightHub", name := "device", desc := "(II)I" } : Jvm.MethodName)) ∈ TB := TB_4 50 rfl rfl
theorem tw_771 : (Jvm.Cond.instanceMethod ({ cls := "ForesightHub", name := "device", desc := "(II)I" } : Jvm.MethodName)) ∈ TB := TB_4 51 rfl rfl
theorem tw_772 : (Jvm.Cond.selects "ForesightHub" ({ cls := "ForesightHub", name := "device", desc := "(II)I" } : Jvm.MethodName) ({ cls := "ForesightHub", name := "device", desc := "(II)I" } : Jvm.MethodName)) ∈ TB := TB_4 52 rfl rfl
theorem tw_773 : (Jvm.Cond.code ({ cls := "ForesightHub", name := "device", desc := "(II)I" } : Jvm.MethodName) prog_1_method_6_code (3 : Nat) (Option.some Jvm.ClassFile.FieldType.int)) ∈ TB := TB_4 53 rfl rfl
theorem tw_774 : (Jvm.Cond.methodLink "ForesightHub" (127 : Nat) ({ cls := "ForesightHub", name := "requireDevice", desc := "(I)V" } : Jvm.MethodName)) ∈ TB := TB_4 54 rfl rfl
theorem tw_776 : (Jvm.Cond.instanceMethod ({ cls := "ForesightHub", name := "requireDevice", desc := "(I)V" } : Jvm.MethodName)) ∈ TB := TB_4 56 rfl rfl
theorem tw_777 : (Jvm.Cond.code ({ cls := "ForesightHub", name := "requireDevice", desc := "(I)V" } : Jvm.MethodName) prog_1_method_30_code (2 : Nat) (Option.none : Option Jvm.ClassFile.FieldType)) ∈ TB := TB_4 57 rfl rfl
theorem tw_778 : (Jvm.Cond.methodLink "ForesightHub" (299 : Nat) ({ cls := "ForesightHub$Hub", name := "isDevice", desc := "(I)Z" } : Jvm.MethodName)) ∈ TB := TB_4 58 rfl rfl
theorem tw_780 : (Jvm.Cond.methodLink "ForesightHub" (137 : Nat) ({ cls := "ForesightHub$Hub", name := "inAlarm", desc := "(I)Z" } : Jvm.MethodName)) ∈ TB := TB_4 60 rfl rfl
theorem tw_781 : (Jvm.Cond.instanceMethod ({ cls := "ForesightHub$Hub", name := "inAlarm", desc := "(I)Z" } : Jvm.MethodName)) ∈ TB := TB_4 61 rfl rfl
theorem tw_782 : (Jvm.Cond.selects "ForesightHub$Hub" ({ cls := "ForesightHub$Hub", name := "inAlarm", desc := "(I)Z" } : Jvm.MethodName) ({ cls := "ForesightHub$Hub", name := "inAlarm", desc := "(I)Z" } : Jvm.MethodName)) ∈ TB := TB_4 62 rfl rfl
theorem tw_783 : (Jvm.Cond.code ({ cls := "ForesightHub$Hub", name := "inAlarm", desc := "(I)Z" } : Jvm.MethodName) prog_4_method_5_code (2 : Nat) (Option.some Jvm.ClassFile.FieldType.boolean)) ∈ TB := TB_4 63 rfl rfl
theorem tw_784 : (Jvm.Cond.methodLink "ForesightHub" (140 : Nat) ({ cls := "ForesightHub$Hub", name := "scoreOf", desc := "(II)I" } : Jvm.MethodName)) ∈ TB := TB_4 64 rfl rfl
theorem tw_785 : (Jvm.Cond.methodLink "ForesightHub" (144 : Nat) ({ cls := "ForesightHub$Hub", name := "matchingBits", desc := "(II)I" } : Jvm.MethodName)) ∈ TB := TB_4 65 rfl rfl
theorem tw_786 : (Jvm.Cond.methodLink "ForesightHub" (155 : Nat) ({ cls := "ForesightHub$Hub", name := "heldBits", desc := "(I)I" } : Jvm.MethodName)) ∈ TB := TB_4 66 rfl rfl
theorem tw_787 : (Jvm.Cond.instanceMethod ({ cls := "ForesightHub$Hub", name := "heldBits", desc := "(I)I" } : Jvm.MethodName)) ∈ TB := TB_4 67 rfl rfl
theorem tw_788 : (Jvm.Cond.selects "ForesightHub$Hub" ({ cls := "ForesightHub$Hub", name := "heldBits", desc := "(I)I" } : Jvm.MethodName) ({ cls := "ForesightHub$Hub", name := "heldBits", desc := "(I)I" } : Jvm.MethodName)) ∈ TB := TB_4 68 rfl rfl
theorem tw_789 : (Jvm.Cond.code ({ cls := "ForesightHub$Hub", name := "heldBits", desc := "(I)I" } : Jvm.MethodName) prog_4_method_8_code (4 : Nat) (Option.some Jvm.ClassFile.FieldType.int)) ∈ TB := TB_4 69 rfl rfl
theorem tw_790 : (Jvm.Cond.methodLink "ForesightHub" (158 : Nat) ({ cls := "ForesightHub$Hub", name := "reservedFor", desc := "(I)I" } : Jvm.MethodName)) ∈ TB := TB_4 70 rfl rfl
theorem tw_791 : (Jvm.Cond.instanceMethod ({ cls := "ForesightHub$Hub", name := "reservedFor", desc := "(I)I" } : Jvm.MethodName)) ∈ TB := TB_4 71 rfl rfl
theorem tw_792 : (Jvm.Cond.selects "ForesightHub$Hub" ({ cls := "ForesightHub$Hub", name := "reservedFor", desc := "(I)I" } : Jvm.MethodName) ({ cls := "ForesightHub$Hub", name := "reservedFor", desc := "(I)I" } : Jvm.MethodName)) ∈ TB := TB_4 72 rfl rfl
theorem tw_793 : (Jvm.Cond.code ({ cls := "ForesightHub$Hub", name := "reservedFor", desc := "(I)I" } : Jvm.MethodName) prog_4_method_9_code (4 : Nat) (Option.some Jvm.ClassFile.FieldType.int)) ∈ TB := TB_4 73 rfl rfl
theorem tw_795 : (Jvm.Cond.methodLink "ForesightHubLaw" (114 : Nat) ({ cls := "ForesightHubLaw", name := "stream", desc := "(LForesightHub;II[J)I" } : Jvm.MethodName)) ∈ TB := TB_4 75 rfl rfl
theorem tw_796 : (Jvm.Cond.static ({ cls := "ForesightHubLaw", name := "stream", desc := "(LForesightHub;II[J)I" } : Jvm.MethodName)) ∈ TB := TB_4 76 rfl rfl
theorem tw_797 : (Jvm.Cond.codeWith ({ cls := "ForesightHubLaw", name := "stream", desc := "(LForesightHub;II[J)I" } : Jvm.MethodName) method_7_code (5 : Nat) (Option.some Jvm.ClassFile.FieldType.int) [((0 : Nat), (10 : Nat), (13 : Nat), (21 : Nat)), ((0 : Nat), (10 : Nat), (17 : Nat), (13 : Nat))]) ∈ TB := TB_4 77 rfl rfl
theorem tw_798 : (Jvm.Cond.methodLink "ForesightHubLaw" (27 : Nat) ({ cls := "ForesightHub", name := "stream", desc := "(II)I" } : Jvm.MethodName)) ∈ TB := TB_4 78 rfl rfl
theorem tw_799 : (Jvm.Cond.instanceMethod ({ cls := "ForesightHub", name := "stream", desc := "(II)I" } : Jvm.MethodName)) ∈ TB := TB_4 79 rfl rfl
theorem tw_800 : (Jvm.Cond.selects "ForesightHub" ({ cls := "ForesightHub", name := "stream", desc := "(II)I" } : Jvm.MethodName) ({ cls := "ForesightHub", name := "stream", desc := "(II)I" } : Jvm.MethodName)) ∈ TB := TB_4 80 rfl rfl
theorem tw_801 : (Jvm.Cond.code ({ cls := "ForesightHub", name := "stream", desc := "(II)I" } : Jvm.MethodName) prog_1_method_7_code (3 : Nat) (Option.some Jvm.ClassFile.FieldType.int)) ∈ TB := TB_4 81 rfl rfl
theorem tw_802 : (Jvm.Cond.methodLink "ForesightHub" (163 : Nat) ({ cls := "ForesightHub", name := "requireStream", desc := "(I)V" } : Jvm.MethodName)) ∈ TB := TB_4 82 rfl rfl
theorem tw_804 : (Jvm.Cond.instanceMethod ({ cls := "ForesightHub", name := "requireStream", desc := "(I)V" } : Jvm.MethodName)) ∈ TB := TB_4 84 rfl rfl
theorem tw_805 : (Jvm.Cond.code ({ cls := "ForesightHub", name := "requireStream", desc := "(I)V" } : Jvm.MethodName) prog_1_method_31_code (2 : Nat) (Option.none : Option Jvm.ClassFile.FieldType)) ∈ TB := TB_4 85 rfl rfl
theorem tw_807 : (Jvm.Cond.methodLink "ForesightHub" (172 : Nat) ({ cls := "ForesightHub$Hub", name := "wantedHolder", desc := "(I)I" } : Jvm.MethodName)) ∈ TB := TB_4 87 rfl rfl
theorem tw_809 : (Jvm.Cond.methodLink "ForesightHubLaw" (117 : Nat) ({ cls := "ForesightHubLaw", name := "packets", desc := "(LForesightHub;I[J)I" } : Jvm.MethodName)) ∈ TB := TB_4 89 rfl rfl
theorem tw_810 : (Jvm.Cond.static ({ cls := "ForesightHubLaw", name := "packets", desc := "(LForesightHub;I[J)I" } : Jvm.MethodName)) ∈ TB := TB_4 90 rfl rfl
theorem tw_811 : (Jvm.Cond.codeWith ({ cls := "ForesightHubLaw", name := "packets", desc := "(LForesightHub;I[J)I" } : Jvm.MethodName) method_8_code (4 : Nat) (Option.some Jvm.ClassFile.FieldType.int) [((0 : Nat), (8 : Nat), (11 : Nat), (21 : Nat))]) ∈ TB := TB_4 91 rfl rfl
theorem tw_812 : (Jvm.Cond.methodLink "ForesightHubLaw" (30 : Nat) ({ cls := "ForesightHub", name := "packets", desc := "(I)J" } : Jvm.MethodName)) ∈ TB := TB_4 92 rfl rfl
theorem tw_813 : (Jvm.Cond.instanceMethod ({ cls := "ForesightHub", name := "packets", desc := "(I)J" } : Jvm.MethodName)) ∈ TB := TB_4 93 rfl rfl
theorem tw_814 : (Jvm.Cond.selects "ForesightHub" ({ cls := "ForesightHub", name := "packets", desc := "(I)J" } : Jvm.MethodName) ({ cls := "ForesightHub", name := "packets", desc := "(I)J" } : Jvm.MethodName)) ∈ TB := TB_4 94 rfl rfl
theorem tw_815 : (Jvm.Cond.code ({ cls := "ForesightHub", name := "packets", desc := "(I)J" } : Jvm.MethodName) prog_1_method_8_code (2 : Nat) (Option.some Jvm.ClassFile.FieldType.long)) ∈ TB := TB_4 95 rfl rfl
theorem tw_816 : (Jvm.Cond.methodLink "ForesightHubLaw" (120 : Nat) ({ cls := "ForesightHubLaw", name := "error", desc := "(LForesightHub;III[J)I" } : Jvm.MethodName)) ∈ TB := TB_4 96 rfl rfl
theorem tw_817 : (Jvm.Cond.static ({ cls := "ForesightHubLaw", name := "error", desc := "(LForesightHub;III[J)I" } : Jvm.MethodName)) ∈ TB := TB_4 97 rfl rfl
theorem tw_818 : (Jvm.Cond.codeWith ({ cls := "ForesightHubLaw", name := "error", desc := "(LForesightHub;III[J)I" } : Jvm.MethodName) method_9_code (6 : Nat) (Option.some Jvm.ClassFile.FieldType.int) [((0 : Nat), (12 : Nat), (15 : Nat), (21 : Nat)), ((0 : Nat), (12 : Nat), (19 : Nat), (13 : Nat))]) ∈ TB := TB_4 98 rfl rfl
theorem tw_819 : (Jvm.Cond.methodLink "ForesightHubLaw" (34 : Nat) ({ cls := "ForesightHub", name := "error", desc := "(III)I" } : Jvm.MethodName)) ∈ TB := TB_4 99 rfl rfl
theorem tw_820 : (Jvm.Cond.instanceMethod ({ cls := "ForesightHub", name := "error", desc := "(III)I" } : Jvm.MethodName)) ∈ TB := TB_4 100 rfl rfl
theorem tw_821 : (Jvm.Cond.selects "ForesightHub" ({ cls := "ForesightHub", name := "error", desc := "(III)I" } : Jvm.MethodName) ({ cls := "ForesightHub", name := "error", desc := "(III)I" } : Jvm.MethodName)) ∈ TB := TB_4 101 rfl rfl
theorem tw_822 : (Jvm.Cond.code ({ cls := "ForesightHub", name := "error", desc := "(III)I" } : Jvm.MethodName) prog_1_method_9_code (4 : Nat) (Option.some Jvm.ClassFile.FieldType.int)) ∈ TB := TB_4 102 rfl rfl
theorem tw_824 : (Jvm.Cond.methodLink "ForesightHub" (195 : Nat) ({ cls := "ForesightHub$ErrorBook", name := "kindOf", desc := "(II)I" } : Jvm.MethodName)) ∈ TB := TB_4 104 rfl rfl
theorem tw_825 : (Jvm.Cond.methodLink "ForesightHub" (198 : Nat) ({ cls := "ForesightHub$ErrorBook", name := "timeOf", desc := "(II)I" } : Jvm.MethodName)) ∈ TB := TB_4 105 rfl rfl
theorem tw_826 : (Jvm.Cond.methodLink "ForesightHubLaw" (124 : Nat) ({ cls := "ForesightHubLaw", name := "cause", desc := "(LForesightHub;II[J)I" } : Jvm.MethodName)) ∈ TB := TB_4 106 rfl rfl
theorem tw_827 : (Jvm.Cond.static ({ cls := "ForesightHubLaw", name := "cause", desc := "(LForesightHub;II[J)I" } : Jvm.MethodName)) ∈ TB := TB_4 107 rfl rfl
theorem tw_828 : (Jvm.Cond.codeWith ({ cls := "ForesightHubLaw", name := "cause", desc := "(LForesightHub;II[J)I" } : Jvm.MethodName) method_10_code (5 : Nat) (Option.some Jvm.ClassFile.FieldType.int) [((0 : Nat), (10 : Nat), (13 : Nat), (13 : Nat))]) ∈ TB := TB_4 108 rfl rfl
theorem tw_829 : (Jvm.Cond.methodLink "ForesightHubLaw" (38 : Nat) ({ cls := "ForesightHub", name := "cause", desc := "(II)I" } : Jvm.MethodName)) ∈ TB := TB_4 109 rfl rfl
theorem tw_830 : (Jvm.Cond.instanceMethod ({ cls := "ForesightHub", name := "cause", desc := "(II)I" } : Jvm.MethodName)) ∈ TB := TB_4 110 rfl rfl
theorem tw_831 : (Jvm.Cond.selects "ForesightHub" ({ cls := "ForesightHub", name := "cause", desc := "(II)I" } : Jvm.MethodName) ({ cls := "ForesightHub", name := "cause", desc := "(II)I" } : Jvm.MethodName)) ∈ TB := TB_4 111 rfl rfl
theorem tw_832 : (Jvm.Cond.code ({ cls := "ForesightHub", name := "cause", desc := "(II)I" } : Jvm.MethodName) prog_1_method_10_code (3 : Nat) (Option.some Jvm.ClassFile.FieldType.int)) ∈ TB := TB_4 112 rfl rfl
theorem tw_834 : (Jvm.Cond.methodLink "ForesightHub" (203 : Nat) ({ cls := "ForesightHub$ErrorBook", name := "causePart", desc := "(II)I" } : Jvm.MethodName)) ∈ TB := TB_4 114 rfl rfl
theorem tw_835 : (Jvm.Cond.instanceMethod ({ cls := "ForesightHub$ErrorBook", name := "causePart", desc := "(II)I" } : Jvm.MethodName)) ∈ TB := TB_4 115 rfl rfl
theorem tw_836 : (Jvm.Cond.selects "ForesightHub$ErrorBook" ({ cls := "ForesightHub$ErrorBook", name := "causePart", desc := "(II)I" } : Jvm.MethodName) ({ cls := "ForesightHub$ErrorBook", name := "causePart", desc := "(II)I" } : Jvm.MethodName)) ∈ TB := TB_4 116 rfl rfl
theorem tw_837 : (Jvm.Cond.code ({ cls := "ForesightHub$ErrorBook", name := "causePart", desc := "(II)I" } : Jvm.MethodName) prog_2_method_12_code (4 : Nat) (Option.some Jvm.ClassFile.FieldType.int)) ∈ TB := TB_4 117 rfl rfl
theorem tw_838 : (Jvm.Cond.methodLink "ForesightHubLaw" (127 : Nat) ({ cls := "ForesightHubLaw", name := "scoreWith", desc := "(LForesightHub;II[J)I" } : Jvm.MethodName)) ∈ TB := TB_4 118 rfl rfl
theorem tw_839 : (Jvm.Cond.static ({ cls := "ForesightHubLaw", name := "scoreWith", desc := "(LForesightHub;II[J)I" } : Jvm.MethodName)) ∈ TB := TB_4 119 rfl rfl
theorem tw_840 : (Jvm.Cond.codeWith ({ cls := "ForesightHubLaw", name := "scoreWith", desc := "(LForesightHub;II[J)I" } : Jvm.MethodName) method_11_code (5 : Nat) (Option.some Jvm.ClassFile.FieldType.int) [((0 : Nat), (10 : Nat), (13 : Nat), (21 : Nat)), ((0 : Nat), (10 : Nat), (17 : Nat), (13 : Nat))]) ∈ TB := TB_4 120 rfl rfl
theorem tw_841 : (Jvm.Cond.methodLink "ForesightHubLaw" (41 : Nat) ({ cls := "ForesightHub", name := "scoreWith", desc := "(II)I" } : Jvm.MethodName)) ∈ TB := TB_4 121 rfl rfl
theorem tw_842 : (Jvm.Cond.instanceMethod ({ cls := "ForesightHub", name := "scoreWith", desc := "(II)I" } : Jvm.MethodName)) ∈ TB := TB_4 122 rfl rfl
theorem tw_843 : (Jvm.Cond.selects "ForesightHub" ({ cls := "ForesightHub", name := "scoreWith", desc := "(II)I" } : Jvm.MethodName) ({ cls := "ForesightHub", name := "scoreWith", desc := "(II)I" } : Jvm.MethodName)) ∈ TB := TB_4 123 rfl rfl
theorem tw_844 : (Jvm.Cond.code ({ cls := "ForesightHub", name := "scoreWith", desc := "(II)I" } : Jvm.MethodName) prog_1_method_11_code (3 : Nat) (Option.some Jvm.ClassFile.FieldType.int)) ∈ TB := TB_4 124 rfl rfl
theorem tw_845 : (Jvm.Cond.methodLink "ForesightHub" (206 : Nat) ({ cls := "ForesightHub", name := "requireKind", desc := "(I)V" } : Jvm.MethodName)) ∈ TB := TB_4 125 rfl rfl
theorem tw_847 : (Jvm.Cond.instanceMethod ({ cls := "ForesightHub", name := "requireKind", desc := "(I)V" } : Jvm.MethodName)) ∈ TB := TB_4 127 rfl rfl
theorem tw_848 : (Jvm.Cond.code ({ cls := "ForesightHub", name := "requireKind", desc := "(I)V" } : Jvm.MethodName) prog_1_method_33_code (2 : Nat) (Option.none : Option Jvm.ClassFile.FieldType)) ∈ TB := TB_4 128 rfl rfl
theorem tw_850 : (Jvm.Cond.methodLink "ForesightHub" (209 : Nat) ({ cls := "ForesightHub$Hub", name := "isPluggedIn", desc := "(I)Z" } : Jvm.MethodName)) ∈ TB := TB_4 130 rfl rfl
theorem tw_851 : (Jvm.Cond.methodLink "ForesightHubLaw" (130 : Nat) ({ cls := "ForesightHubLaw", name := "feared", desc := "(LForesightHub;I[J)I" } : Jvm.MethodName)) ∈ TB := TB_4 131 rfl rfl
theorem tw_852 : (Jvm.Cond.static ({ cls := "ForesightHubLaw", name := "feared", desc := "(LForesightHub;I[J)I" } : Jvm.MethodName)) ∈ TB := TB_4 132 rfl rfl
theorem tw_853 : (Jvm.Cond.codeWith ({ cls := "ForesightHubLaw", name := "feared", desc := "(LForesightHub;I[J)I" } : Jvm.MethodName) method_12_code (4 : Nat) (Option.some Jvm.ClassFile.FieldType.int) [((0 : Nat), (9 : Nat), (12 : Nat), (21 : Nat))]) ∈ TB := TB_4 133 rfl rfl
theorem tw_854 : (Jvm.Cond.methodLink "ForesightHubLaw" (44 : Nat) ({ cls := "ForesightHub", name := "feared", desc := "(I)I" } : Jvm.MethodName)) ∈ TB := TB_4 134 rfl rfl
theorem tw_855 : (Jvm.Cond.instanceMethod ({ cls := "ForesightHub", name := "feared", desc := "(I)I" } : Jvm.MethodName)) ∈ TB := TB_4 135 rfl rfl
theorem tw_856 : (Jvm.Cond.selects "ForesightHub" ({ cls := "ForesightHub", name := "feared", desc := "(I)I" } : Jvm.MethodName) ({ cls := "ForesightHub", name := "feared", desc := "(I)I" } : Jvm.MethodName)) ∈ TB := TB_4 136 rfl rfl
theorem tw_857 : (Jvm.Cond.code ({ cls := "ForesightHub", name := "feared", desc := "(I)I" } : Jvm.MethodName) prog_1_method_12_code (2 : Nat) (Option.some Jvm.ClassFile.FieldType.int)) ∈ TB := TB_4 137 rfl rfl
theorem tw_858 : (Jvm.Cond.methodLink "ForesightHub" (212 : Nat) ({ cls := "ForesightHub$Hub", name := "fearedKind", desc := "(I)I" } : Jvm.MethodName)) ∈ TB := TB_4 138 rfl rfl
theorem tw_859 : (Jvm.Cond.instanceMethod ({ cls := "ForesightHub$Hub", name := "fearedKind", desc := "(I)I" } : Jvm.MethodName)) ∈ TB := TB_4 139 rfl rfl
theorem tw_860 : (Jvm.Cond.selects "ForesightHub$Hub" ({ cls := "ForesightHub$Hub", name := "fearedKind", desc := "(I)I" } : Jvm.MethodName) ({ cls := "ForesightHub$Hub", name := "fearedKind", desc := "(I)I" } : Jvm.MethodName)) ∈ TB := TB_4 140 rfl rfl
theorem tw_861 : (Jvm.Cond.code ({ cls := "ForesightHub$Hub", name := "fearedKind", desc := "(I)I" } : Jvm.MethodName) prog_4_method_18_code (3 : Nat) (Option.some Jvm.ClassFile.FieldType.int)) ∈ TB := TB_4 141 rfl rfl
theorem tw_862 : (Jvm.Cond.methodLink "ForesightHubLaw" (133 : Nat) ({ cls := "ForesightHubLaw", name := "framesToClear", desc := "(LForesightHub;I[J)I" } : Jvm.MethodName)) ∈ TB := TB_4 142 rfl rfl
theorem tw_863 : (Jvm.Cond.static ({ cls := "ForesightHubLaw", name := "framesToClear", desc := "(LForesightHub;I[J)I" } : Jvm.MethodName)) ∈ TB := TB_4 143 rfl rfl
theorem tw_864 : (Jvm.Cond.codeWith ({ cls := "ForesightHubLaw", name := "framesToClear", desc := "(LForesightHub;I[J)I" } : Jvm.MethodName) method_13_code (4 : Nat) (Option.some Jvm.ClassFile.FieldType.int) [((0 : Nat), (9 : Nat), (12 : Nat), (21 : Nat))]) ∈ TB := TB_4 144 rfl rfl
theorem tw_865 : (Jvm.Cond.methodLink "ForesightHubLaw" (47 : Nat) ({ cls := "ForesightHub", name := "framesToClear", desc := "(I)I" } : Jvm.MethodName)) ∈ TB := TB_4 145 rfl rfl
theorem tw_866 : (Jvm.Cond.instanceMethod ({ cls := "ForesightHub", name := "framesToClear", desc := "(I)I" } : Jvm.MethodName)) ∈ TB := TB_4 146 rfl rfl
theorem tw_867 : (Jvm.Cond.selects "ForesightHub" ({ cls := "ForesightHub", name := "framesToClear", desc := "(I)I" } : Jvm.MethodName) ({ cls := "ForesightHub", name := "framesToClear", desc := "(I)I" } : Jvm.MethodName)) ∈ TB := TB_4 147 rfl rfl
theorem tw_868 : (Jvm.Cond.code ({ cls := "ForesightHub", name := "framesToClear", desc := "(I)I" } : Jvm.MethodName) prog_1_method_13_code (2 : Nat) (Option.some Jvm.ClassFile.FieldType.int)) ∈ TB := TB_4 148 rfl rfl
theorem tw_869 : (Jvm.Cond.methodLink "ForesightHub" (215 : Nat) ({ cls := "ForesightHub$Hub", name := "clearingFrames", desc := "(I)I" } : Jvm.MethodName)) ∈ TB := TB_4 149 rfl rfl
theorem tw_870 : (Jvm.Cond.instanceMethod ({ cls := "ForesightHub$Hub", name := "clearingFrames", desc := "(I)I" } : Jvm.MethodName)) ∈ TB := TB_4 150 rfl rfl
theorem tw_871 : (Jvm.Cond.selects "ForesightHub$Hub" ({ cls := "ForesightHub$Hub", name := "clearingFrames", desc := "(I)I" } : Jvm.MethodName) ({ cls := "ForesightHub$Hub", name := "clearingFrames", desc := "(I)I" } : Jvm.MethodName)) ∈ TB := TB_4 151 rfl rfl
theorem tw_872 : (Jvm.Cond.code ({ cls := "ForesightHub$Hub", name := "clearingFrames", desc := "(I)I" } : Jvm.MethodName) prog_4_method_11_code (4 : Nat) (Option.some Jvm.ClassFile.FieldType.int)) ∈ TB := TB_4 152 rfl rfl
theorem tw_873 : (Jvm.Cond.methodLink "ForesightHub$Hub" (65 : Nat) ({ cls := "ForesightHub$Hub", name := "framesToPacketEnd", desc := "(I)I" } : Jvm.MethodName)) ∈ TB := TB_4 153 rfl rfl
theorem tw_875 : (Jvm.Cond.instanceMethod ({ cls := "ForesightHub$Hub", name := "framesToPacketEnd", desc := "(I)I" } : Jvm.MethodName)) ∈ TB := TB_4 155 rfl rfl
theorem tw_876 : (Jvm.Cond.code ({ cls := "ForesightHub$Hub", name := "framesToPacketEnd", desc := "(I)I" } : Jvm.MethodName) prog_4_method_12_code (4 : Nat) (Option.some Jvm.ClassFile.FieldType.int)) ∈ TB := TB_4 156 rfl rfl
theorem tw_877 : (Jvm.Cond.methodLink "ForesightHub$Hub" (69 : Nat) ({ cls := "java/lang/Math", name := "max", desc := "(II)I" } : Jvm.MethodName)) ∈ TB := TB_4 157 rfl rfl
theorem tw_878 : (Jvm.Cond.methodLink "ForesightHubLaw" (136 : Nat) ({ cls := "ForesightHubLaw", name := "atStake", desc := "(LForesightHub;I[J)I" } : Jvm.MethodName)) ∈ TB := TB_4 158 rfl rfl
theorem tw_879 : (Jvm.Cond.static ({ cls := "ForesightHubLaw", name := "atStake", desc := "(LForesightHub;I[J)I" } : Jvm.MethodName)) ∈ TB := TB_4 159 rfl rfl
theorem tw_880 : (Jvm.Cond.codeWith ({ cls := "ForesightHubLaw", name := "atStake", desc := "(LForesightHub;I[J)I" } : Jvm.MethodName) method_14_code (4 : Nat) (Option.some Jvm.ClassFile.FieldType.int) [((0 : Nat), (9 : Nat), (12 : Nat), (21 : Nat))]) ∈ TB := TB_4 160 rfl rfl
theorem tw_881 : (Jvm.Cond.methodLink "ForesightHubLaw" (50 : Nat) ({ cls := "ForesightHub", name := "atStake", desc := "(I)I" } : Jvm.MethodName)) ∈ TB := TB_4 161 rfl rfl
theorem tw_882 : (Jvm.Cond.instanceMethod ({ cls := "ForesightHub", name := "atStake", desc := "(I)I" } : Jvm.MethodName)) ∈ TB := TB_4 162 rfl rfl
theorem tw_883 : (Jvm.Cond.selects "ForesightHub" ({ cls := "ForesightHub", name := "atStake", desc := "(I)I" } : Jvm.MethodName) ({ cls := "ForesightHub", name := "atStake", desc := "(I)I" } : Jvm.MethodName)) ∈ TB := TB_4 163 rfl rfl
theorem tw_884 : (Jvm.Cond.code ({ cls := "ForesightHub", name := "atStake", desc := "(I)I" } : Jvm.MethodName) prog_1_method_14_code (2 : Nat) (Option.some Jvm.ClassFile.FieldType.int)) ∈ TB := TB_4 164 rfl rfl
theorem tw_885 : (Jvm.Cond.methodLink "ForesightHub" (218 : Nat) ({ cls := "ForesightHub$Hub", name := "unitsAtStake", desc := "(I)I" } : Jvm.MethodName)) ∈ TB := TB_4 165 rfl rfl
theorem tw_886 : (Jvm.Cond.instanceMethod ({ cls := "ForesightHub$Hub", name := "unitsAtStake", desc := "(I)I" } : Jvm.MethodName)) ∈ TB := TB_4 166 rfl rfl
theorem tw_887 : (Jvm.Cond.selects "ForesightHub$Hub" ({ cls := "ForesightHub$Hub", name := "unitsAtStake", desc := "(I)I" } : Jvm.MethodName) ({ cls := "ForesightHub$Hub", name := "unitsAtStake", desc := "(I)I" } : Jvm.MethodName)) ∈ TB := TB_4 167 rfl rfl
theorem tw_888 : (Jvm.Cond.code ({ cls := "ForesightHub$Hub", name := "unitsAtStake", desc := "(I)I" } : Jvm.MethodName) prog_4_method_10_code (4 : Nat) (Option.some Jvm.ClassFile.FieldType.int)) ∈ TB := TB_4 168 rfl rfl
theorem tw_889 : (Jvm.Cond.methodLink "ForesightHubLaw" (143 : Nat) ({ cls := "ForesightHubLaw", name := "whyNotRunning", desc := "(LForesightHub;I[J)I" } : Jvm.MethodName)) ∈ TB := TB_4 169 rfl rfl
theorem tw_890 : (Jvm.Cond.static ({ cls := "ForesightHubLaw", name := "whyNotRunning", desc := "(LForesightHub;I[J)I" } : Jvm.MethodName)) ∈ TB := TB_4 170 rfl rfl
theorem tw_891 : (Jvm.Cond.codeWith ({ cls := "ForesightHubLaw", name := "whyNotRunning", desc := "(LForesightHub;I[J)I" } : Jvm.MethodName) method_15_code (4 : Nat) (Option.some Jvm.ClassFile.FieldType.int) [((0 : Nat), (9 : Nat), (12 : Nat), (21 : Nat))]) ∈ TB := TB_4 171 rfl rfl
theorem tw_892 : (Jvm.Cond.methodLink "ForesightHubLaw" (53 : Nat) ({ cls := "ForesightHub", name := "whyNotRunning", desc := "(I)I" } : Jvm.MethodName)) ∈ TB := TB_4 172 rfl rfl
theorem tw_893 : (Jvm.Cond.instanceMethod ({ cls := "ForesightHub", name := "whyNotRunning", desc := "(I)I" } : Jvm.MethodName)) ∈ TB := TB_4 173 rfl rfl
theorem tw_894 : (Jvm.Cond.selects "ForesightHub" ({ cls := "ForesightHub", name := "whyNotRunning", desc := "(I)I" } : Jvm.MethodName) ({ cls := "ForesightHub", name := "whyNotRunning", desc := "(I)I" } : Jvm.MethodName)) ∈ TB := TB_4 174 rfl rfl
theorem tw_895 : (Jvm.Cond.code ({ cls := "ForesightHub", name := "whyNotRunning", desc := "(I)I" } : Jvm.MethodName) prog_1_method_16_code (2 : Nat) (Option.some Jvm.ClassFile.FieldType.int)) ∈ TB := TB_4 175 rfl rfl
theorem tw_896 : (Jvm.Cond.methodLink "ForesightHub" (224 : Nat) ({ cls := "ForesightHub$Hub", name := "reasonNotToRun", desc := "(I)I" } : Jvm.MethodName)) ∈ TB := TB_4 176 rfl rfl
theorem tw_897 : (Jvm.Cond.instanceMethod ({ cls := "ForesightHub$Hub", name := "reasonNotToRun", desc := "(I)I" } : Jvm.MethodName)) ∈ TB := TB_4 177 rfl rfl
theorem tw_898 : (Jvm.Cond.selects "ForesightHub$Hub" ({ cls := "ForesightHub$Hub", name := "reasonNotToRun", desc := "(I)I" } : Jvm.MethodName) ({ cls := "ForesightHub$Hub", name := "reasonNotToRun", desc := "(I)I" } : Jvm.MethodName)) ∈ TB := TB_4 178 rfl rfl
theorem tw_899 : (Jvm.Cond.code ({ cls := "ForesightHub$Hub", name := "reasonNotToRun", desc := "(I)I" } : Jvm.MethodName) prog_4_method_29_code (2 : Nat) (Option.some Jvm.ClassFile.FieldType.int)) ∈ TB := TB_4 179 rfl rfl
theorem tw_900 : (Jvm.Cond.methodLink "ForesightHubLaw" (146 : Nat) ({ cls := "ForesightHubLaw", name := "event", desc := "(LForesightHub;II[J)I" } : Jvm.MethodName)) ∈ TB := TB_4 180 rfl rfl
theorem tw_901 : (Jvm.Cond.static ({ cls := "ForesightHubLaw", name := "event", desc := "(LForesightHub;II[J)I" } : Jvm.MethodName)) ∈ TB := TB_4 181 rfl rfl
theorem tw_902 : (Jvm.Cond.codeWith ({ cls := "ForesightHubLaw", name := "event", desc := "(LForesightHub;II[J)I" } : Jvm.MethodName) method_16_code (5 : Nat) (Option.some Jvm.ClassFile.FieldType.int) [((0 : Nat), (10 : Nat), (13 : Nat), (13 : Nat))]) ∈ TB := TB_4 182 rfl rfl
theorem tw_903 : (Jvm.Cond.methodLink "ForesightHubLaw" (56 : Nat) ({ cls := "ForesightHub", name := "event", desc := "(II)I" } : Jvm.MethodName)) ∈ TB := TB_4 183 rfl rfl
theorem tw_904 : (Jvm.Cond.instanceMethod ({ cls := "ForesightHub", name := "event", desc := "(II)I" } : Jvm.MethodName)) ∈ TB := TB_4 184 rfl rfl
theorem tw_905 : (Jvm.Cond.selects "ForesightHub" ({ cls := "ForesightHub", name := "event", desc := "(II)I" } : Jvm.MethodName) ({ cls := "ForesightHub", name := "event", desc := "(II)I" } : Jvm.MethodName)) ∈ TB := TB_4 185 rfl rfl
theorem tw_906 : (Jvm.Cond.code ({ cls := "ForesightHub", name := "event", desc := "(II)I" } : Jvm.MethodName) prog_1_method_17_code (3 : Nat) (Option.some Jvm.ClassFile.FieldType.int)) ∈ TB := TB_4 186 rfl rfl
theorem tw_908 : (Jvm.Cond.methodLink "ForesightHub" (233 : Nat) ({ cls := "ForesightHub$Log", name := "partOf", desc := "(II)I" } : Jvm.MethodName)) ∈ TB := TB_4 188 rfl rfl
theorem tw_909 : (Jvm.Cond.instanceMethod ({ cls := "ForesightHub$Log", name := "partOf", desc := "(II)I" } : Jvm.MethodName)) ∈ TB := TB_4 189 rfl rfl
theorem tw_910 : (Jvm.Cond.selects "ForesightHub$Log" ({ cls := "ForesightHub$Log", name := "partOf", desc := "(II)I" } : Jvm.MethodName) ({ cls := "ForesightHub$Log", name := "partOf", desc := "(II)I" } : Jvm.MethodName)) ∈ TB := TB_4 190 rfl rfl
theorem tw_911 : (Jvm.Cond.code ({ cls := "ForesightHub$Log", name := "partOf", desc := "(II)I" } : Jvm.MethodName) prog_5_method_5_code (4 : Nat) (Option.some Jvm.ClassFile.FieldType.int)) ∈ TB := TB_4 191 rfl rfl
theorem tw_912 : (Jvm.Cond.methodLink "ForesightHub$Log" (43 : Nat) ({ cls := "java/lang/Math", name := "floorMod", desc := "(II)I" } : Jvm.MethodName)) ∈ TB := TB_4 192 rfl rfl
theorem tw_913 : (Jvm.Cond.methodLink "ForesightHubLaw" (149 : Nat) ({ cls := "ForesightHubLaw", name := "account", desc := "(LForesightHub;I[J)I" } : Jvm.MethodName)) ∈ TB := TB_4 193 rfl rfl
theorem tw_914 : (Jvm.Cond.static ({ cls := "ForesightHubLaw", name := "account", desc := "(LForesightHub;I[J)I" } : Jvm.MethodName)) ∈ TB := TB_4 194 rfl rfl
theorem tw_915 : (Jvm.Cond.codeWith ({ cls := "ForesightHubLaw", name := "account", desc := "(LForesightHub;I[J)I" } : Jvm.MethodName) method_17_code (4 : Nat) (Option.some Jvm.ClassFile.FieldType.int) [((0 : Nat), (9 : Nat), (12 : Nat), (13 : Nat))]) ∈ TB := TB_4 195 rfl rfl
theorem tw_916 : (Jvm.Cond.methodLink "ForesightHubLaw" (59 : Nat) ({ cls := "ForesightHub", name := "account", desc := "(I)I" } : Jvm.MethodName)) ∈ TB := TB_4 196 rfl rfl
theorem tw_917 : (Jvm.Cond.instanceMethod ({ cls := "ForesightHub", name := "account", desc := "(I)I" } : Jvm.MethodName)) ∈ TB := TB_4 197 rfl rfl
theorem tw_918 : (Jvm.Cond.selects "ForesightHub" ({ cls := "ForesightHub", name := "account", desc := "(I)I" } : Jvm.MethodName) ({ cls := "ForesightHub", name := "account", desc := "(I)I" } : Jvm.MethodName)) ∈ TB := TB_4 198 rfl rfl
theorem tw_919 : (Jvm.Cond.code ({ cls := "ForesightHub", name := "account", desc := "(I)I" } : Jvm.MethodName) prog_1_method_18_code (2 : Nat) (Option.some Jvm.ClassFile.FieldType.int)) ∈ TB := TB_4 199 rfl rfl
theorem tw_921 : (Jvm.Cond.methodLink "ForesightHubLaw" (157 : Nat) ({ cls := "ForesightHubLaw", name := "frames", desc := "(LForesightHub;I[J)I" } : Jvm.MethodName)) ∈ TB := TB_4 201 rfl rfl
theorem tw_922 : (Jvm.Cond.static ({ cls := "ForesightHubLaw", name := "frames", desc := "(LForesightHub;I[J)I" } : Jvm.MethodName)) ∈ TB := TB_4 202 rfl rfl
theorem tw_923 : (Jvm.Cond.codeWith ({ cls := "ForesightHubLaw", name := "frames", desc := "(LForesightHub;I[J)I" } : Jvm.MethodName) method_18_code (4 : Nat) (Option.some Jvm.ClassFile.FieldType.int) [((0 : Nat), (9 : Nat), (12 : Nat), (13 : Nat))]) ∈ TB := TB_4 203 rfl rfl
theorem tw_924 : (Jvm.Cond.methodLink "ForesightHubLaw" (62 : Nat) ({ cls := "ForesightHub", name := "frames", desc := "(I)I" } : Jvm.MethodName)) ∈ TB := TB_4 204 rfl rfl
theorem tw_925 : (Jvm.Cond.instanceMethod ({ cls := "ForesightHub", name := "frames", desc := "(I)I" } : Jvm.MethodName)) ∈ TB := TB_4 205 rfl rfl
theorem tw_926 : (Jvm.Cond.selects "ForesightHub" ({ cls := "ForesightHub", name := "frames", desc := "(I)I" } : Jvm.MethodName) ({ cls := "ForesightHub", name := "frames", desc := "(I)I" } : Jvm.MethodName)) ∈ TB := TB_4 206 rfl rfl
theorem tw_927 : (Jvm.Cond.code ({ cls := "ForesightHub", name := "frames", desc := "(I)I" } : Jvm.MethodName) prog_1_method_20_code (3 : Nat) (Option.some Jvm.ClassFile.FieldType.int)) ∈ TB := TB_4 207 rfl rfl
theorem tw_929 : (Jvm.Cond.methodLink "ForesightHub" (245 : Nat) ({ cls := "ForesightHub$History", name := "remember", desc := "(LForesightHub$State;)V" } : Jvm.MethodName)) ∈ TB := TB_4 209 rfl rfl
theorem tw_930 : (Jvm.Cond.instanceMethod ({ cls := "ForesightHub$History", name := "remember", desc := "(LForesightHub$State;)V" } : Jvm.MethodName)) ∈ TB := TB_4 210 rfl rfl
theorem tw_931 : (Jvm.Cond.selects "ForesightHub$History" ({ cls := "ForesightHub$History", name := "remember", desc := "(LForesightHub$State;)V" } : Jvm.MethodName) ({ cls := "ForesightHub$History", name := "remember", desc := "(LForesightHub$State;)V" } : Jvm.MethodName)) ∈ TB := TB_4 211 rfl rfl
theorem tw_932 : (Jvm.Cond.code ({ cls := "ForesightHub$History", name := "remember", desc := "(LForesightHub$State;)V" } : Jvm.MethodName) prog_3_method_3_code (2 : Nat) (Option.none : Option Jvm.ClassFile.FieldType)) ∈ TB := TB_4 212 rfl rfl
theorem tw_933 : (Jvm.Cond.methodLink "ForesightHub$History" (27 : Nat) ({ cls := "java/lang/Math", name := "min", desc := "(II)I" } : Jvm.MethodName)) ∈ TB := TB_4 213 rfl rfl
theorem tw_934 : (Jvm.Cond.methodLink "ForesightHub" (249 : Nat) ({ cls := "ForesightHub$Hub", name := "passFrame", desc := "()V" } : Jvm.MethodName)) ∈ TB := TB_4 214 rfl rfl
theorem tw_935 : (Jvm.Cond.instanceMethod ({ cls := "ForesightHub$Hub", name := "passFrame", desc := "()V" } : Jvm.MethodName)) ∈ TB := TB_4 215 rfl rfl
theorem tw_936 : (Jvm.Cond.selects "ForesightHub$Hub" ({ cls := "ForesightHub$Hub", name := "passFrame", desc := "()V" } : Jvm.MethodName) ({ cls := "ForesightHub$Hub", name := "passFrame", desc := "()V" } : Jvm.MethodName)) ∈ TB := TB_4 216 rfl rfl
theorem tw_937 : (Jvm.Cond.code ({ cls := "ForesightHub$Hub", name := "passFrame", desc := "()V" } : Jvm.MethodName) prog_4_method_32_code (2 : Nat) (Option.none : Option Jvm.ClassFile.FieldType)) ∈ TB := TB_4 217 rfl rfl
theorem tw_938 : (Jvm.Cond.methodLink "ForesightHub$Hub" (188 : Nat) ({ cls := "ForesightHub$Hub", name := "sendOn", desc := "(I)V" } : Jvm.MethodName)) ∈ TB := TB_4 218 rfl rfl
theorem tw_940 : (Jvm.Cond.instanceMethod ({ cls := "ForesightHub$Hub", name := "sendOn", desc := "(I)V" } : Jvm.MethodName)) ∈ TB := TB_4 220 rfl rfl
theorem tw_941 : (Jvm.Cond.code ({ cls := "ForesightHub$Hub", name := "sendOn", desc := "(I)V" } : Jvm.MethodName) prog_4_method_33_code (4 : Nat) (Option.none : Option Jvm.ClassFile.FieldType)) ∈ TB := TB_4 221 rfl rfl
theorem tw_942 : (Jvm.Cond.methodLink "ForesightHub$Hub" (191 : Nat) ({ cls := "ForesightHub$Hub", name := "sendToPacketEnd", desc := "(I)V" } : Jvm.MethodName)) ∈ TB := TB_4 222 rfl rfl
theorem tw_944 : (Jvm.Cond.instanceMethod ({ cls := "ForesightHub$Hub", name := "sendToPacketEnd", desc := "(I)V" } : Jvm.MethodName)) ∈ TB := TB_4 224 rfl rfl
theorem tw_945 : (Jvm.Cond.code ({ cls := "ForesightHub$Hub", name := "sendToPacketEnd", desc := "(I)V" } : Jvm.MethodName) prog_4_method_34_code (3 : Nat) (Option.none : Option Jvm.ClassFile.FieldType)) ∈ TB := TB_4 225 rfl rfl
theorem tw_946 : (Jvm.Cond.methodLink "ForesightHub$Hub" (194 : Nat) ({ cls := "ForesightHub$Hub", name := "isWrongAlarm", desc := "(I)Z" } : Jvm.MethodName)) ∈ TB := TB_4 226 rfl rfl
theorem tw_948 : (Jvm.Cond.instanceMethod ({ cls := "ForesightHub$Hub", name := "isWrongAlarm", desc := "(I)Z" } : Jvm.MethodName)) ∈ TB := TB_4 228 rfl rfl
theorem tw_949 : (Jvm.Cond.code ({ cls := "ForesightHub$Hub", name := "isWrongAlarm", desc := "(I)Z" } : Jvm.MethodName) prog_4_method_22_code (2 : Nat) (Option.some Jvm.ClassFile.FieldType.boolean)) ∈ TB := TB_4 229 rfl rfl
theorem tw_950 : (Jvm.Cond.methodLink "ForesightHub$Hub" (146 : Nat) ({ cls := "ForesightHub$Hub", name := "inAlarm", desc := "(I)Z" } : Jvm.MethodName)) ∈ TB := TB_4 230 rfl rfl
theorem tw_951 : (Jvm.Cond.methodLink "ForesightHub$Hub" (197 : Nat) ({ cls := "ForesightHub$Hub", name := "endWrongAlarm", desc := "(I)V" } : Jvm.MethodName)) ∈ TB := TB_4 231 rfl rfl
theorem tw_952 : (Jvm.Cond.instanceMethod ({ cls := "ForesightHub$Hub", name := "endWrongAlarm", desc := "(I)V" } : Jvm.MethodName)) ∈ TB := TB_4 232 rfl rfl
theorem tw_953 : (Jvm.Cond.selects "ForesightHub$Hub" ({ cls := "ForesightHub$Hub", name := "endWrongAlarm", desc := "(I)V" } : Jvm.MethodName) ({ cls := "ForesightHub$Hub", name := "endWrongAlarm", desc := "(I)V" } : Jvm.MethodName)) ∈ TB := TB_4 233 rfl rfl
theorem tw_954 : (Jvm.Cond.code ({ cls := "ForesightHub$Hub", name := "endWrongAlarm", desc := "(I)V" } : Jvm.MethodName) prog_4_method_21_code (2 : Nat) (Option.none : Option Jvm.ClassFile.FieldType)) ∈ TB := TB_4 234 rfl rfl
theorem tw_955 : (Jvm.Cond.methodLink "ForesightHub$Hub" (154 : Nat) ({ cls := "ForesightHub$ErrorBook", name := "forget", desc := "(I)V" } : Jvm.MethodName)) ∈ TB := TB_4 235 rfl rfl
theorem tw_956 : (Jvm.Cond.instanceMethod ({ cls := "ForesightHub$ErrorBook", name := "forget", desc := "(I)V" } : Jvm.MethodName)) ∈ TB := TB_4 236 rfl rfl
theorem tw_957 : (Jvm.Cond.selects "ForesightHub$ErrorBook" ({ cls := "ForesightHub$ErrorBook", name := "forget", desc := "(I)V" } : Jvm.MethodName) ({ cls := "ForesightHub$ErrorBook", name := "forget", desc := "(I)V" } : Jvm.MethodName)) ∈ TB := TB_4 237 rfl rfl
theorem tw_958 : (Jvm.Cond.code ({ cls := "ForesightHub$ErrorBook", name := "forget", desc := "(I)V" } : Jvm.MethodName) prog_2_method_7_code (2 : Nat) (Option.none : Option Jvm.ClassFile.FieldType)) ∈ TB := TB_4 238 rfl rfl
theorem tw_959 : (Jvm.Cond.methodLink "ForesightHubLaw" (160 : Nat) ({ cls := "ForesightHubLaw", name := "fail", desc := "(LForesightHub;II[J)I" } : Jvm.MethodName)) ∈ TB := TB_4 239 rfl rfl
theorem tw_960 : (Jvm.Cond.static ({ cls := "ForesightHubLaw", name := "fail", desc := "(LForesightHub;II[J)I" } : Jvm.MethodName)) ∈ TB := TB_5 0 rfl rfl
theorem tw_961 : (Jvm.Cond.codeWith ({ cls := "ForesightHubLaw", name := "fail", desc := "(LForesightHub;II[J)I" } : Jvm.MethodName) method_19_code (5 : Nat) (Option.some Jvm.ClassFile.FieldType.int) [((0 : Nat), (10 : Nat), (13 : Nat), (21 : Nat)), ((0 : Nat), (10 : Nat), (17 : Nat), (13 : Nat)), ((0 : Nat), (10 : Nat), (21 : Nat), (68 : Nat))]) ∈ TB := TB_5 1 rfl rfl
theorem tw_962 : (Jvm.Cond.classLink "ForesightHubLaw" (68 : Nat) "java/lang/IllegalStateException") ∈ TB := TB_5 2 rfl rfl
theorem tw_963 : (Jvm.Cond.methodLink "ForesightHubLaw" (65 : Nat) ({ cls := "ForesightHub", name := "fail", desc := "(II)I" } : Jvm.MethodName)) ∈ TB := TB_5 3 rfl rfl
theorem tw_964 : (Jvm.Cond.instanceMethod ({ cls := "ForesightHub", name := "fail", desc := "(II)I" } : Jvm.MethodName)) ∈ TB := TB_5 4 rfl rfl
theorem tw_965 : (Jvm.Cond.selects "ForesightHub" ({ cls := "ForesightHub", name := "fail", desc := "(II)I" } : Jvm.MethodName) ({ cls := "ForesightHub", name := "fail", desc := "(II)I" } : Jvm.MethodName)) ∈ TB := TB_5 5 rfl rfl
theorem tw_966 : (Jvm.Cond.code ({ cls := "ForesightHub", name := "fail", desc := "(II)I" } : Jvm.MethodName) prog_1_method_21_code (3 : Nat) (Option.some Jvm.ClassFile.FieldType.int)) ∈ TB := TB_5 6 rfl rfl
theorem tw_967 : (Jvm.Cond.methodLink "ForesightHub" (252 : Nat) ({ cls := "ForesightHub", name := "requirePluggedIn", desc := "(I)V" } : Jvm.MethodName)) ∈ TB := TB_5 7 rfl rfl
theorem tw_969 : (Jvm.Cond.instanceMethod ({ cls := "ForesightHub", name := "requirePluggedIn", desc := "(I)V" } : Jvm.MethodName)) ∈ TB := TB_5 9 rfl rfl
theorem tw_970 : (Jvm.Cond.code ({ cls := "ForesightHub", name := "requirePluggedIn", desc := "(I)V" } : Jvm.MethodName) prog_1_method_34_code (2 : Nat) (Option.none : Option Jvm.ClassFile.FieldType)) ∈ TB := TB_5 10 rfl rfl
theorem tw_971 : (Jvm.Cond.classLink "ForesightHub" (259 : Nat) "java/lang/IllegalStateException") ∈ TB := TB_5 11 rfl rfl
theorem tw_972 : (Jvm.Cond.instantiable "java/lang/IllegalStateException" (6 : Nat)) ∈ TB := TB_5 12 rfl rfl
theorem tw_974 : (Jvm.Cond.selects "java/lang/IllegalStateException" ({ cls := "java/lang/Throwable", name := "fillInStackTrace", desc := "(I)Ljava/lang/Throwable;" } : Jvm.MethodName) ({ cls := "java/lang/Throwable", name := "fillInStackTrace", desc := "(I)Ljava/lang/Throwable;" } : Jvm.MethodName)) ∈ TB := TB_5 14 rfl rfl
theorem tw_981 : (Jvm.Cond.methodLink "ForesightHub" (263 : Nat) ({ cls := "java/lang/IllegalStateException", name := "<init>", desc := "(Ljava/lang/String;)V" } : Jvm.MethodName)) ∈ TB := TB_5 21 rfl rfl
theorem tw_982 : (Jvm.Cond.instanceMethod ({ cls := "java/lang/IllegalStateException", name := "<init>", desc := "(Ljava/lang/String;)V" } : Jvm.MethodName)) ∈ TB := TB_5 22 rfl rfl
theorem tw_983 : (Jvm.Cond.code ({ cls := "java/lang/IllegalStateException", name := "<init>", desc := "(Ljava/lang/String;)V" } : Jvm.MethodName) prog_13_method_2_code (2 : Nat) (Option.none : Option Jvm.ClassFile.FieldType)) ∈ TB := TB_5 23 rfl rfl
theorem tw_984 : (Jvm.Cond.methodLink "java/lang/IllegalStateException" (7 : Nat) ({ cls := "java/lang/RuntimeException", name := "<init>", desc := "(Ljava/lang/String;)V" } : Jvm.MethodName)) ∈ TB := TB_5 24 rfl rfl
theorem tw_986 : (Jvm.Cond.superclass "java/lang/IllegalStateException" "java/lang/RuntimeException") ∈ TB := TB_5 26 rfl rfl
theorem tw_987 : (Jvm.Cond.methodLink "ForesightHub" (255 : Nat) ({ cls := "ForesightHub$Hub", name := "takeError", desc := "(II)V" } : Jvm.MethodName)) ∈ TB := TB_5 27 rfl rfl
theorem tw_988 : (Jvm.Cond.instanceMethod ({ cls := "ForesightHub$Hub", name := "takeError", desc := "(II)V" } : Jvm.MethodName)) ∈ TB := TB_5 28 rfl rfl
theorem tw_989 : (Jvm.Cond.selects "ForesightHub$Hub" ({ cls := "ForesightHub$Hub", name := "takeError", desc := "(II)V" } : Jvm.MethodName) ({ cls := "ForesightHub$Hub", name := "takeError", desc := "(II)V" } : Jvm.MethodName)) ∈ TB := TB_5 29 rfl rfl
theorem tw_990 : (Jvm.Cond.code ({ cls := "ForesightHub$Hub", name := "takeError", desc := "(II)V" } : Jvm.MethodName) prog_4_method_19_code (3 : Nat) (Option.none : Option Jvm.ClassFile.FieldType)) ∈ TB := TB_5 30 rfl rfl
theorem tw_991 : (Jvm.Cond.methodLink "ForesightHub$Hub" (133 : Nat) ({ cls := "ForesightHub$ErrorBook", name := "add", desc := "(III)V" } : Jvm.MethodName)) ∈ TB := TB_5 31 rfl rfl
theorem tw_992 : (Jvm.Cond.instanceMethod ({ cls := "ForesightHub$ErrorBook", name := "add", desc := "(III)V" } : Jvm.MethodName)) ∈ TB := TB_5 32 rfl rfl
theorem tw_993 : (Jvm.Cond.selects "ForesightHub$ErrorBook" ({ cls := "ForesightHub$ErrorBook", name := "add", desc := "(III)V" } : Jvm.MethodName) ({ cls := "ForesightHub$ErrorBook", name := "add", desc := "(III)V" } : Jvm.MethodName)) ∈ TB := TB_5 33 rfl rfl
theorem tw_994 : (Jvm.Cond.code ({ cls := "ForesightHub$ErrorBook", name := "add", desc := "(III)V" } : Jvm.MethodName) prog_2_method_4_code (5 : Nat) (Option.none : Option Jvm.ClassFile.FieldType)) ∈ TB := TB_5 34 rfl rfl
theorem tw_995 : (Jvm.Cond.methodLink "ForesightHub$ErrorBook" (37 : Nat) ({ cls := "ForesightHub$ErrorBook", name := "dropOldest", desc := "(I)V" } : Jvm.MethodName)) ∈ TB := TB_5 35 rfl rfl
theorem tw_997 : (Jvm.Cond.instanceMethod ({ cls := "ForesightHub$ErrorBook", name := "dropOldest", desc := "(I)V" } : Jvm.MethodName)) ∈ TB := TB_5 37 rfl rfl
theorem tw_998 : (Jvm.Cond.code ({ cls := "ForesightHub$ErrorBook", name := "dropOldest", desc := "(I)V" } : Jvm.MethodName) prog_2_method_5_code (4 : Nat) (Option.none : Option Jvm.ClassFile.FieldType)) ∈ TB := TB_5 38 rfl rfl
theorem tw_999 : (Jvm.Cond.methodLink "ForesightHub$ErrorBook" (41 : Nat) ({ cls := "ForesightHub$ErrorBook", name := "countCause", desc := "(I)V" } : Jvm.MethodName)) ∈ TB := TB_5 39 rfl rfl
theorem tw_1001 : (Jvm.Cond.instanceMethod ({ cls := "ForesightHub$ErrorBook", name := "countCause", desc := "(I)V" } : Jvm.MethodName)) ∈ TB := TB_5 41 rfl rfl
theorem tw_1002 : (Jvm.Cond.code ({ cls := "ForesightHub$ErrorBook", name := "countCause", desc := "(I)V" } : Jvm.MethodName) prog_2_method_6_code (2 : Nat) (Option.none : Option Jvm.ClassFile.FieldType)) ∈ TB := TB_5 42 rfl rfl
theorem tw_1003 : (Jvm.Cond.methodLink "ForesightHub$Hub" (149 : Nat) ({ cls := "ForesightHub$Hub", name := "beginAlarm", desc := "(I)V" } : Jvm.MethodName)) ∈ TB := TB_5 43 rfl rfl
theorem tw_1004 : (Jvm.Cond.instanceMethod ({ cls := "ForesightHub$Hub", name := "beginAlarm", desc := "(I)V" } : Jvm.MethodName)) ∈ TB := TB_5 44 rfl rfl
theorem tw_1005 : (Jvm.Cond.selects "ForesightHub$Hub" ({ cls := "ForesightHub$Hub", name := "beginAlarm", desc := "(I)V" } : Jvm.MethodName) ({ cls := "ForesightHub$Hub", name := "beginAlarm", desc := "(I)V" } : Jvm.MethodName)) ∈ TB := TB_5 45 rfl rfl
theorem tw_1006 : (Jvm.Cond.code ({ cls := "ForesightHub$Hub", name := "beginAlarm", desc := "(I)V" } : Jvm.MethodName) prog_4_method_20_code (2 : Nat) (Option.none : Option Jvm.ClassFile.FieldType)) ∈ TB := TB_5 46 rfl rfl
theorem tw_1007 : (Jvm.Cond.methodLink "ForesightHubLaw" (163 : Nat) ({ cls := "ForesightHubLaw", name := "warn", desc := "(LForesightHub;I[J)I" } : Jvm.MethodName)) ∈ TB := TB_5 47 rfl rfl
theorem tw_1008 : (Jvm.Cond.static ({ cls := "ForesightHubLaw", name := "warn", desc := "(LForesightHub;I[J)I" } : Jvm.MethodName)) ∈ TB := TB_5 48 rfl rfl
theorem tw_1009 : (Jvm.Cond.codeWith ({ cls := "ForesightHubLaw", name := "warn", desc := "(LForesightHub;I[J)I" } : Jvm.MethodName) method_20_code (4 : Nat) (Option.some Jvm.ClassFile.FieldType.int) [((0 : Nat), (9 : Nat), (12 : Nat), (21 : Nat)), ((0 : Nat), (9 : Nat), (15 : Nat), (68 : Nat))]) ∈ TB := TB_5 49 rfl rfl
theorem tw_1010 : (Jvm.Cond.methodLink "ForesightHubLaw" (70 : Nat) ({ cls := "ForesightHub", name := "warn", desc := "(I)I" } : Jvm.MethodName)) ∈ TB := TB_5 50 rfl rfl
theorem tw_1011 : (Jvm.Cond.instanceMethod ({ cls := "ForesightHub", name := "warn", desc := "(I)I" } : Jvm.MethodName)) ∈ TB := TB_5 51 rfl rfl
theorem tw_1012 : (Jvm.Cond.selects "ForesightHub" ({ cls := "ForesightHub", name := "warn", desc := "(I)I" } : Jvm.MethodName) ({ cls := "ForesightHub", name := "warn", desc := "(I)I" } : Jvm.MethodName)) ∈ TB := TB_5 52 rfl rfl
theorem tw_1013 : (Jvm.Cond.code ({ cls := "ForesightHub", name := "warn", desc := "(I)I" } : Jvm.MethodName) prog_1_method_22_code (3 : Nat) (Option.some Jvm.ClassFile.FieldType.int)) ∈ TB := TB_5 53 rfl rfl
theorem tw_1015 : (Jvm.Cond.methodLink "ForesightHub" (264 : Nat) ({ cls := "ForesightHub$Hub", name := "beginAlarm", desc := "(I)V" } : Jvm.MethodName)) ∈ TB := TB_5 55 rfl rfl
theorem tw_1016 : (Jvm.Cond.methodLink "ForesightHub" (267 : Nat) ({ cls := "ForesightHub$Hub", name := "settle", desc := "()V" } : Jvm.MethodName)) ∈ TB := TB_5 56 rfl rfl
theorem tw_1017 : (Jvm.Cond.methodLink "ForesightHubLaw" (166 : Nat) ({ cls := "ForesightHubLaw", name := "callOff", desc := "(LForesightHub;I[J)I" } : Jvm.MethodName)) ∈ TB := TB_5 57 rfl rfl
theorem tw_1018 : (Jvm.Cond.static ({ cls := "ForesightHubLaw", name := "callOff", desc := "(LForesightHub;I[J)I" } : Jvm.MethodName)) ∈ TB := TB_5 58 rfl rfl
theorem tw_1019 : (Jvm.Cond.codeWith ({ cls := "ForesightHubLaw", name := "callOff", desc := "(LForesightHub;I[J)I" } : Jvm.MethodName) method_21_code (4 : Nat) (Option.some Jvm.ClassFile.FieldType.int) [((0 : Nat), (9 : Nat), (12 : Nat), (21 : Nat)), ((0 : Nat), (9 : Nat), (15 : Nat), (68 : Nat))]) ∈ TB := TB_5 59 rfl rfl
theorem tw_1020 : (Jvm.Cond.methodLink "ForesightHubLaw" (73 : Nat) ({ cls := "ForesightHub", name := "callOff", desc := "(I)I" } : Jvm.MethodName)) ∈ TB := TB_5 60 rfl rfl
theorem tw_1021 : (Jvm.Cond.instanceMethod ({ cls := "ForesightHub", name := "callOff", desc := "(I)I" } : Jvm.MethodName)) ∈ TB := TB_5 61 rfl rfl
theorem tw_1022 : (Jvm.Cond.selects "ForesightHub" ({ cls := "ForesightHub", name := "callOff", desc := "(I)I" } : Jvm.MethodName) ({ cls := "ForesightHub", name := "callOff", desc := "(I)I" } : Jvm.MethodName)) ∈ TB := TB_5 62 rfl rfl
theorem tw_1023 : (Jvm.Cond.code ({ cls := "ForesightHub", name := "callOff", desc := "(I)I" } : Jvm.MethodName) prog_1_method_23_code (2 : Nat) (Option.some Jvm.ClassFile.FieldType.int)) ∈ TB := TB_5 63 rfl rfl
theorem tw_1025 : (Jvm.Cond.methodLink "ForesightHub" (272 : Nat) ({ cls := "ForesightHub$Hub", name := "endWrongAlarm", desc := "(I)V" } : Jvm.MethodName)) ∈ TB := TB_5 65 rfl rfl
theorem tw_1026 : (Jvm.Cond.methodLink "ForesightHub" (275 : Nat) ({ cls := "java/lang/Integer", name := "bitCount", desc := "(I)I" } : Jvm.MethodName)) ∈ TB := TB_5 66 rfl rfl
theorem tw_1027 : (Jvm.Cond.static ({ cls := "java/lang/Integer", name := "bitCount", desc := "(I)I" } : Jvm.MethodName)) ∈ TB := TB_5 67 rfl rfl
theorem tw_1028 : (Jvm.Cond.code ({ cls := "java/lang/Integer", name := "bitCount", desc := "(I)I" } : Jvm.MethodName) prog_15_method_49_code (1 : Nat) (Option.some Jvm.ClassFile.FieldType.int)) ∈ TB := TB_5 68 rfl rfl
theorem tw_1029 : (Jvm.Cond.constant "java/lang/Integer" (265 : Nat) (1431655765 : Int32)) ∈ TB := TB_5 69 rfl rfl
theorem tw_1030 : (Jvm.Cond.constant "java/lang/Integer" (266 : Nat) (858993459 : Int32)) ∈ TB := TB_5 70 rfl rfl
theorem tw_1031 : (Jvm.Cond.constant "java/lang/Integer" (267 : Nat) (252645135 : Int32)) ∈ TB := TB_5 71 rfl rfl
theorem tw_1032 : (Jvm.Cond.methodLink "ForesightHubLaw" (169 : Nat) ({ cls := "ForesightHubLaw", name := "unplug", desc := "(LForesightHub;I[J)I" } : Jvm.MethodName)) ∈ TB := TB_5 72 rfl rfl
theorem tw_1033 : (Jvm.Cond.static ({ cls := "ForesightHubLaw", name := "unplug", desc := "(LForesightHub;I[J)I" } : Jvm.MethodName)) ∈ TB := TB_5 73 rfl rfl
theorem tw_1034 : (Jvm.Cond.codeWith ({ cls := "ForesightHubLaw", name := "unplug", desc := "(LForesightHub;I[J)I" } : Jvm.MethodName) method_22_code (4 : Nat) (Option.some Jvm.ClassFile.FieldType.int) [((0 : Nat), (9 : Nat), (12 : Nat), (21 : Nat)), ((0 : Nat), (9 : Nat), (15 : Nat), (68 : Nat))]) ∈ TB := TB_5 74 rfl rfl
theorem tw_1035 : (Jvm.Cond.methodLink "ForesightHubLaw" (76 : Nat) ({ cls := "ForesightHub", name := "unplug", desc := "(I)I" } : Jvm.MethodName)) ∈ TB := TB_5 75 rfl rfl
theorem tw_1036 : (Jvm.Cond.instanceMethod ({ cls := "ForesightHub", name := "unplug", desc := "(I)I" } : Jvm.MethodName)) ∈ TB := TB_5 76 rfl rfl
theorem tw_1037 : (Jvm.Cond.selects "ForesightHub" ({ cls := "ForesightHub", name := "unplug", desc := "(I)I" } : Jvm.MethodName) ({ cls := "ForesightHub", name := "unplug", desc := "(I)I" } : Jvm.MethodName)) ∈ TB := TB_5 77 rfl rfl
theorem tw_1038 : (Jvm.Cond.code ({ cls := "ForesightHub", name := "unplug", desc := "(I)I" } : Jvm.MethodName) prog_1_method_24_code (2 : Nat) (Option.some Jvm.ClassFile.FieldType.int)) ∈ TB := TB_5 78 rfl rfl
theorem tw_1039 : (Jvm.Cond.methodLink "ForesightHub" (280 : Nat) ({ cls := "ForesightHub$Hub", name := "pullOut", desc := "(I)I" } : Jvm.MethodName)) ∈ TB := TB_5 79 rfl rfl
theorem tw_1040 : (Jvm.Cond.instanceMethod ({ cls := "ForesightHub$Hub", name := "pullOut", desc := "(I)I" } : Jvm.MethodName)) ∈ TB := TB_5 80 rfl rfl
theorem tw_1041 : (Jvm.Cond.selects "ForesightHub$Hub" ({ cls := "ForesightHub$Hub", name := "pullOut", desc := "(I)I" } : Jvm.MethodName) ({ cls := "ForesightHub$Hub", name := "pullOut", desc := "(I)I" } : Jvm.MethodName)) ∈ TB := TB_5 81 rfl rfl
theorem tw_1042 : (Jvm.Cond.code ({ cls := "ForesightHub$Hub", name := "pullOut", desc := "(I)I" } : Jvm.MethodName) prog_4_method_23_code (4 : Nat) (Option.some Jvm.ClassFile.FieldType.int)) ∈ TB := TB_5 82 rfl rfl
theorem tw_1043 : (Jvm.Cond.methodLink "ForesightHub$Hub" (160 : Nat) ({ cls := "ForesightHub$Hub", name := "dropStream", desc := "(I)I" } : Jvm.MethodName)) ∈ TB := TB_5 83 rfl rfl
theorem tw_1045 : (Jvm.Cond.instanceMethod ({ cls := "ForesightHub$Hub", name := "dropStream", desc := "(I)I" } : Jvm.MethodName)) ∈ TB := TB_5 85 rfl rfl
theorem tw_1046 : (Jvm.Cond.code ({ cls := "ForesightHub$Hub", name := "dropStream", desc := "(I)I" } : Jvm.MethodName) prog_4_method_24_code (3 : Nat) (Option.some Jvm.ClassFile.FieldType.int)) ∈ TB := TB_5 86 rfl rfl
theorem tw_1047 : (Jvm.Cond.methodLink "ForesightHubLaw" (172 : Nat) ({ cls := "ForesightHubLaw", name := "plug", desc := "(LForesightHub;II[J)I" } : Jvm.MethodName)) ∈ TB := TB_5 87 rfl rfl
theorem tw_1048 : (Jvm.Cond.static ({ cls := "ForesightHubLaw", name := "plug", desc := "(LForesightHub;II[J)I" } : Jvm.MethodName)) ∈ TB := TB_5 88 rfl rfl
theorem tw_1049 : (Jvm.Cond.codeWith ({ cls := "ForesightHubLaw", name := "plug", desc := "(LForesightHub;II[J)I" } : Jvm.MethodName) method_23_code (5 : Nat) (Option.some Jvm.ClassFile.FieldType.int) [((0 : Nat), (10 : Nat), (13 : Nat), (21 : Nat)), ((0 : Nat), (10 : Nat), (17 : Nat), (68 : Nat))]) ∈ TB := TB_5 89 rfl rfl
theorem tw_1050 : (Jvm.Cond.methodLink "ForesightHubLaw" (79 : Nat) ({ cls := "ForesightHub", name := "plug", desc := "(II)I" } : Jvm.MethodName)) ∈ TB := TB_5 90 rfl rfl
theorem tw_1051 : (Jvm.Cond.instanceMethod ({ cls := "ForesightHub", name := "plug", desc := "(II)I" } : Jvm.MethodName)) ∈ TB := TB_5 91 rfl rfl
theorem tw_1052 : (Jvm.Cond.selects "ForesightHub" ({ cls := "ForesightHub", name := "plug", desc := "(II)I" } : Jvm.MethodName) ({ cls := "ForesightHub", name := "plug", desc := "(II)I" } : Jvm.MethodName)) ∈ TB := TB_5 92 rfl rfl
theorem tw_1053 : (Jvm.Cond.code ({ cls := "ForesightHub", name := "plug", desc := "(II)I" } : Jvm.MethodName) prog_1_method_25_code (3 : Nat) (Option.some Jvm.ClassFile.FieldType.int)) ∈ TB := TB_5 93 rfl rfl
theorem tw_1056 : (Jvm.Cond.methodLink "ForesightHub" (287 : Nat) ({ cls := "ForesightHub$Hub", name := "putIn", desc := "(II)V" } : Jvm.MethodName)) ∈ TB := TB_5 96 rfl rfl
theorem tw_1057 : (Jvm.Cond.instanceMethod ({ cls := "ForesightHub$Hub", name := "putIn", desc := "(II)V" } : Jvm.MethodName)) ∈ TB := TB_5 97 rfl rfl
theorem tw_1058 : (Jvm.Cond.selects "ForesightHub$Hub" ({ cls := "ForesightHub$Hub", name := "putIn", desc := "(II)V" } : Jvm.MethodName) ({ cls := "ForesightHub$Hub", name := "putIn", desc := "(II)V" } : Jvm.MethodName)) ∈ TB := TB_5 98 rfl rfl
theorem tw_1059 : (Jvm.Cond.code ({ cls := "ForesightHub$Hub", name := "putIn", desc := "(II)V" } : Jvm.MethodName) prog_4_method_25_code (3 : Nat) (Option.none : Option Jvm.ClassFile.FieldType)) ∈ TB := TB_5 99 rfl rfl
theorem tw_1060 : (Jvm.Cond.methodLink "ForesightHubLaw" (175 : Nat) ({ cls := "ForesightHubLaw", name := "setScore", desc := "(LForesightHub;I[J)I" } : Jvm.MethodName)) ∈ TB := TB_5 100 rfl rfl
theorem tw_1061 : (Jvm.Cond.static ({ cls := "ForesightHubLaw", name := "setScore", desc := "(LForesightHub;I[J)I" } : Jvm.MethodName)) ∈ TB := TB_5 101 rfl rfl
theorem tw_1062 : (Jvm.Cond.codeWith ({ cls := "ForesightHubLaw", name := "setScore", desc := "(LForesightHub;I[J)I" } : Jvm.MethodName) method_24_code (4 : Nat) (Option.some Jvm.ClassFile.FieldType.int) [((0 : Nat), (9 : Nat), (12 : Nat), (13 : Nat))]) ∈ TB := TB_5 102 rfl rfl
theorem tw_1063 : (Jvm.Cond.methodLink "ForesightHubLaw" (82 : Nat) ({ cls := "ForesightHub", name := "setScore", desc := "(I)I" } : Jvm.MethodName)) ∈ TB := TB_5 103 rfl rfl
theorem tw_1064 : (Jvm.Cond.instanceMethod ({ cls := "ForesightHub", name := "setScore", desc := "(I)I" } : Jvm.MethodName)) ∈ TB := TB_5 104 rfl rfl
theorem tw_1065 : (Jvm.Cond.selects "ForesightHub" ({ cls := "ForesightHub", name := "setScore", desc := "(I)I" } : Jvm.MethodName) ({ cls := "ForesightHub", name := "setScore", desc := "(I)I" } : Jvm.MethodName)) ∈ TB := TB_5 105 rfl rfl
theorem tw_1066 : (Jvm.Cond.code ({ cls := "ForesightHub", name := "setScore", desc := "(I)I" } : Jvm.MethodName) prog_1_method_26_code (3 : Nat) (Option.some Jvm.ClassFile.FieldType.int)) ∈ TB := TB_5 106 rfl rfl
theorem tw_1068 : (Jvm.Cond.classLink "ForesightHubLaw" (86 : Nat) "ForesightHubModel") ∈ TB := TB_5 108 rfl rfl
theorem tw_1069 : (Jvm.Cond.instantiable "ForesightHubModel" (23 : Nat)) ∈ TB := TB_5 109 rfl rfl
theorem tw_1070 : (Jvm.Cond.methodLink "ForesightHubLaw" (88 : Nat) ({ cls := "ForesightHubModel", name := "<init>", desc := "()V" } : Jvm.MethodName)) ∈ TB := TB_5 110 rfl rfl
theorem tw_1071 : (Jvm.Cond.instanceMethod ({ cls := "ForesightHubModel", name := "<init>", desc := "()V" } : Jvm.MethodName)) ∈ TB := TB_5 111 rfl rfl
theorem tw_1072 : (Jvm.Cond.code ({ cls := "ForesightHubModel", name := "<init>", desc := "()V" } : Jvm.MethodName) prog_10_method_1_code (1 : Nat) (Option.none : Option Jvm.ClassFile.FieldType)) ∈ TB := TB_5 112 rfl rfl
theorem tw_1073 : (Jvm.Cond.methodLink "ForesightHubModel" (1 : Nat) ({ cls := "java/lang/Object", name := "<init>", desc := "()V" } : Jvm.MethodName)) ∈ TB := TB_5 113 rfl rfl
theorem tw_1074 : (Jvm.Cond.methodLink "ForesightHubModel" (49 : Nat) ({ cls := "ForesightHubModel", name := "setDefaults", desc := "()V" } : Jvm.MethodName)) ∈ TB := TB_5 114 rfl rfl
theorem tw_1076 : (Jvm.Cond.instanceMethod ({ cls := "ForesightHubModel", name := "setDefaults", desc := "()V" } : Jvm.MethodName)) ∈ TB := TB_5 116 rfl rfl
theorem tw_1077 : (Jvm.Cond.code ({ cls := "ForesightHubModel", name := "setDefaults", desc := "()V" } : Jvm.MethodName) prog_10_method_13_code (2 : Nat) (Option.none : Option Jvm.ClassFile.FieldType)) ∈ TB := TB_5 117 rfl rfl
theorem tw_1078 : (Jvm.Cond.methodLink "ForesightHubModel" (52 : Nat) ({ cls := "ForesightHubModel", name := "takeDraft", desc := "()V" } : Jvm.MethodName)) ∈ TB := TB_5 118 rfl rfl
theorem tw_1080 : (Jvm.Cond.instanceMethod ({ cls := "ForesightHubModel", name := "takeDraft", desc := "()V" } : Jvm.MethodName)) ∈ TB := TB_5 120 rfl rfl
theorem tw_1081 : (Jvm.Cond.code ({ cls := "ForesightHubModel", name := "takeDraft", desc := "()V" } : Jvm.MethodName) prog_10_method_26_code (2 : Nat) (Option.none : Option Jvm.ClassFile.FieldType)) ∈ TB := TB_5 121 rfl rfl
theorem tw_1082 : (Jvm.Cond.methodLink "ForesightHubModel" (187 : Nat) ({ cls := "ForesightHubModel", name := "devices", desc := "()I" } : Jvm.MethodName)) ∈ TB := TB_5 122 rfl rfl
theorem tw_1084 : (Jvm.Cond.instanceMethod ({ cls := "ForesightHubModel", name := "devices", desc := "()I" } : Jvm.MethodName)) ∈ TB := TB_5 124 rfl rfl
theorem tw_1085 : (Jvm.Cond.code ({ cls := "ForesightHubModel", name := "devices", desc := "()I" } : Jvm.MethodName) prog_10_method_29_code (1 : Nat) (Option.some Jvm.ClassFile.FieldType.int)) ∈ TB := TB_5 125 rfl rfl
theorem tw_1086 : (Jvm.Cond.methodLink "ForesightHubModel" (190 : Nat) ({ cls := "ForesightHubModel", name := "at", desc := "(I)I" } : Jvm.MethodName)) ∈ TB := TB_5 126 rfl rfl
theorem tw_1087 : (Jvm.Cond.static ({ cls := "ForesightHubModel", name := "at", desc := "(I)I" } : Jvm.MethodName)) ∈ TB := TB_5 127 rfl rfl
theorem tw_1088 : (Jvm.Cond.code ({ cls := "ForesightHubModel", name := "at", desc := "(I)I" } : Jvm.MethodName) prog_10_method_33_code (1 : Nat) (Option.some Jvm.ClassFile.FieldType.int)) ∈ TB := TB_5 128 rfl rfl
theorem tw_1089 : (Jvm.Cond.methodLink "ForesightHubModel" (184 : Nat) ({ cls := "ForesightHubModel", name := "streams", desc := "()I" } : Jvm.MethodName)) ∈ TB := TB_5 129 rfl rfl
theorem tw_1091 : (Jvm.Cond.instanceMethod ({ cls := "ForesightHubModel", name := "streams", desc := "()I" } : Jvm.MethodName)) ∈ TB := TB_5 131 rfl rfl
theorem tw_1092 : (Jvm.Cond.code ({ cls := "ForesightHubModel", name := "streams", desc := "()I" } : Jvm.MethodName) prog_10_method_30_code (1 : Nat) (Option.some Jvm.ClassFile.FieldType.int)) ∈ TB := TB_5 132 rfl rfl
theorem tw_1093 : (Jvm.Cond.methodLink "ForesightHubModel" (193 : Nat) ({ cls := "ForesightHubModel", name := "in", desc := "(I)I" } : Jvm.MethodName)) ∈ TB := TB_5 133 rfl rfl
theorem tw_1094 : (Jvm.Cond.static ({ cls := "ForesightHubModel", name := "in", desc := "(I)I" } : Jvm.MethodName)) ∈ TB := TB_5 134 rfl rfl
theorem tw_1095 : (Jvm.Cond.code ({ cls := "ForesightHubModel", name := "in", desc := "(I)I" } : Jvm.MethodName) prog_10_method_34_code (1 : Nat) (Option.some Jvm.ClassFile.FieldType.int)) ∈ TB := TB_5 135 rfl rfl
theorem tw_1096 : (Jvm.Cond.methodLink "ForesightHubModel" (199 : Nat) ({ cls := "ForesightHubModel", name := "settles", desc := "()V" } : Jvm.MethodName)) ∈ TB := TB_5 136 rfl rfl
theorem tw_1098 : (Jvm.Cond.instanceMethod ({ cls := "ForesightHubModel", name := "settles", desc := "()V" } : Jvm.MethodName)) ∈ TB := TB_5 138 rfl rfl
theorem tw_1099 : (Jvm.Cond.code ({ cls := "ForesightHubModel", name := "settles", desc := "()V" } : Jvm.MethodName) prog_10_method_45_code (2 : Nat) (Option.none : Option Jvm.ClassFile.FieldType)) ∈ TB := TB_5 139 rfl rfl
theorem tw_1100 : (Jvm.Cond.methodLink "ForesightHubModel" (221 : Nat) ({ cls := "ForesightHubModel", name := "settlesHeld", desc := "(I)V" } : Jvm.MethodName)) ∈ TB := TB_5 140 rfl rfl
theorem tw_1102 : (Jvm.Cond.instanceMethod ({ cls := "ForesightHubModel", name := "settlesHeld", desc := "(I)V" } : Jvm.MethodName)) ∈ TB := TB_5 142 rfl rfl
theorem tw_1103 : (Jvm.Cond.code ({ cls := "ForesightHubModel", name := "settlesHeld", desc := "(I)V" } : Jvm.MethodName) prog_10_method_46_code (3 : Nat) (Option.none : Option Jvm.ClassFile.FieldType)) ∈ TB := TB_5 143 rfl rfl
theorem tw_1104 : (Jvm.Cond.methodLink "ForesightHubModel" (224 : Nat) ({ cls := "ForesightHubModel", name := "wanted", desc := "(I)I" } : Jvm.MethodName)) ∈ TB := TB_5 144 rfl rfl
theorem tw_1106 : (Jvm.Cond.instanceMethod ({ cls := "ForesightHubModel", name := "wanted", desc := "(I)I" } : Jvm.MethodName)) ∈ TB := TB_5 146 rfl rfl
theorem tw_1107 : (Jvm.Cond.code ({ cls := "ForesightHubModel", name := "wanted", desc := "(I)I" } : Jvm.MethodName) prog_10_method_41_code (4 : Nat) (Option.some Jvm.ClassFile.FieldType.int)) ∈ TB := TB_5 147 rfl rfl
theorem tw_1108 : (Jvm.Cond.methodLink "ForesightHubModel" (212 : Nat) ({ cls := "ForesightHubModel", name := "homeOf", desc := "(I)I" } : Jvm.MethodName)) ∈ TB := TB_5 148 rfl rfl
theorem tw_1110 : (Jvm.Cond.instanceMethod ({ cls := "ForesightHubModel", name := "homeOf", desc := "(I)I" } : Jvm.MethodName)) ∈ TB := TB_5 150 rfl rfl
theorem tw_1111 : (Jvm.Cond.code ({ cls := "ForesightHubModel", name := "homeOf", desc := "(I)I" } : Jvm.MethodName) prog_10_method_38_code (2 : Nat) (Option.some Jvm.ClassFile.FieldType.int)) ∈ TB := TB_5 151 rfl rfl
theorem tw_1112 : (Jvm.Cond.methodLink "ForesightHubModel" (215 : Nat) ({ cls := "ForesightHubModel", name := "isGood", desc := "(I)Z" } : Jvm.MethodName)) ∈ TB := TB_5 152 rfl rfl
theorem tw_1114 : (Jvm.Cond.instanceMethod ({ cls := "ForesightHubModel", name := "isGood", desc := "(I)Z" } : Jvm.MethodName)) ∈ TB := TB_5 154 rfl rfl
theorem tw_1115 : (Jvm.Cond.code ({ cls := "ForesightHubModel", name := "isGood", desc := "(I)Z" } : Jvm.MethodName) prog_10_method_37_code (2 : Nat) (Option.some Jvm.ClassFile.FieldType.boolean)) ∈ TB := TB_5 155 rfl rfl
theorem tw_1116 : (Jvm.Cond.methodLink "ForesightHubModel" (206 : Nat) ({ cls := "ForesightHubModel", name := "isPlugged", desc := "(I)Z" } : Jvm.MethodName)) ∈ TB := TB_5 156 rfl rfl
theorem tw_1118 : (Jvm.Cond.instanceMethod ({ cls := "ForesightHubModel", name := "isPlugged", desc := "(I)Z" } : Jvm.MethodName)) ∈ TB := TB_5 158 rfl rfl
theorem tw_1119 : (Jvm.Cond.code ({ cls := "ForesightHubModel", name := "isPlugged", desc := "(I)Z" } : Jvm.MethodName) prog_10_method_35_code (2 : Nat) (Option.some Jvm.ClassFile.FieldType.boolean)) ∈ TB := TB_5 159 rfl rfl
theorem tw_1120 : (Jvm.Cond.methodLink "ForesightHubModel" (209 : Nat) ({ cls := "ForesightHubModel", name := "isAlarmed", desc := "(I)Z" } : Jvm.MethodName)) ∈ TB := TB_5 160 rfl rfl
theorem tw_1122 : (Jvm.Cond.instanceMethod ({ cls := "ForesightHubModel", name := "isAlarmed", desc := "(I)Z" } : Jvm.MethodName)) ∈ TB := TB_5 162 rfl rfl
theorem tw_1123 : (Jvm.Cond.code ({ cls := "ForesightHubModel", name := "isAlarmed", desc := "(I)Z" } : Jvm.MethodName) prog_10_method_36_code (2 : Nat) (Option.some Jvm.ClassFile.FieldType.boolean)) ∈ TB := TB_5 163 rfl rfl
theorem tw_1124 : (Jvm.Cond.methodLink "ForesightHubModel" (230 : Nat) ({ cls := "ForesightHubModel", name := "becomes", desc := "(III)V" } : Jvm.MethodName)) ∈ TB := TB_5 164 rfl rfl
theorem tw_1126 : (Jvm.Cond.instanceMethod ({ cls := "ForesightHubModel", name := "becomes", desc := "(III)V" } : Jvm.MethodName)) ∈ TB := TB_5 166 rfl rfl
theorem tw_1127 : (Jvm.Cond.code ({ cls := "ForesightHubModel", name := "becomes", desc := "(III)V" } : Jvm.MethodName) prog_10_method_44_code (4 : Nat) (Option.none : Option Jvm.ClassFile.FieldType)) ∈ TB := TB_5 167 rfl rfl
theorem tw_1128 : (Jvm.Cond.methodLink "ForesightHubModel" (234 : Nat) ({ cls := "ForesightHubModel", name := "happens", desc := "(II)V" } : Jvm.MethodName)) ∈ TB := TB_5 168 rfl rfl
theorem tw_1130 : (Jvm.Cond.instanceMethod ({ cls := "ForesightHubModel", name := "happens", desc := "(II)V" } : Jvm.MethodName)) ∈ TB := TB_5 170 rfl rfl
theorem tw_1131 : (Jvm.Cond.code ({ cls := "ForesightHubModel", name := "happens", desc := "(II)V" } : Jvm.MethodName) prog_10_method_43_code (4 : Nat) (Option.none : Option Jvm.ClassFile.FieldType)) ∈ TB := TB_5 171 rfl rfl
theorem tw_1132 : (Jvm.Cond.methodLink "ForesightHubModel" (218 : Nat) ({ cls := "ForesightHubModel", name := "rateOf", desc := "(I)I" } : Jvm.MethodName)) ∈ TB := TB_5 172 rfl rfl
theorem tw_1134 : (Jvm.Cond.instanceMethod ({ cls := "ForesightHubModel", name := "rateOf", desc := "(I)I" } : Jvm.MethodName)) ∈ TB := TB_5 174 rfl rfl
theorem tw_1135 : (Jvm.Cond.code ({ cls := "ForesightHubModel", name := "rateOf", desc := "(I)I" } : Jvm.MethodName) prog_10_method_39_code (2 : Nat) (Option.some Jvm.ClassFile.FieldType.int)) ∈ TB := TB_5 175 rfl rfl
theorem tw_1136 : (Jvm.Cond.methodLink "ForesightHubModel" (227 : Nat) ({ cls := "ForesightHubModel", name := "reserved", desc := "()I" } : Jvm.MethodName)) ∈ TB := TB_5 176 rfl rfl
theorem tw_1138 : (Jvm.Cond.instanceMethod ({ cls := "ForesightHubModel", name := "reserved", desc := "()I" } : Jvm.MethodName)) ∈ TB := TB_5 178 rfl rfl
theorem tw_1139 : (Jvm.Cond.code ({ cls := "ForesightHubModel", name := "reserved", desc := "()I" } : Jvm.MethodName) prog_10_method_42_code (3 : Nat) (Option.some Jvm.ClassFile.FieldType.int)) ∈ TB := TB_5 179 rfl rfl
theorem tw_1140 : (Jvm.Cond.fieldLink "ForesightHubModel" (55 : Nat) "ForesightHubModel" "thrown" "I") ∈ TB := TB_5 180 rfl rfl
theorem tw_1141 : (Jvm.Cond.fieldLink "ForesightHubModel" (7 : Nat) "ForesightHubModel" "buffer" "[B") ∈ TB := TB_5 181 rfl rfl
theorem tw_1142 : (Jvm.Cond.fieldLink "ForesightHubModel" (59 : Nat) "ForesightHubModel" "length" "I") ∈ TB := TB_5 182 rfl rfl
theorem tw_1143 : (Jvm.Cond.fieldLink "ForesightHubModel" (66 : Nat) "ForesightHubModel" "textLength" "I") ∈ TB := TB_5 183 rfl rfl
theorem tw_1144 : (Jvm.Cond.fieldLink "ForesightHubModel" (72 : Nat) "ForesightHubModel" "tokenStart" "I") ∈ TB := TB_5 184 rfl rfl
theorem tw_1145 : (Jvm.Cond.fieldLink "ForesightHubModel" (69 : Nat) "ForesightHubModel" "tokenEnd" "I") ∈ TB := TB_5 185 rfl rfl
theorem tw_1146 : (Jvm.Cond.fieldLink "ForesightHubModel" (79 : Nat) "ForesightHubModel" "token" "I") ∈ TB := TB_5 186 rfl rfl
theorem tw_1147 : (Jvm.Cond.fieldLink "ForesightHubModel" (86 : Nat) "ForesightHubModel" "number" "I") ∈ TB := TB_5 187 rfl rfl
theorem tw_1148 : (Jvm.Cond.fieldLink "ForesightHubModel" (89 : Nat) "ForesightHubModel" "fault" "I") ∈ TB := TB_5 188 rfl rfl
theorem tw_1149 : (Jvm.Cond.fieldLink "ForesightHubModel" (92 : Nat) "ForesightHubModel" "faultOffset" "I") ∈ TB := TB_5 189 rfl rfl
theorem tw_1150 : (Jvm.Cond.fieldLink "ForesightHubModel" (13 : Nat) "ForesightHubModel" "draft" "[I") ∈ TB := TB_5 190 rfl rfl
theorem tw_1151 : (Jvm.Cond.fieldLink "ForesightHubModel" (17 : Nat) "ForesightHubModel" "told" "[I") ∈ TB := TB_5 191 rfl rfl
theorem tw_1152 : (Jvm.Cond.fieldLink "ForesightHubModel" (20 : Nat) "ForesightHubModel" "names" "[B") ∈ TB := TB_5 192 rfl rfl
theorem tw_1153 : (Jvm.Cond.fieldLink "ForesightHubModel" (114 : Nat) "ForesightHubModel" "hasAlarm" "Z") ∈ TB := TB_5 193 rfl rfl
theorem tw_1154 : (Jvm.Cond.fieldLink "ForesightHubModel" (23 : Nat) "ForesightHubModel" "s" "[I") ∈ TB := TB_5 194 rfl rfl
theorem tw_1155 : (Jvm.Cond.fieldLink "ForesightHubModel" (26 : Nat) "ForesightHubModel" "sent" "[J") ∈ TB := TB_5 195 rfl rfl
theorem tw_1156 : (Jvm.Cond.fieldLink "ForesightHubModel" (30 : Nat) "ForesightHubModel" "history" "[I") ∈ TB := TB_5 196 rfl rfl
theorem tw_1157 : (Jvm.Cond.fieldLink "ForesightHubModel" (33 : Nat) "ForesightHubModel" "historySent" "[J") ∈ TB := TB_5 197 rfl rfl
theorem tw_1158 : (Jvm.Cond.fieldLink "ForesightHubModel" (196 : Nat) "ForesightHubModel" "depth" "I") ∈ TB := TB_5 198 rfl rfl
theorem tw_1159 : (Jvm.Cond.fieldLink "ForesightHubModel" (36 : Nat) "ForesightHubModel" "slots" "[I") ∈ TB := TB_5 199 rfl rfl
theorem tw_1160 : (Jvm.Cond.fieldLink "ForesightHubModel" (39 : Nat) "ForesightHubModel" "slotSent" "[J") ∈ TB := TB_5 200 rfl rfl
theorem tw_1161 : (Jvm.Cond.fieldLink "ForesightHubModel" (42 : Nat) "ForesightHubModel" "isSaved" "[Z") ∈ TB := TB_5 201 rfl rfl
theorem tw_1162 : (Jvm.Cond.fieldLink "ForesightHubModel" (46 : Nat) "ForesightHubModel" "aside" "[I") ∈ TB := TB_5 202 rfl rfl
theorem tw_1209 : (Jvm.Cond.superclass "ForesightHubModel" "java/lang/Object") ∈ TB := TB_6 9 rfl rfl
theorem tw_1210 : (Jvm.Cond.methodLink "ForesightHubLaw" (100 : Nat) ({ cls := "ForesightHubModel", name := "thrown", desc := "()I" } : Jvm.MethodName)) ∈ TB := TB_6 10 rfl rfl
theorem tw_1211 : (Jvm.Cond.instanceMethod ({ cls := "ForesightHubModel", name := "thrown", desc := "()I" } : Jvm.MethodName)) ∈ TB := TB_6 11 rfl rfl
theorem tw_1212 : (Jvm.Cond.selects "ForesightHubModel" ({ cls := "ForesightHubModel", name := "thrown", desc := "()I" } : Jvm.MethodName) ({ cls := "ForesightHubModel", name := "thrown", desc := "()I" } : Jvm.MethodName)) ∈ TB := TB_6 12 rfl rfl
theorem tw_1213 : (Jvm.Cond.code ({ cls := "ForesightHubModel", name := "thrown", desc := "()I" } : Jvm.MethodName) prog_10_method_2_code (1 : Nat) (Option.some Jvm.ClassFile.FieldType.int)) ∈ TB := TB_6 13 rfl rfl
theorem tw_1214 : (Jvm.Cond.methodLink "ForesightHubLaw" (93 : Nat) ({ cls := "ForesightHubModel", name := "append", desc := "(IIIII)I" } : Jvm.MethodName)) ∈ TB := TB_6 14 rfl rfl
theorem tw_1215 : (Jvm.Cond.instanceMethod ({ cls := "ForesightHubModel", name := "append", desc := "(IIIII)I" } : Jvm.MethodName)) ∈ TB := TB_6 15 rfl rfl
theorem tw_1216 : (Jvm.Cond.selects "ForesightHubModel" ({ cls := "ForesightHubModel", name := "append", desc := "(IIIII)I" } : Jvm.MethodName) ({ cls := "ForesightHubModel", name := "append", desc := "(IIIII)I" } : Jvm.MethodName)) ∈ TB := TB_6 16 rfl rfl
theorem tw_1217 : (Jvm.Cond.code ({ cls := "ForesightHubModel", name := "append", desc := "(IIIII)I" } : Jvm.MethodName) prog_10_method_6_code (6 : Nat) (Option.some Jvm.ClassFile.FieldType.int)) ∈ TB := TB_6 17 rfl rfl
theorem tw_1218 : (Jvm.Cond.methodLink "ForesightHubModel" (62 : Nat) ({ cls := "ForesightHubModel", name := "appendInt", desc := "(I)V" } : Jvm.MethodName)) ∈ TB := TB_6 18 rfl rfl
theorem tw_1220 : (Jvm.Cond.instanceMethod ({ cls := "ForesightHubModel", name := "appendInt", desc := "(I)V" } : Jvm.MethodName)) ∈ TB := TB_6 20 rfl rfl
theorem tw_1221 : (Jvm.Cond.code ({ cls := "ForesightHubModel", name := "appendInt", desc := "(I)V" } : Jvm.MethodName) prog_10_method_5_code (3 : Nat) (Option.none : Option Jvm.ClassFile.FieldType)) ∈ TB := TB_6 21 rfl rfl
theorem tw_1222 : (Jvm.Cond.methodLink "ForesightHubLaw" (99 : Nat) ({ cls := "ForesightHubModel", name := "parse", desc := "(I)I" } : Jvm.MethodName)) ∈ TB := TB_6 22 rfl rfl
theorem tw_1223 : (Jvm.Cond.instanceMethod ({ cls := "ForesightHubModel", name := "parse", desc := "(I)I" } : Jvm.MethodName)) ∈ TB := TB_6 23 rfl rfl
theorem tw_1224 : (Jvm.Cond.selects "ForesightHubModel" ({ cls := "ForesightHubModel", name := "parse", desc := "(I)I" } : Jvm.MethodName) ({ cls := "ForesightHubModel", name := "parse", desc := "(I)I" } : Jvm.MethodName)) ∈ TB := TB_6 24 rfl rfl
theorem tw_1225 : (Jvm.Cond.code ({ cls := "ForesightHubModel", name := "parse", desc := "(I)I" } : Jvm.MethodName) prog_10_method_25_code (2 : Nat) (Option.some Jvm.ClassFile.FieldType.int)) ∈ TB := TB_6 25 rfl rfl
theorem tw_1226 : (Jvm.Cond.methodLink "ForesightHubModel" (82 : Nat) ({ cls := "ForesightHubModel", name := "within", desc := "(III)Z" } : Jvm.MethodName)) ∈ TB := TB_6 26 rfl rfl
theorem tw_1227 : (Jvm.Cond.static ({ cls := "ForesightHubModel", name := "within", desc := "(III)Z" } : Jvm.MethodName)) ∈ TB := TB_6 27 rfl rfl
theorem tw_1228 : (Jvm.Cond.code ({ cls := "ForesightHubModel", name := "within", desc := "(III)Z" } : Jvm.MethodName) prog_10_method_3_code (3 : Nat) (Option.some Jvm.ClassFile.FieldType.boolean)) ∈ TB := TB_6 28 rfl rfl
theorem tw_1229 : (Jvm.Cond.methodLink "ForesightHubModel" (176 : Nat) ({ cls := "ForesightHubModel", name := "fail0", desc := "(I)I" } : Jvm.MethodName)) ∈ TB := TB_6 29 rfl rfl
theorem tw_1231 : (Jvm.Cond.instanceMethod ({ cls := "ForesightHubModel", name := "fail0", desc := "(I)I" } : Jvm.MethodName)) ∈ TB := TB_6 31 rfl rfl
theorem tw_1232 : (Jvm.Cond.code ({ cls := "ForesightHubModel", name := "fail0", desc := "(I)I" } : Jvm.MethodName) prog_10_method_4_code (2 : Nat) (Option.some Jvm.ClassFile.FieldType.int)) ∈ TB := TB_6 32 rfl rfl
theorem tw_1233 : (Jvm.Cond.methodLink "ForesightHubModel" (104 : Nat) ({ cls := "ForesightHubModel", name := "nextToken", desc := "()V" } : Jvm.MethodName)) ∈ TB := TB_6 33 rfl rfl
theorem tw_1235 : (Jvm.Cond.instanceMethod ({ cls := "ForesightHubModel", name := "nextToken", desc := "()V" } : Jvm.MethodName)) ∈ TB := TB_6 35 rfl rfl
theorem tw_1236 : (Jvm.Cond.code ({ cls := "ForesightHubModel", name := "nextToken", desc := "()V" } : Jvm.MethodName) prog_10_method_8_code (2 : Nat) (Option.none : Option Jvm.ClassFile.FieldType)) ∈ TB := TB_6 36 rfl rfl
theorem tw_1237 : (Jvm.Cond.methodLink "ForesightHubModel" (75 : Nat) ({ cls := "ForesightHubModel", name := "byteAt", desc := "(I)I" } : Jvm.MethodName)) ∈ TB := TB_6 37 rfl rfl
theorem tw_1239 : (Jvm.Cond.instanceMethod ({ cls := "ForesightHubModel", name := "byteAt", desc := "(I)I" } : Jvm.MethodName)) ∈ TB := TB_6 39 rfl rfl
theorem tw_1240 : (Jvm.Cond.code ({ cls := "ForesightHubModel", name := "byteAt", desc := "(I)I" } : Jvm.MethodName) prog_10_method_7_code (2 : Nat) (Option.some Jvm.ClassFile.FieldType.int)) ∈ TB := TB_6 40 rfl rfl
theorem tw_1242 : (Jvm.Cond.methodLink "ForesightHubModel" (127 : Nat) ({ cls := "ForesightHubModel", name := "isWord", desc := "(Ljava/lang/String;)Z" } : Jvm.MethodName)) ∈ TB := TB_6 42 rfl rfl
theorem tw_1244 : (Jvm.Cond.instanceMethod ({ cls := "ForesightHubModel", name := "isWord", desc := "(Ljava/lang/String;)Z" } : Jvm.MethodName)) ∈ TB := TB_6 44 rfl rfl
theorem tw_1245 : (Jvm.Cond.code ({ cls := "ForesightHubModel", name := "isWord", desc := "(Ljava/lang/String;)Z" } : Jvm.MethodName) prog_10_method_10_code (4 : Nat) (Option.some Jvm.ClassFile.FieldType.boolean)) ∈ TB := TB_6 45 rfl rfl
theorem tw_1246 : (Jvm.Cond.methodLink "ForesightHubModel" (95 : Nat) ({ cls := "java/lang/String", name := "length", desc := "()I" } : Jvm.MethodName)) ∈ TB := TB_6 46 rfl rfl
theorem tw_1247 : (Jvm.Cond.methodLink "ForesightHubModel" (100 : Nat) ({ cls := "java/lang/String", name := "charAt", desc := "(I)C" } : Jvm.MethodName)) ∈ TB := TB_6 47 rfl rfl
theorem tw_1248 : (Jvm.Cond.methodLink "ForesightHubModel" (107 : Nat) ({ cls := "ForesightHubModel", name := "must", desc := "(ZI)Z" } : Jvm.MethodName)) ∈ TB := TB_6 48 rfl rfl
theorem tw_1250 : (Jvm.Cond.instanceMethod ({ cls := "ForesightHubModel", name := "must", desc := "(ZI)Z" } : Jvm.MethodName)) ∈ TB := TB_6 50 rfl rfl
theorem tw_1251 : (Jvm.Cond.code ({ cls := "ForesightHubModel", name := "must", desc := "(ZI)Z" } : Jvm.MethodName) prog_10_method_9_code (3 : Nat) (Option.some Jvm.ClassFile.FieldType.boolean)) ∈ TB := TB_6 51 rfl rfl
theorem tw_1252 : (Jvm.Cond.methodLink "ForesightHubModel" (111 : Nat) ({ cls := "ForesightHubModel", name := "goOn", desc := "()V" } : Jvm.MethodName)) ∈ TB := TB_6 52 rfl rfl
theorem tw_1254 : (Jvm.Cond.instanceMethod ({ cls := "ForesightHubModel", name := "goOn", desc := "()V" } : Jvm.MethodName)) ∈ TB := TB_6 54 rfl rfl
theorem tw_1255 : (Jvm.Cond.code ({ cls := "ForesightHubModel", name := "goOn", desc := "()V" } : Jvm.MethodName) prog_10_method_11_code (1 : Nat) (Option.none : Option Jvm.ClassFile.FieldType)) ∈ TB := TB_6 55 rfl rfl
theorem tw_1256 : (Jvm.Cond.methodLink "ForesightHubModel" (141 : Nat) ({ cls := "ForesightHubModel", name := "read", desc := "(II)I" } : Jvm.MethodName)) ∈ TB := TB_6 56 rfl rfl
theorem tw_1258 : (Jvm.Cond.instanceMethod ({ cls := "ForesightHubModel", name := "read", desc := "(II)I" } : Jvm.MethodName)) ∈ TB := TB_6 58 rfl rfl
theorem tw_1259 : (Jvm.Cond.code ({ cls := "ForesightHubModel", name := "read", desc := "(II)I" } : Jvm.MethodName) prog_10_method_12_code (4 : Nat) (Option.some Jvm.ClassFile.FieldType.int)) ∈ TB := TB_6 59 rfl rfl
theorem tw_1260 : (Jvm.Cond.methodLink "ForesightHubModel" (181 : Nat) ({ cls := "ForesightHubModel", name := "statement", desc := "()V" } : Jvm.MethodName)) ∈ TB := TB_6 60 rfl rfl
theorem tw_1262 : (Jvm.Cond.instanceMethod ({ cls := "ForesightHubModel", name := "statement", desc := "()V" } : Jvm.MethodName)) ∈ TB := TB_6 62 rfl rfl
theorem tw_1263 : (Jvm.Cond.code ({ cls := "ForesightHubModel", name := "statement", desc := "()V" } : Jvm.MethodName) prog_10_method_24_code (1 : Nat) (Option.none : Option Jvm.ClassFile.FieldType)) ∈ TB := TB_6 63 rfl rfl
theorem tw_1265 : (Jvm.Cond.methodLink "ForesightHubModel" (158 : Nat) ({ cls := "ForesightHubModel", name := "patternLine", desc := "()V" } : Jvm.MethodName)) ∈ TB := TB_6 65 rfl rfl
theorem tw_1267 : (Jvm.Cond.instanceMethod ({ cls := "ForesightHubModel", name := "patternLine", desc := "()V" } : Jvm.MethodName)) ∈ TB := TB_6 67 rfl rfl
theorem tw_1268 : (Jvm.Cond.code ({ cls := "ForesightHubModel", name := "patternLine", desc := "()V" } : Jvm.MethodName) prog_10_method_19_code (4 : Nat) (Option.none : Option Jvm.ClassFile.FieldType)) ∈ TB := TB_6 68 rfl rfl
theorem tw_1269 : (Jvm.Cond.methodLink "ForesightHubModel" (137 : Nat) ({ cls := "ForesightHubModel", name := "begin", desc := "(II)Z" } : Jvm.MethodName)) ∈ TB := TB_6 69 rfl rfl
theorem tw_1271 : (Jvm.Cond.instanceMethod ({ cls := "ForesightHubModel", name := "begin", desc := "(II)Z" } : Jvm.MethodName)) ∈ TB := TB_6 71 rfl rfl
theorem tw_1272 : (Jvm.Cond.code ({ cls := "ForesightHubModel", name := "begin", desc := "(II)Z" } : Jvm.MethodName) prog_10_method_17_code (5 : Nat) (Option.some Jvm.ClassFile.FieldType.boolean)) ∈ TB := TB_6 72 rfl rfl
theorem tw_1273 : (Jvm.Cond.methodLink "ForesightHubModel" (122 : Nat) ({ cls := "ForesightHubModel", name := "draftFind", desc := "(I)I" } : Jvm.MethodName)) ∈ TB := TB_6 73 rfl rfl
theorem tw_1275 : (Jvm.Cond.instanceMethod ({ cls := "ForesightHubModel", name := "draftFind", desc := "(I)I" } : Jvm.MethodName)) ∈ TB := TB_6 75 rfl rfl
theorem tw_1276 : (Jvm.Cond.code ({ cls := "ForesightHubModel", name := "draftFind", desc := "(I)I" } : Jvm.MethodName) prog_10_method_15_code (6 : Nat) (Option.some Jvm.ClassFile.FieldType.int)) ∈ TB := TB_6 76 rfl rfl
theorem tw_1277 : (Jvm.Cond.methodLink "ForesightHubModel" (118 : Nat) ({ cls := "ForesightHubModel", name := "nameAt", desc := "(II)I" } : Jvm.MethodName)) ∈ TB := TB_6 77 rfl rfl
theorem tw_1278 : (Jvm.Cond.static ({ cls := "ForesightHubModel", name := "nameAt", desc := "(II)I" } : Jvm.MethodName)) ∈ TB := TB_6 78 rfl rfl
theorem tw_1279 : (Jvm.Cond.code ({ cls := "ForesightHubModel", name := "nameAt", desc := "(II)I" } : Jvm.MethodName) prog_10_method_14_code (2 : Nat) (Option.some Jvm.ClassFile.FieldType.int)) ∈ TB := TB_6 79 rfl rfl
theorem tw_1280 : (Jvm.Cond.methodLink "ForesightHubModel" (144 : Nat) ({ cls := "ForesightHubModel", name := "kindHere", desc := "()I" } : Jvm.MethodName)) ∈ TB := TB_6 80 rfl rfl
theorem tw_1282 : (Jvm.Cond.instanceMethod ({ cls := "ForesightHubModel", name := "kindHere", desc := "()I" } : Jvm.MethodName)) ∈ TB := TB_6 82 rfl rfl
theorem tw_1283 : (Jvm.Cond.code ({ cls := "ForesightHubModel", name := "kindHere", desc := "()I" } : Jvm.MethodName) prog_10_method_18_code (1 : Nat) (Option.some Jvm.ClassFile.FieldType.int)) ∈ TB := TB_6 83 rfl rfl
theorem tw_1289 : (Jvm.Cond.methodLink "ForesightHubModel" (163 : Nat) ({ cls := "ForesightHubModel", name := "deviceLine", desc := "()V" } : Jvm.MethodName)) ∈ TB := TB_6 89 rfl rfl
theorem tw_1291 : (Jvm.Cond.instanceMethod ({ cls := "ForesightHubModel", name := "deviceLine", desc := "()V" } : Jvm.MethodName)) ∈ TB := TB_6 91 rfl rfl
theorem tw_1292 : (Jvm.Cond.code ({ cls := "ForesightHubModel", name := "deviceLine", desc := "()V" } : Jvm.MethodName) prog_10_method_21_code (2 : Nat) (Option.none : Option Jvm.ClassFile.FieldType)) ∈ TB := TB_6 92 rfl rfl
theorem tw_1293 : (Jvm.Cond.methodLink "ForesightHubModel" (147 : Nat) ({ cls := "ForesightHubModel", name := "isTaken", desc := "(I)Z" } : Jvm.MethodName)) ∈ TB := TB_6 93 rfl rfl
theorem tw_1295 : (Jvm.Cond.instanceMethod ({ cls := "ForesightHubModel", name := "isTaken", desc := "(I)Z" } : Jvm.MethodName)) ∈ TB := TB_6 95 rfl rfl
theorem tw_1296 : (Jvm.Cond.code ({ cls := "ForesightHubModel", name := "isTaken", desc := "(I)Z" } : Jvm.MethodName) prog_10_method_20_code (3 : Nat) (Option.some Jvm.ClassFile.FieldType.boolean)) ∈ TB := TB_6 96 rfl rfl
theorem tw_1298 : (Jvm.Cond.methodLink "ForesightHubModel" (153 : Nat) ({ cls := "ForesightHubModel", name := "deviceHere", desc := "()I" } : Jvm.MethodName)) ∈ TB := TB_6 98 rfl rfl
theorem tw_1300 : (Jvm.Cond.instanceMethod ({ cls := "ForesightHubModel", name := "deviceHere", desc := "()I" } : Jvm.MethodName)) ∈ TB := TB_6 100 rfl rfl
theorem tw_1301 : (Jvm.Cond.code ({ cls := "ForesightHubModel", name := "deviceHere", desc := "()I" } : Jvm.MethodName) prog_10_method_16_code (2 : Nat) (Option.some Jvm.ClassFile.FieldType.int)) ∈ TB := TB_6 101 rfl rfl
theorem tw_1303 : (Jvm.Cond.methodLink "ForesightHubModel" (168 : Nat) ({ cls := "ForesightHubModel", name := "streamLine", desc := "()V" } : Jvm.MethodName)) ∈ TB := TB_6 103 rfl rfl
theorem tw_1305 : (Jvm.Cond.instanceMethod ({ cls := "ForesightHubModel", name := "streamLine", desc := "()V" } : Jvm.MethodName)) ∈ TB := TB_6 105 rfl rfl
theorem tw_1306 : (Jvm.Cond.code ({ cls := "ForesightHubModel", name := "streamLine", desc := "()V" } : Jvm.MethodName) prog_10_method_22_code (2 : Nat) (Option.none : Option Jvm.ClassFile.FieldType)) ∈ TB := TB_6 106 rfl rfl
theorem tw_1308 : (Jvm.Cond.methodLink "ForesightHubModel" (173 : Nat) ({ cls := "ForesightHubModel", name := "alarmLine", desc := "()V" } : Jvm.MethodName)) ∈ TB := TB_6 108 rfl rfl
theorem tw_1310 : (Jvm.Cond.instanceMethod ({ cls := "ForesightHubModel", name := "alarmLine", desc := "()V" } : Jvm.MethodName)) ∈ TB := TB_6 110 rfl rfl
theorem tw_1311 : (Jvm.Cond.code ({ cls := "ForesightHubModel", name := "alarmLine", desc := "()V" } : Jvm.MethodName) prog_10_method_23_code (1 : Nat) (Option.none : Option Jvm.ClassFile.FieldType)) ∈ TB := TB_6 111 rfl rfl
theorem tw_1312 : (Jvm.Cond.methodLink "ForesightHubLaw" (106 : Nat) ({ cls := "ForesightHubModel", name := "size", desc := "(I)I" } : Jvm.MethodName)) ∈ TB := TB_6 112 rfl rfl
theorem tw_1313 : (Jvm.Cond.instanceMethod ({ cls := "ForesightHubModel", name := "size", desc := "(I)I" } : Jvm.MethodName)) ∈ TB := TB_6 113 rfl rfl
theorem tw_1314 : (Jvm.Cond.selects "ForesightHubModel" ({ cls := "ForesightHubModel", name := "size", desc := "(I)I" } : Jvm.MethodName) ({ cls := "ForesightHubModel", name := "size", desc := "(I)I" } : Jvm.MethodName)) ∈ TB := TB_6 114 rfl rfl
theorem tw_1315 : (Jvm.Cond.code ({ cls := "ForesightHubModel", name := "size", desc := "(I)I" } : Jvm.MethodName) prog_10_method_52_code (2 : Nat) (Option.some Jvm.ClassFile.FieldType.int)) ∈ TB := TB_6 115 rfl rfl
theorem tw_1316 : (Jvm.Cond.methodLink "ForesightHubLaw" (109 : Nat) ({ cls := "ForesightHubModel", name := "deviceAt", desc := "(I)I" } : Jvm.MethodName)) ∈ TB := TB_6 116 rfl rfl
theorem tw_1317 : (Jvm.Cond.instanceMethod ({ cls := "ForesightHubModel", name := "deviceAt", desc := "(I)I" } : Jvm.MethodName)) ∈ TB := TB_6 117 rfl rfl
theorem tw_1318 : (Jvm.Cond.selects "ForesightHubModel" ({ cls := "ForesightHubModel", name := "deviceAt", desc := "(I)I" } : Jvm.MethodName) ({ cls := "ForesightHubModel", name := "deviceAt", desc := "(I)I" } : Jvm.MethodName)) ∈ TB := TB_6 118 rfl rfl
theorem tw_1319 : (Jvm.Cond.code ({ cls := "ForesightHubModel", name := "deviceAt", desc := "(I)I" } : Jvm.MethodName) prog_10_method_54_code (2 : Nat) (Option.some Jvm.ClassFile.FieldType.int)) ∈ TB := TB_6 119 rfl rfl
theorem tw_1320 : (Jvm.Cond.methodLink "ForesightHubModel" (247 : Nat) ({ cls := "ForesightHubModel", name := "atPort", desc := "(I)I" } : Jvm.MethodName)) ∈ TB := TB_6 120 rfl rfl
theorem tw_1322 : (Jvm.Cond.instanceMethod ({ cls := "ForesightHubModel", name := "atPort", desc := "(I)I" } : Jvm.MethodName)) ∈ TB := TB_6 122 rfl rfl
theorem tw_1323 : (Jvm.Cond.code ({ cls := "ForesightHubModel", name := "atPort", desc := "(I)I" } : Jvm.MethodName) prog_10_method_53_code (3 : Nat) (Option.some Jvm.ClassFile.FieldType.int)) ∈ TB := TB_6 123 rfl rfl
theorem tw_1324 : (Jvm.Cond.methodLink "ForesightHubLaw" (113 : Nat) ({ cls := "ForesightHubModel", name := "device", desc := "(II)I" } : Jvm.MethodName)) ∈ TB := TB_6 124 rfl rfl
theorem tw_1325 : (Jvm.Cond.instanceMethod ({ cls := "ForesightHubModel", name := "device", desc := "(II)I" } : Jvm.MethodName)) ∈ TB := TB_6 125 rfl rfl
theorem tw_1326 : (Jvm.Cond.selects "ForesightHubModel" ({ cls := "ForesightHubModel", name := "device", desc := "(II)I" } : Jvm.MethodName) ({ cls := "ForesightHubModel", name := "device", desc := "(II)I" } : Jvm.MethodName)) ∈ TB := TB_6 126 rfl rfl
theorem tw_1327 : (Jvm.Cond.code ({ cls := "ForesightHubModel", name := "device", desc := "(II)I" } : Jvm.MethodName) prog_10_method_59_code (3 : Nat) (Option.some Jvm.ClassFile.FieldType.int)) ∈ TB := TB_6 127 rfl rfl
theorem tw_1328 : (Jvm.Cond.methodLink "ForesightHubModel" (253 : Nat) ({ cls := "ForesightHubModel", name := "isDevice", desc := "(I)Z" } : Jvm.MethodName)) ∈ TB := TB_6 128 rfl rfl
theorem tw_1330 : (Jvm.Cond.instanceMethod ({ cls := "ForesightHubModel", name := "isDevice", desc := "(I)Z" } : Jvm.MethodName)) ∈ TB := TB_6 130 rfl rfl
theorem tw_1331 : (Jvm.Cond.code ({ cls := "ForesightHubModel", name := "isDevice", desc := "(I)Z" } : Jvm.MethodName) prog_10_method_31_code (2 : Nat) (Option.some Jvm.ClassFile.FieldType.boolean)) ∈ TB := TB_6 131 rfl rfl
theorem tw_1332 : (Jvm.Cond.methodLink "ForesightHubModel" (244 : Nat) ({ cls := "ForesightHubModel", name := "scoreOf", desc := "(I)I" } : Jvm.MethodName)) ∈ TB := TB_6 132 rfl rfl
theorem tw_1334 : (Jvm.Cond.instanceMethod ({ cls := "ForesightHubModel", name := "scoreOf", desc := "(I)I" } : Jvm.MethodName)) ∈ TB := TB_6 134 rfl rfl
theorem tw_1335 : (Jvm.Cond.code ({ cls := "ForesightHubModel", name := "scoreOf", desc := "(I)I" } : Jvm.MethodName) prog_10_method_49_code (4 : Nat) (Option.some Jvm.ClassFile.FieldType.int)) ∈ TB := TB_6 135 rfl rfl
theorem tw_1336 : (Jvm.Cond.methodLink "ForesightHubModel" (238 : Nat) ({ cls := "ForesightHubModel", name := "matches", desc := "(II)Z" } : Jvm.MethodName)) ∈ TB := TB_6 136 rfl rfl
theorem tw_1338 : (Jvm.Cond.instanceMethod ({ cls := "ForesightHubModel", name := "matches", desc := "(II)Z" } : Jvm.MethodName)) ∈ TB := TB_6 138 rfl rfl
theorem tw_1339 : (Jvm.Cond.code ({ cls := "ForesightHubModel", name := "matches", desc := "(II)Z" } : Jvm.MethodName) prog_10_method_47_code (8 : Nat) (Option.some Jvm.ClassFile.FieldType.boolean)) ∈ TB := TB_6 139 rfl rfl
theorem tw_1340 : (Jvm.Cond.methodLink "ForesightHubModel" (256 : Nat) ({ cls := "ForesightHubModel", name := "matching", desc := "(I)I" } : Jvm.MethodName)) ∈ TB := TB_6 140 rfl rfl
theorem tw_1342 : (Jvm.Cond.instanceMethod ({ cls := "ForesightHubModel", name := "matching", desc := "(I)I" } : Jvm.MethodName)) ∈ TB := TB_6 142 rfl rfl
theorem tw_1343 : (Jvm.Cond.code ({ cls := "ForesightHubModel", name := "matching", desc := "(I)I" } : Jvm.MethodName) prog_10_method_48_code (4 : Nat) (Option.some Jvm.ClassFile.FieldType.int)) ∈ TB := TB_6 143 rfl rfl
theorem tw_1344 : (Jvm.Cond.methodLink "ForesightHubModel" (259 : Nat) ({ cls := "ForesightHubModel", name := "holding", desc := "(I)I" } : Jvm.MethodName)) ∈ TB := TB_6 144 rfl rfl
theorem tw_1346 : (Jvm.Cond.instanceMethod ({ cls := "ForesightHubModel", name := "holding", desc := "(I)I" } : Jvm.MethodName)) ∈ TB := TB_6 146 rfl rfl
theorem tw_1347 : (Jvm.Cond.code ({ cls := "ForesightHubModel", name := "holding", desc := "(I)I" } : Jvm.MethodName) prog_10_method_56_code (4 : Nat) (Option.some Jvm.ClassFile.FieldType.int)) ∈ TB := TB_6 147 rfl rfl
theorem tw_1348 : (Jvm.Cond.methodLink "ForesightHubModel" (250 : Nat) ({ cls := "ForesightHubModel", name := "isHeldBy", desc := "(II)Z" } : Jvm.MethodName)) ∈ TB := TB_6 148 rfl rfl
theorem tw_1350 : (Jvm.Cond.instanceMethod ({ cls := "ForesightHubModel", name := "isHeldBy", desc := "(II)Z" } : Jvm.MethodName)) ∈ TB := TB_6 150 rfl rfl
theorem tw_1351 : (Jvm.Cond.code ({ cls := "ForesightHubModel", name := "isHeldBy", desc := "(II)Z" } : Jvm.MethodName) prog_10_method_55_code (3 : Nat) (Option.some Jvm.ClassFile.FieldType.boolean)) ∈ TB := TB_6 151 rfl rfl
theorem tw_1352 : (Jvm.Cond.methodLink "ForesightHubModel" (262 : Nat) ({ cls := "ForesightHubModel", name := "holdRate", desc := "(I)I" } : Jvm.MethodName)) ∈ TB := TB_6 152 rfl rfl
theorem tw_1354 : (Jvm.Cond.instanceMethod ({ cls := "ForesightHubModel", name := "holdRate", desc := "(I)I" } : Jvm.MethodName)) ∈ TB := TB_6 154 rfl rfl
theorem tw_1355 : (Jvm.Cond.code ({ cls := "ForesightHubModel", name := "holdRate", desc := "(I)I" } : Jvm.MethodName) prog_10_method_58_code (4 : Nat) (Option.some Jvm.ClassFile.FieldType.int)) ∈ TB := TB_6 155 rfl rfl
theorem tw_1356 : (Jvm.Cond.methodLink "ForesightHubLaw" (116 : Nat) ({ cls := "ForesightHubModel", name := "stream", desc := "(II)I" } : Jvm.MethodName)) ∈ TB := TB_6 156 rfl rfl
theorem tw_1357 : (Jvm.Cond.instanceMethod ({ cls := "ForesightHubModel", name := "stream", desc := "(II)I" } : Jvm.MethodName)) ∈ TB := TB_6 157 rfl rfl
theorem tw_1358 : (Jvm.Cond.selects "ForesightHubModel" ({ cls := "ForesightHubModel", name := "stream", desc := "(II)I" } : Jvm.MethodName) ({ cls := "ForesightHubModel", name := "stream", desc := "(II)I" } : Jvm.MethodName)) ∈ TB := TB_6 158 rfl rfl
theorem tw_1359 : (Jvm.Cond.code ({ cls := "ForesightHubModel", name := "stream", desc := "(II)I" } : Jvm.MethodName) prog_10_method_60_code (3 : Nat) (Option.some Jvm.ClassFile.FieldType.int)) ∈ TB := TB_6 159 rfl rfl
theorem tw_1360 : (Jvm.Cond.methodLink "ForesightHubModel" (265 : Nat) ({ cls := "ForesightHubModel", name := "isStream", desc := "(I)Z" } : Jvm.MethodName)) ∈ TB := TB_6 160 rfl rfl
theorem tw_1362 : (Jvm.Cond.instanceMethod ({ cls := "ForesightHubModel", name := "isStream", desc := "(I)Z" } : Jvm.MethodName)) ∈ TB := TB_6 162 rfl rfl
theorem tw_1363 : (Jvm.Cond.code ({ cls := "ForesightHubModel", name := "isStream", desc := "(I)Z" } : Jvm.MethodName) prog_10_method_32_code (2 : Nat) (Option.some Jvm.ClassFile.FieldType.boolean)) ∈ TB := TB_6 163 rfl rfl
theorem tw_1364 : (Jvm.Cond.methodLink "ForesightHubModel" (268 : Nat) ({ cls := "ForesightHubModel", name := "packetOf", desc := "(I)I" } : Jvm.MethodName)) ∈ TB := TB_6 164 rfl rfl
theorem tw_1366 : (Jvm.Cond.instanceMethod ({ cls := "ForesightHubModel", name := "packetOf", desc := "(I)I" } : Jvm.MethodName)) ∈ TB := TB_6 166 rfl rfl
theorem tw_1367 : (Jvm.Cond.code ({ cls := "ForesightHubModel", name := "packetOf", desc := "(I)I" } : Jvm.MethodName) prog_10_method_40_code (2 : Nat) (Option.some Jvm.ClassFile.FieldType.int)) ∈ TB := TB_6 167 rfl rfl
theorem tw_1368 : (Jvm.Cond.methodLink "ForesightHubLaw" (119 : Nat) ({ cls := "ForesightHubModel", name := "packets", desc := "(I)J" } : Jvm.MethodName)) ∈ TB := TB_6 168 rfl rfl
theorem tw_1369 : (Jvm.Cond.instanceMethod ({ cls := "ForesightHubModel", name := "packets", desc := "(I)J" } : Jvm.MethodName)) ∈ TB := TB_6 169 rfl rfl
theorem tw_1370 : (Jvm.Cond.selects "ForesightHubModel" ({ cls := "ForesightHubModel", name := "packets", desc := "(I)J" } : Jvm.MethodName) ({ cls := "ForesightHubModel", name := "packets", desc := "(I)J" } : Jvm.MethodName)) ∈ TB := TB_6 170 rfl rfl
theorem tw_1371 : (Jvm.Cond.code ({ cls := "ForesightHubModel", name := "packets", desc := "(I)J" } : Jvm.MethodName) prog_10_method_61_code (2 : Nat) (Option.some Jvm.ClassFile.FieldType.long)) ∈ TB := TB_6 171 rfl rfl
theorem tw_1372 : (Jvm.Cond.methodLink "ForesightHubLaw" (123 : Nat) ({ cls := "ForesightHubModel", name := "error", desc := "(III)I" } : Jvm.MethodName)) ∈ TB := TB_6 172 rfl rfl
theorem tw_1373 : (Jvm.Cond.instanceMethod ({ cls := "ForesightHubModel", name := "error", desc := "(III)I" } : Jvm.MethodName)) ∈ TB := TB_6 173 rfl rfl
theorem tw_1374 : (Jvm.Cond.selects "ForesightHubModel" ({ cls := "ForesightHubModel", name := "error", desc := "(III)I" } : Jvm.MethodName) ({ cls := "ForesightHubModel", name := "error", desc := "(III)I" } : Jvm.MethodName)) ∈ TB := TB_6 174 rfl rfl
theorem tw_1375 : (Jvm.Cond.code ({ cls := "ForesightHubModel", name := "error", desc := "(III)I" } : Jvm.MethodName) prog_10_method_62_code (5 : Nat) (Option.some Jvm.ClassFile.FieldType.int)) ∈ TB := TB_6 175 rfl rfl
theorem tw_1376 : (Jvm.Cond.methodLink "ForesightHubLaw" (126 : Nat) ({ cls := "ForesightHubModel", name := "cause", desc := "(II)I" } : Jvm.MethodName)) ∈ TB := TB_6 176 rfl rfl
theorem tw_1377 : (Jvm.Cond.instanceMethod ({ cls := "ForesightHubModel", name := "cause", desc := "(II)I" } : Jvm.MethodName)) ∈ TB := TB_6 177 rfl rfl
theorem tw_1378 : (Jvm.Cond.selects "ForesightHubModel" ({ cls := "ForesightHubModel", name := "cause", desc := "(II)I" } : Jvm.MethodName) ({ cls := "ForesightHubModel", name := "cause", desc := "(II)I" } : Jvm.MethodName)) ∈ TB := TB_6 178 rfl rfl
theorem tw_1379 : (Jvm.Cond.code ({ cls := "ForesightHubModel", name := "cause", desc := "(II)I" } : Jvm.MethodName) prog_10_method_63_code (4 : Nat) (Option.some Jvm.ClassFile.FieldType.int)) ∈ TB := TB_6 179 rfl rfl
theorem tw_1380 : (Jvm.Cond.methodLink "ForesightHubLaw" (129 : Nat) ({ cls := "ForesightHubModel", name := "scoreWith", desc := "(II)I" } : Jvm.MethodName)) ∈ TB := TB_6 180 rfl rfl
theorem tw_1381 : (Jvm.Cond.instanceMethod ({ cls := "ForesightHubModel", name := "scoreWith", desc := "(II)I" } : Jvm.MethodName)) ∈ TB := TB_6 181 rfl rfl
theorem tw_1382 : (Jvm.Cond.selects "ForesightHubModel" ({ cls := "ForesightHubModel", name := "scoreWith", desc := "(II)I" } : Jvm.MethodName) ({ cls := "ForesightHubModel", name := "scoreWith", desc := "(II)I" } : Jvm.MethodName)) ∈ TB := TB_6 182 rfl rfl
theorem tw_1383 : (Jvm.Cond.code ({ cls := "ForesightHubModel", name := "scoreWith", desc := "(II)I" } : Jvm.MethodName) prog_10_method_65_code (3 : Nat) (Option.some Jvm.ClassFile.FieldType.int)) ∈ TB := TB_6 183 rfl rfl
theorem tw_1384 : (Jvm.Cond.methodLink "ForesightHubModel" (271 : Nat) ({ cls := "ForesightHubModel", name := "scoreThen", desc := "(II)I" } : Jvm.MethodName)) ∈ TB := TB_6 184 rfl rfl
theorem tw_1386 : (Jvm.Cond.instanceMethod ({ cls := "ForesightHubModel", name := "scoreThen", desc := "(II)I" } : Jvm.MethodName)) ∈ TB := TB_6 186 rfl rfl
theorem tw_1387 : (Jvm.Cond.code ({ cls := "ForesightHubModel", name := "scoreThen", desc := "(II)I" } : Jvm.MethodName) prog_10_method_51_code (5 : Nat) (Option.some Jvm.ClassFile.FieldType.int)) ∈ TB := TB_6 187 rfl rfl
theorem tw_1388 : (Jvm.Cond.methodLink "ForesightHubModel" (241 : Nat) ({ cls := "ForesightHubModel", name := "keepsError", desc := "(II)V" } : Jvm.MethodName)) ∈ TB := TB_6 188 rfl rfl
theorem tw_1390 : (Jvm.Cond.instanceMethod ({ cls := "ForesightHubModel", name := "keepsError", desc := "(II)V" } : Jvm.MethodName)) ∈ TB := TB_6 190 rfl rfl
theorem tw_1391 : (Jvm.Cond.code ({ cls := "ForesightHubModel", name := "keepsError", desc := "(II)V" } : Jvm.MethodName) prog_10_method_50_code (5 : Nat) (Option.none : Option Jvm.ClassFile.FieldType)) ∈ TB := TB_6 191 rfl rfl
theorem tw_1392 : (Jvm.Cond.methodLink "ForesightHubLaw" (132 : Nat) ({ cls := "ForesightHubModel", name := "feared", desc := "(I)I" } : Jvm.MethodName)) ∈ TB := TB_6 192 rfl rfl
theorem tw_1393 : (Jvm.Cond.instanceMethod ({ cls := "ForesightHubModel", name := "feared", desc := "(I)I" } : Jvm.MethodName)) ∈ TB := TB_6 193 rfl rfl
theorem tw_1394 : (Jvm.Cond.selects "ForesightHubModel" ({ cls := "ForesightHubModel", name := "feared", desc := "(I)I" } : Jvm.MethodName) ({ cls := "ForesightHubModel", name := "feared", desc := "(I)I" } : Jvm.MethodName)) ∈ TB := TB_6 194 rfl rfl
theorem tw_1395 : (Jvm.Cond.code ({ cls := "ForesightHubModel", name := "feared", desc := "(I)I" } : Jvm.MethodName) prog_10_method_66_code (3 : Nat) (Option.some Jvm.ClassFile.FieldType.int)) ∈ TB := TB_6 195 rfl rfl
theorem tw_1396 : (Jvm.Cond.methodLink "ForesightHubLaw" (135 : Nat) ({ cls := "ForesightHubModel", name := "framesToClear", desc := "(I)I" } : Jvm.MethodName)) ∈ TB := TB_6 196 rfl rfl
theorem tw_1397 : (Jvm.Cond.instanceMethod ({ cls := "ForesightHubModel", name := "framesToClear", desc := "(I)I" } : Jvm.MethodName)) ∈ TB := TB_6 197 rfl rfl
theorem tw_1398 : (Jvm.Cond.selects "ForesightHubModel" ({ cls := "ForesightHubModel", name := "framesToClear", desc := "(I)I" } : Jvm.MethodName) ({ cls := "ForesightHubModel", name := "framesToClear", desc := "(I)I" } : Jvm.MethodName)) ∈ TB := TB_6 198 rfl rfl
theorem tw_1399 : (Jvm.Cond.code ({ cls := "ForesightHubModel", name := "framesToClear", desc := "(I)I" } : Jvm.MethodName) prog_10_method_68_code (2 : Nat) (Option.some Jvm.ClassFile.FieldType.int)) ∈ TB := TB_6 199 rfl rfl
theorem tw_1400 : (Jvm.Cond.methodLink "ForesightHubModel" (274 : Nat) ({ cls := "ForesightHubModel", name := "clearing", desc := "(I)I" } : Jvm.MethodName)) ∈ TB := TB_6 200 rfl rfl
theorem tw_1402 : (Jvm.Cond.instanceMethod ({ cls := "ForesightHubModel", name := "clearing", desc := "(I)I" } : Jvm.MethodName)) ∈ TB := TB_6 202 rfl rfl
theorem tw_1403 : (Jvm.Cond.code ({ cls := "ForesightHubModel", name := "clearing", desc := "(I)I" } : Jvm.MethodName) prog_10_method_67_code (5 : Nat) (Option.some Jvm.ClassFile.FieldType.int)) ∈ TB := TB_6 203 rfl rfl
theorem tw_1404 : (Jvm.Cond.methodLink "ForesightHubLaw" (138 : Nat) ({ cls := "ForesightHubModel", name := "atStake", desc := "(I)I" } : Jvm.MethodName)) ∈ TB := TB_6 204 rfl rfl
theorem tw_1405 : (Jvm.Cond.instanceMethod ({ cls := "ForesightHubModel", name := "atStake", desc := "(I)I" } : Jvm.MethodName)) ∈ TB := TB_6 205 rfl rfl
theorem tw_1406 : (Jvm.Cond.selects "ForesightHubModel" ({ cls := "ForesightHubModel", name := "atStake", desc := "(I)I" } : Jvm.MethodName) ({ cls := "ForesightHubModel", name := "atStake", desc := "(I)I" } : Jvm.MethodName)) ∈ TB := TB_6 206 rfl rfl
theorem tw_1407 : (Jvm.Cond.code ({ cls := "ForesightHubModel", name := "atStake", desc := "(I)I" } : Jvm.MethodName) prog_10_method_70_code (2 : Nat) (Option.some Jvm.ClassFile.FieldType.int)) ∈ TB := TB_6 207 rfl rfl
theorem tw_1408 : (Jvm.Cond.methodLink "ForesightHubModel" (277 : Nat) ({ cls := "ForesightHubModel", name := "stake", desc := "(I)I" } : Jvm.MethodName)) ∈ TB := TB_6 208 rfl rfl
theorem tw_1410 : (Jvm.Cond.instanceMethod ({ cls := "ForesightHubModel", name := "stake", desc := "(I)I" } : Jvm.MethodName)) ∈ TB := TB_6 210 rfl rfl
theorem tw_1411 : (Jvm.Cond.code ({ cls := "ForesightHubModel", name := "stake", desc := "(I)I" } : Jvm.MethodName) prog_10_method_69_code (4 : Nat) (Option.some Jvm.ClassFile.FieldType.int)) ∈ TB := TB_6 211 rfl rfl
theorem tw_1412 : (Jvm.Cond.methodLink "ForesightHubLaw" (142 : Nat) ({ cls := "ForesightHubModel", name := "weakest", desc := "()I" } : Jvm.MethodName)) ∈ TB := TB_6 212 rfl rfl
theorem tw_1413 : (Jvm.Cond.instanceMethod ({ cls := "ForesightHubModel", name := "weakest", desc := "()I" } : Jvm.MethodName)) ∈ TB := TB_6 213 rfl rfl
theorem tw_1414 : (Jvm.Cond.selects "ForesightHubModel" ({ cls := "ForesightHubModel", name := "weakest", desc := "()I" } : Jvm.MethodName) ({ cls := "ForesightHubModel", name := "weakest", desc := "()I" } : Jvm.MethodName)) ∈ TB := TB_6 214 rfl rfl
theorem tw_1415 : (Jvm.Cond.code ({ cls := "ForesightHubModel", name := "weakest", desc := "()I" } : Jvm.MethodName) prog_10_method_71_code (3 : Nat) (Option.some Jvm.ClassFile.FieldType.int)) ∈ TB := TB_6 215 rfl rfl
theorem tw_1416 : (Jvm.Cond.methodLink "ForesightHubLaw" (145 : Nat) ({ cls := "ForesightHubModel", name := "whyNotRunning", desc := "(I)I" } : Jvm.MethodName)) ∈ TB := TB_6 216 rfl rfl
theorem tw_1417 : (Jvm.Cond.instanceMethod ({ cls := "ForesightHubModel", name := "whyNotRunning", desc := "(I)I" } : Jvm.MethodName)) ∈ TB := TB_6 217 rfl rfl
theorem tw_1418 : (Jvm.Cond.selects "ForesightHubModel" ({ cls := "ForesightHubModel", name := "whyNotRunning", desc := "(I)I" } : Jvm.MethodName) ({ cls := "ForesightHubModel", name := "whyNotRunning", desc := "(I)I" } : Jvm.MethodName)) ∈ TB := TB_6 218 rfl rfl
theorem tw_1419 : (Jvm.Cond.code ({ cls := "ForesightHubModel", name := "whyNotRunning", desc := "(I)I" } : Jvm.MethodName) prog_10_method_72_code (2 : Nat) (Option.some Jvm.ClassFile.FieldType.int)) ∈ TB := TB_6 219 rfl rfl
theorem tw_1420 : (Jvm.Cond.methodLink "ForesightHubLaw" (148 : Nat) ({ cls := "ForesightHubModel", name := "event", desc := "(II)I" } : Jvm.MethodName)) ∈ TB := TB_6 220 rfl rfl
theorem tw_1421 : (Jvm.Cond.instanceMethod ({ cls := "ForesightHubModel", name := "event", desc := "(II)I" } : Jvm.MethodName)) ∈ TB := TB_6 221 rfl rfl
theorem tw_1422 : (Jvm.Cond.selects "ForesightHubModel" ({ cls := "ForesightHubModel", name := "event", desc := "(II)I" } : Jvm.MethodName) ({ cls := "ForesightHubModel", name := "event", desc := "(II)I" } : Jvm.MethodName)) ∈ TB := TB_6 222 rfl rfl
theorem tw_1423 : (Jvm.Cond.code ({ cls := "ForesightHubModel", name := "event", desc := "(II)I" } : Jvm.MethodName) prog_10_method_73_code (4 : Nat) (Option.some Jvm.ClassFile.FieldType.int)) ∈ TB := TB_6 223 rfl rfl
theorem tw_1424 : (Jvm.Cond.methodLink "ForesightHubLaw" (151 : Nat) ({ cls := "ForesightHubModel", name := "account", desc := "(I)I" } : Jvm.MethodName)) ∈ TB := TB_6 224 rfl rfl
theorem tw_1425 : (Jvm.Cond.instanceMethod ({ cls := "ForesightHubModel", name := "account", desc := "(I)I" } : Jvm.MethodName)) ∈ TB := TB_6 225 rfl rfl
theorem tw_1426 : (Jvm.Cond.selects "ForesightHubModel" ({ cls := "ForesightHubModel", name := "account", desc := "(I)I" } : Jvm.MethodName) ({ cls := "ForesightHubModel", name := "account", desc := "(I)I" } : Jvm.MethodName)) ∈ TB := TB_6 226 rfl rfl
theorem tw_1427 : (Jvm.Cond.code ({ cls := "ForesightHubModel", name := "account", desc := "(I)I" } : Jvm.MethodName) prog_10_method_74_code (2 : Nat) (Option.some Jvm.ClassFile.FieldType.int)) ∈ TB := TB_6 227 rfl rfl
theorem tw_1428 : (Jvm.Cond.methodLink "ForesightHubLaw" (156 : Nat) ({ cls := "ForesightHubModel", name := "rightShare", desc := "()D" } : Jvm.MethodName)) ∈ TB := TB_6 228 rfl rfl
theorem tw_1429 : (Jvm.Cond.instanceMethod ({ cls := "ForesightHubModel", name := "rightShare", desc := "()D" } : Jvm.MethodName)) ∈ TB := TB_6 229 rfl rfl
theorem tw_1430 : (Jvm.Cond.selects "ForesightHubModel" ({ cls := "ForesightHubModel", name := "rightShare", desc := "()D" } : Jvm.MethodName) ({ cls := "ForesightHubModel", name := "rightShare", desc := "()D" } : Jvm.MethodName)) ∈ TB := TB_6 230 rfl rfl
theorem tw_1431 : (Jvm.Cond.code ({ cls := "ForesightHubModel", name := "rightShare", desc := "()D" } : Jvm.MethodName) prog_10_method_75_code (2 : Nat) (Option.some Jvm.ClassFile.FieldType.double)) ∈ TB := TB_6 231 rfl rfl
theorem tw_1432 : (Jvm.Cond.methodLink "ForesightHubLaw" (159 : Nat) ({ cls := "ForesightHubModel", name := "frames", desc := "(I)I" } : Jvm.MethodName)) ∈ TB := TB_6 232 rfl rfl
theorem tw_1433 : (Jvm.Cond.instanceMethod ({ cls := "ForesightHubModel", name := "frames", desc := "(I)I" } : Jvm.MethodName)) ∈ TB := TB_6 233 rfl rfl
theorem tw_1434 : (Jvm.Cond.selects "ForesightHubModel" ({ cls := "ForesightHubModel", name := "frames", desc := "(I)I" } : Jvm.MethodName) ({ cls := "ForesightHubModel", name := "frames", desc := "(I)I" } : Jvm.MethodName)) ∈ TB := TB_6 234 rfl rfl
theorem tw_1435 : (Jvm.Cond.code ({ cls := "ForesightHubModel", name := "frames", desc := "(I)I" } : Jvm.MethodName) prog_10_method_80_code (3 : Nat) (Option.some Jvm.ClassFile.FieldType.int)) ∈ TB := TB_6 235 rfl rfl
theorem tw_1436 : (Jvm.Cond.methodLink "ForesightHubModel" (289 : Nat) ({ cls := "ForesightHubModel", name := "keep", desc := "()V" } : Jvm.MethodName)) ∈ TB := TB_6 236 rfl rfl
theorem tw_1438 : (Jvm.Cond.instanceMethod ({ cls := "ForesightHubModel", name := "keep", desc := "()V" } : Jvm.MethodName)) ∈ TB := TB_6 238 rfl rfl
theorem tw_1439 : (Jvm.Cond.code ({ cls := "ForesightHubModel", name := "keep", desc := "()V" } : Jvm.MethodName) prog_10_method_28_code (2 : Nat) (Option.none : Option Jvm.ClassFile.FieldType)) ∈ TB := TB_6 239 rfl rfl
theorem tw_1440 : (Jvm.Cond.methodLink "ForesightHubModel" (202 : Nat) ({ cls := "ForesightHubModel", name := "copy", desc := "([I[JI[I[JI)V" } : Jvm.MethodName)) ∈ TB := TB_7 0 rfl rfl
theorem tw_1441 : (Jvm.Cond.static ({ cls := "ForesightHubModel", name := "copy", desc := "([I[JI[I[JI)V" } : Jvm.MethodName)) ∈ TB := TB_7 1 rfl rfl
theorem tw_1442 : (Jvm.Cond.code ({ cls := "ForesightHubModel", name := "copy", desc := "([I[JI[I[JI)V" } : Jvm.MethodName) prog_10_method_27_code (7 : Nat) (Option.none : Option Jvm.ClassFile.FieldType)) ∈ TB := TB_7 2 rfl rfl
theorem tw_1443 : (Jvm.Cond.methodLink "ForesightHubModel" (292 : Nat) ({ cls := "ForesightHubModel", name := "frame", desc := "()V" } : Jvm.MethodName)) ∈ TB := TB_7 3 rfl rfl
theorem tw_1445 : (Jvm.Cond.instanceMethod ({ cls := "ForesightHubModel", name := "frame", desc := "()V" } : Jvm.MethodName)) ∈ TB := TB_7 5 rfl rfl
theorem tw_1446 : (Jvm.Cond.code ({ cls := "ForesightHubModel", name := "frame", desc := "()V" } : Jvm.MethodName) prog_10_method_79_code (2 : Nat) (Option.none : Option Jvm.ClassFile.FieldType)) ∈ TB := TB_7 6 rfl rfl
theorem tw_1447 : (Jvm.Cond.methodLink "ForesightHubModel" (280 : Nat) ({ cls := "ForesightHubModel", name := "flows", desc := "(I)V" } : Jvm.MethodName)) ∈ TB := TB_7 7 rfl rfl
theorem tw_1449 : (Jvm.Cond.instanceMethod ({ cls := "ForesightHubModel", name := "flows", desc := "(I)V" } : Jvm.MethodName)) ∈ TB := TB_7 9 rfl rfl
theorem tw_1450 : (Jvm.Cond.code ({ cls := "ForesightHubModel", name := "flows", desc := "(I)V" } : Jvm.MethodName) prog_10_method_76_code (4 : Nat) (Option.none : Option Jvm.ClassFile.FieldType)) ∈ TB := TB_7 10 rfl rfl
theorem tw_1451 : (Jvm.Cond.methodLink "ForesightHubModel" (283 : Nat) ({ cls := "ForesightHubModel", name := "isOver", desc := "(I)Z" } : Jvm.MethodName)) ∈ TB := TB_7 11 rfl rfl
theorem tw_1453 : (Jvm.Cond.instanceMethod ({ cls := "ForesightHubModel", name := "isOver", desc := "(I)Z" } : Jvm.MethodName)) ∈ TB := TB_7 13 rfl rfl
theorem tw_1454 : (Jvm.Cond.code ({ cls := "ForesightHubModel", name := "isOver", desc := "(I)Z" } : Jvm.MethodName) prog_10_method_78_code (3 : Nat) (Option.some Jvm.ClassFile.FieldType.boolean)) ∈ TB := TB_7 14 rfl rfl
theorem tw_1455 : (Jvm.Cond.methodLink "ForesightHubModel" (286 : Nat) ({ cls := "ForesightHubModel", name := "calms", desc := "(I)V" } : Jvm.MethodName)) ∈ TB := TB_7 15 rfl rfl
theorem tw_1457 : (Jvm.Cond.instanceMethod ({ cls := "ForesightHubModel", name := "calms", desc := "(I)V" } : Jvm.MethodName)) ∈ TB := TB_7 17 rfl rfl
theorem tw_1458 : (Jvm.Cond.code ({ cls := "ForesightHubModel", name := "calms", desc := "(I)V" } : Jvm.MethodName) prog_10_method_77_code (2 : Nat) (Option.none : Option Jvm.ClassFile.FieldType)) ∈ TB := TB_7 18 rfl rfl
theorem tw_1459 : (Jvm.Cond.methodLink "ForesightHubLaw" (162 : Nat) ({ cls := "ForesightHubModel", name := "fail", desc := "(II)I" } : Jvm.MethodName)) ∈ TB := TB_7 19 rfl rfl
theorem tw_1460 : (Jvm.Cond.instanceMethod ({ cls := "ForesightHubModel", name := "fail", desc := "(II)I" } : Jvm.MethodName)) ∈ TB := TB_7 20 rfl rfl
theorem tw_1461 : (Jvm.Cond.selects "ForesightHubModel" ({ cls := "ForesightHubModel", name := "fail", desc := "(II)I" } : Jvm.MethodName) ({ cls := "ForesightHubModel", name := "fail", desc := "(II)I" } : Jvm.MethodName)) ∈ TB := TB_7 21 rfl rfl
theorem tw_1462 : (Jvm.Cond.code ({ cls := "ForesightHubModel", name := "fail", desc := "(II)I" } : Jvm.MethodName) prog_10_method_82_code (3 : Nat) (Option.some Jvm.ClassFile.FieldType.int)) ∈ TB := TB_7 22 rfl rfl
theorem tw_1463 : (Jvm.Cond.methodLink "ForesightHubModel" (295 : Nat) ({ cls := "ForesightHubModel", name := "counts", desc := "(II)V" } : Jvm.MethodName)) ∈ TB := TB_7 23 rfl rfl
theorem tw_1465 : (Jvm.Cond.instanceMethod ({ cls := "ForesightHubModel", name := "counts", desc := "(II)V" } : Jvm.MethodName)) ∈ TB := TB_7 25 rfl rfl
theorem tw_1466 : (Jvm.Cond.code ({ cls := "ForesightHubModel", name := "counts", desc := "(II)V" } : Jvm.MethodName) prog_10_method_64_code (5 : Nat) (Option.none : Option Jvm.ClassFile.FieldType)) ∈ TB := TB_7 26 rfl rfl
theorem tw_1467 : (Jvm.Cond.methodLink "ForesightHubModel" (298 : Nat) ({ cls := "ForesightHubModel", name := "alarms", desc := "(I)V" } : Jvm.MethodName)) ∈ TB := TB_7 27 rfl rfl
theorem tw_1469 : (Jvm.Cond.instanceMethod ({ cls := "ForesightHubModel", name := "alarms", desc := "(I)V" } : Jvm.MethodName)) ∈ TB := TB_7 29 rfl rfl
theorem tw_1470 : (Jvm.Cond.code ({ cls := "ForesightHubModel", name := "alarms", desc := "(I)V" } : Jvm.MethodName) prog_10_method_81_code (2 : Nat) (Option.none : Option Jvm.ClassFile.FieldType)) ∈ TB := TB_7 30 rfl rfl
theorem tw_1471 : (Jvm.Cond.methodLink "ForesightHubLaw" (165 : Nat) ({ cls := "ForesightHubModel", name := "warn", desc := "(I)I" } : Jvm.MethodName)) ∈ TB := TB_7 31 rfl rfl
theorem tw_1472 : (Jvm.Cond.instanceMethod ({ cls := "ForesightHubModel", name := "warn", desc := "(I)I" } : Jvm.MethodName)) ∈ TB := TB_7 32 rfl rfl
theorem tw_1473 : (Jvm.Cond.selects "ForesightHubModel" ({ cls := "ForesightHubModel", name := "warn", desc := "(I)I" } : Jvm.MethodName) ({ cls := "ForesightHubModel", name := "warn", desc := "(I)I" } : Jvm.MethodName)) ∈ TB := TB_7 33 rfl rfl
theorem tw_1474 : (Jvm.Cond.code ({ cls := "ForesightHubModel", name := "warn", desc := "(I)I" } : Jvm.MethodName) prog_10_method_83_code (3 : Nat) (Option.some Jvm.ClassFile.FieldType.int)) ∈ TB := TB_7 34 rfl rfl
theorem tw_1475 : (Jvm.Cond.methodLink "ForesightHubLaw" (168 : Nat) ({ cls := "ForesightHubModel", name := "callOff", desc := "(I)I" } : Jvm.MethodName)) ∈ TB := TB_7 35 rfl rfl
theorem tw_1476 : (Jvm.Cond.instanceMethod ({ cls := "ForesightHubModel", name := "callOff", desc := "(I)I" } : Jvm.MethodName)) ∈ TB := TB_7 36 rfl rfl
theorem tw_1477 : (Jvm.Cond.selects "ForesightHubModel" ({ cls := "ForesightHubModel", name := "callOff", desc := "(I)I" } : Jvm.MethodName) ({ cls := "ForesightHubModel", name := "callOff", desc := "(I)I" } : Jvm.MethodName)) ∈ TB := TB_7 37 rfl rfl
theorem tw_1478 : (Jvm.Cond.code ({ cls := "ForesightHubModel", name := "callOff", desc := "(I)I" } : Jvm.MethodName) prog_10_method_84_code (2 : Nat) (Option.some Jvm.ClassFile.FieldType.int)) ∈ TB := TB_7 38 rfl rfl
theorem tw_1479 : (Jvm.Cond.methodLink "ForesightHubModel" (301 : Nat) ({ cls := "ForesightHubModel", name := "holdMany", desc := "(I)I" } : Jvm.MethodName)) ∈ TB := TB_7 39 rfl rfl
theorem tw_1481 : (Jvm.Cond.instanceMethod ({ cls := "ForesightHubModel", name := "holdMany", desc := "(I)I" } : Jvm.MethodName)) ∈ TB := TB_7 41 rfl rfl
theorem tw_1482 : (Jvm.Cond.code ({ cls := "ForesightHubModel", name := "holdMany", desc := "(I)I" } : Jvm.MethodName) prog_10_method_57_code (4 : Nat) (Option.some Jvm.ClassFile.FieldType.int)) ∈ TB := TB_7 42 rfl rfl
theorem tw_1483 : (Jvm.Cond.methodLink "ForesightHubLaw" (171 : Nat) ({ cls := "ForesightHubModel", name := "unplug", desc := "(I)I" } : Jvm.MethodName)) ∈ TB := TB_7 43 rfl rfl
theorem tw_1484 : (Jvm.Cond.instanceMethod ({ cls := "ForesightHubModel", name := "unplug", desc := "(I)I" } : Jvm.MethodName)) ∈ TB := TB_7 44 rfl rfl
theorem tw_1485 : (Jvm.Cond.selects "ForesightHubModel" ({ cls := "ForesightHubModel", name := "unplug", desc := "(I)I" } : Jvm.MethodName) ({ cls := "ForesightHubModel", name := "unplug", desc := "(I)I" } : Jvm.MethodName)) ∈ TB := TB_7 45 rfl rfl
theorem tw_1486 : (Jvm.Cond.code ({ cls := "ForesightHubModel", name := "unplug", desc := "(I)I" } : Jvm.MethodName) prog_10_method_85_code (4 : Nat) (Option.some Jvm.ClassFile.FieldType.int)) ∈ TB := TB_7 46 rfl rfl
theorem tw_1487 : (Jvm.Cond.methodLink "ForesightHubLaw" (174 : Nat) ({ cls := "ForesightHubModel", name := "plug", desc := "(II)I" } : Jvm.MethodName)) ∈ TB := TB_7 47 rfl rfl
theorem tw_1488 : (Jvm.Cond.instanceMethod ({ cls := "ForesightHubModel", name := "plug", desc := "(II)I" } : Jvm.MethodName)) ∈ TB := TB_7 48 rfl rfl
theorem tw_1489 : (Jvm.Cond.selects "ForesightHubModel" ({ cls := "ForesightHubModel", name := "plug", desc := "(II)I" } : Jvm.MethodName) ({ cls := "ForesightHubModel", name := "plug", desc := "(II)I" } : Jvm.MethodName)) ∈ TB := TB_7 49 rfl rfl
theorem tw_1490 : (Jvm.Cond.code ({ cls := "ForesightHubModel", name := "plug", desc := "(II)I" } : Jvm.MethodName) prog_10_method_86_code (3 : Nat) (Option.some Jvm.ClassFile.FieldType.int)) ∈ TB := TB_7 50 rfl rfl
theorem tw_1491 : (Jvm.Cond.methodLink "ForesightHubLaw" (177 : Nat) ({ cls := "ForesightHubModel", name := "setScore", desc := "(I)I" } : Jvm.MethodName)) ∈ TB := TB_7 51 rfl rfl
theorem tw_1492 : (Jvm.Cond.instanceMethod ({ cls := "ForesightHubModel", name := "setScore", desc := "(I)I" } : Jvm.MethodName)) ∈ TB := TB_7 52 rfl rfl
theorem tw_1493 : (Jvm.Cond.selects "ForesightHubModel" ({ cls := "ForesightHubModel", name := "setScore", desc := "(I)I" } : Jvm.MethodName) ({ cls := "ForesightHubModel", name := "setScore", desc := "(I)I" } : Jvm.MethodName)) ∈ TB := TB_7 53 rfl rfl
theorem tw_1494 : (Jvm.Cond.code ({ cls := "ForesightHubModel", name := "setScore", desc := "(I)I" } : Jvm.MethodName) prog_10_method_87_code (3 : Nat) (Option.some Jvm.ClassFile.FieldType.int)) ∈ TB := TB_7 54 rfl rfl
theorem tw_1495 : (Jvm.Cond.methodLink "ForesightHubLaw" (181 : Nat) ({ cls := "ForesightHubModel", name := "undo", desc := "()I" } : Jvm.MethodName)) ∈ TB := TB_7 55 rfl rfl
theorem tw_1496 : (Jvm.Cond.instanceMethod ({ cls := "ForesightHubModel", name := "undo", desc := "()I" } : Jvm.MethodName)) ∈ TB := TB_7 56 rfl rfl
theorem tw_1497 : (Jvm.Cond.selects "ForesightHubModel" ({ cls := "ForesightHubModel", name := "undo", desc := "()I" } : Jvm.MethodName) ({ cls := "ForesightHubModel", name := "undo", desc := "()I" } : Jvm.MethodName)) ∈ TB := TB_7 57 rfl rfl
theorem tw_1498 : (Jvm.Cond.code ({ cls := "ForesightHubModel", name := "undo", desc := "()I" } : Jvm.MethodName) prog_10_method_88_code (1 : Nat) (Option.some Jvm.ClassFile.FieldType.int)) ∈ TB := TB_7 58 rfl rfl
theorem tw_1499 : (Jvm.Cond.methodLink "ForesightHubLaw" (186 : Nat) ({ cls := "ForesightHubModel", name := "saveSnapshot", desc := "(I)Z" } : Jvm.MethodName)) ∈ TB := TB_7 59 rfl rfl
theorem tw_1500 : (Jvm.Cond.instanceMethod ({ cls := "ForesightHubModel", name := "saveSnapshot", desc := "(I)Z" } : Jvm.MethodName)) ∈ TB := TB_7 60 rfl rfl
theorem tw_1501 : (Jvm.Cond.selects "ForesightHubModel" ({ cls := "ForesightHubModel", name := "saveSnapshot", desc := "(I)Z" } : Jvm.MethodName) ({ cls := "ForesightHubModel", name := "saveSnapshot", desc := "(I)Z" } : Jvm.MethodName)) ∈ TB := TB_7 61 rfl rfl
theorem tw_1502 : (Jvm.Cond.code ({ cls := "ForesightHubModel", name := "saveSnapshot", desc := "(I)Z" } : Jvm.MethodName) prog_10_method_89_code (2 : Nat) (Option.some Jvm.ClassFile.FieldType.boolean)) ∈ TB := TB_7 62 rfl rfl
theorem tw_1503 : (Jvm.Cond.methodLink "ForesightHubLaw" (190 : Nat) ({ cls := "ForesightHubModel", name := "restoreSnapshot", desc := "(I)Z" } : Jvm.MethodName)) ∈ TB := TB_7 63 rfl rfl
theorem tw_1504 : (Jvm.Cond.instanceMethod ({ cls := "ForesightHubModel", name := "restoreSnapshot", desc := "(I)Z" } : Jvm.MethodName)) ∈ TB := TB_7 64 rfl rfl
theorem tw_1505 : (Jvm.Cond.selects "ForesightHubModel" ({ cls := "ForesightHubModel", name := "restoreSnapshot", desc := "(I)Z" } : Jvm.MethodName) ({ cls := "ForesightHubModel", name := "restoreSnapshot", desc := "(I)Z" } : Jvm.MethodName)) ∈ TB := TB_7 65 rfl rfl
theorem tw_1506 : (Jvm.Cond.code ({ cls := "ForesightHubModel", name := "restoreSnapshot", desc := "(I)Z" } : Jvm.MethodName) prog_10_method_90_code (2 : Nat) (Option.some Jvm.ClassFile.FieldType.boolean)) ∈ TB := TB_7 66 rfl rfl
theorem tw_1508 : (Jvm.Cond.fieldLink "java/lang/String" (9 : Nat) "java/lang/String" "value" "[B") ∈ TB := TB_7 68 rfl rfl
theorem tw_1509 : (Jvm.Cond.fieldLink "java/lang/String" (15 : Nat) "java/lang/String" "coder" "B") ∈ TB := TB_7 69 rfl rfl
theorem ts_0 : Cond.selects "ForesightHub$Hub" ⟨"ForesightHub$Hub", "matches", "(III)Z"⟩ ⟨"ForesightHub$Hub", "matches", "(III)Z"⟩ ∈ TB := TB_s 0 (by decide +kernel) rfl
theorem ts_1 : Cond.selects "ForesightHub$ErrorBook" ⟨"ForesightHub$ErrorBook", "placeOf", "(II)I"⟩ ⟨"ForesightHub$ErrorBook", "placeOf", "(II)I"⟩ ∈ TB := TB_s 1 (by decide +kernel) rfl
theorem ts_2 : Cond.selects "ForesightHub$Hub" ⟨"ForesightHub$Hub", "isNextOf", "(III)Z"⟩ ⟨"ForesightHub$Hub", "isNextOf", "(III)Z"⟩ ∈ TB := TB_s 2 (by decide +kernel) rfl
theorem ts_3 : Cond.selects "java/lang/Throwable" ⟨"java/lang/Throwable", "fillInStackTrace", "(I)Ljava/lang/Throwable;"⟩ ⟨"java/lang/Throwable", "fillInStackTrace", "(I)Ljava/lang/Throwable;"⟩ ∈ TB := TB_s 3 (by decide +kernel) rfl
theorem ts_4 : Cond.selects "ForesightHub$Reader" ⟨"ForesightHub$Reader", "advance", "()V"⟩ ⟨"ForesightHub$Reader", "advance", "()V"⟩ ∈ TB := TB_s 4 (by decide +kernel) rfl
theorem ts_5 : Cond.selects "ForesightHub$Reader" ⟨"ForesightHub$Reader", "readHeader", "()Z"⟩ ⟨"ForesightHub$Reader", "readHeader", "()Z"⟩ ∈ TB := TB_s 5 (by decide +kernel) rfl
theorem ts_6 : Cond.selects "ForesightHub$Reader" ⟨"ForesightHub$Reader", "isWord", "(Ljava/lang/String;)Z"⟩ ⟨"ForesightHub$Reader", "isWord", "(Ljava/lang/String;)Z"⟩ ∈ TB := TB_s 6 (by decide +kernel) rfl
theorem ts_7 : Cond.selects "ForesightHub$Reader" ⟨"ForesightHub$Reader", "fault", "(I)Z"⟩ ⟨"ForesightHub$Reader", "fault", "(I)Z"⟩ ∈ TB := TB_s 7 (by decide +kernel) rfl
theorem ts_8 : Cond.selects "ForesightHub$Reader" ⟨"ForesightHub$Reader", "isNumberWithin", "(II)Z"⟩ ⟨"ForesightHub$Reader", "isNumberWithin", "(II)Z"⟩ ∈ TB := TB_s 8 (by decide +kernel) rfl
theorem ts_9 : Cond.selects "ForesightHub$Reader" ⟨"ForesightHub$Reader", "takeSemicolon", "()Z"⟩ ⟨"ForesightHub$Reader", "takeSemicolon", "()Z"⟩ ∈ TB := TB_s 9 (by decide +kernel) rfl
theorem ts_10 : Cond.selects "ForesightHub$Reader" ⟨"ForesightHub$Reader", "readStatement", "()Z"⟩ ⟨"ForesightHub$Reader", "readStatement", "()Z"⟩ ∈ TB := TB_s 10 (by decide +kernel) rfl
theorem ts_11 : Cond.selects "ForesightHub$Reader" ⟨"ForesightHub$Reader", "readPattern", "()Z"⟩ ⟨"ForesightHub$Reader", "readPattern", "()Z"⟩ ∈ TB := TB_s 11 (by decide +kernel) rfl
theorem ts_12 : Cond.selects "ForesightHub$Reader" ⟨"ForesightHub$Reader", "takeNewName", "([JI)Z"⟩ ⟨"ForesightHub$Reader", "takeNewName", "([JI)Z"⟩ ∈ TB := TB_s 12 (by decide +kernel) rfl
theorem ts_13 : Cond.selects "ForesightHub$Reader" ⟨"ForesightHub$Reader", "indexOfWord", "([JI)I"⟩ ⟨"ForesightHub$Reader", "indexOfWord", "([JI)I"⟩ ∈ TB := TB_s 13 (by decide +kernel) rfl
theorem ts_14 : Cond.selects "ForesightHub$Reader" ⟨"ForesightHub$Reader", "readPatternErrors", "(I)Z"⟩ ⟨"ForesightHub$Reader", "readPatternErrors", "(I)Z"⟩ ∈ TB := TB_s 14 (by decide +kernel) rfl
theorem ts_15 : Cond.selects "ForesightHub$Reader" ⟨"ForesightHub$Reader", "kindOfWord", "()I"⟩ ⟨"ForesightHub$Reader", "kindOfWord", "()I"⟩ ∈ TB := TB_s 15 (by decide +kernel) rfl
theorem ts_16 : Cond.selects "ForesightHub$Reader" ⟨"ForesightHub$Reader", "readDevice", "()Z"⟩ ⟨"ForesightHub$Reader", "readDevice", "()Z"⟩ ∈ TB := TB_s 16 (by decide +kernel) rfl
theorem ts_17 : Cond.selects "ForesightHub$Reader" ⟨"ForesightHub$Reader", "isTakenPort", "(I)Z"⟩ ⟨"ForesightHub$Reader", "isTakenPort", "(I)Z"⟩ ∈ TB := TB_s 17 (by decide +kernel) rfl
theorem ts_18 : Cond.selects "ForesightHub$Reader" ⟨"ForesightHub$Reader", "isKnownDevice", "()Z"⟩ ⟨"ForesightHub$Reader", "isKnownDevice", "()Z"⟩ ∈ TB := TB_s 18 (by decide +kernel) rfl
theorem ts_19 : Cond.selects "ForesightHub$Reader" ⟨"ForesightHub$Reader", "readStream", "()Z"⟩ ⟨"ForesightHub$Reader", "readStream", "()Z"⟩ ∈ TB := TB_s 19 (by decide +kernel) rfl
theorem ts_20 : Cond.selects "ForesightHub$Reader" ⟨"ForesightHub$Reader", "readAlarm", "()Z"⟩ ⟨"ForesightHub$Reader", "readAlarm", "()Z"⟩ ∈ TB := TB_s 20 (by decide +kernel) rfl
theorem ts_21 : Cond.selects "ForesightHub$Hub" ⟨"ForesightHub$Hub", "settleHeld", "(I)V"⟩ ⟨"ForesightHub$Hub", "settleHeld", "(I)V"⟩ ∈ TB := TB_s 21 (by decide +kernel) rfl
theorem ts_22 : Cond.selects "ForesightHub$Hub" ⟨"ForesightHub$Hub", "canHold", "(I)Z"⟩ ⟨"ForesightHub$Hub", "canHold", "(I)Z"⟩ ∈ TB := TB_s 22 (by decide +kernel) rfl
theorem ts_23 : Cond.selects "ForesightHub$Hub" ⟨"ForesightHub$Hub", "heirOfHome", "(I)I"⟩ ⟨"ForesightHub$Hub", "heirOfHome", "(I)I"⟩ ∈ TB := TB_s 23 (by decide +kernel) rfl
theorem ts_24 : Cond.selects "ForesightHub" ⟨"ForesightHub", "requirePort", "(I)V"⟩ ⟨"ForesightHub", "requirePort", "(I)V"⟩ ∈ TB := TB_s 24 (by decide +kernel) rfl
theorem ts_25 : Cond.selects "ForesightHub" ⟨"ForesightHub", "requireDevice", "(I)V"⟩ ⟨"ForesightHub", "requireDevice", "(I)V"⟩ ∈ TB := TB_s 25 (by decide +kernel) rfl
theorem ts_26 : Cond.selects "ForesightHub" ⟨"ForesightHub", "requireStream", "(I)V"⟩ ⟨"ForesightHub", "requireStream", "(I)V"⟩ ∈ TB := TB_s 26 (by decide +kernel) rfl
theorem ts_27 : Cond.selects "ForesightHub" ⟨"ForesightHub", "requireKind", "(I)V"⟩ ⟨"ForesightHub", "requireKind", "(I)V"⟩ ∈ TB := TB_s 27 (by decide +kernel) rfl
theorem ts_28 : Cond.selects "ForesightHub$Hub" ⟨"ForesightHub$Hub", "framesToPacketEnd", "(I)I"⟩ ⟨"ForesightHub$Hub", "framesToPacketEnd", "(I)I"⟩ ∈ TB := TB_s 28 (by decide +kernel) rfl
theorem ts_29 : Cond.selects "ForesightHub$Hub" ⟨"ForesightHub$Hub", "sendOn", "(I)V"⟩ ⟨"ForesightHub$Hub", "sendOn", "(I)V"⟩ ∈ TB := TB_s 29 (by decide +kernel) rfl
theorem ts_30 : Cond.selects "ForesightHub$Hub" ⟨"ForesightHub$Hub", "sendToPacketEnd", "(I)V"⟩ ⟨"ForesightHub$Hub", "sendToPacketEnd", "(I)V"⟩ ∈ TB := TB_s 30 (by decide +kernel) rfl
theorem ts_31 : Cond.selects "ForesightHub$Hub" ⟨"ForesightHub$Hub", "isWrongAlarm", "(I)Z"⟩ ⟨"ForesightHub$Hub", "isWrongAlarm", "(I)Z"⟩ ∈ TB := TB_s 31 (by decide +kernel) rfl
theorem ts_32 : Cond.selects "ForesightHub" ⟨"ForesightHub", "requirePluggedIn", "(I)V"⟩ ⟨"ForesightHub", "requirePluggedIn", "(I)V"⟩ ∈ TB := TB_s 32 (by decide +kernel) rfl
theorem ts_33 : Cond.selects "ForesightHub$ErrorBook" ⟨"ForesightHub$ErrorBook", "dropOldest", "(I)V"⟩ ⟨"ForesightHub$ErrorBook", "dropOldest", "(I)V"⟩ ∈ TB := TB_s 33 (by decide +kernel) rfl
theorem ts_34 : Cond.selects "ForesightHub$ErrorBook" ⟨"ForesightHub$ErrorBook", "countCause", "(I)V"⟩ ⟨"ForesightHub$ErrorBook", "countCause", "(I)V"⟩ ∈ TB := TB_s 34 (by decide +kernel) rfl
theorem ts_35 : Cond.selects "ForesightHub$Hub" ⟨"ForesightHub$Hub", "dropStream", "(I)I"⟩ ⟨"ForesightHub$Hub", "dropStream", "(I)I"⟩ ∈ TB := TB_s 35 (by decide +kernel) rfl
theorem ts_36 : Cond.selects "ForesightHubModel" ⟨"ForesightHubModel", "setDefaults", "()V"⟩ ⟨"ForesightHubModel", "setDefaults", "()V"⟩ ∈ TB := TB_s 36 (by decide +kernel) rfl
theorem ts_37 : Cond.selects "ForesightHubModel" ⟨"ForesightHubModel", "takeDraft", "()V"⟩ ⟨"ForesightHubModel", "takeDraft", "()V"⟩ ∈ TB := TB_s 37 (by decide +kernel) rfl
theorem ts_38 : Cond.selects "ForesightHubModel" ⟨"ForesightHubModel", "devices", "()I"⟩ ⟨"ForesightHubModel", "devices", "()I"⟩ ∈ TB := TB_s 38 (by decide +kernel) rfl
theorem ts_39 : Cond.selects "ForesightHubModel" ⟨"ForesightHubModel", "streams", "()I"⟩ ⟨"ForesightHubModel", "streams", "()I"⟩ ∈ TB := TB_s 39 (by decide +kernel) rfl
theorem ts_40 : Cond.selects "ForesightHubModel" ⟨"ForesightHubModel", "settles", "()V"⟩ ⟨"ForesightHubModel", "settles", "()V"⟩ ∈ TB := TB_s 40 (by decide +kernel) rfl
theorem ts_41 : Cond.selects "ForesightHubModel" ⟨"ForesightHubModel", "settlesHeld", "(I)V"⟩ ⟨"ForesightHubModel", "settlesHeld", "(I)V"⟩ ∈ TB := TB_s 41 (by decide +kernel) rfl
theorem ts_42 : Cond.selects "ForesightHubModel" ⟨"ForesightHubModel", "wanted", "(I)I"⟩ ⟨"ForesightHubModel", "wanted", "(I)I"⟩ ∈ TB := TB_s 42 (by decide +kernel) rfl
theorem ts_43 : Cond.selects "ForesightHubModel" ⟨"ForesightHubModel", "homeOf", "(I)I"⟩ ⟨"ForesightHubModel", "homeOf", "(I)I"⟩ ∈ TB := TB_s 43 (by decide +kernel) rfl
theorem ts_44 : Cond.selects "ForesightHubModel" ⟨"ForesightHubModel", "isGood", "(I)Z"⟩ ⟨"ForesightHubModel", "isGood", "(I)Z"⟩ ∈ TB := TB_s 44 (by decide +kernel) rfl
theorem ts_45 : Cond.selects "ForesightHubModel" ⟨"ForesightHubModel", "isPlugged", "(I)Z"⟩ ⟨"ForesightHubModel", "isPlugged", "(I)Z"⟩ ∈ TB := TB_s 45 (by decide +kernel) rfl
theorem ts_46 : Cond.selects "ForesightHubModel" ⟨"ForesightHubModel", "isAlarmed", "(I)Z"⟩ ⟨"ForesightHubModel", "isAlarmed", "(I)Z"⟩ ∈ TB := TB_s 46 (by decide +kernel) rfl
theorem ts_47 : Cond.selects "ForesightHubModel" ⟨"ForesightHubModel", "becomes", "(III)V"⟩ ⟨"ForesightHubModel", "becomes", "(III)V"⟩ ∈ TB := TB_s 47 (by decide +kernel) rfl
theorem ts_48 : Cond.selects "ForesightHubModel" ⟨"ForesightHubModel", "happens", "(II)V"⟩ ⟨"ForesightHubModel", "happens", "(II)V"⟩ ∈ TB := TB_s 48 (by decide +kernel) rfl
theorem ts_49 : Cond.selects "ForesightHubModel" ⟨"ForesightHubModel", "rateOf", "(I)I"⟩ ⟨"ForesightHubModel", "rateOf", "(I)I"⟩ ∈ TB := TB_s 49 (by decide +kernel) rfl
theorem ts_50 : Cond.selects "ForesightHubModel" ⟨"ForesightHubModel", "reserved", "()I"⟩ ⟨"ForesightHubModel", "reserved", "()I"⟩ ∈ TB := TB_s 50 (by decide +kernel) rfl
theorem ts_51 : Cond.selects "ForesightHubModel" ⟨"ForesightHubModel", "appendInt", "(I)V"⟩ ⟨"ForesightHubModel", "appendInt", "(I)V"⟩ ∈ TB := TB_s 51 (by decide +kernel) rfl
theorem ts_52 : Cond.selects "ForesightHubModel" ⟨"ForesightHubModel", "fail0", "(I)I"⟩ ⟨"ForesightHubModel", "fail0", "(I)I"⟩ ∈ TB := TB_s 52 (by decide +kernel) rfl
theorem ts_53 : Cond.selects "ForesightHubModel" ⟨"ForesightHubModel", "nextToken", "()V"⟩ ⟨"ForesightHubModel", "nextToken", "()V"⟩ ∈ TB := TB_s 53 (by decide +kernel) rfl
theorem ts_54 : Cond.selects "ForesightHubModel" ⟨"ForesightHubModel", "byteAt", "(I)I"⟩ ⟨"ForesightHubModel", "byteAt", "(I)I"⟩ ∈ TB := TB_s 54 (by decide +kernel) rfl
theorem ts_55 : Cond.selects "ForesightHubModel" ⟨"ForesightHubModel", "isWord", "(Ljava/lang/String;)Z"⟩ ⟨"ForesightHubModel", "isWord", "(Ljava/lang/String;)Z"⟩ ∈ TB := TB_s 55 (by decide +kernel) rfl
theorem ts_56 : Cond.selects "ForesightHubModel" ⟨"ForesightHubModel", "must", "(ZI)Z"⟩ ⟨"ForesightHubModel", "must", "(ZI)Z"⟩ ∈ TB := TB_s 56 (by decide +kernel) rfl
theorem ts_57 : Cond.selects "ForesightHubModel" ⟨"ForesightHubModel", "goOn", "()V"⟩ ⟨"ForesightHubModel", "goOn", "()V"⟩ ∈ TB := TB_s 57 (by decide +kernel) rfl
theorem ts_58 : Cond.selects "ForesightHubModel" ⟨"ForesightHubModel", "read", "(II)I"⟩ ⟨"ForesightHubModel", "read", "(II)I"⟩ ∈ TB := TB_s 58 (by decide +kernel) rfl
theorem ts_59 : Cond.selects "ForesightHubModel" ⟨"ForesightHubModel", "statement", "()V"⟩ ⟨"ForesightHubModel", "statement", "()V"⟩ ∈ TB := TB_s 59 (by decide +kernel) rfl
theorem ts_60 : Cond.selects "ForesightHubModel" ⟨"ForesightHubModel", "patternLine", "()V"⟩ ⟨"ForesightHubModel", "patternLine", "()V"⟩ ∈ TB := TB_s 60 (by decide +kernel) rfl
theorem ts_61 : Cond.selects "ForesightHubModel" ⟨"ForesightHubModel", "begin", "(II)Z"⟩ ⟨"ForesightHubModel", "begin", "(II)Z"⟩ ∈ TB := TB_s 61 (by decide +kernel) rfl
theorem ts_62 : Cond.selects "ForesightHubModel" ⟨"ForesightHubModel", "draftFind", "(I)I"⟩ ⟨"ForesightHubModel", "draftFind", "(I)I"⟩ ∈ TB := TB_s 62 (by decide +kernel) rfl
theorem ts_63 : Cond.selects "ForesightHubModel" ⟨"ForesightHubModel", "kindHere", "()I"⟩ ⟨"ForesightHubModel", "kindHere", "()I"⟩ ∈ TB := TB_s 63 (by decide +kernel) rfl
theorem ts_64 : Cond.selects "ForesightHubModel" ⟨"ForesightHubModel", "deviceLine", "()V"⟩ ⟨"ForesightHubModel", "deviceLine", "()V"⟩ ∈ TB := TB_s 64 (by decide +kernel) rfl
theorem ts_65 : Cond.selects "ForesightHubModel" ⟨"ForesightHubModel", "isTaken", "(I)Z"⟩ ⟨"ForesightHubModel", "isTaken", "(I)Z"⟩ ∈ TB := TB_s 65 (by decide +kernel) rfl
theorem ts_66 : Cond.selects "ForesightHubModel" ⟨"ForesightHubModel", "deviceHere", "()I"⟩ ⟨"ForesightHubModel", "deviceHere", "()I"⟩ ∈ TB := TB_s 66 (by decide +kernel) rfl
theorem ts_67 : Cond.selects "ForesightHubModel" ⟨"ForesightHubModel", "streamLine", "()V"⟩ ⟨"ForesightHubModel", "streamLine", "()V"⟩ ∈ TB := TB_s 67 (by decide +kernel) rfl
theorem ts_68 : Cond.selects "ForesightHubModel" ⟨"ForesightHubModel", "alarmLine", "()V"⟩ ⟨"ForesightHubModel", "alarmLine", "()V"⟩ ∈ TB := TB_s 68 (by decide +kernel) rfl
theorem ts_69 : Cond.selects "ForesightHubModel" ⟨"ForesightHubModel", "atPort", "(I)I"⟩ ⟨"ForesightHubModel", "atPort", "(I)I"⟩ ∈ TB := TB_s 69 (by decide +kernel) rfl
theorem ts_70 : Cond.selects "ForesightHubModel" ⟨"ForesightHubModel", "isDevice", "(I)Z"⟩ ⟨"ForesightHubModel", "isDevice", "(I)Z"⟩ ∈ TB := TB_s 70 (by decide +kernel) rfl
theorem ts_71 : Cond.selects "ForesightHubModel" ⟨"ForesightHubModel", "scoreOf", "(I)I"⟩ ⟨"ForesightHubModel", "scoreOf", "(I)I"⟩ ∈ TB := TB_s 71 (by decide +kernel) rfl
theorem ts_72 : Cond.selects "ForesightHubModel" ⟨"ForesightHubModel", "matches", "(II)Z"⟩ ⟨"ForesightHubModel", "matches", "(II)Z"⟩ ∈ TB := TB_s 72 (by decide +kernel) rfl
theorem ts_73 : Cond.selects "ForesightHubModel" ⟨"ForesightHubModel", "matching", "(I)I"⟩ ⟨"ForesightHubModel", "matching", "(I)I"⟩ ∈ TB := TB_s 73 (by decide +kernel) rfl
theorem ts_74 : Cond.selects "ForesightHubModel" ⟨"ForesightHubModel", "holding", "(I)I"⟩ ⟨"ForesightHubModel", "holding", "(I)I"⟩ ∈ TB := TB_s 74 (by decide +kernel) rfl
theorem ts_75 : Cond.selects "ForesightHubModel" ⟨"ForesightHubModel", "isHeldBy", "(II)Z"⟩ ⟨"ForesightHubModel", "isHeldBy", "(II)Z"⟩ ∈ TB := TB_s 75 (by decide +kernel) rfl
theorem ts_76 : Cond.selects "ForesightHubModel" ⟨"ForesightHubModel", "holdRate", "(I)I"⟩ ⟨"ForesightHubModel", "holdRate", "(I)I"⟩ ∈ TB := TB_s 76 (by decide +kernel) rfl
theorem ts_77 : Cond.selects "ForesightHubModel" ⟨"ForesightHubModel", "isStream", "(I)Z"⟩ ⟨"ForesightHubModel", "isStream", "(I)Z"⟩ ∈ TB := TB_s 77 (by decide +kernel) rfl
theorem ts_78 : Cond.selects "ForesightHubModel" ⟨"ForesightHubModel", "packetOf", "(I)I"⟩ ⟨"ForesightHubModel", "packetOf", "(I)I"⟩ ∈ TB := TB_s 78 (by decide +kernel) rfl
theorem ts_79 : Cond.selects "ForesightHubModel" ⟨"ForesightHubModel", "scoreThen", "(II)I"⟩ ⟨"ForesightHubModel", "scoreThen", "(II)I"⟩ ∈ TB := TB_s 79 (by decide +kernel) rfl
theorem ts_80 : Cond.selects "ForesightHubModel" ⟨"ForesightHubModel", "keepsError", "(II)V"⟩ ⟨"ForesightHubModel", "keepsError", "(II)V"⟩ ∈ TB := TB_s 80 (by decide +kernel) rfl
theorem ts_81 : Cond.selects "ForesightHubModel" ⟨"ForesightHubModel", "clearing", "(I)I"⟩ ⟨"ForesightHubModel", "clearing", "(I)I"⟩ ∈ TB := TB_s 81 (by decide +kernel) rfl
theorem ts_82 : Cond.selects "ForesightHubModel" ⟨"ForesightHubModel", "stake", "(I)I"⟩ ⟨"ForesightHubModel", "stake", "(I)I"⟩ ∈ TB := TB_s 82 (by decide +kernel) rfl
theorem ts_83 : Cond.selects "ForesightHubModel" ⟨"ForesightHubModel", "keep", "()V"⟩ ⟨"ForesightHubModel", "keep", "()V"⟩ ∈ TB := TB_s 83 (by decide +kernel) rfl
theorem ts_84 : Cond.selects "ForesightHubModel" ⟨"ForesightHubModel", "frame", "()V"⟩ ⟨"ForesightHubModel", "frame", "()V"⟩ ∈ TB := TB_s 84 (by decide +kernel) rfl
theorem ts_85 : Cond.selects "ForesightHubModel" ⟨"ForesightHubModel", "flows", "(I)V"⟩ ⟨"ForesightHubModel", "flows", "(I)V"⟩ ∈ TB := TB_s 85 (by decide +kernel) rfl
theorem ts_86 : Cond.selects "ForesightHubModel" ⟨"ForesightHubModel", "isOver", "(I)Z"⟩ ⟨"ForesightHubModel", "isOver", "(I)Z"⟩ ∈ TB := TB_s 86 (by decide +kernel) rfl
theorem ts_87 : Cond.selects "ForesightHubModel" ⟨"ForesightHubModel", "calms", "(I)V"⟩ ⟨"ForesightHubModel", "calms", "(I)V"⟩ ∈ TB := TB_s 87 (by decide +kernel) rfl
theorem ts_88 : Cond.selects "ForesightHubModel" ⟨"ForesightHubModel", "counts", "(II)V"⟩ ⟨"ForesightHubModel", "counts", "(II)V"⟩ ∈ TB := TB_s 88 (by decide +kernel) rfl
theorem ts_89 : Cond.selects "ForesightHubModel" ⟨"ForesightHubModel", "alarms", "(I)V"⟩ ⟨"ForesightHubModel", "alarms", "(I)V"⟩ ∈ TB := TB_s 89 (by decide +kernel) rfl
theorem ts_90 : Cond.selects "ForesightHubModel" ⟨"ForesightHubModel", "holdMany", "(I)I"⟩ ⟨"ForesightHubModel", "holdMany", "(I)I"⟩ ∈ TB := TB_s 90 (by decide +kernel) rfl
theorem inT0 : ∀ v ∈ u_ws RX0 TX0 6, v ∈ lw_tbl := by decide +kernel
theorem inB0 : ∀ v ∈ u_ws RX0 TX0 6, v ∈ TB := fun v hv => List.mem_filter.mpr ⟨inT0 v hv, List.all_eq_true.mp (show (u_ws RX0 TX0 6).all goodWord = true by decide +kernel) v hv⟩
theorem inT1 : ∀ v ∈ u_ws RX1 TX1 3, v ∈ lw_tbl := by decide +kernel
theorem inB1 : ∀ v ∈ u_ws RX1 TX1 3, v ∈ TB := fun v hv => List.mem_filter.mpr ⟨inT1 v hv, List.all_eq_true.mp (show (u_ws RX1 TX1 3).all goodWord = true by decide +kernel) v hv⟩
theorem inT2 : ∀ v ∈ u_ws RX2 TX2 2, v ∈ lw_tbl := by decide +kernel
theorem inB2 : ∀ v ∈ u_ws RX2 TX2 2, v ∈ TB := fun v hv => List.mem_filter.mpr ⟨inT2 v hv, List.all_eq_true.mp (show (u_ws RX2 TX2 2).all goodWord = true by decide +kernel) v hv⟩
theorem inT3 : ∀ v ∈ u_ws RX3 TX3 6, v ∈ lw_tbl := by decide +kernel
theorem inB3 : ∀ v ∈ u_ws RX3 TX3 6, v ∈ TB := fun v hv => List.mem_filter.mpr ⟨inT3 v hv, List.all_eq_true.mp (show (u_ws RX3 TX3 6).all goodWord = true by decide +kernel) v hv⟩
theorem inT4 : ∀ v ∈ u_ws RX4 TX4 16, v ∈ lw_tbl := by decide +kernel
theorem inB4 : ∀ v ∈ u_ws RX4 TX4 16, v ∈ TB := fun v hv => List.mem_filter.mpr ⟨inT4 v hv, List.all_eq_true.mp (show (u_ws RX4 TX4 16).all goodWord = true by decide +kernel) v hv⟩
theorem inT5 : ∀ v ∈ u_ws RX5 TX5 14, v ∈ lw_tbl := by decide +kernel
theorem inB5 : ∀ v ∈ u_ws RX5 TX5 14, v ∈ TB := fun v hv => List.mem_filter.mpr ⟨inT5 v hv, List.all_eq_true.mp (show (u_ws RX5 TX5 14).all goodWord = true by decide +kernel) v hv⟩
theorem inT6 : ∀ v ∈ u_ws RX6 TX6 10, v ∈ lw_tbl := by decide +kernel
theorem inB6 : ∀ v ∈ u_ws RX6 TX6 10, v ∈ TB := fun v hv => List.mem_filter.mpr ⟨inT6 v hv, List.all_eq_true.mp (show (u_ws RX6 TX6 10).all goodWord = true by decide +kernel) v hv⟩
theorem inT7 : ∀ v ∈ u_ws RX7 TX7 5, v ∈ lw_tbl := by decide +kernel
theorem inB7 : ∀ v ∈ u_ws RX7 TX7 5, v ∈ TB := fun v hv => List.mem_filter.mpr ⟨inT7 v hv, List.all_eq_true.mp (show (u_ws RX7 TX7 5).all goodWord = true by decide +kernel) v hv⟩
theorem inT8 : ∀ v ∈ u_ws RX8 TX8 23, v ∈ lw_tbl := by decide +kernel
theorem inB8 : ∀ v ∈ u_ws RX8 TX8 23, v ∈ TB := fun v hv => List.mem_filter.mpr ⟨inT8 v hv, List.all_eq_true.mp (show (u_ws RX8 TX8 23).all goodWord = true by decide +kernel) v hv⟩
