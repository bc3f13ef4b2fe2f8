/-! AT THE LAW'S ENTRY. -/
def NF : List Cond := flatC (Jvm.Cond.and given_1 narrow_1)
def idS : List Nat := [81, 104, 109, 114, 119, 163, 189, 191, 193, 195]
def tmS (i : Nat) : Term := .string "ForesightHub$Reader" (idS.getD i 0)
theorem st_eq {args : Array Value} {s : State} {t u : Term} {a c : Nat} (h : (Cond.eq t u).before args s = true) (ht : t.eval args s none [] s = some (.ref a)) (hu : u.eval args s none [] s = some (.ref c)) : c = a := by
  simp [Cond.before, Cond.holds, Cond.value, ht, hu] at h
  first | exact h | exact h.symm
theorem lit_ne {args : Array Value} {s : State} {t u : Term} {a c : Nat} (ht : t.eval args s none [] s = some (.ref a)) (hu : u.eval args s none [] s = some (.ref c)) (hac : a ≠ c) : (Cond.not (Cond.eq t u)).before args s = true := by
  simp [Cond.before, Cond.holds, Cond.value, ht, hu, hac]
theorem lit_ln {args : Array Value} {s : State} {t u : Term} {a : Nat} {x y : Int32} (ht : t.eval args s none [] s = some (.ref a)) (h1 : (Term.length (.field t "java/lang/String" "value" "[B")).eval args s none [] s = some (.int x)) (hu : u.eval args s none [] s = some (.ref a)) (h2 : (Term.length (.field u "java/lang/String" "value" "[B")).eval args s none [] s = some (.int y)) : x = y := by
  rw [Term.eval, va_fe ht] at h1
  rw [Term.eval, va_fe hu] at h2
  have := h1.symm.trans h2
  cases this
  rfl
theorem lit_el {args : Array Value} {s : State} {t u z : Term} {a : Nat} {x y : Int32} (ht : t.eval args s none [] s = some (.ref a)) (h1 : (Term.elem (.field t "java/lang/String" "value" "[B") z).eval args s none [] s = some (.int x)) (hu : u.eval args s none [] s = some (.ref a)) (h2 : (Term.elem (.field u "java/lang/String" "value" "[B") z).eval args s none [] s = some (.int y)) : x = y := by
  rw [Term.eval, va_fe ht] at h1
  rw [Term.eval, va_fe hu] at h2
  have := h1.symm.trans h2
  cases this
  rfl
theorem lenS_small (i : Nat) : lenS.getD i 0 < 2 ^ 31 := by
  rw [List.getD_eq_getElem?_getD]
  cases h : lenS[i]? with
  | none => exact Nat.lt_of_lt_of_le (by decide) (Nat.le_refl _)
  | some v =>
    have hm := List.mem_of_getElem? h
    have hall : ∀ v ∈ lenS, v < 100 := by decide
    have := hall v hm
    show v < 2 ^ 31
    omega
theorem lenS_pos : ∀ i : Nat, i < nS → 0 < lenS.getD i 0 := by decide
theorem keyS : ∀ i : Nat, i < nS → ∀ j : Nat, j < nS → Int32.ofNat (lenS.getD i 0) = Int32.ofNat (lenS.getD j 0) → (bytS.getD i []).getD 0 0 = (bytS.getD j []).getD 0 0 → i = j := by decide +kernel
theorem nf_4 : (Jvm.Cond.isRef (Jvm.Term.static "java/lang/Throwable" "UNASSIGNED_STACK" "[Ljava/lang/StackTraceElement;")) ∈ NF := List.mem_of_getElem? (i := 4) (by decide +kernel)
theorem nf_5 : (Jvm.Cond.isRef (Jvm.Term.static "java/lang/Throwable" "SUPPRESSED_SENTINEL" "Ljava/util/List;")) ∈ NF := List.mem_of_getElem? (i := 5) (by decide +kernel)
theorem nf_6 : (Jvm.Cond.eq (Jvm.Term.static "java/lang/String" "COMPACT_STRINGS" "Z") (Jvm.Term.int (1 : Int32))) ∈ NF := List.mem_of_getElem? (i := 6) (by decide +kernel)
theorem nf_7 : (Jvm.Cond.isRef (Jvm.Term.static "jdk/internal/util/Preconditions" "SIOOBE_FORMATTER" "Ljava/util/function/BiFunction;")) ∈ NF := List.mem_of_getElem? (i := 7) (by decide +kernel)
theorem nf_20 : (Jvm.Cond.not (Jvm.Cond.castable "java/lang/IndexOutOfBoundsException" "java/lang/IllegalArgumentException")) ∈ NF := List.mem_of_getElem? (i := 20) (by decide +kernel)
theorem nf_21 : (Jvm.Cond.not (Jvm.Cond.castable "java/lang/IllegalStateException" "java/lang/IllegalArgumentException")) ∈ NF := List.mem_of_getElem? (i := 21) (by decide +kernel)
theorem nf_31 : (Jvm.Cond.not (Jvm.Cond.castable "java/lang/IllegalArgumentException" "java/lang/IndexOutOfBoundsException")) ∈ NF := List.mem_of_getElem? (i := 31) (by decide +kernel)
theorem nf_32 : (Jvm.Cond.not (Jvm.Cond.castable "java/lang/IllegalStateException" "java/lang/IndexOutOfBoundsException")) ∈ NF := List.mem_of_getElem? (i := 32) (by decide +kernel)
theorem nf_42 : (Jvm.Cond.not (Jvm.Cond.castable "java/lang/IllegalArgumentException" "java/lang/IllegalStateException")) ∈ NF := List.mem_of_getElem? (i := 42) (by decide +kernel)
theorem nf_43 : (Jvm.Cond.not (Jvm.Cond.castable "java/lang/IndexOutOfBoundsException" "java/lang/IllegalStateException")) ∈ NF := List.mem_of_getElem? (i := 43) (by decide +kernel)
theorem nf_44 : (Jvm.Cond.exactly (Jvm.Term.string "ForesightHub" (55 : Nat)) "java/lang/String") ∈ NF := List.mem_of_getElem? (i := 44) (by decide +kernel)
theorem nf_74 : (Jvm.Cond.exactly (Jvm.Term.string "ForesightHub$Reader" (81 : Nat)) "java/lang/String") ∈ NF := List.mem_of_getElem? (i := 74) (by decide +kernel)
theorem nf_75 : (Jvm.Cond.eq (Jvm.Term.field (Jvm.Term.string "ForesightHub$Reader" (81 : Nat)) "java/lang/String" "coder" "B") (Jvm.Term.int (0 : Int32))) ∈ NF := List.mem_of_getElem? (i := 75) (by decide +kernel)
theorem nf_76 : (Jvm.Cond.arrayOf (Jvm.Term.field (Jvm.Term.string "ForesightHub$Reader" (81 : Nat)) "java/lang/String" "value" "[B") Jvm.ClassFile.FieldType.byte) ∈ NF := List.mem_of_getElem? (i := 76) (by decide +kernel)
theorem nf_77 : (Jvm.Cond.eq (Jvm.Term.length (Jvm.Term.field (Jvm.Term.string "ForesightHub$Reader" (81 : Nat)) "java/lang/String" "value" "[B")) (Jvm.Term.int (3 : Int32))) ∈ NF := List.mem_of_getElem? (i := 77) (by decide +kernel)
theorem nf_78 : (Jvm.Cond.eq (Jvm.Term.elem (Jvm.Term.field (Jvm.Term.string "ForesightHub$Reader" (81 : Nat)) "java/lang/String" "value" "[B") (Jvm.Term.int (0 : Int32))) (Jvm.Term.int (104 : Int32))) ∈ NF := List.mem_of_getElem? (i := 78) (by decide +kernel)
theorem nf_79 : (Jvm.Cond.eq (Jvm.Term.elem (Jvm.Term.field (Jvm.Term.string "ForesightHub$Reader" (81 : Nat)) "java/lang/String" "value" "[B") (Jvm.Term.int (1 : Int32))) (Jvm.Term.int (117 : Int32))) ∈ NF := List.mem_of_getElem? (i := 79) (by decide +kernel)
theorem nf_80 : (Jvm.Cond.eq (Jvm.Term.elem (Jvm.Term.field (Jvm.Term.string "ForesightHub$Reader" (81 : Nat)) "java/lang/String" "value" "[B") (Jvm.Term.int (2 : Int32))) (Jvm.Term.int (98 : Int32))) ∈ NF := List.mem_of_getElem? (i := 80) (by decide +kernel)
theorem nf_81 : (Jvm.Cond.exactly (Jvm.Term.string "ForesightHub$Reader" (104 : Nat)) "java/lang/String") ∈ NF := List.mem_of_getElem? (i := 81) (by decide +kernel)
theorem nf_82 : (Jvm.Cond.eq (Jvm.Term.field (Jvm.Term.string "ForesightHub$Reader" (104 : Nat)) "java/lang/String" "coder" "B") (Jvm.Term.int (0 : Int32))) ∈ NF := List.mem_of_getElem? (i := 82) (by decide +kernel)
theorem nf_83 : (Jvm.Cond.arrayOf (Jvm.Term.field (Jvm.Term.string "ForesightHub$Reader" (104 : Nat)) "java/lang/String" "value" "[B") Jvm.ClassFile.FieldType.byte) ∈ NF := List.mem_of_getElem? (i := 83) (by decide +kernel)
theorem nf_84 : (Jvm.Cond.eq (Jvm.Term.length (Jvm.Term.field (Jvm.Term.string "ForesightHub$Reader" (104 : Nat)) "java/lang/String" "value" "[B")) (Jvm.Term.int (7 : Int32))) ∈ NF := List.mem_of_getElem? (i := 84) (by decide +kernel)
theorem nf_85 : (Jvm.Cond.eq (Jvm.Term.elem (Jvm.Term.field (Jvm.Term.string "ForesightHub$Reader" (104 : Nat)) "java/lang/String" "value" "[B") (Jvm.Term.int (0 : Int32))) (Jvm.Term.int (112 : Int32))) ∈ NF := List.mem_of_getElem? (i := 85) (by decide +kernel)
theorem nf_86 : (Jvm.Cond.eq (Jvm.Term.elem (Jvm.Term.field (Jvm.Term.string "ForesightHub$Reader" (104 : Nat)) "java/lang/String" "value" "[B") (Jvm.Term.int (1 : Int32))) (Jvm.Term.int (97 : Int32))) ∈ NF := List.mem_of_getElem? (i := 86) (by decide +kernel)
theorem nf_87 : (Jvm.Cond.eq (Jvm.Term.elem (Jvm.Term.field (Jvm.Term.string "ForesightHub$Reader" (104 : Nat)) "java/lang/String" "value" "[B") (Jvm.Term.int (2 : Int32))) (Jvm.Term.int (116 : Int32))) ∈ NF := List.mem_of_getElem? (i := 87) (by decide +kernel)
theorem nf_88 : (Jvm.Cond.eq (Jvm.Term.elem (Jvm.Term.field (Jvm.Term.string "ForesightHub$Reader" (104 : Nat)) "java/lang/String" "value" "[B") (Jvm.Term.int (3 : Int32))) (Jvm.Term.int (116 : Int32))) ∈ NF := List.mem_of_getElem? (i := 88) (by decide +kernel)
theorem nf_89 : (Jvm.Cond.eq (Jvm.Term.elem (Jvm.Term.field (Jvm.Term.string "ForesightHub$Reader" (104 : Nat)) "java/lang/String" "value" "[B") (Jvm.Term.int (4 : Int32))) (Jvm.Term.int (101 : Int32))) ∈ NF := List.mem_of_getElem? (i := 89) (by decide +kernel)
theorem nf_90 : (Jvm.Cond.eq (Jvm.Term.elem (Jvm.Term.field (Jvm.Term.string "ForesightHub$Reader" (104 : Nat)) "java/lang/String" "value" "[B") (Jvm.Term.int (5 : Int32))) (Jvm.Term.int (114 : Int32))) ∈ NF := List.mem_of_getElem? (i := 90) (by decide +kernel)
theorem nf_91 : (Jvm.Cond.eq (Jvm.Term.elem (Jvm.Term.field (Jvm.Term.string "ForesightHub$Reader" (104 : Nat)) "java/lang/String" "value" "[B") (Jvm.Term.int (6 : Int32))) (Jvm.Term.int (110 : Int32))) ∈ NF := List.mem_of_getElem? (i := 91) (by decide +kernel)
theorem nf_92 : (Jvm.Cond.exactly (Jvm.Term.string "ForesightHub$Reader" (189 : Nat)) "java/lang/String") ∈ NF := List.mem_of_getElem? (i := 92) (by decide +kernel)
theorem nf_93 : (Jvm.Cond.eq (Jvm.Term.field (Jvm.Term.string "ForesightHub$Reader" (189 : Nat)) "java/lang/String" "coder" "B") (Jvm.Term.int (0 : Int32))) ∈ NF := List.mem_of_getElem? (i := 93) (by decide +kernel)
theorem nf_94 : (Jvm.Cond.arrayOf (Jvm.Term.field (Jvm.Term.string "ForesightHub$Reader" (189 : Nat)) "java/lang/String" "value" "[B") Jvm.ClassFile.FieldType.byte) ∈ NF := List.mem_of_getElem? (i := 94) (by decide +kernel)
theorem nf_95 : (Jvm.Cond.eq (Jvm.Term.length (Jvm.Term.field (Jvm.Term.string "ForesightHub$Reader" (189 : Nat)) "java/lang/String" "value" "[B")) (Jvm.Term.int (3 : Int32))) ∈ NF := List.mem_of_getElem? (i := 95) (by decide +kernel)
theorem nf_96 : (Jvm.Cond.eq (Jvm.Term.elem (Jvm.Term.field (Jvm.Term.string "ForesightHub$Reader" (189 : Nat)) "java/lang/String" "value" "[B") (Jvm.Term.int (0 : Int32))) (Jvm.Term.int (99 : Int32))) ∈ NF := List.mem_of_getElem? (i := 96) (by decide +kernel)
theorem nf_97 : (Jvm.Cond.eq (Jvm.Term.elem (Jvm.Term.field (Jvm.Term.string "ForesightHub$Reader" (189 : Nat)) "java/lang/String" "value" "[B") (Jvm.Term.int (1 : Int32))) (Jvm.Term.int (114 : Int32))) ∈ NF := List.mem_of_getElem? (i := 97) (by decide +kernel)
theorem nf_98 : (Jvm.Cond.eq (Jvm.Term.elem (Jvm.Term.field (Jvm.Term.string "ForesightHub$Reader" (189 : Nat)) "java/lang/String" "value" "[B") (Jvm.Term.int (2 : Int32))) (Jvm.Term.int (99 : Int32))) ∈ NF := List.mem_of_getElem? (i := 98) (by decide +kernel)
theorem nf_99 : (Jvm.Cond.exactly (Jvm.Term.string "ForesightHub$Reader" (191 : Nat)) "java/lang/String") ∈ NF := List.mem_of_getElem? (i := 99) (by decide +kernel)
theorem nf_100 : (Jvm.Cond.eq (Jvm.Term.field (Jvm.Term.string "ForesightHub$Reader" (191 : Nat)) "java/lang/String" "coder" "B") (Jvm.Term.int (0 : Int32))) ∈ NF := List.mem_of_getElem? (i := 100) (by decide +kernel)
theorem nf_101 : (Jvm.Cond.arrayOf (Jvm.Term.field (Jvm.Term.string "ForesightHub$Reader" (191 : Nat)) "java/lang/String" "value" "[B") Jvm.ClassFile.FieldType.byte) ∈ NF := List.mem_of_getElem? (i := 101) (by decide +kernel)
theorem nf_102 : (Jvm.Cond.eq (Jvm.Term.length (Jvm.Term.field (Jvm.Term.string "ForesightHub$Reader" (191 : Nat)) "java/lang/String" "value" "[B")) (Jvm.Term.int (5 : Int32))) ∈ NF := List.mem_of_getElem? (i := 102) (by decide +kernel)
theorem nf_103 : (Jvm.Cond.eq (Jvm.Term.elem (Jvm.Term.field (Jvm.Term.string "ForesightHub$Reader" (191 : Nat)) "java/lang/String" "value" "[B") (Jvm.Term.int (0 : Int32))) (Jvm.Term.int (115 : Int32))) ∈ NF := List.mem_of_getElem? (i := 103) (by decide +kernel)
theorem nf_104 : (Jvm.Cond.eq (Jvm.Term.elem (Jvm.Term.field (Jvm.Term.string "ForesightHub$Reader" (191 : Nat)) "java/lang/String" "value" "[B") (Jvm.Term.int (1 : Int32))) (Jvm.Term.int (116 : Int32))) ∈ NF := List.mem_of_getElem? (i := 104) (by decide +kernel)
theorem nf_105 : (Jvm.Cond.eq (Jvm.Term.elem (Jvm.Term.field (Jvm.Term.string "ForesightHub$Reader" (191 : Nat)) "java/lang/String" "value" "[B") (Jvm.Term.int (2 : Int32))) (Jvm.Term.int (97 : Int32))) ∈ NF := List.mem_of_getElem? (i := 105) (by decide +kernel)
theorem nf_106 : (Jvm.Cond.eq (Jvm.Term.elem (Jvm.Term.field (Jvm.Term.string "ForesightHub$Reader" (191 : Nat)) "java/lang/String" "value" "[B") (Jvm.Term.int (3 : Int32))) (Jvm.Term.int (108 : Int32))) ∈ NF := List.mem_of_getElem? (i := 106) (by decide +kernel)
theorem nf_107 : (Jvm.Cond.eq (Jvm.Term.elem (Jvm.Term.field (Jvm.Term.string "ForesightHub$Reader" (191 : Nat)) "java/lang/String" "value" "[B") (Jvm.Term.int (4 : Int32))) (Jvm.Term.int (108 : Int32))) ∈ NF := List.mem_of_getElem? (i := 107) (by decide +kernel)
theorem nf_108 : (Jvm.Cond.exactly (Jvm.Term.string "ForesightHub$Reader" (193 : Nat)) "java/lang/String") ∈ NF := List.mem_of_getElem? (i := 108) (by decide +kernel)
theorem nf_109 : (Jvm.Cond.eq (Jvm.Term.field (Jvm.Term.string "ForesightHub$Reader" (193 : Nat)) "java/lang/String" "coder" "B") (Jvm.Term.int (0 : Int32))) ∈ NF := List.mem_of_getElem? (i := 109) (by decide +kernel)
theorem nf_110 : (Jvm.Cond.arrayOf (Jvm.Term.field (Jvm.Term.string "ForesightHub$Reader" (193 : Nat)) "java/lang/String" "value" "[B") Jvm.ClassFile.FieldType.byte) ∈ NF := List.mem_of_getElem? (i := 110) (by decide +kernel)
theorem nf_111 : (Jvm.Cond.eq (Jvm.Term.length (Jvm.Term.field (Jvm.Term.string "ForesightHub$Reader" (193 : Nat)) "java/lang/String" "value" "[B")) (Jvm.Term.int (6 : Int32))) ∈ NF := List.mem_of_getElem? (i := 111) (by decide +kernel)
theorem nf_112 : (Jvm.Cond.eq (Jvm.Term.elem (Jvm.Term.field (Jvm.Term.string "ForesightHub$Reader" (193 : Nat)) "java/lang/String" "value" "[B") (Jvm.Term.int (0 : Int32))) (Jvm.Term.int (106 : Int32))) ∈ NF := List.mem_of_getElem? (i := 112) (by decide +kernel)
theorem nf_113 : (Jvm.Cond.eq (Jvm.Term.elem (Jvm.Term.field (Jvm.Term.string "ForesightHub$Reader" (193 : Nat)) "java/lang/String" "value" "[B") (Jvm.Term.int (1 : Int32))) (Jvm.Term.int (105 : Int32))) ∈ NF := List.mem_of_getElem? (i := 113) (by decide +kernel)
theorem nf_114 : (Jvm.Cond.eq (Jvm.Term.elem (Jvm.Term.field (Jvm.Term.string "ForesightHub$Reader" (193 : Nat)) "java/lang/String" "value" "[B") (Jvm.Term.int (2 : Int32))) (Jvm.Term.int (116 : Int32))) ∈ NF := List.mem_of_getElem? (i := 114) (by decide +kernel)
theorem nf_115 : (Jvm.Cond.eq (Jvm.Term.elem (Jvm.Term.field (Jvm.Term.string "ForesightHub$Reader" (193 : Nat)) "java/lang/String" "value" "[B") (Jvm.Term.int (3 : Int32))) (Jvm.Term.int (116 : Int32))) ∈ NF := List.mem_of_getElem? (i := 115) (by decide +kernel)
theorem nf_116 : (Jvm.Cond.eq (Jvm.Term.elem (Jvm.Term.field (Jvm.Term.string "ForesightHub$Reader" (193 : Nat)) "java/lang/String" "value" "[B") (Jvm.Term.int (4 : Int32))) (Jvm.Term.int (101 : Int32))) ∈ NF := List.mem_of_getElem? (i := 116) (by decide +kernel)
theorem nf_117 : (Jvm.Cond.eq (Jvm.Term.elem (Jvm.Term.field (Jvm.Term.string "ForesightHub$Reader" (193 : Nat)) "java/lang/String" "value" "[B") (Jvm.Term.int (5 : Int32))) (Jvm.Term.int (114 : Int32))) ∈ NF := List.mem_of_getElem? (i := 117) (by decide +kernel)
theorem nf_118 : (Jvm.Cond.exactly (Jvm.Term.string "ForesightHub$Reader" (195 : Nat)) "java/lang/String") ∈ NF := List.mem_of_getElem? (i := 118) (by decide +kernel)
theorem nf_119 : (Jvm.Cond.eq (Jvm.Term.field (Jvm.Term.string "ForesightHub$Reader" (195 : Nat)) "java/lang/String" "coder" "B") (Jvm.Term.int (0 : Int32))) ∈ NF := List.mem_of_getElem? (i := 119) (by decide +kernel)
theorem nf_120 : (Jvm.Cond.arrayOf (Jvm.Term.field (Jvm.Term.string "ForesightHub$Reader" (195 : Nat)) "java/lang/String" "value" "[B") Jvm.ClassFile.FieldType.byte) ∈ NF := List.mem_of_getElem? (i := 120) (by decide +kernel)
theorem nf_121 : (Jvm.Cond.eq (Jvm.Term.length (Jvm.Term.field (Jvm.Term.string "ForesightHub$Reader" (195 : Nat)) "java/lang/String" "value" "[B")) (Jvm.Term.int (5 : Int32))) ∈ NF := List.mem_of_getElem? (i := 121) (by decide +kernel)
theorem nf_122 : (Jvm.Cond.eq (Jvm.Term.elem (Jvm.Term.field (Jvm.Term.string "ForesightHub$Reader" (195 : Nat)) "java/lang/String" "value" "[B") (Jvm.Term.int (0 : Int32))) (Jvm.Term.int (112 : Int32))) ∈ NF := List.mem_of_getElem? (i := 122) (by decide +kernel)
theorem nf_123 : (Jvm.Cond.eq (Jvm.Term.elem (Jvm.Term.field (Jvm.Term.string "ForesightHub$Reader" (195 : Nat)) "java/lang/String" "value" "[B") (Jvm.Term.int (1 : Int32))) (Jvm.Term.int (111 : Int32))) ∈ NF := List.mem_of_getElem? (i := 123) (by decide +kernel)
theorem nf_124 : (Jvm.Cond.eq (Jvm.Term.elem (Jvm.Term.field (Jvm.Term.string "ForesightHub$Reader" (195 : Nat)) "java/lang/String" "value" "[B") (Jvm.Term.int (2 : Int32))) (Jvm.Term.int (119 : Int32))) ∈ NF := List.mem_of_getElem? (i := 124) (by decide +kernel)
theorem nf_125 : (Jvm.Cond.eq (Jvm.Term.elem (Jvm.Term.field (Jvm.Term.string "ForesightHub$Reader" (195 : Nat)) "java/lang/String" "value" "[B") (Jvm.Term.int (3 : Int32))) (Jvm.Term.int (101 : Int32))) ∈ NF := List.mem_of_getElem? (i := 125) (by decide +kernel)
theorem nf_126 : (Jvm.Cond.eq (Jvm.Term.elem (Jvm.Term.field (Jvm.Term.string "ForesightHub$Reader" (195 : Nat)) "java/lang/String" "value" "[B") (Jvm.Term.int (4 : Int32))) (Jvm.Term.int (114 : Int32))) ∈ NF := List.mem_of_getElem? (i := 126) (by decide +kernel)
theorem nf_127 : (Jvm.Cond.exactly (Jvm.Term.string "ForesightHub$Reader" (109 : Nat)) "java/lang/String") ∈ NF := List.mem_of_getElem? (i := 127) (by decide +kernel)
theorem nf_128 : (Jvm.Cond.eq (Jvm.Term.field (Jvm.Term.string "ForesightHub$Reader" (109 : Nat)) "java/lang/String" "coder" "B") (Jvm.Term.int (0 : Int32))) ∈ NF := List.mem_of_getElem? (i := 128) (by decide +kernel)
theorem nf_129 : (Jvm.Cond.arrayOf (Jvm.Term.field (Jvm.Term.string "ForesightHub$Reader" (109 : Nat)) "java/lang/String" "value" "[B") Jvm.ClassFile.FieldType.byte) ∈ NF := List.mem_of_getElem? (i := 129) (by decide +kernel)
theorem nf_130 : (Jvm.Cond.eq (Jvm.Term.length (Jvm.Term.field (Jvm.Term.string "ForesightHub$Reader" (109 : Nat)) "java/lang/String" "value" "[B")) (Jvm.Term.int (6 : Int32))) ∈ NF := List.mem_of_getElem? (i := 130) (by decide +kernel)
theorem nf_131 : (Jvm.Cond.eq (Jvm.Term.elem (Jvm.Term.field (Jvm.Term.string "ForesightHub$Reader" (109 : Nat)) "java/lang/String" "value" "[B") (Jvm.Term.int (0 : Int32))) (Jvm.Term.int (100 : Int32))) ∈ NF := List.mem_of_getElem? (i := 131) (by decide +kernel)
theorem nf_132 : (Jvm.Cond.eq (Jvm.Term.elem (Jvm.Term.field (Jvm.Term.string "ForesightHub$Reader" (109 : Nat)) "java/lang/String" "value" "[B") (Jvm.Term.int (1 : Int32))) (Jvm.Term.int (101 : Int32))) ∈ NF := List.mem_of_getElem? (i := 132) (by decide +kernel)
theorem nf_133 : (Jvm.Cond.eq (Jvm.Term.elem (Jvm.Term.field (Jvm.Term.string "ForesightHub$Reader" (109 : Nat)) "java/lang/String" "value" "[B") (Jvm.Term.int (2 : Int32))) (Jvm.Term.int (118 : Int32))) ∈ NF := List.mem_of_getElem? (i := 133) (by decide +kernel)
theorem nf_134 : (Jvm.Cond.eq (Jvm.Term.elem (Jvm.Term.field (Jvm.Term.string "ForesightHub$Reader" (109 : Nat)) "java/lang/String" "value" "[B") (Jvm.Term.int (3 : Int32))) (Jvm.Term.int (105 : Int32))) ∈ NF := List.mem_of_getElem? (i := 134) (by decide +kernel)
theorem nf_135 : (Jvm.Cond.eq (Jvm.Term.elem (Jvm.Term.field (Jvm.Term.string "ForesightHub$Reader" (109 : Nat)) "java/lang/String" "value" "[B") (Jvm.Term.int (4 : Int32))) (Jvm.Term.int (99 : Int32))) ∈ NF := List.mem_of_getElem? (i := 135) (by decide +kernel)
theorem nf_136 : (Jvm.Cond.eq (Jvm.Term.elem (Jvm.Term.field (Jvm.Term.string "ForesightHub$Reader" (109 : Nat)) "java/lang/String" "value" "[B") (Jvm.Term.int (5 : Int32))) (Jvm.Term.int (101 : Int32))) ∈ NF := List.mem_of_getElem? (i := 136) (by decide +kernel)
theorem nf_137 : (Jvm.Cond.exactly (Jvm.Term.string "ForesightHub$Reader" (163 : Nat)) "java/lang/String") ∈ NF := List.mem_of_getElem? (i := 137) (by decide +kernel)
theorem nf_138 : (Jvm.Cond.eq (Jvm.Term.field (Jvm.Term.string "ForesightHub$Reader" (163 : Nat)) "java/lang/String" "coder" "B") (Jvm.Term.int (0 : Int32))) ∈ NF := List.mem_of_getElem? (i := 138) (by decide +kernel)
theorem nf_139 : (Jvm.Cond.arrayOf (Jvm.Term.field (Jvm.Term.string "ForesightHub$Reader" (163 : Nat)) "java/lang/String" "value" "[B") Jvm.ClassFile.FieldType.byte) ∈ NF := List.mem_of_getElem? (i := 139) (by decide +kernel)
theorem nf_140 : (Jvm.Cond.eq (Jvm.Term.length (Jvm.Term.field (Jvm.Term.string "ForesightHub$Reader" (163 : Nat)) "java/lang/String" "value" "[B")) (Jvm.Term.int (4 : Int32))) ∈ NF := List.mem_of_getElem? (i := 140) (by decide +kernel)
theorem nf_141 : (Jvm.Cond.eq (Jvm.Term.elem (Jvm.Term.field (Jvm.Term.string "ForesightHub$Reader" (163 : Nat)) "java/lang/String" "value" "[B") (Jvm.Term.int (0 : Int32))) (Jvm.Term.int (104 : Int32))) ∈ NF := List.mem_of_getElem? (i := 141) (by decide +kernel)
theorem nf_142 : (Jvm.Cond.eq (Jvm.Term.elem (Jvm.Term.field (Jvm.Term.string "ForesightHub$Reader" (163 : Nat)) "java/lang/String" "value" "[B") (Jvm.Term.int (1 : Int32))) (Jvm.Term.int (101 : Int32))) ∈ NF := List.mem_of_getElem? (i := 142) (by decide +kernel)
theorem nf_143 : (Jvm.Cond.eq (Jvm.Term.elem (Jvm.Term.field (Jvm.Term.string "ForesightHub$Reader" (163 : Nat)) "java/lang/String" "value" "[B") (Jvm.Term.int (2 : Int32))) (Jvm.Term.int (105 : Int32))) ∈ NF := List.mem_of_getElem? (i := 143) (by decide +kernel)
theorem nf_144 : (Jvm.Cond.eq (Jvm.Term.elem (Jvm.Term.field (Jvm.Term.string "ForesightHub$Reader" (163 : Nat)) "java/lang/String" "value" "[B") (Jvm.Term.int (3 : Int32))) (Jvm.Term.int (114 : Int32))) ∈ NF := List.mem_of_getElem? (i := 144) (by decide +kernel)
theorem nf_145 : (Jvm.Cond.exactly (Jvm.Term.string "ForesightHub$Reader" (114 : Nat)) "java/lang/String") ∈ NF := List.mem_of_getElem? (i := 145) (by decide +kernel)
theorem nf_146 : (Jvm.Cond.eq (Jvm.Term.field (Jvm.Term.string "ForesightHub$Reader" (114 : Nat)) "java/lang/String" "coder" "B") (Jvm.Term.int (0 : Int32))) ∈ NF := List.mem_of_getElem? (i := 146) (by decide +kernel)
theorem nf_147 : (Jvm.Cond.arrayOf (Jvm.Term.field (Jvm.Term.string "ForesightHub$Reader" (114 : Nat)) "java/lang/String" "value" "[B") Jvm.ClassFile.FieldType.byte) ∈ NF := List.mem_of_getElem? (i := 147) (by decide +kernel)
theorem nf_148 : (Jvm.Cond.eq (Jvm.Term.length (Jvm.Term.field (Jvm.Term.string "ForesightHub$Reader" (114 : Nat)) "java/lang/String" "value" "[B")) (Jvm.Term.int (6 : Int32))) ∈ NF := List.mem_of_getElem? (i := 148) (by decide +kernel)
theorem nf_149 : (Jvm.Cond.eq (Jvm.Term.elem (Jvm.Term.field (Jvm.Term.string "ForesightHub$Reader" (114 : Nat)) "java/lang/String" "value" "[B") (Jvm.Term.int (0 : Int32))) (Jvm.Term.int (115 : Int32))) ∈ NF := List.mem_of_getElem? (i := 149) (by decide +kernel)
theorem nf_150 : (Jvm.Cond.eq (Jvm.Term.elem (Jvm.Term.field (Jvm.Term.string "ForesightHub$Reader" (114 : Nat)) "java/lang/String" "value" "[B") (Jvm.Term.int (1 : Int32))) (Jvm.Term.int (116 : Int32))) ∈ NF := List.mem_of_getElem? (i := 150) (by decide +kernel)
theorem nf_151 : (Jvm.Cond.eq (Jvm.Term.elem (Jvm.Term.field (Jvm.Term.string "ForesightHub$Reader" (114 : Nat)) "java/lang/String" "value" "[B") (Jvm.Term.int (2 : Int32))) (Jvm.Term.int (114 : Int32))) ∈ NF := List.mem_of_getElem? (i := 151) (by decide +kernel)
theorem nf_152 : (Jvm.Cond.eq (Jvm.Term.elem (Jvm.Term.field (Jvm.Term.string "ForesightHub$Reader" (114 : Nat)) "java/lang/String" "value" "[B") (Jvm.Term.int (3 : Int32))) (Jvm.Term.int (101 : Int32))) ∈ NF := List.mem_of_getElem? (i := 152) (by decide +kernel)
theorem nf_153 : (Jvm.Cond.eq (Jvm.Term.elem (Jvm.Term.field (Jvm.Term.string "ForesightHub$Reader" (114 : Nat)) "java/lang/String" "value" "[B") (Jvm.Term.int (4 : Int32))) (Jvm.Term.int (97 : Int32))) ∈ NF := List.mem_of_getElem? (i := 153) (by decide +kernel)
theorem nf_154 : (Jvm.Cond.eq (Jvm.Term.elem (Jvm.Term.field (Jvm.Term.string "ForesightHub$Reader" (114 : Nat)) "java/lang/String" "value" "[B") (Jvm.Term.int (5 : Int32))) (Jvm.Term.int (109 : Int32))) ∈ NF := List.mem_of_getElem? (i := 154) (by decide +kernel)
theorem nf_155 : (Jvm.Cond.exactly (Jvm.Term.string "ForesightHub$Reader" (119 : Nat)) "java/lang/String") ∈ NF := List.mem_of_getElem? (i := 155) (by decide +kernel)
theorem nf_156 : (Jvm.Cond.eq (Jvm.Term.field (Jvm.Term.string "ForesightHub$Reader" (119 : Nat)) "java/lang/String" "coder" "B") (Jvm.Term.int (0 : Int32))) ∈ NF := List.mem_of_getElem? (i := 156) (by decide +kernel)
theorem nf_157 : (Jvm.Cond.arrayOf (Jvm.Term.field (Jvm.Term.string "ForesightHub$Reader" (119 : Nat)) "java/lang/String" "value" "[B") Jvm.ClassFile.FieldType.byte) ∈ NF := List.mem_of_getElem? (i := 157) (by decide +kernel)
theorem nf_158 : (Jvm.Cond.eq (Jvm.Term.length (Jvm.Term.field (Jvm.Term.string "ForesightHub$Reader" (119 : Nat)) "java/lang/String" "value" "[B")) (Jvm.Term.int (5 : Int32))) ∈ NF := List.mem_of_getElem? (i := 158) (by decide +kernel)
theorem nf_159 : (Jvm.Cond.eq (Jvm.Term.elem (Jvm.Term.field (Jvm.Term.string "ForesightHub$Reader" (119 : Nat)) "java/lang/String" "value" "[B") (Jvm.Term.int (0 : Int32))) (Jvm.Term.int (97 : Int32))) ∈ NF := List.mem_of_getElem? (i := 159) (by decide +kernel)
theorem nf_160 : (Jvm.Cond.eq (Jvm.Term.elem (Jvm.Term.field (Jvm.Term.string "ForesightHub$Reader" (119 : Nat)) "java/lang/String" "value" "[B") (Jvm.Term.int (1 : Int32))) (Jvm.Term.int (108 : Int32))) ∈ NF := List.mem_of_getElem? (i := 160) (by decide +kernel)
theorem nf_161 : (Jvm.Cond.eq (Jvm.Term.elem (Jvm.Term.field (Jvm.Term.string "ForesightHub$Reader" (119 : Nat)) "java/lang/String" "value" "[B") (Jvm.Term.int (2 : Int32))) (Jvm.Term.int (97 : Int32))) ∈ NF := List.mem_of_getElem? (i := 161) (by decide +kernel)
theorem nf_162 : (Jvm.Cond.eq (Jvm.Term.elem (Jvm.Term.field (Jvm.Term.string "ForesightHub$Reader" (119 : Nat)) "java/lang/String" "value" "[B") (Jvm.Term.int (3 : Int32))) (Jvm.Term.int (114 : Int32))) ∈ NF := List.mem_of_getElem? (i := 162) (by decide +kernel)
theorem nf_163 : (Jvm.Cond.eq (Jvm.Term.elem (Jvm.Term.field (Jvm.Term.string "ForesightHub$Reader" (119 : Nat)) "java/lang/String" "value" "[B") (Jvm.Term.int (4 : Int32))) (Jvm.Term.int (109 : Int32))) ∈ NF := List.mem_of_getElem? (i := 163) (by decide +kernel)
theorem nf_164 : (Jvm.Cond.exactly (Jvm.Term.string "ForesightHub" (118 : Nat)) "java/lang/String") ∈ NF := List.mem_of_getElem? (i := 164) (by decide +kernel)
theorem nf_182 : (Jvm.Cond.exactly (Jvm.Term.string "ForesightHub" (309 : Nat)) "java/lang/String") ∈ NF := List.mem_of_getElem? (i := 182) (by decide +kernel)
theorem nf_198 : (Jvm.Cond.exactly (Jvm.Term.string "ForesightHub" (304 : Nat)) "java/lang/String") ∈ NF := List.mem_of_getElem? (i := 198) (by decide +kernel)
theorem nf_216 : (Jvm.Cond.exactly (Jvm.Term.string "ForesightHub" (161 : Nat)) "java/lang/String") ∈ NF := List.mem_of_getElem? (i := 216) (by decide +kernel)
theorem nf_248 : (Jvm.Cond.exactly (Jvm.Term.string "ForesightHub" (307 : Nat)) "java/lang/String") ∈ NF := List.mem_of_getElem? (i := 248) (by decide +kernel)
theorem nf_266 : (Jvm.Cond.exactly (Jvm.Term.string "ForesightHub" (187 : Nat)) "java/lang/String") ∈ NF := List.mem_of_getElem? (i := 266) (by decide +kernel)
theorem nf_298 : (Jvm.Cond.exactly (Jvm.Term.string "ForesightHub" (193 : Nat)) "java/lang/String") ∈ NF := List.mem_of_getElem? (i := 298) (by decide +kernel)
theorem nf_326 : (Jvm.Cond.exactly (Jvm.Term.string "ForesightHub" (201 : Nat)) "java/lang/String") ∈ NF := List.mem_of_getElem? (i := 326) (by decide +kernel)
theorem nf_353 : (Jvm.Cond.exactly (Jvm.Term.string "ForesightHub" (311 : Nat)) "java/lang/String") ∈ NF := List.mem_of_getElem? (i := 353) (by decide +kernel)
theorem nf_378 : (Jvm.Cond.exactly (Jvm.Term.string "ForesightHub" (227 : Nat)) "java/lang/String") ∈ NF := List.mem_of_getElem? (i := 378) (by decide +kernel)
theorem nf_406 : (Jvm.Cond.exactly (Jvm.Term.string "ForesightHub" (238 : Nat)) "java/lang/String") ∈ NF := List.mem_of_getElem? (i := 406) (by decide +kernel)
theorem nf_425 : (Jvm.Cond.exactly (Jvm.Term.string "ForesightHub" (243 : Nat)) "java/lang/String") ∈ NF := List.mem_of_getElem? (i := 425) (by decide +kernel)
theorem nf_453 : (Jvm.Cond.exactly (Jvm.Term.string "ForesightHub" (313 : Nat)) "java/lang/String") ∈ NF := List.mem_of_getElem? (i := 453) (by decide +kernel)
theorem nf_485 : (Jvm.Cond.exactly (Jvm.Term.string "ForesightHub" (261 : Nat)) "java/lang/String") ∈ NF := List.mem_of_getElem? (i := 485) (by decide +kernel)
theorem nf_519 : (Jvm.Cond.exactly (Jvm.Term.string "ForesightHub" (270 : Nat)) "java/lang/String") ∈ NF := List.mem_of_getElem? (i := 519) (by decide +kernel)
theorem nf_549 : (Jvm.Cond.exactly (Jvm.Term.string "ForesightHub" (283 : Nat)) "java/lang/String") ∈ NF := List.mem_of_getElem? (i := 549) (by decide +kernel)
theorem nf_585 : (Jvm.Cond.exactly (Jvm.Term.string "ForesightHub" (285 : Nat)) "java/lang/String") ∈ NF := List.mem_of_getElem? (i := 585) (by decide +kernel)
theorem nf_618 : (Jvm.Cond.exactly (Jvm.Term.string "ForesightHub" (290 : Nat)) "java/lang/String") ∈ NF := List.mem_of_getElem? (i := 618) (by decide +kernel)
theorem nf_635 : (Jvm.Cond.exactly (Jvm.Term.string "ForesightHubModel" (179 : Nat)) "java/lang/String") ∈ NF := List.mem_of_getElem? (i := 635) (by decide +kernel)
theorem nf_642 : (Jvm.Cond.eq (Jvm.Term.string "ForesightHub$Reader" (81 : Nat)) (Jvm.Term.string "ForesightHubModel" (179 : Nat))) ∈ NF := List.mem_of_getElem? (i := 642) (by decide +kernel)
theorem nf_643 : (Jvm.Cond.exactly (Jvm.Term.string "ForesightHubModel" (156 : Nat)) "java/lang/String") ∈ NF := List.mem_of_getElem? (i := 643) (by decide +kernel)
theorem nf_654 : (Jvm.Cond.eq (Jvm.Term.string "ForesightHub$Reader" (104 : Nat)) (Jvm.Term.string "ForesightHubModel" (156 : Nat))) ∈ NF := List.mem_of_getElem? (i := 654) (by decide +kernel)
theorem nf_655 : (Jvm.Cond.exactly (Jvm.Term.string "ForesightHubModel" (125 : Nat)) "java/lang/String") ∈ NF := List.mem_of_getElem? (i := 655) (by decide +kernel)
theorem nf_662 : (Jvm.Cond.eq (Jvm.Term.string "ForesightHub$Reader" (189 : Nat)) (Jvm.Term.string "ForesightHubModel" (125 : Nat))) ∈ NF := List.mem_of_getElem? (i := 662) (by decide +kernel)
theorem nf_663 : (Jvm.Cond.exactly (Jvm.Term.string "ForesightHubModel" (131 : Nat)) "java/lang/String") ∈ NF := List.mem_of_getElem? (i := 663) (by decide +kernel)
theorem nf_672 : (Jvm.Cond.eq (Jvm.Term.string "ForesightHub$Reader" (191 : Nat)) (Jvm.Term.string "ForesightHubModel" (131 : Nat))) ∈ NF := List.mem_of_getElem? (i := 672) (by decide +kernel)
theorem nf_673 : (Jvm.Cond.exactly (Jvm.Term.string "ForesightHubModel" (133 : Nat)) "java/lang/String") ∈ NF := List.mem_of_getElem? (i := 673) (by decide +kernel)
theorem nf_683 : (Jvm.Cond.eq (Jvm.Term.string "ForesightHub$Reader" (193 : Nat)) (Jvm.Term.string "ForesightHubModel" (133 : Nat))) ∈ NF := List.mem_of_getElem? (i := 683) (by decide +kernel)
theorem nf_684 : (Jvm.Cond.exactly (Jvm.Term.string "ForesightHubModel" (135 : Nat)) "java/lang/String") ∈ NF := List.mem_of_getElem? (i := 684) (by decide +kernel)
theorem nf_693 : (Jvm.Cond.eq (Jvm.Term.string "ForesightHub$Reader" (195 : Nat)) (Jvm.Term.string "ForesightHubModel" (135 : Nat))) ∈ NF := List.mem_of_getElem? (i := 693) (by decide +kernel)
theorem nf_694 : (Jvm.Cond.exactly (Jvm.Term.string "ForesightHubModel" (161 : Nat)) "java/lang/String") ∈ NF := List.mem_of_getElem? (i := 694) (by decide +kernel)
theorem nf_704 : (Jvm.Cond.eq (Jvm.Term.string "ForesightHub$Reader" (109 : Nat)) (Jvm.Term.string "ForesightHubModel" (161 : Nat))) ∈ NF := List.mem_of_getElem? (i := 704) (by decide +kernel)
theorem nf_705 : (Jvm.Cond.exactly (Jvm.Term.string "ForesightHubModel" (151 : Nat)) "java/lang/String") ∈ NF := List.mem_of_getElem? (i := 705) (by decide +kernel)
theorem nf_713 : (Jvm.Cond.eq (Jvm.Term.string "ForesightHub$Reader" (163 : Nat)) (Jvm.Term.string "ForesightHubModel" (151 : Nat))) ∈ NF := List.mem_of_getElem? (i := 713) (by decide +kernel)
theorem nf_714 : (Jvm.Cond.exactly (Jvm.Term.string "ForesightHubModel" (166 : Nat)) "java/lang/String") ∈ NF := List.mem_of_getElem? (i := 714) (by decide +kernel)
theorem nf_724 : (Jvm.Cond.eq (Jvm.Term.string "ForesightHub$Reader" (114 : Nat)) (Jvm.Term.string "ForesightHubModel" (166 : Nat))) ∈ NF := List.mem_of_getElem? (i := 724) (by decide +kernel)
theorem nf_725 : (Jvm.Cond.exactly (Jvm.Term.string "ForesightHubModel" (171 : Nat)) "java/lang/String") ∈ NF := List.mem_of_getElem? (i := 725) (by decide +kernel)
theorem nf_734 : (Jvm.Cond.eq (Jvm.Term.string "ForesightHub$Reader" (119 : Nat)) (Jvm.Term.string "ForesightHubModel" (171 : Nat))) ∈ NF := List.mem_of_getElem? (i := 734) (by decide +kernel)
theorem TS_1 {w : Cond} (i : Nat) (h : tables_1_1[i]? = some w) : w ∈ lw_tbl := List.mem_append_right _ (List.mem_append_left _ (List.mem_of_getElem? h))
theorem TS_2 {w : Cond} (i : Nat) (h : tables_1_2[i]? = some w) : w ∈ lw_tbl := List.mem_append_right _ (List.mem_append_right _ (List.mem_append_left _ (List.mem_of_getElem? h)))
theorem TS_3 {w : Cond} (i : Nat) (h : tables_1_3[i]? = some w) : w ∈ lw_tbl := List.mem_append_right _ (List.mem_append_right _ (List.mem_append_right _ (List.mem_append_left _ (List.mem_of_getElem? h))))
theorem TS_4 {w : Cond} (i : Nat) (h : tables_1_4[i]? = some w) : w ∈ lw_tbl := List.mem_append_right _ (List.mem_append_right _ (List.mem_append_right _ (List.mem_append_right _ (List.mem_append_left _ (List.mem_of_getElem? h)))))
theorem TS_5 {w : Cond} (i : Nat) (h : tables_1_5[i]? = some w) : w ∈ lw_tbl := List.mem_append_right _ (List.mem_append_right _ (List.mem_append_right _ (List.mem_append_right _ (List.mem_append_right _ (List.mem_append_left _ (List.mem_of_getElem? h))))))
theorem TS_6 {w : Cond} (i : Nat) (h : tables_1_6[i]? = some w) : w ∈ lw_tbl := List.mem_append_right _ (List.mem_append_right _ (List.mem_append_right _ (List.mem_append_right _ (List.mem_append_right _ (List.mem_append_right _ (List.mem_append_left _ (List.mem_of_getElem? h)))))))
theorem TS_7 {w : Cond} (i : Nat) (h : tables_1_7[i]? = some w) : w ∈ lw_tbl := List.mem_append_right _ (List.mem_append_right _ (List.mem_append_right _ (List.mem_append_right _ (List.mem_append_right _ (List.mem_append_right _ (List.mem_append_right _ (List.mem_of_getElem? h)))))))
theorem st_10 : (Jvm.Cond.initialized "java/lang/Throwable") ∈ lw_tbl := TS_1 10 rfl
theorem st_15 : (Jvm.Cond.initialized "java/lang/String") ∈ lw_tbl := TS_1 15 rfl
theorem st_17 : (Jvm.Cond.initialized "jdk/internal/util/Preconditions") ∈ lw_tbl := TS_1 17 rfl
theorem st_24 : (Jvm.Cond.instantiable "ForesightHub" (5 : Nat)) ∈ lw_tbl := TS_1 24 rfl
theorem st_32 : (Jvm.Cond.instantiable "ForesightHub$Reader" (14 : Nat)) ∈ lw_tbl := TS_1 32 rfl
theorem st_33 : (Jvm.Cond.methodLinkNest "ForesightHub" (9 : Nat) ({ cls := "ForesightHub$Reader", name := "<init>", desc := "()V" } : Jvm.MethodName) "ForesightHub") ∈ lw_tbl := TS_1 33 rfl
theorem st_38 : (Jvm.Cond.instantiable "ForesightHub$Plan" (16 : Nat)) ∈ lw_tbl := TS_1 38 rfl
theorem st_139 : (Jvm.Cond.arrayClass Jvm.ClassFile.FieldType.byte) ∈ lw_tbl := TS_1 139 rfl
theorem st_140 : (Jvm.Cond.arrayClass Jvm.ClassFile.FieldType.int) ∈ lw_tbl := TS_1 140 rfl
theorem st_185 : (Jvm.Cond.arrayClass Jvm.ClassFile.FieldType.long) ∈ lw_tbl := TS_1 185 rfl
theorem st_187 : (Jvm.Cond.instantiable "ForesightHub$Hub" (2 : Nat)) ∈ lw_tbl := TS_1 187 rfl
theorem st_195 : (Jvm.Cond.instantiable "ForesightHub$State" (10 : Nat)) ∈ lw_tbl := TS_1 195 rfl
theorem st_196 : (Jvm.Cond.methodLinkNest "ForesightHub$Hub" (20 : Nat) ({ cls := "ForesightHub$State", name := "<init>", desc := "()V" } : Jvm.MethodName) "ForesightHub") ∈ lw_tbl := TS_1 196 rfl
theorem st_201 : (Jvm.Cond.instantiable "ForesightHub$ErrorBook" (6 : Nat)) ∈ lw_tbl := TS_1 201 rfl
theorem st_202 : (Jvm.Cond.methodLinkNest "ForesightHub$State" (33 : Nat) ({ cls := "ForesightHub$ErrorBook", name := "<init>", desc := "()V" } : Jvm.MethodName) "ForesightHub") ∈ lw_tbl := TS_1 202 rfl
theorem st_228 : (Jvm.Cond.instantiable "ForesightHub$Log" (6 : Nat)) ∈ lw_tbl := TS_1 228 rfl
theorem st_229 : (Jvm.Cond.methodLinkNest "ForesightHub$State" (40 : Nat) ({ cls := "ForesightHub$Log", name := "<init>", desc := "()V" } : Jvm.MethodName) "ForesightHub") ∈ lw_tbl := TS_1 229 rfl
theorem st_314 : (Jvm.Cond.instantiable "ForesightHub$History" (3 : Nat)) ∈ lw_tbl := TS_2 74 rfl
theorem st_320 : (Jvm.Cond.arrayOver (Jvm.ClassFile.FieldType.object "ForesightHub$State")) ∈ lw_tbl := TS_2 80 rfl
theorem st_321 : (Jvm.Cond.methodLinkNest "ForesightHub$History" (15 : Nat) ({ cls := "ForesightHub$State", name := "<init>", desc := "()V" } : Jvm.MethodName) "ForesightHub") ∈ lw_tbl := TS_2 81 rfl
theorem st_334 : (Jvm.Cond.methodLinkNest "ForesightHub" (40 : Nat) ({ cls := "ForesightHub$State", name := "<init>", desc := "()V" } : Jvm.MethodName) "ForesightHub") ∈ lw_tbl := TS_2 94 rfl
theorem st_351 : (Jvm.Cond.arrayClass Jvm.ClassFile.FieldType.boolean) ∈ lw_tbl := TS_2 111 rfl
theorem st_470 : (Jvm.Cond.castable "java/lang/IllegalArgumentException" "java/lang/IllegalArgumentException") ∈ lw_tbl := TS_2 230 rfl
theorem st_471 : (Jvm.Cond.declares ({ cls := "java/lang/RuntimeException", name := "<init>", desc := "()V" } : Jvm.MethodName)) ∈ lw_tbl := TS_2 231 rfl
theorem st_472 : (Jvm.Cond.declares ({ cls := "java/lang/RuntimeException", name := "<init>", desc := "(Ljava/lang/String;)V" } : Jvm.MethodName)) ∈ lw_tbl := TS_2 232 rfl
theorem st_473 : (Jvm.Cond.declares ({ cls := "java/lang/Exception", name := "<init>", desc := "()V" } : Jvm.MethodName)) ∈ lw_tbl := TS_2 233 rfl
theorem st_474 : (Jvm.Cond.declares ({ cls := "java/lang/Exception", name := "<init>", desc := "(Ljava/lang/String;)V" } : Jvm.MethodName)) ∈ lw_tbl := TS_2 234 rfl
theorem st_475 : (Jvm.Cond.declares ({ cls := "java/lang/Throwable", name := "<init>", desc := "()V" } : Jvm.MethodName)) ∈ lw_tbl := TS_2 235 rfl
theorem st_476 : (Jvm.Cond.declares ({ cls := "java/lang/Throwable", name := "<init>", desc := "(Ljava/lang/String;)V" } : Jvm.MethodName)) ∈ lw_tbl := TS_2 236 rfl
theorem st_495 : (Jvm.Cond.laysStatic "java/lang/Throwable" "UNASSIGNED_STACK" "[Ljava/lang/StackTraceElement;") ∈ lw_tbl := TS_3 15 rfl
theorem st_497 : (Jvm.Cond.laysStatic "java/lang/Throwable" "SUPPRESSED_SENTINEL" "Ljava/util/List;") ∈ lw_tbl := TS_3 17 rfl
theorem st_509 : (Jvm.Cond.stringRef "ForesightHub" (55 : Nat) "no such length of the text") ∈ lw_tbl := TS_3 29 rfl
theorem st_555 : (Jvm.Cond.stringRef "ForesightHub$Reader" (81 : Nat) "hub") ∈ lw_tbl := TS_3 75 rfl
theorem st_569 : (Jvm.Cond.laysStatic "java/lang/String" "COMPACT_STRINGS" "Z") ∈ lw_tbl := TS_3 89 rfl
theorem st_585 : (Jvm.Cond.laysStatic "jdk/internal/util/Preconditions" "SIOOBE_FORMATTER" "Ljava/util/function/BiFunction;") ∈ lw_tbl := TS_3 105 rfl
theorem st_624 : (Jvm.Cond.stringRef "ForesightHub$Reader" (104 : Nat) "pattern") ∈ lw_tbl := TS_3 144 rfl
theorem st_645 : (Jvm.Cond.stringRef "ForesightHub$Reader" (189 : Nat) "crc") ∈ lw_tbl := TS_3 165 rfl
theorem st_646 : (Jvm.Cond.stringRef "ForesightHub$Reader" (191 : Nat) "stall") ∈ lw_tbl := TS_3 166 rfl
theorem st_647 : (Jvm.Cond.stringRef "ForesightHub$Reader" (193 : Nat) "jitter") ∈ lw_tbl := TS_3 167 rfl
theorem st_648 : (Jvm.Cond.stringRef "ForesightHub$Reader" (195 : Nat) "power") ∈ lw_tbl := TS_3 168 rfl
theorem st_649 : (Jvm.Cond.stringRef "ForesightHub$Reader" (109 : Nat) "device") ∈ lw_tbl := TS_3 169 rfl
theorem st_658 : (Jvm.Cond.stringRef "ForesightHub$Reader" (163 : Nat) "heir") ∈ lw_tbl := TS_3 178 rfl
theorem st_663 : (Jvm.Cond.stringRef "ForesightHub$Reader" (114 : Nat) "stream") ∈ lw_tbl := TS_3 183 rfl
theorem st_668 : (Jvm.Cond.stringRef "ForesightHub$Reader" (119 : Nat) "alarm") ∈ lw_tbl := TS_3 188 rfl
theorem st_734 : (Jvm.Cond.stringRef "ForesightHub" (118 : Nat) "no such number") ∈ lw_tbl := TS_4 14 rfl
theorem st_749 : (Jvm.Cond.castable "java/lang/IndexOutOfBoundsException" "java/lang/IndexOutOfBoundsException") ∈ lw_tbl := TS_4 29 rfl
theorem st_756 : (Jvm.Cond.stringRef "ForesightHub" (309 : Nat) "no such port") ∈ lw_tbl := TS_4 36 rfl
theorem st_779 : (Jvm.Cond.stringRef "ForesightHub" (304 : Nat) "no such device") ∈ lw_tbl := TS_4 59 rfl
theorem st_794 : (Jvm.Cond.stringRef "ForesightHub" (161 : Nat) "no such property of a device") ∈ lw_tbl := TS_4 74 rfl
theorem st_806 : (Jvm.Cond.stringRef "ForesightHub" (307 : Nat) "no such stream") ∈ lw_tbl := TS_4 86 rfl
theorem st_808 : (Jvm.Cond.stringRef "ForesightHub" (187 : Nat) "no such property of a stream") ∈ lw_tbl := TS_4 88 rfl
theorem st_823 : (Jvm.Cond.stringRef "ForesightHub" (193 : Nat) "no such part of an error") ∈ lw_tbl := TS_4 103 rfl
theorem st_833 : (Jvm.Cond.stringRef "ForesightHub" (201 : Nat) "no such part of a cause") ∈ lw_tbl := TS_4 113 rfl
theorem st_849 : (Jvm.Cond.stringRef "ForesightHub" (311 : Nat) "no such kind of error") ∈ lw_tbl := TS_4 129 rfl
theorem st_907 : (Jvm.Cond.stringRef "ForesightHub" (227 : Nat) "no such part of an event") ∈ lw_tbl := TS_4 187 rfl
theorem st_920 : (Jvm.Cond.stringRef "ForesightHub" (238 : Nat) "no such account") ∈ lw_tbl := TS_4 200 rfl
theorem st_928 : (Jvm.Cond.stringRef "ForesightHub" (243 : Nat) "no such number of frames") ∈ lw_tbl := TS_4 208 rfl
theorem st_973 : (Jvm.Cond.castable "java/lang/IllegalStateException" "java/lang/IllegalStateException") ∈ lw_tbl := TS_5 13 rfl
theorem st_980 : (Jvm.Cond.stringRef "ForesightHub" (313 : Nat) "the device is not plugged in") ∈ lw_tbl := TS_5 20 rfl
theorem st_1014 : (Jvm.Cond.stringRef "ForesightHub" (261 : Nat) "the device is in alarm already") ∈ lw_tbl := TS_5 54 rfl
theorem st_1024 : (Jvm.Cond.stringRef "ForesightHub" (270 : Nat) "the device is not in alarm") ∈ lw_tbl := TS_5 64 rfl
theorem st_1054 : (Jvm.Cond.stringRef "ForesightHub" (283 : Nat) "the device is plugged in already") ∈ lw_tbl := TS_5 94 rfl
theorem st_1055 : (Jvm.Cond.stringRef "ForesightHub" (285 : Nat) "another device is at the port") ∈ lw_tbl := TS_5 95 rfl
theorem st_1067 : (Jvm.Cond.stringRef "ForesightHub" (290 : Nat) "no such score") ∈ lw_tbl := TS_5 107 rfl
theorem st_1069 : (Jvm.Cond.instantiable "ForesightHubModel" (23 : Nat)) ∈ lw_tbl := TS_5 109 rfl
theorem st_1241 : (Jvm.Cond.stringRef "ForesightHubModel" (179 : Nat) "hub") ∈ lw_tbl := TS_6 41 rfl
theorem st_1264 : (Jvm.Cond.stringRef "ForesightHubModel" (156 : Nat) "pattern") ∈ lw_tbl := TS_6 64 rfl
theorem st_1284 : (Jvm.Cond.stringRef "ForesightHubModel" (125 : Nat) "crc") ∈ lw_tbl := TS_6 84 rfl
theorem st_1285 : (Jvm.Cond.stringRef "ForesightHubModel" (131 : Nat) "stall") ∈ lw_tbl := TS_6 85 rfl
theorem st_1286 : (Jvm.Cond.stringRef "ForesightHubModel" (133 : Nat) "jitter") ∈ lw_tbl := TS_6 86 rfl
theorem st_1287 : (Jvm.Cond.stringRef "ForesightHubModel" (135 : Nat) "power") ∈ lw_tbl := TS_6 87 rfl
theorem st_1288 : (Jvm.Cond.stringRef "ForesightHubModel" (161 : Nat) "device") ∈ lw_tbl := TS_6 88 rfl
theorem st_1297 : (Jvm.Cond.stringRef "ForesightHubModel" (151 : Nat) "heir") ∈ lw_tbl := TS_6 97 rfl
theorem st_1302 : (Jvm.Cond.stringRef "ForesightHubModel" (166 : Nat) "stream") ∈ lw_tbl := TS_6 102 rfl
theorem st_1307 : (Jvm.Cond.stringRef "ForesightHubModel" (171 : Nat) "alarm") ∈ lw_tbl := TS_6 107 rfl
theorem hexS {s : State} {b : Nat} (hs : ∀ w ∈ NF, w.before #[Value.ref b] s = true) : ∀ i : Nat, i < nS → (Cond.exactly (tmS i) "java/lang/String").before #[Value.ref b] s = true := fun i hi => match i, hi with
    | 0, _ => hs _ nf_74
    | 1, _ => hs _ nf_81
    | 2, _ => hs _ nf_127
    | 3, _ => hs _ nf_145
    | 4, _ => hs _ nf_155
    | 5, _ => hs _ nf_137
    | 6, _ => hs _ nf_92
    | 7, _ => hs _ nf_99
    | 8, _ => hs _ nf_108
    | 9, _ => hs _ nf_118
    | q9 + 10, h => absurd (show q9 + 10 < 10 from h) (by omega)
theorem hcoS {s : State} {b : Nat} (hs : ∀ w ∈ NF, w.before #[Value.ref b] s = true) : ∀ i : Nat, i < nS → (Cond.eq (.field (tmS i) "java/lang/String" "coder" "B") (.int 0)).before #[Value.ref b] s = true := fun i hi => match i, hi with
    | 0, _ => hs _ nf_75
    | 1, _ => hs _ nf_82
    | 2, _ => hs _ nf_128
    | 3, _ => hs _ nf_146
    | 4, _ => hs _ nf_156
    | 5, _ => hs _ nf_138
    | 6, _ => hs _ nf_93
    | 7, _ => hs _ nf_100
    | 8, _ => hs _ nf_109
    | 9, _ => hs _ nf_119
    | q9 + 10, h => absurd (show q9 + 10 < 10 from h) (by omega)
theorem harS {s : State} {b : Nat} (hs : ∀ w ∈ NF, w.before #[Value.ref b] s = true) : ∀ i : Nat, i < nS → (Cond.arrayOf (.field (tmS i) "java/lang/String" "value" "[B") .byte).before #[Value.ref b] s = true := fun i hi => match i, hi with
    | 0, _ => hs _ nf_76
    | 1, _ => hs _ nf_83
    | 2, _ => hs _ nf_129
    | 3, _ => hs _ nf_147
    | 4, _ => hs _ nf_157
    | 5, _ => hs _ nf_139
    | 6, _ => hs _ nf_94
    | 7, _ => hs _ nf_101
    | 8, _ => hs _ nf_110
    | 9, _ => hs _ nf_120
    | q9 + 10, h => absurd (show q9 + 10 < 10 from h) (by omega)
theorem hleS {s : State} {b : Nat} (hs : ∀ w ∈ NF, w.before #[Value.ref b] s = true) : ∀ i : Nat, i < nS → (Cond.eq (.length (.field (tmS i) "java/lang/String" "value" "[B")) (.int (Int32.ofNat (lenS.getD i 0)))).before #[Value.ref b] s = true := fun i hi => match i, hi with
    | 0, _ => hs _ nf_77
    | 1, _ => hs _ nf_84
    | 2, _ => hs _ nf_130
    | 3, _ => hs _ nf_148
    | 4, _ => hs _ nf_158
    | 5, _ => hs _ nf_140
    | 6, _ => hs _ nf_95
    | 7, _ => hs _ nf_102
    | 8, _ => hs _ nf_111
    | 9, _ => hs _ nf_121
    | q9 + 10, h => absurd (show q9 + 10 < 10 from h) (by omega)
theorem helS {s : State} {b : Nat} (hs : ∀ w ∈ NF, w.before #[Value.ref b] s = true) : ∀ i : Nat, i < nS → ∀ j : Nat, j < lenS.getD i 0 → (Cond.eq (.elem (.field (tmS i) "java/lang/String" "value" "[B") (.int (Int32.ofNat j))) (.int ((bytS.getD i []).getD j 0))).before #[Value.ref b] s = true := fun i hi => match i, hi with
    | 0, _ => (fun j hj => match j, hj with | 0, _ => hs _ nf_78 | 1, _ => hs _ nf_79 | 2, _ => hs _ nf_80 | q8 + 3, h8 => absurd (show q8 + 3 < 3 from h8) (by omega))
    | 1, _ => (fun j hj => match j, hj with | 0, _ => hs _ nf_85 | 1, _ => hs _ nf_86 | 2, _ => hs _ nf_87 | 3, _ => hs _ nf_88 | 4, _ => hs _ nf_89 | 5, _ => hs _ nf_90 | 6, _ => hs _ nf_91 | q8 + 7, h8 => absurd (show q8 + 7 < 7 from h8) (by omega))
    | 2, _ => (fun j hj => match j, hj with | 0, _ => hs _ nf_131 | 1, _ => hs _ nf_132 | 2, _ => hs _ nf_133 | 3, _ => hs _ nf_134 | 4, _ => hs _ nf_135 | 5, _ => hs _ nf_136 | q8 + 6, h8 => absurd (show q8 + 6 < 6 from h8) (by omega))
    | 3, _ => (fun j hj => match j, hj with | 0, _ => hs _ nf_149 | 1, _ => hs _ nf_150 | 2, _ => hs _ nf_151 | 3, _ => hs _ nf_152 | 4, _ => hs _ nf_153 | 5, _ => hs _ nf_154 | q8 + 6, h8 => absurd (show q8 + 6 < 6 from h8) (by omega))
    | 4, _ => (fun j hj => match j, hj with | 0, _ => hs _ nf_159 | 1, _ => hs _ nf_160 | 2, _ => hs _ nf_161 | 3, _ => hs _ nf_162 | 4, _ => hs _ nf_163 | q8 + 5, h8 => absurd (show q8 + 5 < 5 from h8) (by omega))
    | 5, _ => (fun j hj => match j, hj with | 0, _ => hs _ nf_141 | 1, _ => hs _ nf_142 | 2, _ => hs _ nf_143 | 3, _ => hs _ nf_144 | q8 + 4, h8 => absurd (show q8 + 4 < 4 from h8) (by omega))
    | 6, _ => (fun j hj => match j, hj with | 0, _ => hs _ nf_96 | 1, _ => hs _ nf_97 | 2, _ => hs _ nf_98 | q8 + 3, h8 => absurd (show q8 + 3 < 3 from h8) (by omega))
    | 7, _ => (fun j hj => match j, hj with | 0, _ => hs _ nf_103 | 1, _ => hs _ nf_104 | 2, _ => hs _ nf_105 | 3, _ => hs _ nf_106 | 4, _ => hs _ nf_107 | q8 + 5, h8 => absurd (show q8 + 5 < 5 from h8) (by omega))
    | 8, _ => (fun j hj => match j, hj with | 0, _ => hs _ nf_112 | 1, _ => hs _ nf_113 | 2, _ => hs _ nf_114 | 3, _ => hs _ nf_115 | 4, _ => hs _ nf_116 | 5, _ => hs _ nf_117 | q8 + 6, h8 => absurd (show q8 + 6 < 6 from h8) (by omega))
    | 9, _ => (fun j hj => match j, hj with | 0, _ => hs _ nf_122 | 1, _ => hs _ nf_123 | 2, _ => hs _ nf_124 | 3, _ => hs _ nf_125 | 4, _ => hs _ nf_126 | q8 + 5, h8 => absurd (show q8 + 5 < 5 from h8) (by omega))
    | q9 + 10, h => absurd (show q9 + 10 < 10 from h) (by omega)
theorem hneS {s : State} {b : Nat} (hs : ∀ w ∈ NF, w.before #[Value.ref b] s = true) : ∀ i j : Nat, i < nS → j < nS → i ≠ j → (Cond.not (Cond.eq (tmS i) (tmS j))).before #[Value.ref b] s = true ∨ (Cond.not (Cond.eq (tmS j) (tmS i))).before #[Value.ref b] s = true := fun i j hi hj hij => by
  obtain ⟨a, -, -, -, ha, -⟩ := Cond.exactly_spec (hexS hs i hi)
  obtain ⟨c, -, -, -, hc, -⟩ := Cond.exactly_spec (hexS hs j hj)
  refine Or.inl (lit_ne ha hc fun e => ?_)
  subst e
  have l1 := lit_ln ha (va_eqt (hleS hs i hi)) hc (va_eqt (hleS hs j hj))
  have l2 := lit_el ha (va_eqt (helS hs i hi 0 (lenS_pos i hi))) hc (va_eqt (helS hs j hj 0 (lenS_pos j hj)))
  exact hij (keyS i hi j hj l1 l2)
set_option maxHeartbeats 4000000 in
set_option maxRecDepth 100000 in
theorem start_K {s : State} {b : Nat} (hts : ∀ w ∈ lw_tbl, w.before #[Value.ref b] s = true) (hgv : (Jvm.Cond.and given_1 narrow_1).before #[Value.ref b] s = true) : ∃ w : Wd, w.1 = s.heap ∧ w.2.1 99 = b ∧ Ks w s := by
  have hs : ∀ w ∈ NF, w.before #[Value.ref b] s = true := flat_of_before _ hgv
  have hA : ∀ a : Nat, a < s.heap.size → ¬ (fun q : Nat => s.heap.size ≤ q) a := fun a h => Nat.not_le.mpr h
  obtain ⟨c0, i0, k0⟩ := u_known (C := RX0) (T := TX0) (N := 6) (n := 6) hts inT0 (hts _ st_201)
  obtain ⟨c1, i1, k1⟩ := u_known (C := RX1) (T := TX1) (N := 3) (n := 3) hts inT1 (hts _ st_314)
  obtain ⟨c2, i2, k2⟩ := u_known (C := RX2) (T := TX2) (N := 2) (n := 2) hts inT2 (hts _ st_187)
  obtain ⟨c3, i3, k3⟩ := u_known (C := RX3) (T := TX3) (N := 6) (n := 6) hts inT3 (hts _ st_228)
  obtain ⟨c4, i4, k4⟩ := u_known (C := RX4) (T := TX4) (N := 16) (n := 16) hts inT4 (hts _ st_38)
  obtain ⟨c5, i5, k5⟩ := u_known (C := RX5) (T := TX5) (N := 14) (n := 14) hts inT5 (hts _ st_32)
  obtain ⟨c6, i6, k6⟩ := u_known (C := RX6) (T := TX6) (N := 10) (n := 10) hts inT6 (hts _ st_195)
  obtain ⟨c7, i7, k7⟩ := u_known (C := RX7) (T := TX7) (N := 5) (n := 5) hts inT7 (hts _ st_24)
  obtain ⟨c8, i8, k8⟩ := u_known (C := RX8) (T := TX8) (N := 23) (n := 23) hts inT8 (hts _ st_1069)
  obtain ⟨a0, kk0, cp0, y0, z0, x0⟩ := Cond.arrayClass_spec (type := .byte) (hts _ st_139)
  obtain ⟨a1, kk1, cp1, y1, z1, x1⟩ := Cond.arrayClass_spec (type := .int) (hts _ st_140)
  obtain ⟨a2, kk2, cp2, y2, z2, x2⟩ := Cond.arrayClass_spec (type := .long) (hts _ st_185)
  obtain ⟨a3, kk3, cp3, y3, z3, x3⟩ := Cond.arrayClass_spec (type := .boolean) (hts _ st_351)
  obtain ⟨cp4, a4, kk4, y4, y5, z4, x4, y6⟩ := Cond.arrayOver_spec (n := RX6) (hts _ st_320)
  obtain ⟨adK, adV, hSt, hev⟩ := vk_Sof (args := #[Value.ref b]) (s := s) (N := nS) (tm := tmS) (len := lenS) (byt := bytS) (A := fun q => s.heap.size ≤ q) (fun i hi => lenS_small i) (hexS hs) (hcoS hs) (harS hs) (hleS hs) (helS hs) (hneS hs) hA
  obtain ⟨e10, -, -, -, q10, -⟩ := Cond.exactly_spec (hs _ nf_44)
  obtain ⟨e11, -, -, -, q11, -⟩ := Cond.exactly_spec (hs _ nf_164)
  obtain ⟨e12, -, -, -, q12, -⟩ := Cond.exactly_spec (hs _ nf_182)
  obtain ⟨e13, -, -, -, q13, -⟩ := Cond.exactly_spec (hs _ nf_198)
  obtain ⟨e14, -, -, -, q14, -⟩ := Cond.exactly_spec (hs _ nf_216)
  obtain ⟨e15, -, -, -, q15, -⟩ := Cond.exactly_spec (hs _ nf_248)
  obtain ⟨e16, -, -, -, q16, -⟩ := Cond.exactly_spec (hs _ nf_266)
  obtain ⟨e17, -, -, -, q17, -⟩ := Cond.exactly_spec (hs _ nf_298)
  obtain ⟨e18, -, -, -, q18, -⟩ := Cond.exactly_spec (hs _ nf_326)
  obtain ⟨e19, -, -, -, q19, -⟩ := Cond.exactly_spec (hs _ nf_353)
  obtain ⟨e20, -, -, -, q20, -⟩ := Cond.exactly_spec (hs _ nf_378)
  obtain ⟨e21, -, -, -, q21, -⟩ := Cond.exactly_spec (hs _ nf_406)
  obtain ⟨e22, -, -, -, q22, -⟩ := Cond.exactly_spec (hs _ nf_425)
  obtain ⟨e23, -, -, -, q23, -⟩ := Cond.exactly_spec (hs _ nf_453)
  obtain ⟨e24, -, -, -, q24, -⟩ := Cond.exactly_spec (hs _ nf_485)
  obtain ⟨e25, -, -, -, q25, -⟩ := Cond.exactly_spec (hs _ nf_519)
  obtain ⟨e26, -, -, -, q26, -⟩ := Cond.exactly_spec (hs _ nf_549)
  obtain ⟨e27, -, -, -, q27, -⟩ := Cond.exactly_spec (hs _ nf_585)
  obtain ⟨e28, -, -, -, q28, -⟩ := Cond.exactly_spec (hs _ nf_618)
  obtain ⟨f0, -, -, -, p0, -⟩ := Cond.exactly_spec (hs _ nf_635)
  have g0 : f0 = adK 0 := st_eq (hs _ nf_642) (hev 0 (by decide)) p0
  rw [g0] at p0
  obtain ⟨f1, -, -, -, p1, -⟩ := Cond.exactly_spec (hs _ nf_643)
  have g1 : f1 = adK 1 := st_eq (hs _ nf_654) (hev 1 (by decide)) p1
  rw [g1] at p1
  obtain ⟨f6, -, -, -, p6, -⟩ := Cond.exactly_spec (hs _ nf_655)
  have g6 : f6 = adK 6 := st_eq (hs _ nf_662) (hev 6 (by decide)) p6
  rw [g6] at p6
  obtain ⟨f7, -, -, -, p7, -⟩ := Cond.exactly_spec (hs _ nf_663)
  have g7 : f7 = adK 7 := st_eq (hs _ nf_672) (hev 7 (by decide)) p7
  rw [g7] at p7
  obtain ⟨f8, -, -, -, p8, -⟩ := Cond.exactly_spec (hs _ nf_673)
  have g8 : f8 = adK 8 := st_eq (hs _ nf_683) (hev 8 (by decide)) p8
  rw [g8] at p8
  obtain ⟨f9, -, -, -, p9, -⟩ := Cond.exactly_spec (hs _ nf_684)
  have g9 : f9 = adK 9 := st_eq (hs _ nf_693) (hev 9 (by decide)) p9
  rw [g9] at p9
  obtain ⟨f2, -, -, -, p2, -⟩ := Cond.exactly_spec (hs _ nf_694)
  have g2 : f2 = adK 2 := st_eq (hs _ nf_704) (hev 2 (by decide)) p2
  rw [g2] at p2
  obtain ⟨f5, -, -, -, p5, -⟩ := Cond.exactly_spec (hs _ nf_705)
  have g5 : f5 = adK 5 := st_eq (hs _ nf_713) (hev 5 (by decide)) p5
  rw [g5] at p5
  obtain ⟨f3, -, -, -, p3, -⟩ := Cond.exactly_spec (hs _ nf_714)
  have g3 : f3 = adK 3 := st_eq (hs _ nf_724) (hev 3 (by decide)) p3
  rw [g3] at p3
  obtain ⟨f4, -, -, -, p4, -⟩ := Cond.exactly_spec (hs _ nf_725)
  have g4 : f4 = adK 4 := st_eq (hs _ nf_734) (hev 4 (by decide)) p4
  rw [g4] at p4
  let AD : Nat → Nat := fun i => match i with
    | 10 => e10
    | 11 => e11
    | 12 => e12
    | 13 => e13
    | 14 => e14
    | 15 => e15
    | 16 => e16
    | 17 => e17
    | 18 => e18
    | 19 => e19
    | 20 => e20
    | 21 => e21
    | 22 => e22
    | 23 => e23
    | 24 => e24
    | 25 => e25
    | 26 => e26
    | 27 => e27
    | 28 => e28
    | 99 => b
    | i => adK i
  have hAD : ∀ i : Nat, i < nS → AD i = adK i := fun i hi => match i, hi with
    | 0, _ => rfl
    | 1, _ => rfl
    | 2, _ => rfl
    | 3, _ => rfl
    | 4, _ => rfl
    | 5, _ => rfl
    | 6, _ => rfl
    | 7, _ => rfl
    | 8, _ => rfl
    | 9, _ => rfl
    | q9 + 10, h => absurd (show q9 + 10 < 10 from h) (by omega)
  refine ⟨(s.heap, AD, adV, (fun c => match c with | 0 => c0 | 1 => c1 | 2 => c2 | 3 => c3 | 4 => c4 | 5 => c5 | 6 => c6 | 7 => c7 | _ => c8, fun c => match c with | 0 => i0 | 1 => i1 | 2 => i2 | 3 => i3 | 4 => i4 | 5 => i5 | 6 => i6 | 7 => i7 | _ => i8), fun k => match k with | 0 => a0 | 1 => a1 | 2 => a2 | 3 => a3 | _ => a4), rfl, rfl, ?_⟩
  refine ⟨⟨fun c q hq => ?_, fun k q hk => ?_⟩, ⟨fun i hi => ?_, fun i j hi hj e => hSt.2 i j hi hj (((hAD i hi).symm.trans e).trans (hAD j hj))⟩, ?_, ?_, ?_, ?_, ?_, ?_, ?_, ?_, ?_, ?_⟩
  · match c, hq with
    | 0, hq => cases hq; exact k0
    | 1, hq => cases hq; exact k1
    | 2, hq => cases hq; exact k2
    | 3, hq => cases hq; exact k3
    | 4, hq => cases hq; exact k4
    | 5, hq => cases hq; exact k5
    | 6, hq => cases hq; exact k6
    | 7, hq => cases hq; exact k7
    | 8, hq => cases hq; exact k8
    | c + 9, hq => simp [vwCl] at hq
  · match k, hk with
    | 0, hk => cases hk; exact ⟨fun N z => ⟨fun k h => (by cases h), kk0, z0, cp0, x0⟩, y0⟩
    | 1, hk => cases hk; exact ⟨fun N z => ⟨fun k h => (by cases h), kk1, z1, cp1, x1⟩, y1⟩
    | 2, hk => cases hk; exact ⟨fun N z => ⟨fun k h => (by cases h), kk2, z2, cp2, x2⟩, y2⟩
    | 3, hk => cases hk; exact ⟨fun N z => ⟨fun k h => (by cases h), kk3, z3, cp3, x3⟩, y3⟩
    | 4, hk => cases hk; exact ⟨fun N z => ⟨fun k h => (by cases h), kk4, z4, cp4, x4⟩, kk4, cp4, z4, x4, y4, y6⟩
    | k + 5, hk => simp [wT] at hk
  · show va_O _ (AD i) _ _ _ ∧ va_OF _ _ _ _ (AD i) _ _ _ ∧ va_OF _ _ _ _ (AD i) _ _ _ ∧ _
    rw [hAD i hi]
    exact hSt.1 i hi
  · exact vx_Zqof (hts _ st_495) (hts _ st_10) (hs _ nf_4) hA
  · exact vx_Zqof (hts _ st_497) (hts _ st_10) (hs _ nf_5) hA
  · exact va_Zof (hts _ st_569) (hts _ st_15) (va_eqt (hs _ nf_6)) hA
  · exact List.forall_mem_cons.mpr ⟨vk_R.of (hts _ st_509) q10, List.forall_mem_cons.mpr ⟨vk_R.of (hts _ st_555) (hev 0 (by decide)), List.forall_mem_cons.mpr ⟨vk_R.of (hts _ st_624) (hev 1 (by decide)), List.forall_mem_cons.mpr ⟨vk_R.of (hts _ st_645) (hev 6 (by decide)), List.forall_mem_cons.mpr ⟨vk_R.of (hts _ st_646) (hev 7 (by decide)), List.forall_mem_cons.mpr ⟨vk_R.of (hts _ st_647) (hev 8 (by decide)), List.forall_mem_cons.mpr ⟨vk_R.of (hts _ st_648) (hev 9 (by decide)), List.forall_mem_cons.mpr ⟨vk_R.of (hts _ st_649) (hev 2 (by decide)), List.forall_mem_cons.mpr ⟨vk_R.of (hts _ st_658) (hev 5 (by decide)), List.forall_mem_cons.mpr ⟨vk_R.of (hts _ st_663) (hev 3 (by decide)), List.forall_mem_cons.mpr ⟨vk_R.of (hts _ st_668) (hev 4 (by decide)), List.forall_mem_cons.mpr ⟨vk_R.of (hts _ st_734) q11, List.forall_mem_cons.mpr ⟨vk_R.of (hts _ st_756) q12, List.forall_mem_cons.mpr ⟨vk_R.of (hts _ st_779) q13, List.forall_mem_cons.mpr ⟨vk_R.of (hts _ st_794) q14, List.forall_mem_cons.mpr ⟨vk_R.of (hts _ st_806) q15, List.forall_mem_cons.mpr ⟨vk_R.of (hts _ st_808) q16, List.forall_mem_cons.mpr ⟨vk_R.of (hts _ st_823) q17, List.forall_mem_cons.mpr ⟨vk_R.of (hts _ st_833) q18, List.forall_mem_cons.mpr ⟨vk_R.of (hts _ st_849) q19, List.forall_mem_cons.mpr ⟨vk_R.of (hts _ st_907) q20, List.forall_mem_cons.mpr ⟨vk_R.of (hts _ st_920) q21, List.forall_mem_cons.mpr ⟨vk_R.of (hts _ st_928) q22, List.forall_mem_cons.mpr ⟨vk_R.of (hts _ st_980) q23, List.forall_mem_cons.mpr ⟨vk_R.of (hts _ st_1014) q24, List.forall_mem_cons.mpr ⟨vk_R.of (hts _ st_1024) q25, List.forall_mem_cons.mpr ⟨vk_R.of (hts _ st_1054) q26, List.forall_mem_cons.mpr ⟨vk_R.of (hts _ st_1055) q27, List.forall_mem_cons.mpr ⟨vk_R.of (hts _ st_1067) q28, List.forall_mem_cons.mpr ⟨vk_R.of (hts _ st_1241) p0, List.forall_mem_cons.mpr ⟨vk_R.of (hts _ st_1264) p1, List.forall_mem_cons.mpr ⟨vk_R.of (hts _ st_1284) p6, List.forall_mem_cons.mpr ⟨vk_R.of (hts _ st_1285) p7, List.forall_mem_cons.mpr ⟨vk_R.of (hts _ st_1286) p8, List.forall_mem_cons.mpr ⟨vk_R.of (hts _ st_1287) p9, List.forall_mem_cons.mpr ⟨vk_R.of (hts _ st_1288) p2, List.forall_mem_cons.mpr ⟨vk_R.of (hts _ st_1297) p5, List.forall_mem_cons.mpr ⟨vk_R.of (hts _ st_1302) p3, List.forall_mem_cons.mpr ⟨vk_R.of (hts _ st_1307) p4, fun _ h => absurd h List.not_mem_nil⟩⟩⟩⟩⟩⟩⟩⟩⟩⟩⟩⟩⟩⟩⟩⟩⟩⟩⟩⟩⟩⟩⟩⟩⟩⟩⟩⟩⟩⟩⟩⟩⟩⟩⟩⟩⟩⟩⟩
  · exact List.forall_mem_cons.mpr ⟨va_Nw.of rfl (hts _ st_33), List.forall_mem_cons.mpr ⟨va_Nw.of rfl (hts _ st_196), List.forall_mem_cons.mpr ⟨va_Nw.of rfl (hts _ st_202), List.forall_mem_cons.mpr ⟨va_Nw.of rfl (hts _ st_229), List.forall_mem_cons.mpr ⟨va_Nw.of rfl (hts _ st_321), List.forall_mem_cons.mpr ⟨va_Nw.of rfl (hts _ st_334), fun _ h => absurd h List.not_mem_nil⟩⟩⟩⟩⟩⟩
  · exact va_AO.of (hts _ st_320)
  · exact List.forall_mem_cons.mpr ⟨va_Nw.of rfl (hts _ st_473), List.forall_mem_cons.mpr ⟨va_Nw.of rfl (hts _ st_474), List.forall_mem_cons.mpr ⟨va_Nw.of rfl (hts _ st_471), List.forall_mem_cons.mpr ⟨va_Nw.of rfl (hts _ st_472), List.forall_mem_cons.mpr ⟨va_Nw.of rfl (hts _ st_475), List.forall_mem_cons.mpr ⟨va_Nw.of rfl (hts _ st_476), fun _ h => absurd h List.not_mem_nil⟩⟩⟩⟩⟩⟩
  · exact List.forall_mem_cons.mpr ⟨va_Nw.of rfl (hts _ st_470), List.forall_mem_cons.mpr ⟨va_Nw.of rfl (hts _ st_973), List.forall_mem_cons.mpr ⟨va_Nw.of rfl (hts _ st_749), fun _ h => absurd h List.not_mem_nil⟩⟩⟩
  · exact List.forall_mem_cons.mpr ⟨va_Nc.of (hs _ nf_42), List.forall_mem_cons.mpr ⟨va_Nc.of (hs _ nf_31), List.forall_mem_cons.mpr ⟨va_Nc.of (hs _ nf_21), List.forall_mem_cons.mpr ⟨va_Nc.of (hs _ nf_32), List.forall_mem_cons.mpr ⟨va_Nc.of (hs _ nf_20), List.forall_mem_cons.mpr ⟨va_Nc.of (hs _ nf_43), fun _ h => absurd h List.not_mem_nil⟩⟩⟩⟩⟩⟩
  · exact va_Zqof (hts _ st_585) (hts _ st_17) (hs _ nf_7) hA
