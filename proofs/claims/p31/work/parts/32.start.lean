/-! AT THE LAW'S ENTRY. -/
def NF : List Cond := flatC (Jvm.Cond.and given_1 narrow_1)
def idS : List Nat := [81, 104, 109, 114, 119, 163, 189, 191, 193, 195, 29, 38, 43, 48, 15, 17, 19, 21, 54, 56, 58, 60, 62, 64, 66]
def tmS (i : Nat) : Term := .string (if i < 10 then "ForesightHub$Reader" else "ForesightHubLaw") (idS.getD i 0)
theorem st_eq {args : Array Value} {s : State} {t u : Term} {a c : Nat} (h : (Cond.eq t u).before args s = true) (ht : t.eval args s none [] s = some (.ref a)) (hu : u.eval args s none [] s = some (.ref c)) : c = a := by
  simp [Cond.before, Cond.holds, Cond.value, ht, hu] at h
  first | exact h | exact h.symm
theorem lit_ne {args : Array Value} {s : State} {t u : Term} {a c : Nat} (ht : t.eval args s none [] s = some (.ref a)) (hu : u.eval args s none [] s = some (.ref c)) (hac : a ≠ c) : (Cond.not (Cond.eq t u)).before args s = true := by
  simp [Cond.before, Cond.holds, Cond.value, ht, hu, hac]
theorem lit_ln {args : Array Value} {s : State} {t u : Term} {a : Nat} {x y : Int32} (ht : t.eval args s none [] s = some (.ref a)) (h1 : (Term.length (.field t "java/lang/String" "value" "[B")).eval args s none [] s = some (.int x)) (hu : u.eval args s none [] s = some (.ref a)) (h2 : (Term.length (.field u "java/lang/String" "value" "[B")).eval args s none [] s = some (.int y)) : x = y := by
  rw [Term.eval, va_fe ht] at h1
  rw [Term.eval, va_fe hu] at h2
  have := h1.symm.trans h2
  cases this
  rfl
theorem lit_el {args : Array Value} {s : State} {t u z : Term} {a : Nat} {x y : Int32} (ht : t.eval args s none [] s = some (.ref a)) (h1 : (Term.elem (.field t "java/lang/String" "value" "[B") z).eval args s none [] s = some (.int x)) (hu : u.eval args s none [] s = some (.ref a)) (h2 : (Term.elem (.field u "java/lang/String" "value" "[B") z).eval args s none [] s = some (.int y)) : x = y := by
  rw [Term.eval, va_fe ht] at h1
  rw [Term.eval, va_fe hu] at h2
  have := h1.symm.trans h2
  cases this
  rfl
theorem lenS_small (i : Nat) : lenS.getD i 0 < 2 ^ 31 := by
  rw [List.getD_eq_getElem?_getD]
  cases h : lenS[i]? with
  | none => exact Nat.lt_of_lt_of_le (by decide) (Nat.le_refl _)
  | some v =>
    have hm := List.mem_of_getElem? h
    have hall : ∀ v ∈ lenS, v < 100 := by decide
    have := hall v hm
    show v < 2 ^ 31
    omega
theorem lenS_pos : ∀ i : Nat, i < nS → 0 < lenS.getD i 0 := by decide
theorem keyS : ∀ i : Nat, i < nS → ∀ j : Nat, j < nS → Int32.ofNat (lenS.getD i 0) = Int32.ofNat (lenS.getD j 0) → (∀ k : Nat, k < lenS.getD i 0 → k < lenS.getD j 0 → (bytS.getD i []).getD k 0 = (bytS.getD j []).getD k 0) → i = j := by decide +kernel
theorem nf_4 : (Jvm.Cond.isRef (Jvm.Term.static "java/lang/Throwable" "UNASSIGNED_STACK" "[Ljava/lang/StackTraceElement;")) ∈ NF := List.mem_of_getElem? (i := 4) (by decide +kernel)
theorem nf_5 : (Jvm.Cond.isRef (Jvm.Term.static "java/lang/Throwable" "SUPPRESSED_SENTINEL" "Ljava/util/List;")) ∈ NF := List.mem_of_getElem? (i := 5) (by decide +kernel)
theorem nf_6 : (Jvm.Cond.eq (Jvm.Term.static "java/lang/String" "COMPACT_STRINGS" "Z") (Jvm.Term.int (1 : Int32))) ∈ NF := List.mem_of_getElem? (i := 6) (by decide +kernel)
theorem nf_7 : (Jvm.Cond.isRef (Jvm.Term.static "jdk/internal/util/Preconditions" "SIOOBE_FORMATTER" "Ljava/util/function/BiFunction;")) ∈ NF := List.mem_of_getElem? (i := 7) (by decide +kernel)
theorem nf_12 : (Jvm.Cond.arrayOf (Jvm.Term.static "java/lang/Integer" "DigitOnes" "[B") Jvm.ClassFile.FieldType.byte) ∈ NF := List.mem_of_getElem? (i := 12) (by decide +kernel)
theorem nf_13 : (Jvm.Cond.eq (Jvm.Term.length (Jvm.Term.static "java/lang/Integer" "DigitOnes" "[B")) (Jvm.Term.int (100 : Int32))) ∈ NF := List.mem_of_getElem? (i := 13) (by decide +kernel)
theorem nf_14 : (Jvm.Cond.eq (Jvm.Term.elem (Jvm.Term.static "java/lang/Integer" "DigitOnes" "[B") (Jvm.Term.int (0 : Int32))) (Jvm.Term.int (48 : Int32))) ∈ NF := List.mem_of_getElem? (i := 14) (by decide +kernel)
theorem nf_15 : (Jvm.Cond.eq (Jvm.Term.elem (Jvm.Term.static "java/lang/Integer" "DigitOnes" "[B") (Jvm.Term.int (1 : Int32))) (Jvm.Term.int (49 : Int32))) ∈ NF := List.mem_of_getElem? (i := 15) (by decide +kernel)
theorem nf_16 : (Jvm.Cond.eq (Jvm.Term.elem (Jvm.Term.static "java/lang/Integer" "DigitOnes" "[B") (Jvm.Term.int (2 : Int32))) (Jvm.Term.int (50 : Int32))) ∈ NF := List.mem_of_getElem? (i := 16) (by decide +kernel)
theorem nf_17 : (Jvm.Cond.eq (Jvm.Term.elem (Jvm.Term.static "java/lang/Integer" "DigitOnes" "[B") (Jvm.Term.int (3 : Int32))) (Jvm.Term.int (51 : Int32))) ∈ NF := List.mem_of_getElem? (i := 17) (by decide +kernel)
theorem nf_18 : (Jvm.Cond.eq (Jvm.Term.elem (Jvm.Term.static "java/lang/Integer" "DigitOnes" "[B") (Jvm.Term.int (4 : Int32))) (Jvm.Term.int (52 : Int32))) ∈ NF := List.mem_of_getElem? (i := 18) (by decide +kernel)
theorem nf_19 : (Jvm.Cond.eq (Jvm.Term.elem (Jvm.Term.static "java/lang/Integer" "DigitOnes" "[B") (Jvm.Term.int (5 : Int32))) (Jvm.Term.int (53 : Int32))) ∈ NF := List.mem_of_getElem? (i := 19) (by decide +kernel)
theorem nf_20 : (Jvm.Cond.eq (Jvm.Term.elem (Jvm.Term.static "java/lang/Integer" "DigitOnes" "[B") (Jvm.Term.int (6 : Int32))) (Jvm.Term.int (54 : Int32))) ∈ NF := List.mem_of_getElem? (i := 20) (by decide +kernel)
theorem nf_21 : (Jvm.Cond.eq (Jvm.Term.elem (Jvm.Term.static "java/lang/Integer" "DigitOnes" "[B") (Jvm.Term.int (7 : Int32))) (Jvm.Term.int (55 : Int32))) ∈ NF := List.mem_of_getElem? (i := 21) (by decide +kernel)
theorem nf_22 : (Jvm.Cond.eq (Jvm.Term.elem (Jvm.Term.static "java/lang/Integer" "DigitOnes" "[B") (Jvm.Term.int (8 : Int32))) (Jvm.Term.int (56 : Int32))) ∈ NF := List.mem_of_getElem? (i := 22) (by decide +kernel)
theorem nf_23 : (Jvm.Cond.eq (Jvm.Term.elem (Jvm.Term.static "java/lang/Integer" "DigitOnes" "[B") (Jvm.Term.int (9 : Int32))) (Jvm.Term.int (57 : Int32))) ∈ NF := List.mem_of_getElem? (i := 23) (by decide +kernel)
theorem nf_24 : (Jvm.Cond.eq (Jvm.Term.elem (Jvm.Term.static "java/lang/Integer" "DigitOnes" "[B") (Jvm.Term.int (10 : Int32))) (Jvm.Term.int (48 : Int32))) ∈ NF := List.mem_of_getElem? (i := 24) (by decide +kernel)
theorem nf_25 : (Jvm.Cond.eq (Jvm.Term.elem (Jvm.Term.static "java/lang/Integer" "DigitOnes" "[B") (Jvm.Term.int (11 : Int32))) (Jvm.Term.int (49 : Int32))) ∈ NF := List.mem_of_getElem? (i := 25) (by decide +kernel)
theorem nf_26 : (Jvm.Cond.eq (Jvm.Term.elem (Jvm.Term.static "java/lang/Integer" "DigitOnes" "[B") (Jvm.Term.int (12 : Int32))) (Jvm.Term.int (50 : Int32))) ∈ NF := List.mem_of_getElem? (i := 26) (by decide +kernel)
theorem nf_27 : (Jvm.Cond.eq (Jvm.Term.elem (Jvm.Term.static "java/lang/Integer" "DigitOnes" "[B") (Jvm.Term.int (13 : Int32))) (Jvm.Term.int (51 : Int32))) ∈ NF := List.mem_of_getElem? (i := 27) (by decide +kernel)
theorem nf_28 : (Jvm.Cond.eq (Jvm.Term.elem (Jvm.Term.static "java/lang/Integer" "DigitOnes" "[B") (Jvm.Term.int (14 : Int32))) (Jvm.Term.int (52 : Int32))) ∈ NF := List.mem_of_getElem? (i := 28) (by decide +kernel)
theorem nf_29 : (Jvm.Cond.eq (Jvm.Term.elem (Jvm.Term.static "java/lang/Integer" "DigitOnes" "[B") (Jvm.Term.int (15 : Int32))) (Jvm.Term.int (53 : Int32))) ∈ NF := List.mem_of_getElem? (i := 29) (by decide +kernel)
theorem nf_30 : (Jvm.Cond.eq (Jvm.Term.elem (Jvm.Term.static "java/lang/Integer" "DigitOnes" "[B") (Jvm.Term.int (16 : Int32))) (Jvm.Term.int (54 : Int32))) ∈ NF := List.mem_of_getElem? (i := 30) (by decide +kernel)
theorem nf_31 : (Jvm.Cond.eq (Jvm.Term.elem (Jvm.Term.static "java/lang/Integer" "DigitOnes" "[B") (Jvm.Term.int (17 : Int32))) (Jvm.Term.int (55 : Int32))) ∈ NF := List.mem_of_getElem? (i := 31) (by decide +kernel)
theorem nf_32 : (Jvm.Cond.eq (Jvm.Term.elem (Jvm.Term.static "java/lang/Integer" "DigitOnes" "[B") (Jvm.Term.int (18 : Int32))) (Jvm.Term.int (56 : Int32))) ∈ NF := List.mem_of_getElem? (i := 32) (by decide +kernel)
theorem nf_33 : (Jvm.Cond.eq (Jvm.Term.elem (Jvm.Term.static "java/lang/Integer" "DigitOnes" "[B") (Jvm.Term.int (19 : Int32))) (Jvm.Term.int (57 : Int32))) ∈ NF := List.mem_of_getElem? (i := 33) (by decide +kernel)
theorem nf_34 : (Jvm.Cond.eq (Jvm.Term.elem (Jvm.Term.static "java/lang/Integer" "DigitOnes" "[B") (Jvm.Term.int (20 : Int32))) (Jvm.Term.int (48 : Int32))) ∈ NF := List.mem_of_getElem? (i := 34) (by decide +kernel)
theorem nf_35 : (Jvm.Cond.eq (Jvm.Term.elem (Jvm.Term.static "java/lang/Integer" "DigitOnes" "[B") (Jvm.Term.int (21 : Int32))) (Jvm.Term.int (49 : Int32))) ∈ NF := List.mem_of_getElem? (i := 35) (by decide +kernel)
theorem nf_36 : (Jvm.Cond.eq (Jvm.Term.elem (Jvm.Term.static "java/lang/Integer" "DigitOnes" "[B") (Jvm.Term.int (22 : Int32))) (Jvm.Term.int (50 : Int32))) ∈ NF := List.mem_of_getElem? (i := 36) (by decide +kernel)
theorem nf_37 : (Jvm.Cond.eq (Jvm.Term.elem (Jvm.Term.static "java/lang/Integer" "DigitOnes" "[B") (Jvm.Term.int (23 : Int32))) (Jvm.Term.int (51 : Int32))) ∈ NF := List.mem_of_getElem? (i := 37) (by decide +kernel)
theorem nf_38 : (Jvm.Cond.eq (Jvm.Term.elem (Jvm.Term.static "java/lang/Integer" "DigitOnes" "[B") (Jvm.Term.int (24 : Int32))) (Jvm.Term.int (52 : Int32))) ∈ NF := List.mem_of_getElem? (i := 38) (by decide +kernel)
theorem nf_39 : (Jvm.Cond.eq (Jvm.Term.elem (Jvm.Term.static "java/lang/Integer" "DigitOnes" "[B") (Jvm.Term.int (25 : Int32))) (Jvm.Term.int (53 : Int32))) ∈ NF := List.mem_of_getElem? (i := 39) (by decide +kernel)
theorem nf_40 : (Jvm.Cond.eq (Jvm.Term.elem (Jvm.Term.static "java/lang/Integer" "DigitOnes" "[B") (Jvm.Term.int (26 : Int32))) (Jvm.Term.int (54 : Int32))) ∈ NF := List.mem_of_getElem? (i := 40) (by decide +kernel)
theorem nf_41 : (Jvm.Cond.eq (Jvm.Term.elem (Jvm.Term.static "java/lang/Integer" "DigitOnes" "[B") (Jvm.Term.int (27 : Int32))) (Jvm.Term.int (55 : Int32))) ∈ NF := List.mem_of_getElem? (i := 41) (by decide +kernel)
theorem nf_42 : (Jvm.Cond.eq (Jvm.Term.elem (Jvm.Term.static "java/lang/Integer" "DigitOnes" "[B") (Jvm.Term.int (28 : Int32))) (Jvm.Term.int (56 : Int32))) ∈ NF := List.mem_of_getElem? (i := 42) (by decide +kernel)
theorem nf_43 : (Jvm.Cond.eq (Jvm.Term.elem (Jvm.Term.static "java/lang/Integer" "DigitOnes" "[B") (Jvm.Term.int (29 : Int32))) (Jvm.Term.int (57 : Int32))) ∈ NF := List.mem_of_getElem? (i := 43) (by decide +kernel)
theorem nf_44 : (Jvm.Cond.eq (Jvm.Term.elem (Jvm.Term.static "java/lang/Integer" "DigitOnes" "[B") (Jvm.Term.int (30 : Int32))) (Jvm.Term.int (48 : Int32))) ∈ NF := List.mem_of_getElem? (i := 44) (by decide +kernel)
theorem nf_45 : (Jvm.Cond.eq (Jvm.Term.elem (Jvm.Term.static "java/lang/Integer" "DigitOnes" "[B") (Jvm.Term.int (31 : Int32))) (Jvm.Term.int (49 : Int32))) ∈ NF := List.mem_of_getElem? (i := 45) (by decide +kernel)
theorem nf_46 : (Jvm.Cond.eq (Jvm.Term.elem (Jvm.Term.static "java/lang/Integer" "DigitOnes" "[B") (Jvm.Term.int (32 : Int32))) (Jvm.Term.int (50 : Int32))) ∈ NF := List.mem_of_getElem? (i := 46) (by decide +kernel)
theorem nf_47 : (Jvm.Cond.eq (Jvm.Term.elem (Jvm.Term.static "java/lang/Integer" "DigitOnes" "[B") (Jvm.Term.int (33 : Int32))) (Jvm.Term.int (51 : Int32))) ∈ NF := List.mem_of_getElem? (i := 47) (by decide +kernel)
theorem nf_48 : (Jvm.Cond.eq (Jvm.Term.elem (Jvm.Term.static "java/lang/Integer" "DigitOnes" "[B") (Jvm.Term.int (34 : Int32))) (Jvm.Term.int (52 : Int32))) ∈ NF := List.mem_of_getElem? (i := 48) (by decide +kernel)
theorem nf_49 : (Jvm.Cond.eq (Jvm.Term.elem (Jvm.Term.static "java/lang/Integer" "DigitOnes" "[B") (Jvm.Term.int (35 : Int32))) (Jvm.Term.int (53 : Int32))) ∈ NF := List.mem_of_getElem? (i := 49) (by decide +kernel)
theorem nf_50 : (Jvm.Cond.eq (Jvm.Term.elem (Jvm.Term.static "java/lang/Integer" "DigitOnes" "[B") (Jvm.Term.int (36 : Int32))) (Jvm.Term.int (54 : Int32))) ∈ NF := List.mem_of_getElem? (i := 50) (by decide +kernel)
theorem nf_51 : (Jvm.Cond.eq (Jvm.Term.elem (Jvm.Term.static "java/lang/Integer" "DigitOnes" "[B") (Jvm.Term.int (37 : Int32))) (Jvm.Term.int (55 : Int32))) ∈ NF := List.mem_of_getElem? (i := 51) (by decide +kernel)
theorem nf_52 : (Jvm.Cond.eq (Jvm.Term.elem (Jvm.Term.static "java/lang/Integer" "DigitOnes" "[B") (Jvm.Term.int (38 : Int32))) (Jvm.Term.int (56 : Int32))) ∈ NF := List.mem_of_getElem? (i := 52) (by decide +kernel)
theorem nf_53 : (Jvm.Cond.eq (Jvm.Term.elem (Jvm.Term.static "java/lang/Integer" "DigitOnes" "[B") (Jvm.Term.int (39 : Int32))) (Jvm.Term.int (57 : Int32))) ∈ NF := List.mem_of_getElem? (i := 53) (by decide +kernel)
theorem nf_54 : (Jvm.Cond.eq (Jvm.Term.elem (Jvm.Term.static "java/lang/Integer" "DigitOnes" "[B") (Jvm.Term.int (40 : Int32))) (Jvm.Term.int (48 : Int32))) ∈ NF := List.mem_of_getElem? (i := 54) (by decide +kernel)
theorem nf_55 : (Jvm.Cond.eq (Jvm.Term.elem (Jvm.Term.static "java/lang/Integer" "DigitOnes" "[B") (Jvm.Term.int (41 : Int32))) (Jvm.Term.int (49 : Int32))) ∈ NF := List.mem_of_getElem? (i := 55) (by decide +kernel)
theorem nf_56 : (Jvm.Cond.eq (Jvm.Term.elem (Jvm.Term.static "java/lang/Integer" "DigitOnes" "[B") (Jvm.Term.int (42 : Int32))) (Jvm.Term.int (50 : Int32))) ∈ NF := List.mem_of_getElem? (i := 56) (by decide +kernel)
theorem nf_57 : (Jvm.Cond.eq (Jvm.Term.elem (Jvm.Term.static "java/lang/Integer" "DigitOnes" "[B") (Jvm.Term.int (43 : Int32))) (Jvm.Term.int (51 : Int32))) ∈ NF := List.mem_of_getElem? (i := 57) (by decide +kernel)
theorem nf_58 : (Jvm.Cond.eq (Jvm.Term.elem (Jvm.Term.static "java/lang/Integer" "DigitOnes" "[B") (Jvm.Term.int (44 : Int32))) (Jvm.Term.int (52 : Int32))) ∈ NF := List.mem_of_getElem? (i := 58) (by decide +kernel)
theorem nf_59 : (Jvm.Cond.eq (Jvm.Term.elem (Jvm.Term.static "java/lang/Integer" "DigitOnes" "[B") (Jvm.Term.int (45 : Int32))) (Jvm.Term.int (53 : Int32))) ∈ NF := List.mem_of_getElem? (i := 59) (by decide +kernel)
theorem nf_60 : (Jvm.Cond.eq (Jvm.Term.elem (Jvm.Term.static "java/lang/Integer" "DigitOnes" "[B") (Jvm.Term.int (46 : Int32))) (Jvm.Term.int (54 : Int32))) ∈ NF := List.mem_of_getElem? (i := 60) (by decide +kernel)
theorem nf_61 : (Jvm.Cond.eq (Jvm.Term.elem (Jvm.Term.static "java/lang/Integer" "DigitOnes" "[B") (Jvm.Term.int (47 : Int32))) (Jvm.Term.int (55 : Int32))) ∈ NF := List.mem_of_getElem? (i := 61) (by decide +kernel)
theorem nf_62 : (Jvm.Cond.eq (Jvm.Term.elem (Jvm.Term.static "java/lang/Integer" "DigitOnes" "[B") (Jvm.Term.int (48 : Int32))) (Jvm.Term.int (56 : Int32))) ∈ NF := List.mem_of_getElem? (i := 62) (by decide +kernel)
theorem nf_63 : (Jvm.Cond.eq (Jvm.Term.elem (Jvm.Term.static "java/lang/Integer" "DigitOnes" "[B") (Jvm.Term.int (49 : Int32))) (Jvm.Term.int (57 : Int32))) ∈ NF := List.mem_of_getElem? (i := 63) (by decide +kernel)
theorem nf_64 : (Jvm.Cond.eq (Jvm.Term.elem (Jvm.Term.static "java/lang/Integer" "DigitOnes" "[B") (Jvm.Term.int (50 : Int32))) (Jvm.Term.int (48 : Int32))) ∈ NF := List.mem_of_getElem? (i := 64) (by decide +kernel)
theorem nf_65 : (Jvm.Cond.eq (Jvm.Term.elem (Jvm.Term.static "java/lang/Integer" "DigitOnes" "[B") (Jvm.Term.int (51 : Int32))) (Jvm.Term.int (49 : Int32))) ∈ NF := List.mem_of_getElem? (i := 65) (by decide +kernel)
theorem nf_66 : (Jvm.Cond.eq (Jvm.Term.elem (Jvm.Term.static "java/lang/Integer" "DigitOnes" "[B") (Jvm.Term.int (52 : Int32))) (Jvm.Term.int (50 : Int32))) ∈ NF := List.mem_of_getElem? (i := 66) (by decide +kernel)
theorem nf_67 : (Jvm.Cond.eq (Jvm.Term.elem (Jvm.Term.static "java/lang/Integer" "DigitOnes" "[B") (Jvm.Term.int (53 : Int32))) (Jvm.Term.int (51 : Int32))) ∈ NF := List.mem_of_getElem? (i := 67) (by decide +kernel)
theorem nf_68 : (Jvm.Cond.eq (Jvm.Term.elem (Jvm.Term.static "java/lang/Integer" "DigitOnes" "[B") (Jvm.Term.int (54 : Int32))) (Jvm.Term.int (52 : Int32))) ∈ NF := List.mem_of_getElem? (i := 68) (by decide +kernel)
theorem nf_69 : (Jvm.Cond.eq (Jvm.Term.elem (Jvm.Term.static "java/lang/Integer" "DigitOnes" "[B") (Jvm.Term.int (55 : Int32))) (Jvm.Term.int (53 : Int32))) ∈ NF := List.mem_of_getElem? (i := 69) (by decide +kernel)
theorem nf_70 : (Jvm.Cond.eq (Jvm.Term.elem (Jvm.Term.static "java/lang/Integer" "DigitOnes" "[B") (Jvm.Term.int (56 : Int32))) (Jvm.Term.int (54 : Int32))) ∈ NF := List.mem_of_getElem? (i := 70) (by decide +kernel)
theorem nf_71 : (Jvm.Cond.eq (Jvm.Term.elem (Jvm.Term.static "java/lang/Integer" "DigitOnes" "[B") (Jvm.Term.int (57 : Int32))) (Jvm.Term.int (55 : Int32))) ∈ NF := List.mem_of_getElem? (i := 71) (by decide +kernel)
theorem nf_72 : (Jvm.Cond.eq (Jvm.Term.elem (Jvm.Term.static "java/lang/Integer" "DigitOnes" "[B") (Jvm.Term.int (58 : Int32))) (Jvm.Term.int (56 : Int32))) ∈ NF := List.mem_of_getElem? (i := 72) (by decide +kernel)
theorem nf_73 : (Jvm.Cond.eq (Jvm.Term.elem (Jvm.Term.static "java/lang/Integer" "DigitOnes" "[B") (Jvm.Term.int (59 : Int32))) (Jvm.Term.int (57 : Int32))) ∈ NF := List.mem_of_getElem? (i := 73) (by decide +kernel)
theorem nf_74 : (Jvm.Cond.eq (Jvm.Term.elem (Jvm.Term.static "java/lang/Integer" "DigitOnes" "[B") (Jvm.Term.int (60 : Int32))) (Jvm.Term.int (48 : Int32))) ∈ NF := List.mem_of_getElem? (i := 74) (by decide +kernel)
theorem nf_75 : (Jvm.Cond.eq (Jvm.Term.elem (Jvm.Term.static "java/lang/Integer" "DigitOnes" "[B") (Jvm.Term.int (61 : Int32))) (Jvm.Term.int (49 : Int32))) ∈ NF := List.mem_of_getElem? (i := 75) (by decide +kernel)
theorem nf_76 : (Jvm.Cond.eq (Jvm.Term.elem (Jvm.Term.static "java/lang/Integer" "DigitOnes" "[B") (Jvm.Term.int (62 : Int32))) (Jvm.Term.int (50 : Int32))) ∈ NF := List.mem_of_getElem? (i := 76) (by decide +kernel)
theorem nf_77 : (Jvm.Cond.eq (Jvm.Term.elem (Jvm.Term.static "java/lang/Integer" "DigitOnes" "[B") (Jvm.Term.int (63 : Int32))) (Jvm.Term.int (51 : Int32))) ∈ NF := List.mem_of_getElem? (i := 77) (by decide +kernel)
theorem nf_78 : (Jvm.Cond.eq (Jvm.Term.elem (Jvm.Term.static "java/lang/Integer" "DigitOnes" "[B") (Jvm.Term.int (64 : Int32))) (Jvm.Term.int (52 : Int32))) ∈ NF := List.mem_of_getElem? (i := 78) (by decide +kernel)
theorem nf_79 : (Jvm.Cond.eq (Jvm.Term.elem (Jvm.Term.static "java/lang/Integer" "DigitOnes" "[B") (Jvm.Term.int (65 : Int32))) (Jvm.Term.int (53 : Int32))) ∈ NF := List.mem_of_getElem? (i := 79) (by decide +kernel)
theorem nf_80 : (Jvm.Cond.eq (Jvm.Term.elem (Jvm.Term.static "java/lang/Integer" "DigitOnes" "[B") (Jvm.Term.int (66 : Int32))) (Jvm.Term.int (54 : Int32))) ∈ NF := List.mem_of_getElem? (i := 80) (by decide +kernel)
theorem nf_81 : (Jvm.Cond.eq (Jvm.Term.elem (Jvm.Term.static "java/lang/Integer" "DigitOnes" "[B") (Jvm.Term.int (67 : Int32))) (Jvm.Term.int (55 : Int32))) ∈ NF := List.mem_of_getElem? (i := 81) (by decide +kernel)
theorem nf_82 : (Jvm.Cond.eq (Jvm.Term.elem (Jvm.Term.static "java/lang/Integer" "DigitOnes" "[B") (Jvm.Term.int (68 : Int32))) (Jvm.Term.int (56 : Int32))) ∈ NF := List.mem_of_getElem? (i := 82) (by decide +kernel)
theorem nf_83 : (Jvm.Cond.eq (Jvm.Term.elem (Jvm.Term.static "java/lang/Integer" "DigitOnes" "[B") (Jvm.Term.int (69 : Int32))) (Jvm.Term.int (57 : Int32))) ∈ NF := List.mem_of_getElem? (i := 83) (by decide +kernel)
theorem nf_84 : (Jvm.Cond.eq (Jvm.Term.elem (Jvm.Term.static "java/lang/Integer" "DigitOnes" "[B") (Jvm.Term.int (70 : Int32))) (Jvm.Term.int (48 : Int32))) ∈ NF := List.mem_of_getElem? (i := 84) (by decide +kernel)
theorem nf_85 : (Jvm.Cond.eq (Jvm.Term.elem (Jvm.Term.static "java/lang/Integer" "DigitOnes" "[B") (Jvm.Term.int (71 : Int32))) (Jvm.Term.int (49 : Int32))) ∈ NF := List.mem_of_getElem? (i := 85) (by decide +kernel)
theorem nf_86 : (Jvm.Cond.eq (Jvm.Term.elem (Jvm.Term.static "java/lang/Integer" "DigitOnes" "[B") (Jvm.Term.int (72 : Int32))) (Jvm.Term.int (50 : Int32))) ∈ NF := List.mem_of_getElem? (i := 86) (by decide +kernel)
theorem nf_87 : (Jvm.Cond.eq (Jvm.Term.elem (Jvm.Term.static "java/lang/Integer" "DigitOnes" "[B") (Jvm.Term.int (73 : Int32))) (Jvm.Term.int (51 : Int32))) ∈ NF := List.mem_of_getElem? (i := 87) (by decide +kernel)
theorem nf_88 : (Jvm.Cond.eq (Jvm.Term.elem (Jvm.Term.static "java/lang/Integer" "DigitOnes" "[B") (Jvm.Term.int (74 : Int32))) (Jvm.Term.int (52 : Int32))) ∈ NF := List.mem_of_getElem? (i := 88) (by decide +kernel)
theorem nf_89 : (Jvm.Cond.eq (Jvm.Term.elem (Jvm.Term.static "java/lang/Integer" "DigitOnes" "[B") (Jvm.Term.int (75 : Int32))) (Jvm.Term.int (53 : Int32))) ∈ NF := List.mem_of_getElem? (i := 89) (by decide +kernel)
theorem nf_90 : (Jvm.Cond.eq (Jvm.Term.elem (Jvm.Term.static "java/lang/Integer" "DigitOnes" "[B") (Jvm.Term.int (76 : Int32))) (Jvm.Term.int (54 : Int32))) ∈ NF := List.mem_of_getElem? (i := 90) (by decide +kernel)
theorem nf_91 : (Jvm.Cond.eq (Jvm.Term.elem (Jvm.Term.static "java/lang/Integer" "DigitOnes" "[B") (Jvm.Term.int (77 : Int32))) (Jvm.Term.int (55 : Int32))) ∈ NF := List.mem_of_getElem? (i := 91) (by decide +kernel)
theorem nf_92 : (Jvm.Cond.eq (Jvm.Term.elem (Jvm.Term.static "java/lang/Integer" "DigitOnes" "[B") (Jvm.Term.int (78 : Int32))) (Jvm.Term.int (56 : Int32))) ∈ NF := List.mem_of_getElem? (i := 92) (by decide +kernel)
theorem nf_93 : (Jvm.Cond.eq (Jvm.Term.elem (Jvm.Term.static "java/lang/Integer" "DigitOnes" "[B") (Jvm.Term.int (79 : Int32))) (Jvm.Term.int (57 : Int32))) ∈ NF := List.mem_of_getElem? (i := 93) (by decide +kernel)
theorem nf_94 : (Jvm.Cond.eq (Jvm.Term.elem (Jvm.Term.static "java/lang/Integer" "DigitOnes" "[B") (Jvm.Term.int (80 : Int32))) (Jvm.Term.int (48 : Int32))) ∈ NF := List.mem_of_getElem? (i := 94) (by decide +kernel)
theorem nf_95 : (Jvm.Cond.eq (Jvm.Term.elem (Jvm.Term.static "java/lang/Integer" "DigitOnes" "[B") (Jvm.Term.int (81 : Int32))) (Jvm.Term.int (49 : Int32))) ∈ NF := List.mem_of_getElem? (i := 95) (by decide +kernel)
theorem nf_96 : (Jvm.Cond.eq (Jvm.Term.elem (Jvm.Term.static "java/lang/Integer" "DigitOnes" "[B") (Jvm.Term.int (82 : Int32))) (Jvm.Term.int (50 : Int32))) ∈ NF := List.mem_of_getElem? (i := 96) (by decide +kernel)
theorem nf_97 : (Jvm.Cond.eq (Jvm.Term.elem (Jvm.Term.static "java/lang/Integer" "DigitOnes" "[B") (Jvm.Term.int (83 : Int32))) (Jvm.Term.int (51 : Int32))) ∈ NF := List.mem_of_getElem? (i := 97) (by decide +kernel)
theorem nf_98 : (Jvm.Cond.eq (Jvm.Term.elem (Jvm.Term.static "java/lang/Integer" "DigitOnes" "[B") (Jvm.Term.int (84 : Int32))) (Jvm.Term.int (52 : Int32))) ∈ NF := List.mem_of_getElem? (i := 98) (by decide +kernel)
theorem nf_99 : (Jvm.Cond.eq (Jvm.Term.elem (Jvm.Term.static "java/lang/Integer" "DigitOnes" "[B") (Jvm.Term.int (85 : Int32))) (Jvm.Term.int (53 : Int32))) ∈ NF := List.mem_of_getElem? (i := 99) (by decide +kernel)
theorem nf_100 : (Jvm.Cond.eq (Jvm.Term.elem (Jvm.Term.static "java/lang/Integer" "DigitOnes" "[B") (Jvm.Term.int (86 : Int32))) (Jvm.Term.int (54 : Int32))) ∈ NF := List.mem_of_getElem? (i := 100) (by decide +kernel)
theorem nf_101 : (Jvm.Cond.eq (Jvm.Term.elem (Jvm.Term.static "java/lang/Integer" "DigitOnes" "[B") (Jvm.Term.int (87 : Int32))) (Jvm.Term.int (55 : Int32))) ∈ NF := List.mem_of_getElem? (i := 101) (by decide +kernel)
theorem nf_102 : (Jvm.Cond.eq (Jvm.Term.elem (Jvm.Term.static "java/lang/Integer" "DigitOnes" "[B") (Jvm.Term.int (88 : Int32))) (Jvm.Term.int (56 : Int32))) ∈ NF := List.mem_of_getElem? (i := 102) (by decide +kernel)
theorem nf_103 : (Jvm.Cond.eq (Jvm.Term.elem (Jvm.Term.static "java/lang/Integer" "DigitOnes" "[B") (Jvm.Term.int (89 : Int32))) (Jvm.Term.int (57 : Int32))) ∈ NF := List.mem_of_getElem? (i := 103) (by decide +kernel)
theorem nf_104 : (Jvm.Cond.eq (Jvm.Term.elem (Jvm.Term.static "java/lang/Integer" "DigitOnes" "[B") (Jvm.Term.int (90 : Int32))) (Jvm.Term.int (48 : Int32))) ∈ NF := List.mem_of_getElem? (i := 104) (by decide +kernel)
theorem nf_105 : (Jvm.Cond.eq (Jvm.Term.elem (Jvm.Term.static "java/lang/Integer" "DigitOnes" "[B") (Jvm.Term.int (91 : Int32))) (Jvm.Term.int (49 : Int32))) ∈ NF := List.mem_of_getElem? (i := 105) (by decide +kernel)
theorem nf_106 : (Jvm.Cond.eq (Jvm.Term.elem (Jvm.Term.static "java/lang/Integer" "DigitOnes" "[B") (Jvm.Term.int (92 : Int32))) (Jvm.Term.int (50 : Int32))) ∈ NF := List.mem_of_getElem? (i := 106) (by decide +kernel)
theorem nf_107 : (Jvm.Cond.eq (Jvm.Term.elem (Jvm.Term.static "java/lang/Integer" "DigitOnes" "[B") (Jvm.Term.int (93 : Int32))) (Jvm.Term.int (51 : Int32))) ∈ NF := List.mem_of_getElem? (i := 107) (by decide +kernel)
theorem nf_108 : (Jvm.Cond.eq (Jvm.Term.elem (Jvm.Term.static "java/lang/Integer" "DigitOnes" "[B") (Jvm.Term.int (94 : Int32))) (Jvm.Term.int (52 : Int32))) ∈ NF := List.mem_of_getElem? (i := 108) (by decide +kernel)
theorem nf_109 : (Jvm.Cond.eq (Jvm.Term.elem (Jvm.Term.static "java/lang/Integer" "DigitOnes" "[B") (Jvm.Term.int (95 : Int32))) (Jvm.Term.int (53 : Int32))) ∈ NF := List.mem_of_getElem? (i := 109) (by decide +kernel)
theorem nf_110 : (Jvm.Cond.eq (Jvm.Term.elem (Jvm.Term.static "java/lang/Integer" "DigitOnes" "[B") (Jvm.Term.int (96 : Int32))) (Jvm.Term.int (54 : Int32))) ∈ NF := List.mem_of_getElem? (i := 110) (by decide +kernel)
theorem nf_111 : (Jvm.Cond.eq (Jvm.Term.elem (Jvm.Term.static "java/lang/Integer" "DigitOnes" "[B") (Jvm.Term.int (97 : Int32))) (Jvm.Term.int (55 : Int32))) ∈ NF := List.mem_of_getElem? (i := 111) (by decide +kernel)
theorem nf_112 : (Jvm.Cond.eq (Jvm.Term.elem (Jvm.Term.static "java/lang/Integer" "DigitOnes" "[B") (Jvm.Term.int (98 : Int32))) (Jvm.Term.int (56 : Int32))) ∈ NF := List.mem_of_getElem? (i := 112) (by decide +kernel)
theorem nf_113 : (Jvm.Cond.eq (Jvm.Term.elem (Jvm.Term.static "java/lang/Integer" "DigitOnes" "[B") (Jvm.Term.int (99 : Int32))) (Jvm.Term.int (57 : Int32))) ∈ NF := List.mem_of_getElem? (i := 113) (by decide +kernel)
theorem nf_115 : (Jvm.Cond.arrayOf (Jvm.Term.static "java/lang/Integer" "DigitTens" "[B") Jvm.ClassFile.FieldType.byte) ∈ NF := List.mem_of_getElem? (i := 115) (by decide +kernel)
theorem nf_116 : (Jvm.Cond.eq (Jvm.Term.length (Jvm.Term.static "java/lang/Integer" "DigitTens" "[B")) (Jvm.Term.int (100 : Int32))) ∈ NF := List.mem_of_getElem? (i := 116) (by decide +kernel)
theorem nf_117 : (Jvm.Cond.eq (Jvm.Term.elem (Jvm.Term.static "java/lang/Integer" "DigitTens" "[B") (Jvm.Term.int (0 : Int32))) (Jvm.Term.int (48 : Int32))) ∈ NF := List.mem_of_getElem? (i := 117) (by decide +kernel)
theorem nf_118 : (Jvm.Cond.eq (Jvm.Term.elem (Jvm.Term.static "java/lang/Integer" "DigitTens" "[B") (Jvm.Term.int (1 : Int32))) (Jvm.Term.int (48 : Int32))) ∈ NF := List.mem_of_getElem? (i := 118) (by decide +kernel)
theorem nf_119 : (Jvm.Cond.eq (Jvm.Term.elem (Jvm.Term.static "java/lang/Integer" "DigitTens" "[B") (Jvm.Term.int (2 : Int32))) (Jvm.Term.int (48 : Int32))) ∈ NF := List.mem_of_getElem? (i := 119) (by decide +kernel)
theorem nf_120 : (Jvm.Cond.eq (Jvm.Term.elem (Jvm.Term.static "java/lang/Integer" "DigitTens" "[B") (Jvm.Term.int (3 : Int32))) (Jvm.Term.int (48 : Int32))) ∈ NF := List.mem_of_getElem? (i := 120) (by decide +kernel)
theorem nf_121 : (Jvm.Cond.eq (Jvm.Term.elem (Jvm.Term.static "java/lang/Integer" "DigitTens" "[B") (Jvm.Term.int (4 : Int32))) (Jvm.Term.int (48 : Int32))) ∈ NF := List.mem_of_getElem? (i := 121) (by decide +kernel)
theorem nf_122 : (Jvm.Cond.eq (Jvm.Term.elem (Jvm.Term.static "java/lang/Integer" "DigitTens" "[B") (Jvm.Term.int (5 : Int32))) (Jvm.Term.int (48 : Int32))) ∈ NF := List.mem_of_getElem? (i := 122) (by decide +kernel)
theorem nf_123 : (Jvm.Cond.eq (Jvm.Term.elem (Jvm.Term.static "java/lang/Integer" "DigitTens" "[B") (Jvm.Term.int (6 : Int32))) (Jvm.Term.int (48 : Int32))) ∈ NF := List.mem_of_getElem? (i := 123) (by decide +kernel)
theorem nf_124 : (Jvm.Cond.eq (Jvm.Term.elem (Jvm.Term.static "java/lang/Integer" "DigitTens" "[B") (Jvm.Term.int (7 : Int32))) (Jvm.Term.int (48 : Int32))) ∈ NF := List.mem_of_getElem? (i := 124) (by decide +kernel)
theorem nf_125 : (Jvm.Cond.eq (Jvm.Term.elem (Jvm.Term.static "java/lang/Integer" "DigitTens" "[B") (Jvm.Term.int (8 : Int32))) (Jvm.Term.int (48 : Int32))) ∈ NF := List.mem_of_getElem? (i := 125) (by decide +kernel)
theorem nf_126 : (Jvm.Cond.eq (Jvm.Term.elem (Jvm.Term.static "java/lang/Integer" "DigitTens" "[B") (Jvm.Term.int (9 : Int32))) (Jvm.Term.int (48 : Int32))) ∈ NF := List.mem_of_getElem? (i := 126) (by decide +kernel)
theorem nf_127 : (Jvm.Cond.eq (Jvm.Term.elem (Jvm.Term.static "java/lang/Integer" "DigitTens" "[B") (Jvm.Term.int (10 : Int32))) (Jvm.Term.int (49 : Int32))) ∈ NF := List.mem_of_getElem? (i := 127) (by decide +kernel)
theorem nf_128 : (Jvm.Cond.eq (Jvm.Term.elem (Jvm.Term.static "java/lang/Integer" "DigitTens" "[B") (Jvm.Term.int (11 : Int32))) (Jvm.Term.int (49 : Int32))) ∈ NF := List.mem_of_getElem? (i := 128) (by decide +kernel)
theorem nf_129 : (Jvm.Cond.eq (Jvm.Term.elem (Jvm.Term.static "java/lang/Integer" "DigitTens" "[B") (Jvm.Term.int (12 : Int32))) (Jvm.Term.int (49 : Int32))) ∈ NF := List.mem_of_getElem? (i := 129) (by decide +kernel)
theorem nf_130 : (Jvm.Cond.eq (Jvm.Term.elem (Jvm.Term.static "java/lang/Integer" "DigitTens" "[B") (Jvm.Term.int (13 : Int32))) (Jvm.Term.int (49 : Int32))) ∈ NF := List.mem_of_getElem? (i := 130) (by decide +kernel)
theorem nf_131 : (Jvm.Cond.eq (Jvm.Term.elem (Jvm.Term.static "java/lang/Integer" "DigitTens" "[B") (Jvm.Term.int (14 : Int32))) (Jvm.Term.int (49 : Int32))) ∈ NF := List.mem_of_getElem? (i := 131) (by decide +kernel)
theorem nf_132 : (Jvm.Cond.eq (Jvm.Term.elem (Jvm.Term.static "java/lang/Integer" "DigitTens" "[B") (Jvm.Term.int (15 : Int32))) (Jvm.Term.int (49 : Int32))) ∈ NF := List.mem_of_getElem? (i := 132) (by decide +kernel)
theorem nf_133 : (Jvm.Cond.eq (Jvm.Term.elem (Jvm.Term.static "java/lang/Integer" "DigitTens" "[B") (Jvm.Term.int (16 : Int32))) (Jvm.Term.int (49 : Int32))) ∈ NF := List.mem_of_getElem? (i := 133) (by decide +kernel)
theorem nf_134 : (Jvm.Cond.eq (Jvm.Term.elem (Jvm.Term.static "java/lang/Integer" "DigitTens" "[B") (Jvm.Term.int (17 : Int32))) (Jvm.Term.int (49 : Int32))) ∈ NF := List.mem_of_getElem? (i := 134) (by decide +kernel)
theorem nf_135 : (Jvm.Cond.eq (Jvm.Term.elem (Jvm.Term.static "java/lang/Integer" "DigitTens" "[B") (Jvm.Term.int (18 : Int32))) (Jvm.Term.int (49 : Int32))) ∈ NF := List.mem_of_getElem? (i := 135) (by decide +kernel)
theorem nf_136 : (Jvm.Cond.eq (Jvm.Term.elem (Jvm.Term.static "java/lang/Integer" "DigitTens" "[B") (Jvm.Term.int (19 : Int32))) (Jvm.Term.int (49 : Int32))) ∈ NF := List.mem_of_getElem? (i := 136) (by decide +kernel)
theorem nf_137 : (Jvm.Cond.eq (Jvm.Term.elem (Jvm.Term.static "java/lang/Integer" "DigitTens" "[B") (Jvm.Term.int (20 : Int32))) (Jvm.Term.int (50 : Int32))) ∈ NF := List.mem_of_getElem? (i := 137) (by decide +kernel)
theorem nf_138 : (Jvm.Cond.eq (Jvm.Term.elem (Jvm.Term.static "java/lang/Integer" "DigitTens" "[B") (Jvm.Term.int (21 : Int32))) (Jvm.Term.int (50 : Int32))) ∈ NF := List.mem_of_getElem? (i := 138) (by decide +kernel)
theorem nf_139 : (Jvm.Cond.eq (Jvm.Term.elem (Jvm.Term.static "java/lang/Integer" "DigitTens" "[B") (Jvm.Term.int (22 : Int32))) (Jvm.Term.int (50 : Int32))) ∈ NF := List.mem_of_getElem? (i := 139) (by decide +kernel)
theorem nf_140 : (Jvm.Cond.eq (Jvm.Term.elem (Jvm.Term.static "java/lang/Integer" "DigitTens" "[B") (Jvm.Term.int (23 : Int32))) (Jvm.Term.int (50 : Int32))) ∈ NF := List.mem_of_getElem? (i := 140) (by decide +kernel)
theorem nf_141 : (Jvm.Cond.eq (Jvm.Term.elem (Jvm.Term.static "java/lang/Integer" "DigitTens" "[B") (Jvm.Term.int (24 : Int32))) (Jvm.Term.int (50 : Int32))) ∈ NF := List.mem_of_getElem? (i := 141) (by decide +kernel)
theorem nf_142 : (Jvm.Cond.eq (Jvm.Term.elem (Jvm.Term.static "java/lang/Integer" "DigitTens" "[B") (Jvm.Term.int (25 : Int32))) (Jvm.Term.int (50 : Int32))) ∈ NF := List.mem_of_getElem? (i := 142) (by decide +kernel)
theorem nf_143 : (Jvm.Cond.eq (Jvm.Term.elem (Jvm.Term.static "java/lang/Integer" "DigitTens" "[B") (Jvm.Term.int (26 : Int32))) (Jvm.Term.int (50 : Int32))) ∈ NF := List.mem_of_getElem? (i := 143) (by decide +kernel)
theorem nf_144 : (Jvm.Cond.eq (Jvm.Term.elem (Jvm.Term.static "java/lang/Integer" "DigitTens" "[B") (Jvm.Term.int (27 : Int32))) (Jvm.Term.int (50 : Int32))) ∈ NF := List.mem_of_getElem? (i := 144) (by decide +kernel)
theorem nf_145 : (Jvm.Cond.eq (Jvm.Term.elem (Jvm.Term.static "java/lang/Integer" "DigitTens" "[B") (Jvm.Term.int (28 : Int32))) (Jvm.Term.int (50 : Int32))) ∈ NF := List.mem_of_getElem? (i := 145) (by decide +kernel)
theorem nf_146 : (Jvm.Cond.eq (Jvm.Term.elem (Jvm.Term.static "java/lang/Integer" "DigitTens" "[B") (Jvm.Term.int (29 : Int32))) (Jvm.Term.int (50 : Int32))) ∈ NF := List.mem_of_getElem? (i := 146) (by decide +kernel)
theorem nf_147 : (Jvm.Cond.eq (Jvm.Term.elem (Jvm.Term.static "java/lang/Integer" "DigitTens" "[B") (Jvm.Term.int (30 : Int32))) (Jvm.Term.int (51 : Int32))) ∈ NF := List.mem_of_getElem? (i := 147) (by decide +kernel)
theorem nf_148 : (Jvm.Cond.eq (Jvm.Term.elem (Jvm.Term.static "java/lang/Integer" "DigitTens" "[B") (Jvm.Term.int (31 : Int32))) (Jvm.Term.int (51 : Int32))) ∈ NF := List.mem_of_getElem? (i := 148) (by decide +kernel)
theorem nf_149 : (Jvm.Cond.eq (Jvm.Term.elem (Jvm.Term.static "java/lang/Integer" "DigitTens" "[B") (Jvm.Term.int (32 : Int32))) (Jvm.Term.int (51 : Int32))) ∈ NF := List.mem_of_getElem? (i := 149) (by decide +kernel)
theorem nf_150 : (Jvm.Cond.eq (Jvm.Term.elem (Jvm.Term.static "java/lang/Integer" "DigitTens" "[B") (Jvm.Term.int (33 : Int32))) (Jvm.Term.int (51 : Int32))) ∈ NF := List.mem_of_getElem? (i := 150) (by decide +kernel)
theorem nf_151 : (Jvm.Cond.eq (Jvm.Term.elem (Jvm.Term.static "java/lang/Integer" "DigitTens" "[B") (Jvm.Term.int (34 : Int32))) (Jvm.Term.int (51 : Int32))) ∈ NF := List.mem_of_getElem? (i := 151) (by decide +kernel)
theorem nf_152 : (Jvm.Cond.eq (Jvm.Term.elem (Jvm.Term.static "java/lang/Integer" "DigitTens" "[B") (Jvm.Term.int (35 : Int32))) (Jvm.Term.int (51 : Int32))) ∈ NF := List.mem_of_getElem? (i := 152) (by decide +kernel)
theorem nf_153 : (Jvm.Cond.eq (Jvm.Term.elem (Jvm.Term.static "java/lang/Integer" "DigitTens" "[B") (Jvm.Term.int (36 : Int32))) (Jvm.Term.int (51 : Int32))) ∈ NF := List.mem_of_getElem? (i := 153) (by decide +kernel)
theorem nf_154 : (Jvm.Cond.eq (Jvm.Term.elem (Jvm.Term.static "java/lang/Integer" "DigitTens" "[B") (Jvm.Term.int (37 : Int32))) (Jvm.Term.int (51 : Int32))) ∈ NF := List.mem_of_getElem? (i := 154) (by decide +kernel)
theorem nf_155 : (Jvm.Cond.eq (Jvm.Term.elem (Jvm.Term.static "java/lang/Integer" "DigitTens" "[B") (Jvm.Term.int (38 : Int32))) (Jvm.Term.int (51 : Int32))) ∈ NF := List.mem_of_getElem? (i := 155) (by decide +kernel)
theorem nf_156 : (Jvm.Cond.eq (Jvm.Term.elem (Jvm.Term.static "java/lang/Integer" "DigitTens" "[B") (Jvm.Term.int (39 : Int32))) (Jvm.Term.int (51 : Int32))) ∈ NF := List.mem_of_getElem? (i := 156) (by decide +kernel)
theorem nf_157 : (Jvm.Cond.eq (Jvm.Term.elem (Jvm.Term.static "java/lang/Integer" "DigitTens" "[B") (Jvm.Term.int (40 : Int32))) (Jvm.Term.int (52 : Int32))) ∈ NF := List.mem_of_getElem? (i := 157) (by decide +kernel)
theorem nf_158 : (Jvm.Cond.eq (Jvm.Term.elem (Jvm.Term.static "java/lang/Integer" "DigitTens" "[B") (Jvm.Term.int (41 : Int32))) (Jvm.Term.int (52 : Int32))) ∈ NF := List.mem_of_getElem? (i := 158) (by decide +kernel)
theorem nf_159 : (Jvm.Cond.eq (Jvm.Term.elem (Jvm.Term.static "java/lang/Integer" "DigitTens" "[B") (Jvm.Term.int (42 : Int32))) (Jvm.Term.int (52 : Int32))) ∈ NF := List.mem_of_getElem? (i := 159) (by decide +kernel)
theorem nf_160 : (Jvm.Cond.eq (Jvm.Term.elem (Jvm.Term.static "java/lang/Integer" "DigitTens" "[B") (Jvm.Term.int (43 : Int32))) (Jvm.Term.int (52 : Int32))) ∈ NF := List.mem_of_getElem? (i := 160) (by decide +kernel)
theorem nf_161 : (Jvm.Cond.eq (Jvm.Term.elem (Jvm.Term.static "java/lang/Integer" "DigitTens" "[B") (Jvm.Term.int (44 : Int32))) (Jvm.Term.int (52 : Int32))) ∈ NF := List.mem_of_getElem? (i := 161) (by decide +kernel)
theorem nf_162 : (Jvm.Cond.eq (Jvm.Term.elem (Jvm.Term.static "java/lang/Integer" "DigitTens" "[B") (Jvm.Term.int (45 : Int32))) (Jvm.Term.int (52 : Int32))) ∈ NF := List.mem_of_getElem? (i := 162) (by decide +kernel)
theorem nf_163 : (Jvm.Cond.eq (Jvm.Term.elem (Jvm.Term.static "java/lang/Integer" "DigitTens" "[B") (Jvm.Term.int (46 : Int32))) (Jvm.Term.int (52 : Int32))) ∈ NF := List.mem_of_getElem? (i := 163) (by decide +kernel)
theorem nf_164 : (Jvm.Cond.eq (Jvm.Term.elem (Jvm.Term.static "java/lang/Integer" "DigitTens" "[B") (Jvm.Term.int (47 : Int32))) (Jvm.Term.int (52 : Int32))) ∈ NF := List.mem_of_getElem? (i := 164) (by decide +kernel)
theorem nf_165 : (Jvm.Cond.eq (Jvm.Term.elem (Jvm.Term.static "java/lang/Integer" "DigitTens" "[B") (Jvm.Term.int (48 : Int32))) (Jvm.Term.int (52 : Int32))) ∈ NF := List.mem_of_getElem? (i := 165) (by decide +kernel)
theorem nf_166 : (Jvm.Cond.eq (Jvm.Term.elem (Jvm.Term.static "java/lang/Integer" "DigitTens" "[B") (Jvm.Term.int (49 : Int32))) (Jvm.Term.int (52 : Int32))) ∈ NF := List.mem_of_getElem? (i := 166) (by decide +kernel)
theorem nf_167 : (Jvm.Cond.eq (Jvm.Term.elem (Jvm.Term.static "java/lang/Integer" "DigitTens" "[B") (Jvm.Term.int (50 : Int32))) (Jvm.Term.int (53 : Int32))) ∈ NF := List.mem_of_getElem? (i := 167) (by decide +kernel)
theorem nf_168 : (Jvm.Cond.eq (Jvm.Term.elem (Jvm.Term.static "java/lang/Integer" "DigitTens" "[B") (Jvm.Term.int (51 : Int32))) (Jvm.Term.int (53 : Int32))) ∈ NF := List.mem_of_getElem? (i := 168) (by decide +kernel)
theorem nf_169 : (Jvm.Cond.eq (Jvm.Term.elem (Jvm.Term.static "java/lang/Integer" "DigitTens" "[B") (Jvm.Term.int (52 : Int32))) (Jvm.Term.int (53 : Int32))) ∈ NF := List.mem_of_getElem? (i := 169) (by decide +kernel)
theorem nf_170 : (Jvm.Cond.eq (Jvm.Term.elem (Jvm.Term.static "java/lang/Integer" "DigitTens" "[B") (Jvm.Term.int (53 : Int32))) (Jvm.Term.int (53 : Int32))) ∈ NF := List.mem_of_getElem? (i := 170) (by decide +kernel)
theorem nf_171 : (Jvm.Cond.eq (Jvm.Term.elem (Jvm.Term.static "java/lang/Integer" "DigitTens" "[B") (Jvm.Term.int (54 : Int32))) (Jvm.Term.int (53 : Int32))) ∈ NF := List.mem_of_getElem? (i := 171) (by decide +kernel)
theorem nf_172 : (Jvm.Cond.eq (Jvm.Term.elem (Jvm.Term.static "java/lang/Integer" "DigitTens" "[B") (Jvm.Term.int (55 : Int32))) (Jvm.Term.int (53 : Int32))) ∈ NF := List.mem_of_getElem? (i := 172) (by decide +kernel)
theorem nf_173 : (Jvm.Cond.eq (Jvm.Term.elem (Jvm.Term.static "java/lang/Integer" "DigitTens" "[B") (Jvm.Term.int (56 : Int32))) (Jvm.Term.int (53 : Int32))) ∈ NF := List.mem_of_getElem? (i := 173) (by decide +kernel)
theorem nf_174 : (Jvm.Cond.eq (Jvm.Term.elem (Jvm.Term.static "java/lang/Integer" "DigitTens" "[B") (Jvm.Term.int (57 : Int32))) (Jvm.Term.int (53 : Int32))) ∈ NF := List.mem_of_getElem? (i := 174) (by decide +kernel)
theorem nf_175 : (Jvm.Cond.eq (Jvm.Term.elem (Jvm.Term.static "java/lang/Integer" "DigitTens" "[B") (Jvm.Term.int (58 : Int32))) (Jvm.Term.int (53 : Int32))) ∈ NF := List.mem_of_getElem? (i := 175) (by decide +kernel)
theorem nf_176 : (Jvm.Cond.eq (Jvm.Term.elem (Jvm.Term.static "java/lang/Integer" "DigitTens" "[B") (Jvm.Term.int (59 : Int32))) (Jvm.Term.int (53 : Int32))) ∈ NF := List.mem_of_getElem? (i := 176) (by decide +kernel)
theorem nf_177 : (Jvm.Cond.eq (Jvm.Term.elem (Jvm.Term.static "java/lang/Integer" "DigitTens" "[B") (Jvm.Term.int (60 : Int32))) (Jvm.Term.int (54 : Int32))) ∈ NF := List.mem_of_getElem? (i := 177) (by decide +kernel)
theorem nf_178 : (Jvm.Cond.eq (Jvm.Term.elem (Jvm.Term.static "java/lang/Integer" "DigitTens" "[B") (Jvm.Term.int (61 : Int32))) (Jvm.Term.int (54 : Int32))) ∈ NF := List.mem_of_getElem? (i := 178) (by decide +kernel)
theorem nf_179 : (Jvm.Cond.eq (Jvm.Term.elem (Jvm.Term.static "java/lang/Integer" "DigitTens" "[B") (Jvm.Term.int (62 : Int32))) (Jvm.Term.int (54 : Int32))) ∈ NF := List.mem_of_getElem? (i := 179) (by decide +kernel)
theorem nf_180 : (Jvm.Cond.eq (Jvm.Term.elem (Jvm.Term.static "java/lang/Integer" "DigitTens" "[B") (Jvm.Term.int (63 : Int32))) (Jvm.Term.int (54 : Int32))) ∈ NF := List.mem_of_getElem? (i := 180) (by decide +kernel)
theorem nf_181 : (Jvm.Cond.eq (Jvm.Term.elem (Jvm.Term.static "java/lang/Integer" "DigitTens" "[B") (Jvm.Term.int (64 : Int32))) (Jvm.Term.int (54 : Int32))) ∈ NF := List.mem_of_getElem? (i := 181) (by decide +kernel)
theorem nf_182 : (Jvm.Cond.eq (Jvm.Term.elem (Jvm.Term.static "java/lang/Integer" "DigitTens" "[B") (Jvm.Term.int (65 : Int32))) (Jvm.Term.int (54 : Int32))) ∈ NF := List.mem_of_getElem? (i := 182) (by decide +kernel)
theorem nf_183 : (Jvm.Cond.eq (Jvm.Term.elem (Jvm.Term.static "java/lang/Integer" "DigitTens" "[B") (Jvm.Term.int (66 : Int32))) (Jvm.Term.int (54 : Int32))) ∈ NF := List.mem_of_getElem? (i := 183) (by decide +kernel)
theorem nf_184 : (Jvm.Cond.eq (Jvm.Term.elem (Jvm.Term.static "java/lang/Integer" "DigitTens" "[B") (Jvm.Term.int (67 : Int32))) (Jvm.Term.int (54 : Int32))) ∈ NF := List.mem_of_getElem? (i := 184) (by decide +kernel)
theorem nf_185 : (Jvm.Cond.eq (Jvm.Term.elem (Jvm.Term.static "java/lang/Integer" "DigitTens" "[B") (Jvm.Term.int (68 : Int32))) (Jvm.Term.int (54 : Int32))) ∈ NF := List.mem_of_getElem? (i := 185) (by decide +kernel)
theorem nf_186 : (Jvm.Cond.eq (Jvm.Term.elem (Jvm.Term.static "java/lang/Integer" "DigitTens" "[B") (Jvm.Term.int (69 : Int32))) (Jvm.Term.int (54 : Int32))) ∈ NF := List.mem_of_getElem? (i := 186) (by decide +kernel)
theorem nf_187 : (Jvm.Cond.eq (Jvm.Term.elem (Jvm.Term.static "java/lang/Integer" "DigitTens" "[B") (Jvm.Term.int (70 : Int32))) (Jvm.Term.int (55 : Int32))) ∈ NF := List.mem_of_getElem? (i := 187) (by decide +kernel)
theorem nf_188 : (Jvm.Cond.eq (Jvm.Term.elem (Jvm.Term.static "java/lang/Integer" "DigitTens" "[B") (Jvm.Term.int (71 : Int32))) (Jvm.Term.int (55 : Int32))) ∈ NF := List.mem_of_getElem? (i := 188) (by decide +kernel)
theorem nf_189 : (Jvm.Cond.eq (Jvm.Term.elem (Jvm.Term.static "java/lang/Integer" "DigitTens" "[B") (Jvm.Term.int (72 : Int32))) (Jvm.Term.int (55 : Int32))) ∈ NF := List.mem_of_getElem? (i := 189) (by decide +kernel)
theorem nf_190 : (Jvm.Cond.eq (Jvm.Term.elem (Jvm.Term.static "java/lang/Integer" "DigitTens" "[B") (Jvm.Term.int (73 : Int32))) (Jvm.Term.int (55 : Int32))) ∈ NF := List.mem_of_getElem? (i := 190) (by decide +kernel)
theorem nf_191 : (Jvm.Cond.eq (Jvm.Term.elem (Jvm.Term.static "java/lang/Integer" "DigitTens" "[B") (Jvm.Term.int (74 : Int32))) (Jvm.Term.int (55 : Int32))) ∈ NF := List.mem_of_getElem? (i := 191) (by decide +kernel)
theorem nf_192 : (Jvm.Cond.eq (Jvm.Term.elem (Jvm.Term.static "java/lang/Integer" "DigitTens" "[B") (Jvm.Term.int (75 : Int32))) (Jvm.Term.int (55 : Int32))) ∈ NF := List.mem_of_getElem? (i := 192) (by decide +kernel)
theorem nf_193 : (Jvm.Cond.eq (Jvm.Term.elem (Jvm.Term.static "java/lang/Integer" "DigitTens" "[B") (Jvm.Term.int (76 : Int32))) (Jvm.Term.int (55 : Int32))) ∈ NF := List.mem_of_getElem? (i := 193) (by decide +kernel)
theorem nf_194 : (Jvm.Cond.eq (Jvm.Term.elem (Jvm.Term.static "java/lang/Integer" "DigitTens" "[B") (Jvm.Term.int (77 : Int32))) (Jvm.Term.int (55 : Int32))) ∈ NF := List.mem_of_getElem? (i := 194) (by decide +kernel)
theorem nf_195 : (Jvm.Cond.eq (Jvm.Term.elem (Jvm.Term.static "java/lang/Integer" "DigitTens" "[B") (Jvm.Term.int (78 : Int32))) (Jvm.Term.int (55 : Int32))) ∈ NF := List.mem_of_getElem? (i := 195) (by decide +kernel)
theorem nf_196 : (Jvm.Cond.eq (Jvm.Term.elem (Jvm.Term.static "java/lang/Integer" "DigitTens" "[B") (Jvm.Term.int (79 : Int32))) (Jvm.Term.int (55 : Int32))) ∈ NF := List.mem_of_getElem? (i := 196) (by decide +kernel)
theorem nf_197 : (Jvm.Cond.eq (Jvm.Term.elem (Jvm.Term.static "java/lang/Integer" "DigitTens" "[B") (Jvm.Term.int (80 : Int32))) (Jvm.Term.int (56 : Int32))) ∈ NF := List.mem_of_getElem? (i := 197) (by decide +kernel)
theorem nf_198 : (Jvm.Cond.eq (Jvm.Term.elem (Jvm.Term.static "java/lang/Integer" "DigitTens" "[B") (Jvm.Term.int (81 : Int32))) (Jvm.Term.int (56 : Int32))) ∈ NF := List.mem_of_getElem? (i := 198) (by decide +kernel)
theorem nf_199 : (Jvm.Cond.eq (Jvm.Term.elem (Jvm.Term.static "java/lang/Integer" "DigitTens" "[B") (Jvm.Term.int (82 : Int32))) (Jvm.Term.int (56 : Int32))) ∈ NF := List.mem_of_getElem? (i := 199) (by decide +kernel)
theorem nf_200 : (Jvm.Cond.eq (Jvm.Term.elem (Jvm.Term.static "java/lang/Integer" "DigitTens" "[B") (Jvm.Term.int (83 : Int32))) (Jvm.Term.int (56 : Int32))) ∈ NF := List.mem_of_getElem? (i := 200) (by decide +kernel)
theorem nf_201 : (Jvm.Cond.eq (Jvm.Term.elem (Jvm.Term.static "java/lang/Integer" "DigitTens" "[B") (Jvm.Term.int (84 : Int32))) (Jvm.Term.int (56 : Int32))) ∈ NF := List.mem_of_getElem? (i := 201) (by decide +kernel)
theorem nf_202 : (Jvm.Cond.eq (Jvm.Term.elem (Jvm.Term.static "java/lang/Integer" "DigitTens" "[B") (Jvm.Term.int (85 : Int32))) (Jvm.Term.int (56 : Int32))) ∈ NF := List.mem_of_getElem? (i := 202) (by decide +kernel)
theorem nf_203 : (Jvm.Cond.eq (Jvm.Term.elem (Jvm.Term.static "java/lang/Integer" "DigitTens" "[B") (Jvm.Term.int (86 : Int32))) (Jvm.Term.int (56 : Int32))) ∈ NF := List.mem_of_getElem? (i := 203) (by decide +kernel)
theorem nf_204 : (Jvm.Cond.eq (Jvm.Term.elem (Jvm.Term.static "java/lang/Integer" "DigitTens" "[B") (Jvm.Term.int (87 : Int32))) (Jvm.Term.int (56 : Int32))) ∈ NF := List.mem_of_getElem? (i := 204) (by decide +kernel)
theorem nf_205 : (Jvm.Cond.eq (Jvm.Term.elem (Jvm.Term.static "java/lang/Integer" "DigitTens" "[B") (Jvm.Term.int (88 : Int32))) (Jvm.Term.int (56 : Int32))) ∈ NF := List.mem_of_getElem? (i := 205) (by decide +kernel)
theorem nf_206 : (Jvm.Cond.eq (Jvm.Term.elem (Jvm.Term.static "java/lang/Integer" "DigitTens" "[B") (Jvm.Term.int (89 : Int32))) (Jvm.Term.int (56 : Int32))) ∈ NF := List.mem_of_getElem? (i := 206) (by decide +kernel)
theorem nf_207 : (Jvm.Cond.eq (Jvm.Term.elem (Jvm.Term.static "java/lang/Integer" "DigitTens" "[B") (Jvm.Term.int (90 : Int32))) (Jvm.Term.int (57 : Int32))) ∈ NF := List.mem_of_getElem? (i := 207) (by decide +kernel)
theorem nf_208 : (Jvm.Cond.eq (Jvm.Term.elem (Jvm.Term.static "java/lang/Integer" "DigitTens" "[B") (Jvm.Term.int (91 : Int32))) (Jvm.Term.int (57 : Int32))) ∈ NF := List.mem_of_getElem? (i := 208) (by decide +kernel)
theorem nf_209 : (Jvm.Cond.eq (Jvm.Term.elem (Jvm.Term.static "java/lang/Integer" "DigitTens" "[B") (Jvm.Term.int (92 : Int32))) (Jvm.Term.int (57 : Int32))) ∈ NF := List.mem_of_getElem? (i := 209) (by decide +kernel)
theorem nf_210 : (Jvm.Cond.eq (Jvm.Term.elem (Jvm.Term.static "java/lang/Integer" "DigitTens" "[B") (Jvm.Term.int (93 : Int32))) (Jvm.Term.int (57 : Int32))) ∈ NF := List.mem_of_getElem? (i := 210) (by decide +kernel)
theorem nf_211 : (Jvm.Cond.eq (Jvm.Term.elem (Jvm.Term.static "java/lang/Integer" "DigitTens" "[B") (Jvm.Term.int (94 : Int32))) (Jvm.Term.int (57 : Int32))) ∈ NF := List.mem_of_getElem? (i := 211) (by decide +kernel)
theorem nf_212 : (Jvm.Cond.eq (Jvm.Term.elem (Jvm.Term.static "java/lang/Integer" "DigitTens" "[B") (Jvm.Term.int (95 : Int32))) (Jvm.Term.int (57 : Int32))) ∈ NF := List.mem_of_getElem? (i := 212) (by decide +kernel)
theorem nf_213 : (Jvm.Cond.eq (Jvm.Term.elem (Jvm.Term.static "java/lang/Integer" "DigitTens" "[B") (Jvm.Term.int (96 : Int32))) (Jvm.Term.int (57 : Int32))) ∈ NF := List.mem_of_getElem? (i := 213) (by decide +kernel)
theorem nf_214 : (Jvm.Cond.eq (Jvm.Term.elem (Jvm.Term.static "java/lang/Integer" "DigitTens" "[B") (Jvm.Term.int (97 : Int32))) (Jvm.Term.int (57 : Int32))) ∈ NF := List.mem_of_getElem? (i := 214) (by decide +kernel)
theorem nf_215 : (Jvm.Cond.eq (Jvm.Term.elem (Jvm.Term.static "java/lang/Integer" "DigitTens" "[B") (Jvm.Term.int (98 : Int32))) (Jvm.Term.int (57 : Int32))) ∈ NF := List.mem_of_getElem? (i := 215) (by decide +kernel)
theorem nf_216 : (Jvm.Cond.eq (Jvm.Term.elem (Jvm.Term.static "java/lang/Integer" "DigitTens" "[B") (Jvm.Term.int (99 : Int32))) (Jvm.Term.int (57 : Int32))) ∈ NF := List.mem_of_getElem? (i := 216) (by decide +kernel)
theorem nf_226 : (Jvm.Cond.not (Jvm.Cond.castable "java/lang/IndexOutOfBoundsException" "java/lang/IllegalArgumentException")) ∈ NF := List.mem_of_getElem? (i := 226) (by decide +kernel)
theorem nf_227 : (Jvm.Cond.not (Jvm.Cond.castable "java/lang/IllegalStateException" "java/lang/IllegalArgumentException")) ∈ NF := List.mem_of_getElem? (i := 227) (by decide +kernel)
theorem nf_228 : (Jvm.Cond.exactly (Jvm.Term.string "ForesightHub" (118 : Nat)) "java/lang/String") ∈ NF := List.mem_of_getElem? (i := 228) (by decide +kernel)
theorem nf_246 : (Jvm.Cond.exactly (Jvm.Term.string "ForesightHub" (304 : Nat)) "java/lang/String") ∈ NF := List.mem_of_getElem? (i := 246) (by decide +kernel)
theorem nf_264 : (Jvm.Cond.exactly (Jvm.Term.string "ForesightHub" (161 : Nat)) "java/lang/String") ∈ NF := List.mem_of_getElem? (i := 264) (by decide +kernel)
theorem nf_296 : (Jvm.Cond.exactly (Jvm.Term.string "ForesightHubLaw" (29 : Nat)) "java/lang/String") ∈ NF := List.mem_of_getElem? (i := 296) (by decide +kernel)
theorem nf_297 : (Jvm.Cond.eq (Jvm.Term.field (Jvm.Term.string "ForesightHubLaw" (29 : Nat)) "java/lang/String" "coder" "B") (Jvm.Term.int (0 : Int32))) ∈ NF := List.mem_of_getElem? (i := 297) (by decide +kernel)
theorem nf_298 : (Jvm.Cond.arrayOf (Jvm.Term.field (Jvm.Term.string "ForesightHubLaw" (29 : Nat)) "java/lang/String" "value" "[B") Jvm.ClassFile.FieldType.byte) ∈ NF := List.mem_of_getElem? (i := 298) (by decide +kernel)
theorem nf_299 : (Jvm.Cond.eq (Jvm.Term.length (Jvm.Term.field (Jvm.Term.string "ForesightHubLaw" (29 : Nat)) "java/lang/String" "value" "[B")) (Jvm.Term.int (4 : Int32))) ∈ NF := List.mem_of_getElem? (i := 299) (by decide +kernel)
theorem nf_300 : (Jvm.Cond.eq (Jvm.Term.elem (Jvm.Term.field (Jvm.Term.string "ForesightHubLaw" (29 : Nat)) "java/lang/String" "value" "[B") (Jvm.Term.int (0 : Int32))) (Jvm.Term.int (104 : Int32))) ∈ NF := List.mem_of_getElem? (i := 300) (by decide +kernel)
theorem nf_301 : (Jvm.Cond.eq (Jvm.Term.elem (Jvm.Term.field (Jvm.Term.string "ForesightHubLaw" (29 : Nat)) "java/lang/String" "value" "[B") (Jvm.Term.int (1 : Int32))) (Jvm.Term.int (117 : Int32))) ∈ NF := List.mem_of_getElem? (i := 301) (by decide +kernel)
theorem nf_302 : (Jvm.Cond.eq (Jvm.Term.elem (Jvm.Term.field (Jvm.Term.string "ForesightHubLaw" (29 : Nat)) "java/lang/String" "value" "[B") (Jvm.Term.int (2 : Int32))) (Jvm.Term.int (98 : Int32))) ∈ NF := List.mem_of_getElem? (i := 302) (by decide +kernel)
theorem nf_303 : (Jvm.Cond.eq (Jvm.Term.elem (Jvm.Term.field (Jvm.Term.string "ForesightHubLaw" (29 : Nat)) "java/lang/String" "value" "[B") (Jvm.Term.int (3 : Int32))) (Jvm.Term.int (32 : Int32))) ∈ NF := List.mem_of_getElem? (i := 303) (by decide +kernel)
theorem nf_304 : (Jvm.Cond.exactly (Jvm.Term.string "ForesightHubLaw" (38 : Nat)) "java/lang/String") ∈ NF := List.mem_of_getElem? (i := 304) (by decide +kernel)
theorem nf_305 : (Jvm.Cond.eq (Jvm.Term.field (Jvm.Term.string "ForesightHubLaw" (38 : Nat)) "java/lang/String" "coder" "B") (Jvm.Term.int (0 : Int32))) ∈ NF := List.mem_of_getElem? (i := 305) (by decide +kernel)
theorem nf_306 : (Jvm.Cond.arrayOf (Jvm.Term.field (Jvm.Term.string "ForesightHubLaw" (38 : Nat)) "java/lang/String" "value" "[B") Jvm.ClassFile.FieldType.byte) ∈ NF := List.mem_of_getElem? (i := 306) (by decide +kernel)
theorem nf_307 : (Jvm.Cond.eq (Jvm.Term.length (Jvm.Term.field (Jvm.Term.string "ForesightHubLaw" (38 : Nat)) "java/lang/String" "value" "[B")) (Jvm.Term.int (3 : Int32))) ∈ NF := List.mem_of_getElem? (i := 307) (by decide +kernel)
theorem nf_308 : (Jvm.Cond.eq (Jvm.Term.elem (Jvm.Term.field (Jvm.Term.string "ForesightHubLaw" (38 : Nat)) "java/lang/String" "value" "[B") (Jvm.Term.int (0 : Int32))) (Jvm.Term.int (32 : Int32))) ∈ NF := List.mem_of_getElem? (i := 308) (by decide +kernel)
theorem nf_309 : (Jvm.Cond.eq (Jvm.Term.elem (Jvm.Term.field (Jvm.Term.string "ForesightHubLaw" (38 : Nat)) "java/lang/String" "value" "[B") (Jvm.Term.int (1 : Int32))) (Jvm.Term.int (53 : Int32))) ∈ NF := List.mem_of_getElem? (i := 309) (by decide +kernel)
theorem nf_310 : (Jvm.Cond.eq (Jvm.Term.elem (Jvm.Term.field (Jvm.Term.string "ForesightHubLaw" (38 : Nat)) "java/lang/String" "value" "[B") (Jvm.Term.int (2 : Int32))) (Jvm.Term.int (59 : Int32))) ∈ NF := List.mem_of_getElem? (i := 310) (by decide +kernel)
theorem nf_311 : (Jvm.Cond.exactly (Jvm.Term.string "ForesightHubLaw" (43 : Nat)) "java/lang/String") ∈ NF := List.mem_of_getElem? (i := 311) (by decide +kernel)
theorem nf_312 : (Jvm.Cond.eq (Jvm.Term.field (Jvm.Term.string "ForesightHubLaw" (43 : Nat)) "java/lang/String" "coder" "B") (Jvm.Term.int (0 : Int32))) ∈ NF := List.mem_of_getElem? (i := 312) (by decide +kernel)
theorem nf_313 : (Jvm.Cond.arrayOf (Jvm.Term.field (Jvm.Term.string "ForesightHubLaw" (43 : Nat)) "java/lang/String" "value" "[B") Jvm.ClassFile.FieldType.byte) ∈ NF := List.mem_of_getElem? (i := 313) (by decide +kernel)
theorem nf_314 : (Jvm.Cond.eq (Jvm.Term.length (Jvm.Term.field (Jvm.Term.string "ForesightHubLaw" (43 : Nat)) "java/lang/String" "value" "[B")) (Jvm.Term.int (9 : Int32))) ∈ NF := List.mem_of_getElem? (i := 314) (by decide +kernel)
theorem nf_315 : (Jvm.Cond.eq (Jvm.Term.elem (Jvm.Term.field (Jvm.Term.string "ForesightHubLaw" (43 : Nat)) "java/lang/String" "value" "[B") (Jvm.Term.int (0 : Int32))) (Jvm.Term.int (112 : Int32))) ∈ NF := List.mem_of_getElem? (i := 315) (by decide +kernel)
theorem nf_316 : (Jvm.Cond.eq (Jvm.Term.elem (Jvm.Term.field (Jvm.Term.string "ForesightHubLaw" (43 : Nat)) "java/lang/String" "value" "[B") (Jvm.Term.int (1 : Int32))) (Jvm.Term.int (97 : Int32))) ∈ NF := List.mem_of_getElem? (i := 316) (by decide +kernel)
theorem nf_317 : (Jvm.Cond.eq (Jvm.Term.elem (Jvm.Term.field (Jvm.Term.string "ForesightHubLaw" (43 : Nat)) "java/lang/String" "value" "[B") (Jvm.Term.int (2 : Int32))) (Jvm.Term.int (116 : Int32))) ∈ NF := List.mem_of_getElem? (i := 317) (by decide +kernel)
theorem nf_318 : (Jvm.Cond.eq (Jvm.Term.elem (Jvm.Term.field (Jvm.Term.string "ForesightHubLaw" (43 : Nat)) "java/lang/String" "value" "[B") (Jvm.Term.int (3 : Int32))) (Jvm.Term.int (116 : Int32))) ∈ NF := List.mem_of_getElem? (i := 318) (by decide +kernel)
theorem nf_319 : (Jvm.Cond.eq (Jvm.Term.elem (Jvm.Term.field (Jvm.Term.string "ForesightHubLaw" (43 : Nat)) "java/lang/String" "value" "[B") (Jvm.Term.int (4 : Int32))) (Jvm.Term.int (101 : Int32))) ∈ NF := List.mem_of_getElem? (i := 319) (by decide +kernel)
theorem nf_320 : (Jvm.Cond.eq (Jvm.Term.elem (Jvm.Term.field (Jvm.Term.string "ForesightHubLaw" (43 : Nat)) "java/lang/String" "value" "[B") (Jvm.Term.int (5 : Int32))) (Jvm.Term.int (114 : Int32))) ∈ NF := List.mem_of_getElem? (i := 320) (by decide +kernel)
theorem nf_321 : (Jvm.Cond.eq (Jvm.Term.elem (Jvm.Term.field (Jvm.Term.string "ForesightHubLaw" (43 : Nat)) "java/lang/String" "value" "[B") (Jvm.Term.int (6 : Int32))) (Jvm.Term.int (110 : Int32))) ∈ NF := List.mem_of_getElem? (i := 321) (by decide +kernel)
theorem nf_322 : (Jvm.Cond.eq (Jvm.Term.elem (Jvm.Term.field (Jvm.Term.string "ForesightHubLaw" (43 : Nat)) "java/lang/String" "value" "[B") (Jvm.Term.int (7 : Int32))) (Jvm.Term.int (32 : Int32))) ∈ NF := List.mem_of_getElem? (i := 322) (by decide +kernel)
theorem nf_323 : (Jvm.Cond.eq (Jvm.Term.elem (Jvm.Term.field (Jvm.Term.string "ForesightHubLaw" (43 : Nat)) "java/lang/String" "value" "[B") (Jvm.Term.int (8 : Int32))) (Jvm.Term.int (112 : Int32))) ∈ NF := List.mem_of_getElem? (i := 323) (by decide +kernel)
theorem nf_324 : (Jvm.Cond.exactly (Jvm.Term.string "ForesightHubLaw" (48 : Nat)) "java/lang/String") ∈ NF := List.mem_of_getElem? (i := 324) (by decide +kernel)
theorem nf_325 : (Jvm.Cond.eq (Jvm.Term.field (Jvm.Term.string "ForesightHubLaw" (48 : Nat)) "java/lang/String" "coder" "B") (Jvm.Term.int (0 : Int32))) ∈ NF := List.mem_of_getElem? (i := 325) (by decide +kernel)
theorem nf_326 : (Jvm.Cond.arrayOf (Jvm.Term.field (Jvm.Term.string "ForesightHubLaw" (48 : Nat)) "java/lang/String" "value" "[B") Jvm.ClassFile.FieldType.byte) ∈ NF := List.mem_of_getElem? (i := 326) (by decide +kernel)
theorem nf_327 : (Jvm.Cond.eq (Jvm.Term.length (Jvm.Term.field (Jvm.Term.string "ForesightHubLaw" (48 : Nat)) "java/lang/String" "value" "[B")) (Jvm.Term.int (1 : Int32))) ∈ NF := List.mem_of_getElem? (i := 327) (by decide +kernel)
theorem nf_328 : (Jvm.Cond.eq (Jvm.Term.elem (Jvm.Term.field (Jvm.Term.string "ForesightHubLaw" (48 : Nat)) "java/lang/String" "value" "[B") (Jvm.Term.int (0 : Int32))) (Jvm.Term.int (32 : Int32))) ∈ NF := List.mem_of_getElem? (i := 328) (by decide +kernel)
theorem nf_329 : (Jvm.Cond.exactly (Jvm.Term.string "ForesightHubLaw" (15 : Nat)) "java/lang/String") ∈ NF := List.mem_of_getElem? (i := 329) (by decide +kernel)
theorem nf_330 : (Jvm.Cond.eq (Jvm.Term.field (Jvm.Term.string "ForesightHubLaw" (15 : Nat)) "java/lang/String" "coder" "B") (Jvm.Term.int (0 : Int32))) ∈ NF := List.mem_of_getElem? (i := 330) (by decide +kernel)
theorem nf_331 : (Jvm.Cond.arrayOf (Jvm.Term.field (Jvm.Term.string "ForesightHubLaw" (15 : Nat)) "java/lang/String" "value" "[B") Jvm.ClassFile.FieldType.byte) ∈ NF := List.mem_of_getElem? (i := 331) (by decide +kernel)
theorem nf_332 : (Jvm.Cond.eq (Jvm.Term.length (Jvm.Term.field (Jvm.Term.string "ForesightHubLaw" (15 : Nat)) "java/lang/String" "value" "[B")) (Jvm.Term.int (4 : Int32))) ∈ NF := List.mem_of_getElem? (i := 332) (by decide +kernel)
theorem nf_333 : (Jvm.Cond.eq (Jvm.Term.elem (Jvm.Term.field (Jvm.Term.string "ForesightHubLaw" (15 : Nat)) "java/lang/String" "value" "[B") (Jvm.Term.int (0 : Int32))) (Jvm.Term.int (32 : Int32))) ∈ NF := List.mem_of_getElem? (i := 333) (by decide +kernel)
theorem nf_334 : (Jvm.Cond.eq (Jvm.Term.elem (Jvm.Term.field (Jvm.Term.string "ForesightHubLaw" (15 : Nat)) "java/lang/String" "value" "[B") (Jvm.Term.int (1 : Int32))) (Jvm.Term.int (99 : Int32))) ∈ NF := List.mem_of_getElem? (i := 334) (by decide +kernel)
theorem nf_335 : (Jvm.Cond.eq (Jvm.Term.elem (Jvm.Term.field (Jvm.Term.string "ForesightHubLaw" (15 : Nat)) "java/lang/String" "value" "[B") (Jvm.Term.int (2 : Int32))) (Jvm.Term.int (114 : Int32))) ∈ NF := List.mem_of_getElem? (i := 335) (by decide +kernel)
theorem nf_336 : (Jvm.Cond.eq (Jvm.Term.elem (Jvm.Term.field (Jvm.Term.string "ForesightHubLaw" (15 : Nat)) "java/lang/String" "value" "[B") (Jvm.Term.int (3 : Int32))) (Jvm.Term.int (99 : Int32))) ∈ NF := List.mem_of_getElem? (i := 336) (by decide +kernel)
theorem nf_337 : (Jvm.Cond.exactly (Jvm.Term.string "ForesightHubLaw" (17 : Nat)) "java/lang/String") ∈ NF := List.mem_of_getElem? (i := 337) (by decide +kernel)
theorem nf_338 : (Jvm.Cond.eq (Jvm.Term.field (Jvm.Term.string "ForesightHubLaw" (17 : Nat)) "java/lang/String" "coder" "B") (Jvm.Term.int (0 : Int32))) ∈ NF := List.mem_of_getElem? (i := 338) (by decide +kernel)
theorem nf_339 : (Jvm.Cond.arrayOf (Jvm.Term.field (Jvm.Term.string "ForesightHubLaw" (17 : Nat)) "java/lang/String" "value" "[B") Jvm.ClassFile.FieldType.byte) ∈ NF := List.mem_of_getElem? (i := 339) (by decide +kernel)
theorem nf_340 : (Jvm.Cond.eq (Jvm.Term.length (Jvm.Term.field (Jvm.Term.string "ForesightHubLaw" (17 : Nat)) "java/lang/String" "value" "[B")) (Jvm.Term.int (6 : Int32))) ∈ NF := List.mem_of_getElem? (i := 340) (by decide +kernel)
theorem nf_341 : (Jvm.Cond.eq (Jvm.Term.elem (Jvm.Term.field (Jvm.Term.string "ForesightHubLaw" (17 : Nat)) "java/lang/String" "value" "[B") (Jvm.Term.int (0 : Int32))) (Jvm.Term.int (32 : Int32))) ∈ NF := List.mem_of_getElem? (i := 341) (by decide +kernel)
theorem nf_342 : (Jvm.Cond.eq (Jvm.Term.elem (Jvm.Term.field (Jvm.Term.string "ForesightHubLaw" (17 : Nat)) "java/lang/String" "value" "[B") (Jvm.Term.int (1 : Int32))) (Jvm.Term.int (115 : Int32))) ∈ NF := List.mem_of_getElem? (i := 342) (by decide +kernel)
theorem nf_343 : (Jvm.Cond.eq (Jvm.Term.elem (Jvm.Term.field (Jvm.Term.string "ForesightHubLaw" (17 : Nat)) "java/lang/String" "value" "[B") (Jvm.Term.int (2 : Int32))) (Jvm.Term.int (116 : Int32))) ∈ NF := List.mem_of_getElem? (i := 343) (by decide +kernel)
theorem nf_344 : (Jvm.Cond.eq (Jvm.Term.elem (Jvm.Term.field (Jvm.Term.string "ForesightHubLaw" (17 : Nat)) "java/lang/String" "value" "[B") (Jvm.Term.int (3 : Int32))) (Jvm.Term.int (97 : Int32))) ∈ NF := List.mem_of_getElem? (i := 344) (by decide +kernel)
theorem nf_345 : (Jvm.Cond.eq (Jvm.Term.elem (Jvm.Term.field (Jvm.Term.string "ForesightHubLaw" (17 : Nat)) "java/lang/String" "value" "[B") (Jvm.Term.int (4 : Int32))) (Jvm.Term.int (108 : Int32))) ∈ NF := List.mem_of_getElem? (i := 345) (by decide +kernel)
theorem nf_346 : (Jvm.Cond.eq (Jvm.Term.elem (Jvm.Term.field (Jvm.Term.string "ForesightHubLaw" (17 : Nat)) "java/lang/String" "value" "[B") (Jvm.Term.int (5 : Int32))) (Jvm.Term.int (108 : Int32))) ∈ NF := List.mem_of_getElem? (i := 346) (by decide +kernel)
theorem nf_347 : (Jvm.Cond.exactly (Jvm.Term.string "ForesightHubLaw" (19 : Nat)) "java/lang/String") ∈ NF := List.mem_of_getElem? (i := 347) (by decide +kernel)
theorem nf_348 : (Jvm.Cond.eq (Jvm.Term.field (Jvm.Term.string "ForesightHubLaw" (19 : Nat)) "java/lang/String" "coder" "B") (Jvm.Term.int (0 : Int32))) ∈ NF := List.mem_of_getElem? (i := 348) (by decide +kernel)
theorem nf_349 : (Jvm.Cond.arrayOf (Jvm.Term.field (Jvm.Term.string "ForesightHubLaw" (19 : Nat)) "java/lang/String" "value" "[B") Jvm.ClassFile.FieldType.byte) ∈ NF := List.mem_of_getElem? (i := 349) (by decide +kernel)
theorem nf_350 : (Jvm.Cond.eq (Jvm.Term.length (Jvm.Term.field (Jvm.Term.string "ForesightHubLaw" (19 : Nat)) "java/lang/String" "value" "[B")) (Jvm.Term.int (7 : Int32))) ∈ NF := List.mem_of_getElem? (i := 350) (by decide +kernel)
theorem nf_351 : (Jvm.Cond.eq (Jvm.Term.elem (Jvm.Term.field (Jvm.Term.string "ForesightHubLaw" (19 : Nat)) "java/lang/String" "value" "[B") (Jvm.Term.int (0 : Int32))) (Jvm.Term.int (32 : Int32))) ∈ NF := List.mem_of_getElem? (i := 351) (by decide +kernel)
theorem nf_352 : (Jvm.Cond.eq (Jvm.Term.elem (Jvm.Term.field (Jvm.Term.string "ForesightHubLaw" (19 : Nat)) "java/lang/String" "value" "[B") (Jvm.Term.int (1 : Int32))) (Jvm.Term.int (106 : Int32))) ∈ NF := List.mem_of_getElem? (i := 352) (by decide +kernel)
theorem nf_353 : (Jvm.Cond.eq (Jvm.Term.elem (Jvm.Term.field (Jvm.Term.string "ForesightHubLaw" (19 : Nat)) "java/lang/String" "value" "[B") (Jvm.Term.int (2 : Int32))) (Jvm.Term.int (105 : Int32))) ∈ NF := List.mem_of_getElem? (i := 353) (by decide +kernel)
theorem nf_354 : (Jvm.Cond.eq (Jvm.Term.elem (Jvm.Term.field (Jvm.Term.string "ForesightHubLaw" (19 : Nat)) "java/lang/String" "value" "[B") (Jvm.Term.int (3 : Int32))) (Jvm.Term.int (116 : Int32))) ∈ NF := List.mem_of_getElem? (i := 354) (by decide +kernel)
theorem nf_355 : (Jvm.Cond.eq (Jvm.Term.elem (Jvm.Term.field (Jvm.Term.string "ForesightHubLaw" (19 : Nat)) "java/lang/String" "value" "[B") (Jvm.Term.int (4 : Int32))) (Jvm.Term.int (116 : Int32))) ∈ NF := List.mem_of_getElem? (i := 355) (by decide +kernel)
theorem nf_356 : (Jvm.Cond.eq (Jvm.Term.elem (Jvm.Term.field (Jvm.Term.string "ForesightHubLaw" (19 : Nat)) "java/lang/String" "value" "[B") (Jvm.Term.int (5 : Int32))) (Jvm.Term.int (101 : Int32))) ∈ NF := List.mem_of_getElem? (i := 356) (by decide +kernel)
theorem nf_357 : (Jvm.Cond.eq (Jvm.Term.elem (Jvm.Term.field (Jvm.Term.string "ForesightHubLaw" (19 : Nat)) "java/lang/String" "value" "[B") (Jvm.Term.int (6 : Int32))) (Jvm.Term.int (114 : Int32))) ∈ NF := List.mem_of_getElem? (i := 357) (by decide +kernel)
theorem nf_358 : (Jvm.Cond.exactly (Jvm.Term.string "ForesightHubLaw" (21 : Nat)) "java/lang/String") ∈ NF := List.mem_of_getElem? (i := 358) (by decide +kernel)
theorem nf_359 : (Jvm.Cond.eq (Jvm.Term.field (Jvm.Term.string "ForesightHubLaw" (21 : Nat)) "java/lang/String" "coder" "B") (Jvm.Term.int (0 : Int32))) ∈ NF := List.mem_of_getElem? (i := 359) (by decide +kernel)
theorem nf_360 : (Jvm.Cond.arrayOf (Jvm.Term.field (Jvm.Term.string "ForesightHubLaw" (21 : Nat)) "java/lang/String" "value" "[B") Jvm.ClassFile.FieldType.byte) ∈ NF := List.mem_of_getElem? (i := 360) (by decide +kernel)
theorem nf_361 : (Jvm.Cond.eq (Jvm.Term.length (Jvm.Term.field (Jvm.Term.string "ForesightHubLaw" (21 : Nat)) "java/lang/String" "value" "[B")) (Jvm.Term.int (6 : Int32))) ∈ NF := List.mem_of_getElem? (i := 361) (by decide +kernel)
theorem nf_362 : (Jvm.Cond.eq (Jvm.Term.elem (Jvm.Term.field (Jvm.Term.string "ForesightHubLaw" (21 : Nat)) "java/lang/String" "value" "[B") (Jvm.Term.int (0 : Int32))) (Jvm.Term.int (32 : Int32))) ∈ NF := List.mem_of_getElem? (i := 362) (by decide +kernel)
theorem nf_363 : (Jvm.Cond.eq (Jvm.Term.elem (Jvm.Term.field (Jvm.Term.string "ForesightHubLaw" (21 : Nat)) "java/lang/String" "value" "[B") (Jvm.Term.int (1 : Int32))) (Jvm.Term.int (112 : Int32))) ∈ NF := List.mem_of_getElem? (i := 363) (by decide +kernel)
theorem nf_364 : (Jvm.Cond.eq (Jvm.Term.elem (Jvm.Term.field (Jvm.Term.string "ForesightHubLaw" (21 : Nat)) "java/lang/String" "value" "[B") (Jvm.Term.int (2 : Int32))) (Jvm.Term.int (111 : Int32))) ∈ NF := List.mem_of_getElem? (i := 364) (by decide +kernel)
theorem nf_365 : (Jvm.Cond.eq (Jvm.Term.elem (Jvm.Term.field (Jvm.Term.string "ForesightHubLaw" (21 : Nat)) "java/lang/String" "value" "[B") (Jvm.Term.int (3 : Int32))) (Jvm.Term.int (119 : Int32))) ∈ NF := List.mem_of_getElem? (i := 365) (by decide +kernel)
theorem nf_366 : (Jvm.Cond.eq (Jvm.Term.elem (Jvm.Term.field (Jvm.Term.string "ForesightHubLaw" (21 : Nat)) "java/lang/String" "value" "[B") (Jvm.Term.int (4 : Int32))) (Jvm.Term.int (101 : Int32))) ∈ NF := List.mem_of_getElem? (i := 366) (by decide +kernel)
theorem nf_367 : (Jvm.Cond.eq (Jvm.Term.elem (Jvm.Term.field (Jvm.Term.string "ForesightHubLaw" (21 : Nat)) "java/lang/String" "value" "[B") (Jvm.Term.int (5 : Int32))) (Jvm.Term.int (114 : Int32))) ∈ NF := List.mem_of_getElem? (i := 367) (by decide +kernel)
theorem nf_368 : (Jvm.Cond.exactly (Jvm.Term.string "ForesightHubLaw" (54 : Nat)) "java/lang/String") ∈ NF := List.mem_of_getElem? (i := 368) (by decide +kernel)
theorem nf_369 : (Jvm.Cond.eq (Jvm.Term.field (Jvm.Term.string "ForesightHubLaw" (54 : Nat)) "java/lang/String" "coder" "B") (Jvm.Term.int (0 : Int32))) ∈ NF := List.mem_of_getElem? (i := 369) (by decide +kernel)
theorem nf_370 : (Jvm.Cond.arrayOf (Jvm.Term.field (Jvm.Term.string "ForesightHubLaw" (54 : Nat)) "java/lang/String" "value" "[B") Jvm.ClassFile.FieldType.byte) ∈ NF := List.mem_of_getElem? (i := 370) (by decide +kernel)
theorem nf_371 : (Jvm.Cond.eq (Jvm.Term.length (Jvm.Term.field (Jvm.Term.string "ForesightHubLaw" (54 : Nat)) "java/lang/String" "value" "[B")) (Jvm.Term.int (1 : Int32))) ∈ NF := List.mem_of_getElem? (i := 371) (by decide +kernel)
theorem nf_372 : (Jvm.Cond.eq (Jvm.Term.elem (Jvm.Term.field (Jvm.Term.string "ForesightHubLaw" (54 : Nat)) "java/lang/String" "value" "[B") (Jvm.Term.int (0 : Int32))) (Jvm.Term.int (59 : Int32))) ∈ NF := List.mem_of_getElem? (i := 372) (by decide +kernel)
theorem nf_373 : (Jvm.Cond.exactly (Jvm.Term.string "ForesightHubLaw" (56 : Nat)) "java/lang/String") ∈ NF := List.mem_of_getElem? (i := 373) (by decide +kernel)
theorem nf_374 : (Jvm.Cond.eq (Jvm.Term.field (Jvm.Term.string "ForesightHubLaw" (56 : Nat)) "java/lang/String" "coder" "B") (Jvm.Term.int (0 : Int32))) ∈ NF := List.mem_of_getElem? (i := 374) (by decide +kernel)
theorem nf_375 : (Jvm.Cond.arrayOf (Jvm.Term.field (Jvm.Term.string "ForesightHubLaw" (56 : Nat)) "java/lang/String" "value" "[B") Jvm.ClassFile.FieldType.byte) ∈ NF := List.mem_of_getElem? (i := 375) (by decide +kernel)
theorem nf_376 : (Jvm.Cond.eq (Jvm.Term.length (Jvm.Term.field (Jvm.Term.string "ForesightHubLaw" (56 : Nat)) "java/lang/String" "value" "[B")) (Jvm.Term.int (8 : Int32))) ∈ NF := List.mem_of_getElem? (i := 376) (by decide +kernel)
theorem nf_377 : (Jvm.Cond.eq (Jvm.Term.elem (Jvm.Term.field (Jvm.Term.string "ForesightHubLaw" (56 : Nat)) "java/lang/String" "value" "[B") (Jvm.Term.int (0 : Int32))) (Jvm.Term.int (100 : Int32))) ∈ NF := List.mem_of_getElem? (i := 377) (by decide +kernel)
theorem nf_378 : (Jvm.Cond.eq (Jvm.Term.elem (Jvm.Term.field (Jvm.Term.string "ForesightHubLaw" (56 : Nat)) "java/lang/String" "value" "[B") (Jvm.Term.int (1 : Int32))) (Jvm.Term.int (101 : Int32))) ∈ NF := List.mem_of_getElem? (i := 378) (by decide +kernel)
theorem nf_379 : (Jvm.Cond.eq (Jvm.Term.elem (Jvm.Term.field (Jvm.Term.string "ForesightHubLaw" (56 : Nat)) "java/lang/String" "value" "[B") (Jvm.Term.int (2 : Int32))) (Jvm.Term.int (118 : Int32))) ∈ NF := List.mem_of_getElem? (i := 379) (by decide +kernel)
theorem nf_380 : (Jvm.Cond.eq (Jvm.Term.elem (Jvm.Term.field (Jvm.Term.string "ForesightHubLaw" (56 : Nat)) "java/lang/String" "value" "[B") (Jvm.Term.int (3 : Int32))) (Jvm.Term.int (105 : Int32))) ∈ NF := List.mem_of_getElem? (i := 380) (by decide +kernel)
theorem nf_381 : (Jvm.Cond.eq (Jvm.Term.elem (Jvm.Term.field (Jvm.Term.string "ForesightHubLaw" (56 : Nat)) "java/lang/String" "value" "[B") (Jvm.Term.int (4 : Int32))) (Jvm.Term.int (99 : Int32))) ∈ NF := List.mem_of_getElem? (i := 381) (by decide +kernel)
theorem nf_382 : (Jvm.Cond.eq (Jvm.Term.elem (Jvm.Term.field (Jvm.Term.string "ForesightHubLaw" (56 : Nat)) "java/lang/String" "value" "[B") (Jvm.Term.int (5 : Int32))) (Jvm.Term.int (101 : Int32))) ∈ NF := List.mem_of_getElem? (i := 382) (by decide +kernel)
theorem nf_383 : (Jvm.Cond.eq (Jvm.Term.elem (Jvm.Term.field (Jvm.Term.string "ForesightHubLaw" (56 : Nat)) "java/lang/String" "value" "[B") (Jvm.Term.int (6 : Int32))) (Jvm.Term.int (32 : Int32))) ∈ NF := List.mem_of_getElem? (i := 383) (by decide +kernel)
theorem nf_384 : (Jvm.Cond.eq (Jvm.Term.elem (Jvm.Term.field (Jvm.Term.string "ForesightHubLaw" (56 : Nat)) "java/lang/String" "value" "[B") (Jvm.Term.int (7 : Int32))) (Jvm.Term.int (100 : Int32))) ∈ NF := List.mem_of_getElem? (i := 384) (by decide +kernel)
theorem nf_385 : (Jvm.Cond.exactly (Jvm.Term.string "ForesightHubLaw" (58 : Nat)) "java/lang/String") ∈ NF := List.mem_of_getElem? (i := 385) (by decide +kernel)
theorem nf_386 : (Jvm.Cond.eq (Jvm.Term.field (Jvm.Term.string "ForesightHubLaw" (58 : Nat)) "java/lang/String" "coder" "B") (Jvm.Term.int (0 : Int32))) ∈ NF := List.mem_of_getElem? (i := 386) (by decide +kernel)
theorem nf_387 : (Jvm.Cond.arrayOf (Jvm.Term.field (Jvm.Term.string "ForesightHubLaw" (58 : Nat)) "java/lang/String" "value" "[B") Jvm.ClassFile.FieldType.byte) ∈ NF := List.mem_of_getElem? (i := 387) (by decide +kernel)
theorem nf_388 : (Jvm.Cond.eq (Jvm.Term.length (Jvm.Term.field (Jvm.Term.string "ForesightHubLaw" (58 : Nat)) "java/lang/String" "value" "[B")) (Jvm.Term.int (7 : Int32))) ∈ NF := List.mem_of_getElem? (i := 388) (by decide +kernel)
theorem nf_389 : (Jvm.Cond.eq (Jvm.Term.elem (Jvm.Term.field (Jvm.Term.string "ForesightHubLaw" (58 : Nat)) "java/lang/String" "value" "[B") (Jvm.Term.int (0 : Int32))) (Jvm.Term.int (32 : Int32))) ∈ NF := List.mem_of_getElem? (i := 389) (by decide +kernel)
theorem nf_390 : (Jvm.Cond.eq (Jvm.Term.elem (Jvm.Term.field (Jvm.Term.string "ForesightHubLaw" (58 : Nat)) "java/lang/String" "value" "[B") (Jvm.Term.int (1 : Int32))) (Jvm.Term.int (104 : Int32))) ∈ NF := List.mem_of_getElem? (i := 390) (by decide +kernel)
theorem nf_391 : (Jvm.Cond.eq (Jvm.Term.elem (Jvm.Term.field (Jvm.Term.string "ForesightHubLaw" (58 : Nat)) "java/lang/String" "value" "[B") (Jvm.Term.int (2 : Int32))) (Jvm.Term.int (101 : Int32))) ∈ NF := List.mem_of_getElem? (i := 391) (by decide +kernel)
theorem nf_392 : (Jvm.Cond.eq (Jvm.Term.elem (Jvm.Term.field (Jvm.Term.string "ForesightHubLaw" (58 : Nat)) "java/lang/String" "value" "[B") (Jvm.Term.int (3 : Int32))) (Jvm.Term.int (105 : Int32))) ∈ NF := List.mem_of_getElem? (i := 392) (by decide +kernel)
theorem nf_393 : (Jvm.Cond.eq (Jvm.Term.elem (Jvm.Term.field (Jvm.Term.string "ForesightHubLaw" (58 : Nat)) "java/lang/String" "value" "[B") (Jvm.Term.int (4 : Int32))) (Jvm.Term.int (114 : Int32))) ∈ NF := List.mem_of_getElem? (i := 393) (by decide +kernel)
theorem nf_394 : (Jvm.Cond.eq (Jvm.Term.elem (Jvm.Term.field (Jvm.Term.string "ForesightHubLaw" (58 : Nat)) "java/lang/String" "value" "[B") (Jvm.Term.int (5 : Int32))) (Jvm.Term.int (32 : Int32))) ∈ NF := List.mem_of_getElem? (i := 394) (by decide +kernel)
theorem nf_395 : (Jvm.Cond.eq (Jvm.Term.elem (Jvm.Term.field (Jvm.Term.string "ForesightHubLaw" (58 : Nat)) "java/lang/String" "value" "[B") (Jvm.Term.int (6 : Int32))) (Jvm.Term.int (100 : Int32))) ∈ NF := List.mem_of_getElem? (i := 395) (by decide +kernel)
theorem nf_396 : (Jvm.Cond.exactly (Jvm.Term.string "ForesightHubLaw" (60 : Nat)) "java/lang/String") ∈ NF := List.mem_of_getElem? (i := 396) (by decide +kernel)
theorem nf_397 : (Jvm.Cond.eq (Jvm.Term.field (Jvm.Term.string "ForesightHubLaw" (60 : Nat)) "java/lang/String" "coder" "B") (Jvm.Term.int (0 : Int32))) ∈ NF := List.mem_of_getElem? (i := 397) (by decide +kernel)
theorem nf_398 : (Jvm.Cond.arrayOf (Jvm.Term.field (Jvm.Term.string "ForesightHubLaw" (60 : Nat)) "java/lang/String" "value" "[B") Jvm.ClassFile.FieldType.byte) ∈ NF := List.mem_of_getElem? (i := 398) (by decide +kernel)
theorem nf_399 : (Jvm.Cond.eq (Jvm.Term.length (Jvm.Term.field (Jvm.Term.string "ForesightHubLaw" (60 : Nat)) "java/lang/String" "value" "[B")) (Jvm.Term.int (8 : Int32))) ∈ NF := List.mem_of_getElem? (i := 399) (by decide +kernel)
theorem nf_400 : (Jvm.Cond.eq (Jvm.Term.elem (Jvm.Term.field (Jvm.Term.string "ForesightHubLaw" (60 : Nat)) "java/lang/String" "value" "[B") (Jvm.Term.int (0 : Int32))) (Jvm.Term.int (115 : Int32))) ∈ NF := List.mem_of_getElem? (i := 400) (by decide +kernel)
theorem nf_401 : (Jvm.Cond.eq (Jvm.Term.elem (Jvm.Term.field (Jvm.Term.string "ForesightHubLaw" (60 : Nat)) "java/lang/String" "value" "[B") (Jvm.Term.int (1 : Int32))) (Jvm.Term.int (116 : Int32))) ∈ NF := List.mem_of_getElem? (i := 401) (by decide +kernel)
theorem nf_402 : (Jvm.Cond.eq (Jvm.Term.elem (Jvm.Term.field (Jvm.Term.string "ForesightHubLaw" (60 : Nat)) "java/lang/String" "value" "[B") (Jvm.Term.int (2 : Int32))) (Jvm.Term.int (114 : Int32))) ∈ NF := List.mem_of_getElem? (i := 402) (by decide +kernel)
theorem nf_403 : (Jvm.Cond.eq (Jvm.Term.elem (Jvm.Term.field (Jvm.Term.string "ForesightHubLaw" (60 : Nat)) "java/lang/String" "value" "[B") (Jvm.Term.int (3 : Int32))) (Jvm.Term.int (101 : Int32))) ∈ NF := List.mem_of_getElem? (i := 403) (by decide +kernel)
theorem nf_404 : (Jvm.Cond.eq (Jvm.Term.elem (Jvm.Term.field (Jvm.Term.string "ForesightHubLaw" (60 : Nat)) "java/lang/String" "value" "[B") (Jvm.Term.int (4 : Int32))) (Jvm.Term.int (97 : Int32))) ∈ NF := List.mem_of_getElem? (i := 404) (by decide +kernel)
theorem nf_405 : (Jvm.Cond.eq (Jvm.Term.elem (Jvm.Term.field (Jvm.Term.string "ForesightHubLaw" (60 : Nat)) "java/lang/String" "value" "[B") (Jvm.Term.int (5 : Int32))) (Jvm.Term.int (109 : Int32))) ∈ NF := List.mem_of_getElem? (i := 405) (by decide +kernel)
theorem nf_406 : (Jvm.Cond.eq (Jvm.Term.elem (Jvm.Term.field (Jvm.Term.string "ForesightHubLaw" (60 : Nat)) "java/lang/String" "value" "[B") (Jvm.Term.int (6 : Int32))) (Jvm.Term.int (32 : Int32))) ∈ NF := List.mem_of_getElem? (i := 406) (by decide +kernel)
theorem nf_407 : (Jvm.Cond.eq (Jvm.Term.elem (Jvm.Term.field (Jvm.Term.string "ForesightHubLaw" (60 : Nat)) "java/lang/String" "value" "[B") (Jvm.Term.int (7 : Int32))) (Jvm.Term.int (115 : Int32))) ∈ NF := List.mem_of_getElem? (i := 407) (by decide +kernel)
theorem nf_408 : (Jvm.Cond.exactly (Jvm.Term.string "ForesightHubLaw" (62 : Nat)) "java/lang/String") ∈ NF := List.mem_of_getElem? (i := 408) (by decide +kernel)
theorem nf_409 : (Jvm.Cond.eq (Jvm.Term.field (Jvm.Term.string "ForesightHubLaw" (62 : Nat)) "java/lang/String" "coder" "B") (Jvm.Term.int (0 : Int32))) ∈ NF := List.mem_of_getElem? (i := 409) (by decide +kernel)
theorem nf_410 : (Jvm.Cond.arrayOf (Jvm.Term.field (Jvm.Term.string "ForesightHubLaw" (62 : Nat)) "java/lang/String" "value" "[B") Jvm.ClassFile.FieldType.byte) ∈ NF := List.mem_of_getElem? (i := 410) (by decide +kernel)
theorem nf_411 : (Jvm.Cond.eq (Jvm.Term.length (Jvm.Term.field (Jvm.Term.string "ForesightHubLaw" (62 : Nat)) "java/lang/String" "value" "[B")) (Jvm.Term.int (2 : Int32))) ∈ NF := List.mem_of_getElem? (i := 411) (by decide +kernel)
theorem nf_412 : (Jvm.Cond.eq (Jvm.Term.elem (Jvm.Term.field (Jvm.Term.string "ForesightHubLaw" (62 : Nat)) "java/lang/String" "value" "[B") (Jvm.Term.int (0 : Int32))) (Jvm.Term.int (32 : Int32))) ∈ NF := List.mem_of_getElem? (i := 412) (by decide +kernel)
theorem nf_413 : (Jvm.Cond.eq (Jvm.Term.elem (Jvm.Term.field (Jvm.Term.string "ForesightHubLaw" (62 : Nat)) "java/lang/String" "value" "[B") (Jvm.Term.int (1 : Int32))) (Jvm.Term.int (100 : Int32))) ∈ NF := List.mem_of_getElem? (i := 413) (by decide +kernel)
theorem nf_414 : (Jvm.Cond.exactly (Jvm.Term.string "ForesightHubLaw" (64 : Nat)) "java/lang/String") ∈ NF := List.mem_of_getElem? (i := 414) (by decide +kernel)
theorem nf_415 : (Jvm.Cond.eq (Jvm.Term.field (Jvm.Term.string "ForesightHubLaw" (64 : Nat)) "java/lang/String" "coder" "B") (Jvm.Term.int (0 : Int32))) ∈ NF := List.mem_of_getElem? (i := 415) (by decide +kernel)
theorem nf_416 : (Jvm.Cond.arrayOf (Jvm.Term.field (Jvm.Term.string "ForesightHubLaw" (64 : Nat)) "java/lang/String" "value" "[B") Jvm.ClassFile.FieldType.byte) ∈ NF := List.mem_of_getElem? (i := 416) (by decide +kernel)
theorem nf_417 : (Jvm.Cond.eq (Jvm.Term.length (Jvm.Term.field (Jvm.Term.string "ForesightHubLaw" (64 : Nat)) "java/lang/String" "value" "[B")) (Jvm.Term.int (6 : Int32))) ∈ NF := List.mem_of_getElem? (i := 417) (by decide +kernel)
theorem nf_418 : (Jvm.Cond.eq (Jvm.Term.elem (Jvm.Term.field (Jvm.Term.string "ForesightHubLaw" (64 : Nat)) "java/lang/String" "value" "[B") (Jvm.Term.int (0 : Int32))) (Jvm.Term.int (97 : Int32))) ∈ NF := List.mem_of_getElem? (i := 418) (by decide +kernel)
theorem nf_419 : (Jvm.Cond.eq (Jvm.Term.elem (Jvm.Term.field (Jvm.Term.string "ForesightHubLaw" (64 : Nat)) "java/lang/String" "value" "[B") (Jvm.Term.int (1 : Int32))) (Jvm.Term.int (108 : Int32))) ∈ NF := List.mem_of_getElem? (i := 419) (by decide +kernel)
theorem nf_420 : (Jvm.Cond.eq (Jvm.Term.elem (Jvm.Term.field (Jvm.Term.string "ForesightHubLaw" (64 : Nat)) "java/lang/String" "value" "[B") (Jvm.Term.int (2 : Int32))) (Jvm.Term.int (97 : Int32))) ∈ NF := List.mem_of_getElem? (i := 420) (by decide +kernel)
theorem nf_421 : (Jvm.Cond.eq (Jvm.Term.elem (Jvm.Term.field (Jvm.Term.string "ForesightHubLaw" (64 : Nat)) "java/lang/String" "value" "[B") (Jvm.Term.int (3 : Int32))) (Jvm.Term.int (114 : Int32))) ∈ NF := List.mem_of_getElem? (i := 421) (by decide +kernel)
theorem nf_422 : (Jvm.Cond.eq (Jvm.Term.elem (Jvm.Term.field (Jvm.Term.string "ForesightHubLaw" (64 : Nat)) "java/lang/String" "value" "[B") (Jvm.Term.int (4 : Int32))) (Jvm.Term.int (109 : Int32))) ∈ NF := List.mem_of_getElem? (i := 422) (by decide +kernel)
theorem nf_423 : (Jvm.Cond.eq (Jvm.Term.elem (Jvm.Term.field (Jvm.Term.string "ForesightHubLaw" (64 : Nat)) "java/lang/String" "value" "[B") (Jvm.Term.int (5 : Int32))) (Jvm.Term.int (32 : Int32))) ∈ NF := List.mem_of_getElem? (i := 423) (by decide +kernel)
theorem nf_424 : (Jvm.Cond.exactly (Jvm.Term.string "ForesightHubLaw" (66 : Nat)) "java/lang/String") ∈ NF := List.mem_of_getElem? (i := 424) (by decide +kernel)
theorem nf_425 : (Jvm.Cond.eq (Jvm.Term.field (Jvm.Term.string "ForesightHubLaw" (66 : Nat)) "java/lang/String" "coder" "B") (Jvm.Term.int (0 : Int32))) ∈ NF := List.mem_of_getElem? (i := 425) (by decide +kernel)
theorem nf_426 : (Jvm.Cond.arrayOf (Jvm.Term.field (Jvm.Term.string "ForesightHubLaw" (66 : Nat)) "java/lang/String" "value" "[B") Jvm.ClassFile.FieldType.byte) ∈ NF := List.mem_of_getElem? (i := 426) (by decide +kernel)
theorem nf_427 : (Jvm.Cond.eq (Jvm.Term.length (Jvm.Term.field (Jvm.Term.string "ForesightHubLaw" (66 : Nat)) "java/lang/String" "value" "[B")) (Jvm.Term.int (4 : Int32))) ∈ NF := List.mem_of_getElem? (i := 427) (by decide +kernel)
theorem nf_428 : (Jvm.Cond.eq (Jvm.Term.elem (Jvm.Term.field (Jvm.Term.string "ForesightHubLaw" (66 : Nat)) "java/lang/String" "value" "[B") (Jvm.Term.int (0 : Int32))) (Jvm.Term.int (32 : Int32))) ∈ NF := List.mem_of_getElem? (i := 428) (by decide +kernel)
theorem nf_429 : (Jvm.Cond.eq (Jvm.Term.elem (Jvm.Term.field (Jvm.Term.string "ForesightHubLaw" (66 : Nat)) "java/lang/String" "value" "[B") (Jvm.Term.int (1 : Int32))) (Jvm.Term.int (52 : Int32))) ∈ NF := List.mem_of_getElem? (i := 429) (by decide +kernel)
theorem nf_430 : (Jvm.Cond.eq (Jvm.Term.elem (Jvm.Term.field (Jvm.Term.string "ForesightHubLaw" (66 : Nat)) "java/lang/String" "value" "[B") (Jvm.Term.int (2 : Int32))) (Jvm.Term.int (48 : Int32))) ∈ NF := List.mem_of_getElem? (i := 430) (by decide +kernel)
theorem nf_431 : (Jvm.Cond.eq (Jvm.Term.elem (Jvm.Term.field (Jvm.Term.string "ForesightHubLaw" (66 : Nat)) "java/lang/String" "value" "[B") (Jvm.Term.int (3 : Int32))) (Jvm.Term.int (59 : Int32))) ∈ NF := List.mem_of_getElem? (i := 431) (by decide +kernel)
theorem nf_432 : (Jvm.Cond.exactly (Jvm.Term.string "ForesightHub" (55 : Nat)) "java/lang/String") ∈ NF := List.mem_of_getElem? (i := 432) (by decide +kernel)
theorem nf_462 : (Jvm.Cond.exactly (Jvm.Term.string "ForesightHub$Reader" (81 : Nat)) "java/lang/String") ∈ NF := List.mem_of_getElem? (i := 462) (by decide +kernel)
theorem nf_463 : (Jvm.Cond.eq (Jvm.Term.field (Jvm.Term.string "ForesightHub$Reader" (81 : Nat)) "java/lang/String" "coder" "B") (Jvm.Term.int (0 : Int32))) ∈ NF := List.mem_of_getElem? (i := 463) (by decide +kernel)
theorem nf_464 : (Jvm.Cond.arrayOf (Jvm.Term.field (Jvm.Term.string "ForesightHub$Reader" (81 : Nat)) "java/lang/String" "value" "[B") Jvm.ClassFile.FieldType.byte) ∈ NF := List.mem_of_getElem? (i := 464) (by decide +kernel)
theorem nf_465 : (Jvm.Cond.eq (Jvm.Term.length (Jvm.Term.field (Jvm.Term.string "ForesightHub$Reader" (81 : Nat)) "java/lang/String" "value" "[B")) (Jvm.Term.int (3 : Int32))) ∈ NF := List.mem_of_getElem? (i := 465) (by decide +kernel)
theorem nf_466 : (Jvm.Cond.eq (Jvm.Term.elem (Jvm.Term.field (Jvm.Term.string "ForesightHub$Reader" (81 : Nat)) "java/lang/String" "value" "[B") (Jvm.Term.int (0 : Int32))) (Jvm.Term.int (104 : Int32))) ∈ NF := List.mem_of_getElem? (i := 466) (by decide +kernel)
theorem nf_467 : (Jvm.Cond.eq (Jvm.Term.elem (Jvm.Term.field (Jvm.Term.string "ForesightHub$Reader" (81 : Nat)) "java/lang/String" "value" "[B") (Jvm.Term.int (1 : Int32))) (Jvm.Term.int (117 : Int32))) ∈ NF := List.mem_of_getElem? (i := 467) (by decide +kernel)
theorem nf_468 : (Jvm.Cond.eq (Jvm.Term.elem (Jvm.Term.field (Jvm.Term.string "ForesightHub$Reader" (81 : Nat)) "java/lang/String" "value" "[B") (Jvm.Term.int (2 : Int32))) (Jvm.Term.int (98 : Int32))) ∈ NF := List.mem_of_getElem? (i := 468) (by decide +kernel)
theorem nf_469 : (Jvm.Cond.exactly (Jvm.Term.string "ForesightHub$Reader" (104 : Nat)) "java/lang/String") ∈ NF := List.mem_of_getElem? (i := 469) (by decide +kernel)
theorem nf_470 : (Jvm.Cond.eq (Jvm.Term.field (Jvm.Term.string "ForesightHub$Reader" (104 : Nat)) "java/lang/String" "coder" "B") (Jvm.Term.int (0 : Int32))) ∈ NF := List.mem_of_getElem? (i := 470) (by decide +kernel)
theorem nf_471 : (Jvm.Cond.arrayOf (Jvm.Term.field (Jvm.Term.string "ForesightHub$Reader" (104 : Nat)) "java/lang/String" "value" "[B") Jvm.ClassFile.FieldType.byte) ∈ NF := List.mem_of_getElem? (i := 471) (by decide +kernel)
theorem nf_472 : (Jvm.Cond.eq (Jvm.Term.length (Jvm.Term.field (Jvm.Term.string "ForesightHub$Reader" (104 : Nat)) "java/lang/String" "value" "[B")) (Jvm.Term.int (7 : Int32))) ∈ NF := List.mem_of_getElem? (i := 472) (by decide +kernel)
theorem nf_473 : (Jvm.Cond.eq (Jvm.Term.elem (Jvm.Term.field (Jvm.Term.string "ForesightHub$Reader" (104 : Nat)) "java/lang/String" "value" "[B") (Jvm.Term.int (0 : Int32))) (Jvm.Term.int (112 : Int32))) ∈ NF := List.mem_of_getElem? (i := 473) (by decide +kernel)
theorem nf_474 : (Jvm.Cond.eq (Jvm.Term.elem (Jvm.Term.field (Jvm.Term.string "ForesightHub$Reader" (104 : Nat)) "java/lang/String" "value" "[B") (Jvm.Term.int (1 : Int32))) (Jvm.Term.int (97 : Int32))) ∈ NF := List.mem_of_getElem? (i := 474) (by decide +kernel)
theorem nf_475 : (Jvm.Cond.eq (Jvm.Term.elem (Jvm.Term.field (Jvm.Term.string "ForesightHub$Reader" (104 : Nat)) "java/lang/String" "value" "[B") (Jvm.Term.int (2 : Int32))) (Jvm.Term.int (116 : Int32))) ∈ NF := List.mem_of_getElem? (i := 475) (by decide +kernel)
theorem nf_476 : (Jvm.Cond.eq (Jvm.Term.elem (Jvm.Term.field (Jvm.Term.string "ForesightHub$Reader" (104 : Nat)) "java/lang/String" "value" "[B") (Jvm.Term.int (3 : Int32))) (Jvm.Term.int (116 : Int32))) ∈ NF := List.mem_of_getElem? (i := 476) (by decide +kernel)
theorem nf_477 : (Jvm.Cond.eq (Jvm.Term.elem (Jvm.Term.field (Jvm.Term.string "ForesightHub$Reader" (104 : Nat)) "java/lang/String" "value" "[B") (Jvm.Term.int (4 : Int32))) (Jvm.Term.int (101 : Int32))) ∈ NF := List.mem_of_getElem? (i := 477) (by decide +kernel)
theorem nf_478 : (Jvm.Cond.eq (Jvm.Term.elem (Jvm.Term.field (Jvm.Term.string "ForesightHub$Reader" (104 : Nat)) "java/lang/String" "value" "[B") (Jvm.Term.int (5 : Int32))) (Jvm.Term.int (114 : Int32))) ∈ NF := List.mem_of_getElem? (i := 478) (by decide +kernel)
theorem nf_479 : (Jvm.Cond.eq (Jvm.Term.elem (Jvm.Term.field (Jvm.Term.string "ForesightHub$Reader" (104 : Nat)) "java/lang/String" "value" "[B") (Jvm.Term.int (6 : Int32))) (Jvm.Term.int (110 : Int32))) ∈ NF := List.mem_of_getElem? (i := 479) (by decide +kernel)
theorem nf_480 : (Jvm.Cond.exactly (Jvm.Term.string "ForesightHub$Reader" (189 : Nat)) "java/lang/String") ∈ NF := List.mem_of_getElem? (i := 480) (by decide +kernel)
theorem nf_481 : (Jvm.Cond.eq (Jvm.Term.field (Jvm.Term.string "ForesightHub$Reader" (189 : Nat)) "java/lang/String" "coder" "B") (Jvm.Term.int (0 : Int32))) ∈ NF := List.mem_of_getElem? (i := 481) (by decide +kernel)
theorem nf_482 : (Jvm.Cond.arrayOf (Jvm.Term.field (Jvm.Term.string "ForesightHub$Reader" (189 : Nat)) "java/lang/String" "value" "[B") Jvm.ClassFile.FieldType.byte) ∈ NF := List.mem_of_getElem? (i := 482) (by decide +kernel)
theorem nf_483 : (Jvm.Cond.eq (Jvm.Term.length (Jvm.Term.field (Jvm.Term.string "ForesightHub$Reader" (189 : Nat)) "java/lang/String" "value" "[B")) (Jvm.Term.int (3 : Int32))) ∈ NF := List.mem_of_getElem? (i := 483) (by decide +kernel)
theorem nf_484 : (Jvm.Cond.eq (Jvm.Term.elem (Jvm.Term.field (Jvm.Term.string "ForesightHub$Reader" (189 : Nat)) "java/lang/String" "value" "[B") (Jvm.Term.int (0 : Int32))) (Jvm.Term.int (99 : Int32))) ∈ NF := List.mem_of_getElem? (i := 484) (by decide +kernel)
theorem nf_485 : (Jvm.Cond.eq (Jvm.Term.elem (Jvm.Term.field (Jvm.Term.string "ForesightHub$Reader" (189 : Nat)) "java/lang/String" "value" "[B") (Jvm.Term.int (1 : Int32))) (Jvm.Term.int (114 : Int32))) ∈ NF := List.mem_of_getElem? (i := 485) (by decide +kernel)
theorem nf_486 : (Jvm.Cond.eq (Jvm.Term.elem (Jvm.Term.field (Jvm.Term.string "ForesightHub$Reader" (189 : Nat)) "java/lang/String" "value" "[B") (Jvm.Term.int (2 : Int32))) (Jvm.Term.int (99 : Int32))) ∈ NF := List.mem_of_getElem? (i := 486) (by decide +kernel)
theorem nf_487 : (Jvm.Cond.exactly (Jvm.Term.string "ForesightHub$Reader" (191 : Nat)) "java/lang/String") ∈ NF := List.mem_of_getElem? (i := 487) (by decide +kernel)
theorem nf_488 : (Jvm.Cond.eq (Jvm.Term.field (Jvm.Term.string "ForesightHub$Reader" (191 : Nat)) "java/lang/String" "coder" "B") (Jvm.Term.int (0 : Int32))) ∈ NF := List.mem_of_getElem? (i := 488) (by decide +kernel)
theorem nf_489 : (Jvm.Cond.arrayOf (Jvm.Term.field (Jvm.Term.string "ForesightHub$Reader" (191 : Nat)) "java/lang/String" "value" "[B") Jvm.ClassFile.FieldType.byte) ∈ NF := List.mem_of_getElem? (i := 489) (by decide +kernel)
theorem nf_490 : (Jvm.Cond.eq (Jvm.Term.length (Jvm.Term.field (Jvm.Term.string "ForesightHub$Reader" (191 : Nat)) "java/lang/String" "value" "[B")) (Jvm.Term.int (5 : Int32))) ∈ NF := List.mem_of_getElem? (i := 490) (by decide +kernel)
theorem nf_491 : (Jvm.Cond.eq (Jvm.Term.elem (Jvm.Term.field (Jvm.Term.string "ForesightHub$Reader" (191 : Nat)) "java/lang/String" "value" "[B") (Jvm.Term.int (0 : Int32))) (Jvm.Term.int (115 : Int32))) ∈ NF := List.mem_of_getElem? (i := 491) (by decide +kernel)
theorem nf_492 : (Jvm.Cond.eq (Jvm.Term.elem (Jvm.Term.field (Jvm.Term.string "ForesightHub$Reader" (191 : Nat)) "java/lang/String" "value" "[B") (Jvm.Term.int (1 : Int32))) (Jvm.Term.int (116 : Int32))) ∈ NF := List.mem_of_getElem? (i := 492) (by decide +kernel)
theorem nf_493 : (Jvm.Cond.eq (Jvm.Term.elem (Jvm.Term.field (Jvm.Term.string "ForesightHub$Reader" (191 : Nat)) "java/lang/String" "value" "[B") (Jvm.Term.int (2 : Int32))) (Jvm.Term.int (97 : Int32))) ∈ NF := List.mem_of_getElem? (i := 493) (by decide +kernel)
theorem nf_494 : (Jvm.Cond.eq (Jvm.Term.elem (Jvm.Term.field (Jvm.Term.string "ForesightHub$Reader" (191 : Nat)) "java/lang/String" "value" "[B") (Jvm.Term.int (3 : Int32))) (Jvm.Term.int (108 : Int32))) ∈ NF := List.mem_of_getElem? (i := 494) (by decide +kernel)
theorem nf_495 : (Jvm.Cond.eq (Jvm.Term.elem (Jvm.Term.field (Jvm.Term.string "ForesightHub$Reader" (191 : Nat)) "java/lang/String" "value" "[B") (Jvm.Term.int (4 : Int32))) (Jvm.Term.int (108 : Int32))) ∈ NF := List.mem_of_getElem? (i := 495) (by decide +kernel)
theorem nf_496 : (Jvm.Cond.exactly (Jvm.Term.string "ForesightHub$Reader" (193 : Nat)) "java/lang/String") ∈ NF := List.mem_of_getElem? (i := 496) (by decide +kernel)
theorem nf_497 : (Jvm.Cond.eq (Jvm.Term.field (Jvm.Term.string "ForesightHub$Reader" (193 : Nat)) "java/lang/String" "coder" "B") (Jvm.Term.int (0 : Int32))) ∈ NF := List.mem_of_getElem? (i := 497) (by decide +kernel)
theorem nf_498 : (Jvm.Cond.arrayOf (Jvm.Term.field (Jvm.Term.string "ForesightHub$Reader" (193 : Nat)) "java/lang/String" "value" "[B") Jvm.ClassFile.FieldType.byte) ∈ NF := List.mem_of_getElem? (i := 498) (by decide +kernel)
theorem nf_499 : (Jvm.Cond.eq (Jvm.Term.length (Jvm.Term.field (Jvm.Term.string "ForesightHub$Reader" (193 : Nat)) "java/lang/String" "value" "[B")) (Jvm.Term.int (6 : Int32))) ∈ NF := List.mem_of_getElem? (i := 499) (by decide +kernel)
theorem nf_500 : (Jvm.Cond.eq (Jvm.Term.elem (Jvm.Term.field (Jvm.Term.string "ForesightHub$Reader" (193 : Nat)) "java/lang/String" "value" "[B") (Jvm.Term.int (0 : Int32))) (Jvm.Term.int (106 : Int32))) ∈ NF := List.mem_of_getElem? (i := 500) (by decide +kernel)
theorem nf_501 : (Jvm.Cond.eq (Jvm.Term.elem (Jvm.Term.field (Jvm.Term.string "ForesightHub$Reader" (193 : Nat)) "java/lang/String" "value" "[B") (Jvm.Term.int (1 : Int32))) (Jvm.Term.int (105 : Int32))) ∈ NF := List.mem_of_getElem? (i := 501) (by decide +kernel)
theorem nf_502 : (Jvm.Cond.eq (Jvm.Term.elem (Jvm.Term.field (Jvm.Term.string "ForesightHub$Reader" (193 : Nat)) "java/lang/String" "value" "[B") (Jvm.Term.int (2 : Int32))) (Jvm.Term.int (116 : Int32))) ∈ NF := List.mem_of_getElem? (i := 502) (by decide +kernel)
theorem nf_503 : (Jvm.Cond.eq (Jvm.Term.elem (Jvm.Term.field (Jvm.Term.string "ForesightHub$Reader" (193 : Nat)) "java/lang/String" "value" "[B") (Jvm.Term.int (3 : Int32))) (Jvm.Term.int (116 : Int32))) ∈ NF := List.mem_of_getElem? (i := 503) (by decide +kernel)
theorem nf_504 : (Jvm.Cond.eq (Jvm.Term.elem (Jvm.Term.field (Jvm.Term.string "ForesightHub$Reader" (193 : Nat)) "java/lang/String" "value" "[B") (Jvm.Term.int (4 : Int32))) (Jvm.Term.int (101 : Int32))) ∈ NF := List.mem_of_getElem? (i := 504) (by decide +kernel)
theorem nf_505 : (Jvm.Cond.eq (Jvm.Term.elem (Jvm.Term.field (Jvm.Term.string "ForesightHub$Reader" (193 : Nat)) "java/lang/String" "value" "[B") (Jvm.Term.int (5 : Int32))) (Jvm.Term.int (114 : Int32))) ∈ NF := List.mem_of_getElem? (i := 505) (by decide +kernel)
theorem nf_506 : (Jvm.Cond.exactly (Jvm.Term.string "ForesightHub$Reader" (195 : Nat)) "java/lang/String") ∈ NF := List.mem_of_getElem? (i := 506) (by decide +kernel)
theorem nf_507 : (Jvm.Cond.eq (Jvm.Term.field (Jvm.Term.string "ForesightHub$Reader" (195 : Nat)) "java/lang/String" "coder" "B") (Jvm.Term.int (0 : Int32))) ∈ NF := List.mem_of_getElem? (i := 507) (by decide +kernel)
theorem nf_508 : (Jvm.Cond.arrayOf (Jvm.Term.field (Jvm.Term.string "ForesightHub$Reader" (195 : Nat)) "java/lang/String" "value" "[B") Jvm.ClassFile.FieldType.byte) ∈ NF := List.mem_of_getElem? (i := 508) (by decide +kernel)
theorem nf_509 : (Jvm.Cond.eq (Jvm.Term.length (Jvm.Term.field (Jvm.Term.string "ForesightHub$Reader" (195 : Nat)) "java/lang/String" "value" "[B")) (Jvm.Term.int (5 : Int32))) ∈ NF := List.mem_of_getElem? (i := 509) (by decide +kernel)
theorem nf_510 : (Jvm.Cond.eq (Jvm.Term.elem (Jvm.Term.field (Jvm.Term.string "ForesightHub$Reader" (195 : Nat)) "java/lang/String" "value" "[B") (Jvm.Term.int (0 : Int32))) (Jvm.Term.int (112 : Int32))) ∈ NF := List.mem_of_getElem? (i := 510) (by decide +kernel)
theorem nf_511 : (Jvm.Cond.eq (Jvm.Term.elem (Jvm.Term.field (Jvm.Term.string "ForesightHub$Reader" (195 : Nat)) "java/lang/String" "value" "[B") (Jvm.Term.int (1 : Int32))) (Jvm.Term.int (111 : Int32))) ∈ NF := List.mem_of_getElem? (i := 511) (by decide +kernel)
theorem nf_512 : (Jvm.Cond.eq (Jvm.Term.elem (Jvm.Term.field (Jvm.Term.string "ForesightHub$Reader" (195 : Nat)) "java/lang/String" "value" "[B") (Jvm.Term.int (2 : Int32))) (Jvm.Term.int (119 : Int32))) ∈ NF := List.mem_of_getElem? (i := 512) (by decide +kernel)
theorem nf_513 : (Jvm.Cond.eq (Jvm.Term.elem (Jvm.Term.field (Jvm.Term.string "ForesightHub$Reader" (195 : Nat)) "java/lang/String" "value" "[B") (Jvm.Term.int (3 : Int32))) (Jvm.Term.int (101 : Int32))) ∈ NF := List.mem_of_getElem? (i := 513) (by decide +kernel)
theorem nf_514 : (Jvm.Cond.eq (Jvm.Term.elem (Jvm.Term.field (Jvm.Term.string "ForesightHub$Reader" (195 : Nat)) "java/lang/String" "value" "[B") (Jvm.Term.int (4 : Int32))) (Jvm.Term.int (114 : Int32))) ∈ NF := List.mem_of_getElem? (i := 514) (by decide +kernel)
theorem nf_515 : (Jvm.Cond.exactly (Jvm.Term.string "ForesightHub$Reader" (109 : Nat)) "java/lang/String") ∈ NF := List.mem_of_getElem? (i := 515) (by decide +kernel)
theorem nf_516 : (Jvm.Cond.eq (Jvm.Term.field (Jvm.Term.string "ForesightHub$Reader" (109 : Nat)) "java/lang/String" "coder" "B") (Jvm.Term.int (0 : Int32))) ∈ NF := List.mem_of_getElem? (i := 516) (by decide +kernel)
theorem nf_517 : (Jvm.Cond.arrayOf (Jvm.Term.field (Jvm.Term.string "ForesightHub$Reader" (109 : Nat)) "java/lang/String" "value" "[B") Jvm.ClassFile.FieldType.byte) ∈ NF := List.mem_of_getElem? (i := 517) (by decide +kernel)
theorem nf_518 : (Jvm.Cond.eq (Jvm.Term.length (Jvm.Term.field (Jvm.Term.string "ForesightHub$Reader" (109 : Nat)) "java/lang/String" "value" "[B")) (Jvm.Term.int (6 : Int32))) ∈ NF := List.mem_of_getElem? (i := 518) (by decide +kernel)
theorem nf_519 : (Jvm.Cond.eq (Jvm.Term.elem (Jvm.Term.field (Jvm.Term.string "ForesightHub$Reader" (109 : Nat)) "java/lang/String" "value" "[B") (Jvm.Term.int (0 : Int32))) (Jvm.Term.int (100 : Int32))) ∈ NF := List.mem_of_getElem? (i := 519) (by decide +kernel)
theorem nf_520 : (Jvm.Cond.eq (Jvm.Term.elem (Jvm.Term.field (Jvm.Term.string "ForesightHub$Reader" (109 : Nat)) "java/lang/String" "value" "[B") (Jvm.Term.int (1 : Int32))) (Jvm.Term.int (101 : Int32))) ∈ NF := List.mem_of_getElem? (i := 520) (by decide +kernel)
theorem nf_521 : (Jvm.Cond.eq (Jvm.Term.elem (Jvm.Term.field (Jvm.Term.string "ForesightHub$Reader" (109 : Nat)) "java/lang/String" "value" "[B") (Jvm.Term.int (2 : Int32))) (Jvm.Term.int (118 : Int32))) ∈ NF := List.mem_of_getElem? (i := 521) (by decide +kernel)
theorem nf_522 : (Jvm.Cond.eq (Jvm.Term.elem (Jvm.Term.field (Jvm.Term.string "ForesightHub$Reader" (109 : Nat)) "java/lang/String" "value" "[B") (Jvm.Term.int (3 : Int32))) (Jvm.Term.int (105 : Int32))) ∈ NF := List.mem_of_getElem? (i := 522) (by decide +kernel)
theorem nf_523 : (Jvm.Cond.eq (Jvm.Term.elem (Jvm.Term.field (Jvm.Term.string "ForesightHub$Reader" (109 : Nat)) "java/lang/String" "value" "[B") (Jvm.Term.int (4 : Int32))) (Jvm.Term.int (99 : Int32))) ∈ NF := List.mem_of_getElem? (i := 523) (by decide +kernel)
theorem nf_524 : (Jvm.Cond.eq (Jvm.Term.elem (Jvm.Term.field (Jvm.Term.string "ForesightHub$Reader" (109 : Nat)) "java/lang/String" "value" "[B") (Jvm.Term.int (5 : Int32))) (Jvm.Term.int (101 : Int32))) ∈ NF := List.mem_of_getElem? (i := 524) (by decide +kernel)
theorem nf_525 : (Jvm.Cond.exactly (Jvm.Term.string "ForesightHub$Reader" (163 : Nat)) "java/lang/String") ∈ NF := List.mem_of_getElem? (i := 525) (by decide +kernel)
theorem nf_526 : (Jvm.Cond.eq (Jvm.Term.field (Jvm.Term.string "ForesightHub$Reader" (163 : Nat)) "java/lang/String" "coder" "B") (Jvm.Term.int (0 : Int32))) ∈ NF := List.mem_of_getElem? (i := 526) (by decide +kernel)
theorem nf_527 : (Jvm.Cond.arrayOf (Jvm.Term.field (Jvm.Term.string "ForesightHub$Reader" (163 : Nat)) "java/lang/String" "value" "[B") Jvm.ClassFile.FieldType.byte) ∈ NF := List.mem_of_getElem? (i := 527) (by decide +kernel)
theorem nf_528 : (Jvm.Cond.eq (Jvm.Term.length (Jvm.Term.field (Jvm.Term.string "ForesightHub$Reader" (163 : Nat)) "java/lang/String" "value" "[B")) (Jvm.Term.int (4 : Int32))) ∈ NF := List.mem_of_getElem? (i := 528) (by decide +kernel)
theorem nf_529 : (Jvm.Cond.eq (Jvm.Term.elem (Jvm.Term.field (Jvm.Term.string "ForesightHub$Reader" (163 : Nat)) "java/lang/String" "value" "[B") (Jvm.Term.int (0 : Int32))) (Jvm.Term.int (104 : Int32))) ∈ NF := List.mem_of_getElem? (i := 529) (by decide +kernel)
theorem nf_530 : (Jvm.Cond.eq (Jvm.Term.elem (Jvm.Term.field (Jvm.Term.string "ForesightHub$Reader" (163 : Nat)) "java/lang/String" "value" "[B") (Jvm.Term.int (1 : Int32))) (Jvm.Term.int (101 : Int32))) ∈ NF := List.mem_of_getElem? (i := 530) (by decide +kernel)
theorem nf_531 : (Jvm.Cond.eq (Jvm.Term.elem (Jvm.Term.field (Jvm.Term.string "ForesightHub$Reader" (163 : Nat)) "java/lang/String" "value" "[B") (Jvm.Term.int (2 : Int32))) (Jvm.Term.int (105 : Int32))) ∈ NF := List.mem_of_getElem? (i := 531) (by decide +kernel)
theorem nf_532 : (Jvm.Cond.eq (Jvm.Term.elem (Jvm.Term.field (Jvm.Term.string "ForesightHub$Reader" (163 : Nat)) "java/lang/String" "value" "[B") (Jvm.Term.int (3 : Int32))) (Jvm.Term.int (114 : Int32))) ∈ NF := List.mem_of_getElem? (i := 532) (by decide +kernel)
theorem nf_533 : (Jvm.Cond.exactly (Jvm.Term.string "ForesightHub$Reader" (114 : Nat)) "java/lang/String") ∈ NF := List.mem_of_getElem? (i := 533) (by decide +kernel)
theorem nf_534 : (Jvm.Cond.eq (Jvm.Term.field (Jvm.Term.string "ForesightHub$Reader" (114 : Nat)) "java/lang/String" "coder" "B") (Jvm.Term.int (0 : Int32))) ∈ NF := List.mem_of_getElem? (i := 534) (by decide +kernel)
theorem nf_535 : (Jvm.Cond.arrayOf (Jvm.Term.field (Jvm.Term.string "ForesightHub$Reader" (114 : Nat)) "java/lang/String" "value" "[B") Jvm.ClassFile.FieldType.byte) ∈ NF := List.mem_of_getElem? (i := 535) (by decide +kernel)
theorem nf_536 : (Jvm.Cond.eq (Jvm.Term.length (Jvm.Term.field (Jvm.Term.string "ForesightHub$Reader" (114 : Nat)) "java/lang/String" "value" "[B")) (Jvm.Term.int (6 : Int32))) ∈ NF := List.mem_of_getElem? (i := 536) (by decide +kernel)
theorem nf_537 : (Jvm.Cond.eq (Jvm.Term.elem (Jvm.Term.field (Jvm.Term.string "ForesightHub$Reader" (114 : Nat)) "java/lang/String" "value" "[B") (Jvm.Term.int (0 : Int32))) (Jvm.Term.int (115 : Int32))) ∈ NF := List.mem_of_getElem? (i := 537) (by decide +kernel)
theorem nf_538 : (Jvm.Cond.eq (Jvm.Term.elem (Jvm.Term.field (Jvm.Term.string "ForesightHub$Reader" (114 : Nat)) "java/lang/String" "value" "[B") (Jvm.Term.int (1 : Int32))) (Jvm.Term.int (116 : Int32))) ∈ NF := List.mem_of_getElem? (i := 538) (by decide +kernel)
theorem nf_539 : (Jvm.Cond.eq (Jvm.Term.elem (Jvm.Term.field (Jvm.Term.string "ForesightHub$Reader" (114 : Nat)) "java/lang/String" "value" "[B") (Jvm.Term.int (2 : Int32))) (Jvm.Term.int (114 : Int32))) ∈ NF := List.mem_of_getElem? (i := 539) (by decide +kernel)
theorem nf_540 : (Jvm.Cond.eq (Jvm.Term.elem (Jvm.Term.field (Jvm.Term.string "ForesightHub$Reader" (114 : Nat)) "java/lang/String" "value" "[B") (Jvm.Term.int (3 : Int32))) (Jvm.Term.int (101 : Int32))) ∈ NF := List.mem_of_getElem? (i := 540) (by decide +kernel)
theorem nf_541 : (Jvm.Cond.eq (Jvm.Term.elem (Jvm.Term.field (Jvm.Term.string "ForesightHub$Reader" (114 : Nat)) "java/lang/String" "value" "[B") (Jvm.Term.int (4 : Int32))) (Jvm.Term.int (97 : Int32))) ∈ NF := List.mem_of_getElem? (i := 541) (by decide +kernel)
theorem nf_542 : (Jvm.Cond.eq (Jvm.Term.elem (Jvm.Term.field (Jvm.Term.string "ForesightHub$Reader" (114 : Nat)) "java/lang/String" "value" "[B") (Jvm.Term.int (5 : Int32))) (Jvm.Term.int (109 : Int32))) ∈ NF := List.mem_of_getElem? (i := 542) (by decide +kernel)
theorem nf_543 : (Jvm.Cond.exactly (Jvm.Term.string "ForesightHub$Reader" (119 : Nat)) "java/lang/String") ∈ NF := List.mem_of_getElem? (i := 543) (by decide +kernel)
theorem nf_544 : (Jvm.Cond.eq (Jvm.Term.field (Jvm.Term.string "ForesightHub$Reader" (119 : Nat)) "java/lang/String" "coder" "B") (Jvm.Term.int (0 : Int32))) ∈ NF := List.mem_of_getElem? (i := 544) (by decide +kernel)
theorem nf_545 : (Jvm.Cond.arrayOf (Jvm.Term.field (Jvm.Term.string "ForesightHub$Reader" (119 : Nat)) "java/lang/String" "value" "[B") Jvm.ClassFile.FieldType.byte) ∈ NF := List.mem_of_getElem? (i := 545) (by decide +kernel)
theorem nf_546 : (Jvm.Cond.eq (Jvm.Term.length (Jvm.Term.field (Jvm.Term.string "ForesightHub$Reader" (119 : Nat)) "java/lang/String" "value" "[B")) (Jvm.Term.int (5 : Int32))) ∈ NF := List.mem_of_getElem? (i := 546) (by decide +kernel)
theorem nf_547 : (Jvm.Cond.eq (Jvm.Term.elem (Jvm.Term.field (Jvm.Term.string "ForesightHub$Reader" (119 : Nat)) "java/lang/String" "value" "[B") (Jvm.Term.int (0 : Int32))) (Jvm.Term.int (97 : Int32))) ∈ NF := List.mem_of_getElem? (i := 547) (by decide +kernel)
theorem nf_548 : (Jvm.Cond.eq (Jvm.Term.elem (Jvm.Term.field (Jvm.Term.string "ForesightHub$Reader" (119 : Nat)) "java/lang/String" "value" "[B") (Jvm.Term.int (1 : Int32))) (Jvm.Term.int (108 : Int32))) ∈ NF := List.mem_of_getElem? (i := 548) (by decide +kernel)
theorem nf_549 : (Jvm.Cond.eq (Jvm.Term.elem (Jvm.Term.field (Jvm.Term.string "ForesightHub$Reader" (119 : Nat)) "java/lang/String" "value" "[B") (Jvm.Term.int (2 : Int32))) (Jvm.Term.int (97 : Int32))) ∈ NF := List.mem_of_getElem? (i := 549) (by decide +kernel)
theorem nf_550 : (Jvm.Cond.eq (Jvm.Term.elem (Jvm.Term.field (Jvm.Term.string "ForesightHub$Reader" (119 : Nat)) "java/lang/String" "value" "[B") (Jvm.Term.int (3 : Int32))) (Jvm.Term.int (114 : Int32))) ∈ NF := List.mem_of_getElem? (i := 550) (by decide +kernel)
theorem nf_551 : (Jvm.Cond.eq (Jvm.Term.elem (Jvm.Term.field (Jvm.Term.string "ForesightHub$Reader" (119 : Nat)) "java/lang/String" "value" "[B") (Jvm.Term.int (4 : Int32))) (Jvm.Term.int (109 : Int32))) ∈ NF := List.mem_of_getElem? (i := 551) (by decide +kernel)
theorem nf_552 : (Jvm.Cond.exactly (Jvm.Term.string "ForesightHub" (311 : Nat)) "java/lang/String") ∈ NF := List.mem_of_getElem? (i := 552) (by decide +kernel)
theorem nf_577 : (Jvm.Cond.exactly (Jvm.Term.string "ForesightHub" (313 : Nat)) "java/lang/String") ∈ NF := List.mem_of_getElem? (i := 577) (by decide +kernel)
theorem nf_609 : (Jvm.Cond.exactly (Jvm.Term.string "ForesightHub" (309 : Nat)) "java/lang/String") ∈ NF := List.mem_of_getElem? (i := 609) (by decide +kernel)
theorem nf_625 : (Jvm.Cond.exactly (Jvm.Term.string "ForesightHub" (283 : Nat)) "java/lang/String") ∈ NF := List.mem_of_getElem? (i := 625) (by decide +kernel)
theorem nf_661 : (Jvm.Cond.exactly (Jvm.Term.string "ForesightHub" (285 : Nat)) "java/lang/String") ∈ NF := List.mem_of_getElem? (i := 661) (by decide +kernel)
theorem nf_694 : (Jvm.Cond.exactly (Jvm.Term.string "ForesightHub" (270 : Nat)) "java/lang/String") ∈ NF := List.mem_of_getElem? (i := 694) (by decide +kernel)
theorem nf_724 : (Jvm.Cond.exactly (Jvm.Term.string "ForesightHub" (243 : Nat)) "java/lang/String") ∈ NF := List.mem_of_getElem? (i := 724) (by decide +kernel)
theorem nf_752 : (Jvm.Cond.exactly (Jvm.Term.string "ForesightHub" (307 : Nat)) "java/lang/String") ∈ NF := List.mem_of_getElem? (i := 752) (by decide +kernel)
theorem nf_770 : (Jvm.Cond.exactly (Jvm.Term.string "ForesightHub" (187 : Nat)) "java/lang/String") ∈ NF := List.mem_of_getElem? (i := 770) (by decide +kernel)
theorem nf_802 : (Jvm.Cond.exactly (Jvm.Term.string "ForesightHub" (238 : Nat)) "java/lang/String") ∈ NF := List.mem_of_getElem? (i := 802) (by decide +kernel)
theorem nf_821 : (Jvm.Cond.exactly (Jvm.Term.string "ForesightHub" (261 : Nat)) "java/lang/String") ∈ NF := List.mem_of_getElem? (i := 821) (by decide +kernel)
theorem TS_1 {w : Cond} (i : Nat) (h : tables_1_1[i]? = some w) : w ∈ lw_tbl := List.mem_append_right _ (List.mem_append_left _ (List.mem_of_getElem? h))
theorem TS_2 {w : Cond} (i : Nat) (h : tables_1_2[i]? = some w) : w ∈ lw_tbl := List.mem_append_right _ (List.mem_append_right _ (List.mem_append_left _ (List.mem_of_getElem? h)))
theorem TS_3 {w : Cond} (i : Nat) (h : tables_1_3[i]? = some w) : w ∈ lw_tbl := List.mem_append_right _ (List.mem_append_right _ (List.mem_append_right _ (List.mem_append_left _ (List.mem_of_getElem? h))))
theorem TS_4 {w : Cond} (i : Nat) (h : tables_1_4[i]? = some w) : w ∈ lw_tbl := List.mem_append_right _ (List.mem_append_right _ (List.mem_append_right _ (List.mem_append_right _ (List.mem_append_left _ (List.mem_of_getElem? h)))))
theorem TS_5 {w : Cond} (i : Nat) (h : tables_1_5[i]? = some w) : w ∈ lw_tbl := List.mem_append_right _ (List.mem_append_right _ (List.mem_append_right _ (List.mem_append_right _ (List.mem_append_right _ (List.mem_of_getElem? h)))))
theorem st_9 : (Jvm.Cond.initialized "java/lang/Throwable") ∈ lw_tbl := TS_1 9 rfl
theorem st_17 : (Jvm.Cond.initialized "java/lang/String") ∈ lw_tbl := TS_1 17 rfl
theorem st_21 : (Jvm.Cond.initialized "jdk/internal/util/Preconditions") ∈ lw_tbl := TS_1 21 rfl
theorem st_23 : (Jvm.Cond.initialized "java/lang/Integer") ∈ lw_tbl := TS_1 23 rfl
theorem st_27 : (Jvm.Cond.instantiable "ForesightHub" (5 : Nat)) ∈ lw_tbl := TS_1 27 rfl
theorem st_35 : (Jvm.Cond.instantiable "ForesightHub$Reader" (14 : Nat)) ∈ lw_tbl := TS_1 35 rfl
theorem st_36 : (Jvm.Cond.methodLinkNest "ForesightHub" (9 : Nat) ({ cls := "ForesightHub$Reader", name := "<init>", desc := "()V" } : Jvm.MethodName) "ForesightHub") ∈ lw_tbl := TS_1 36 rfl
theorem st_41 : (Jvm.Cond.instantiable "ForesightHub$Plan" (16 : Nat)) ∈ lw_tbl := TS_1 41 rfl
theorem st_142 : (Jvm.Cond.arrayClass Jvm.ClassFile.FieldType.byte) ∈ lw_tbl := TS_1 142 rfl
theorem st_143 : (Jvm.Cond.arrayClass Jvm.ClassFile.FieldType.int) ∈ lw_tbl := TS_1 143 rfl
theorem st_188 : (Jvm.Cond.arrayClass Jvm.ClassFile.FieldType.long) ∈ lw_tbl := TS_1 188 rfl
theorem st_190 : (Jvm.Cond.instantiable "ForesightHub$Hub" (2 : Nat)) ∈ lw_tbl := TS_1 190 rfl
theorem st_198 : (Jvm.Cond.instantiable "ForesightHub$State" (10 : Nat)) ∈ lw_tbl := TS_1 198 rfl
theorem st_199 : (Jvm.Cond.methodLinkNest "ForesightHub$Hub" (20 : Nat) ({ cls := "ForesightHub$State", name := "<init>", desc := "()V" } : Jvm.MethodName) "ForesightHub") ∈ lw_tbl := TS_1 199 rfl
theorem st_204 : (Jvm.Cond.instantiable "ForesightHub$ErrorBook" (6 : Nat)) ∈ lw_tbl := TS_1 204 rfl
theorem st_205 : (Jvm.Cond.methodLinkNest "ForesightHub$State" (33 : Nat) ({ cls := "ForesightHub$ErrorBook", name := "<init>", desc := "()V" } : Jvm.MethodName) "ForesightHub") ∈ lw_tbl := TS_1 205 rfl
theorem st_231 : (Jvm.Cond.instantiable "ForesightHub$Log" (6 : Nat)) ∈ lw_tbl := TS_1 231 rfl
theorem st_232 : (Jvm.Cond.methodLinkNest "ForesightHub$State" (40 : Nat) ({ cls := "ForesightHub$Log", name := "<init>", desc := "()V" } : Jvm.MethodName) "ForesightHub") ∈ lw_tbl := TS_1 232 rfl
theorem st_316 : (Jvm.Cond.instantiable "ForesightHub$History" (3 : Nat)) ∈ lw_tbl := TS_2 76 rfl
theorem st_322 : (Jvm.Cond.arrayOver (Jvm.ClassFile.FieldType.object "ForesightHub$State")) ∈ lw_tbl := TS_2 82 rfl
theorem st_323 : (Jvm.Cond.methodLinkNest "ForesightHub$History" (15 : Nat) ({ cls := "ForesightHub$State", name := "<init>", desc := "()V" } : Jvm.MethodName) "ForesightHub") ∈ lw_tbl := TS_2 83 rfl
theorem st_336 : (Jvm.Cond.methodLinkNest "ForesightHub" (40 : Nat) ({ cls := "ForesightHub$State", name := "<init>", desc := "()V" } : Jvm.MethodName) "ForesightHub") ∈ lw_tbl := TS_2 96 rfl
theorem st_353 : (Jvm.Cond.arrayClass Jvm.ClassFile.FieldType.boolean) ∈ lw_tbl := TS_2 113 rfl
theorem st_364 : (Jvm.Cond.castable "java/lang/IllegalArgumentException" "java/lang/IllegalArgumentException") ∈ lw_tbl := TS_2 124 rfl
theorem st_365 : (Jvm.Cond.declares ({ cls := "java/lang/RuntimeException", name := "<init>", desc := "()V" } : Jvm.MethodName)) ∈ lw_tbl := TS_2 125 rfl
theorem st_366 : (Jvm.Cond.declares ({ cls := "java/lang/RuntimeException", name := "<init>", desc := "(Ljava/lang/String;)V" } : Jvm.MethodName)) ∈ lw_tbl := TS_2 126 rfl
theorem st_367 : (Jvm.Cond.declares ({ cls := "java/lang/Exception", name := "<init>", desc := "()V" } : Jvm.MethodName)) ∈ lw_tbl := TS_2 127 rfl
theorem st_368 : (Jvm.Cond.declares ({ cls := "java/lang/Exception", name := "<init>", desc := "(Ljava/lang/String;)V" } : Jvm.MethodName)) ∈ lw_tbl := TS_2 128 rfl
theorem st_369 : (Jvm.Cond.declares ({ cls := "java/lang/Throwable", name := "<init>", desc := "()V" } : Jvm.MethodName)) ∈ lw_tbl := TS_2 129 rfl
theorem st_370 : (Jvm.Cond.declares ({ cls := "java/lang/Throwable", name := "<init>", desc := "(Ljava/lang/String;)V" } : Jvm.MethodName)) ∈ lw_tbl := TS_2 130 rfl
theorem st_389 : (Jvm.Cond.laysStatic "java/lang/Throwable" "UNASSIGNED_STACK" "[Ljava/lang/StackTraceElement;") ∈ lw_tbl := TS_2 149 rfl
theorem st_391 : (Jvm.Cond.laysStatic "java/lang/Throwable" "SUPPRESSED_SENTINEL" "Ljava/util/List;") ∈ lw_tbl := TS_2 151 rfl
theorem st_403 : (Jvm.Cond.stringRef "ForesightHub" (118 : Nat) "no such number") ∈ lw_tbl := TS_2 163 rfl
theorem st_443 : (Jvm.Cond.castable "java/lang/IndexOutOfBoundsException" "java/lang/IndexOutOfBoundsException") ∈ lw_tbl := TS_2 203 rfl
theorem st_450 : (Jvm.Cond.stringRef "ForesightHub" (304 : Nat) "no such device") ∈ lw_tbl := TS_2 210 rfl
theorem st_506 : (Jvm.Cond.stringRef "ForesightHub" (161 : Nat) "no such property of a device") ∈ lw_tbl := TS_3 26 rfl
theorem st_573 : (Jvm.Cond.instantiable "java/lang/StringBuilder" (4 : Nat)) ∈ lw_tbl := TS_3 93 rfl
theorem st_574 : (Jvm.Cond.stringRef "ForesightHubLaw" (29 : Nat) "hub ") ∈ lw_tbl := TS_3 94 rfl
theorem st_591 : (Jvm.Cond.laysStatic "java/lang/String" "COMPACT_STRINGS" "Z") ∈ lw_tbl := TS_3 111 rfl
theorem st_620 : (Jvm.Cond.privateMethod ({ cls := "java/lang/AbstractStringBuilder", name := "ensureCapacityInternal", desc := "(I)V" } : Jvm.MethodName)) ∈ lw_tbl := TS_3 140 rfl
theorem st_621 : (Jvm.Cond.instanceMethod ({ cls := "java/lang/AbstractStringBuilder", name := "ensureCapacityInternal", desc := "(I)V" } : Jvm.MethodName)) ∈ lw_tbl := TS_3 141 rfl
theorem st_624 : (Jvm.Cond.privateMethod ({ cls := "java/lang/AbstractStringBuilder", name := "newCapacity", desc := "(I)I" } : Jvm.MethodName)) ∈ lw_tbl := TS_3 144 rfl
theorem st_625 : (Jvm.Cond.instanceMethod ({ cls := "java/lang/AbstractStringBuilder", name := "newCapacity", desc := "(I)I" } : Jvm.MethodName)) ∈ lw_tbl := TS_3 145 rfl
theorem st_652 : (Jvm.Cond.selects "java/lang/StringBuilder" ({ cls := "java/lang/AbstractStringBuilder", name := "isLatin1", desc := "()Z" } : Jvm.MethodName) ({ cls := "java/lang/AbstractStringBuilder", name := "isLatin1", desc := "()Z" } : Jvm.MethodName)) ∈ lw_tbl := TS_3 172 rfl
theorem st_668 : (Jvm.Cond.laysStatic "jdk/internal/util/Preconditions" "SIOOBE_FORMATTER" "Ljava/util/function/BiFunction;") ∈ lw_tbl := TS_3 188 rfl
theorem st_682 : (Jvm.Cond.privateMethod ({ cls := "java/lang/AbstractStringBuilder", name := "putStringAt", desc := "(ILjava/lang/String;)V" } : Jvm.MethodName)) ∈ lw_tbl := TS_3 202 rfl
theorem st_683 : (Jvm.Cond.instanceMethod ({ cls := "java/lang/AbstractStringBuilder", name := "putStringAt", desc := "(ILjava/lang/String;)V" } : Jvm.MethodName)) ∈ lw_tbl := TS_3 203 rfl
theorem st_686 : (Jvm.Cond.privateMethod ({ cls := "java/lang/AbstractStringBuilder", name := "inflateIfNeededFor", desc := "(Ljava/lang/String;)V" } : Jvm.MethodName)) ∈ lw_tbl := TS_3 206 rfl
theorem st_687 : (Jvm.Cond.instanceMethod ({ cls := "java/lang/AbstractStringBuilder", name := "inflateIfNeededFor", desc := "(Ljava/lang/String;)V" } : Jvm.MethodName)) ∈ lw_tbl := TS_3 207 rfl
theorem st_739 : (Jvm.Cond.laysStatic "java/lang/Integer" "DigitOnes" "[B") ∈ lw_tbl := TS_4 19 rfl
theorem st_741 : (Jvm.Cond.laysStatic "java/lang/Integer" "DigitTens" "[B") ∈ lw_tbl := TS_4 21 rfl
theorem st_750 : (Jvm.Cond.stringRef "ForesightHubLaw" (38 : Nat) " 5;") ∈ lw_tbl := TS_4 30 rfl
theorem st_752 : (Jvm.Cond.stringRef "ForesightHubLaw" (43 : Nat) "pattern p") ∈ lw_tbl := TS_4 32 rfl
theorem st_775 : (Jvm.Cond.stringRef "ForesightHubLaw" (48 : Nat) " ") ∈ lw_tbl := TS_4 55 rfl
theorem st_779 : (Jvm.Cond.stringRef "ForesightHubLaw" (15 : Nat) " crc") ∈ lw_tbl := TS_4 59 rfl
theorem st_780 : (Jvm.Cond.stringRef "ForesightHubLaw" (17 : Nat) " stall") ∈ lw_tbl := TS_4 60 rfl
theorem st_781 : (Jvm.Cond.stringRef "ForesightHubLaw" (19 : Nat) " jitter") ∈ lw_tbl := TS_4 61 rfl
theorem st_782 : (Jvm.Cond.stringRef "ForesightHubLaw" (21 : Nat) " power") ∈ lw_tbl := TS_4 62 rfl
theorem st_783 : (Jvm.Cond.stringRef "ForesightHubLaw" (54 : Nat) ";") ∈ lw_tbl := TS_4 63 rfl
theorem st_784 : (Jvm.Cond.stringRef "ForesightHubLaw" (56 : Nat) "device d") ∈ lw_tbl := TS_4 64 rfl
theorem st_785 : (Jvm.Cond.stringRef "ForesightHubLaw" (58 : Nat) " heir d") ∈ lw_tbl := TS_4 65 rfl
theorem st_786 : (Jvm.Cond.stringRef "ForesightHubLaw" (60 : Nat) "stream s") ∈ lw_tbl := TS_4 66 rfl
theorem st_787 : (Jvm.Cond.stringRef "ForesightHubLaw" (62 : Nat) " d") ∈ lw_tbl := TS_4 67 rfl
theorem st_788 : (Jvm.Cond.stringRef "ForesightHubLaw" (64 : Nat) "alarm ") ∈ lw_tbl := TS_4 68 rfl
theorem st_789 : (Jvm.Cond.stringRef "ForesightHubLaw" (66 : Nat) " 40;") ∈ lw_tbl := TS_4 69 rfl
theorem st_825 : (Jvm.Cond.stringRef "ForesightHub" (55 : Nat) "no such length of the text") ∈ lw_tbl := TS_4 105 rfl
theorem st_844 : (Jvm.Cond.stringRef "ForesightHub$Reader" (81 : Nat) "hub") ∈ lw_tbl := TS_4 124 rfl
theorem st_882 : (Jvm.Cond.stringRef "ForesightHub$Reader" (104 : Nat) "pattern") ∈ lw_tbl := TS_4 162 rfl
theorem st_903 : (Jvm.Cond.stringRef "ForesightHub$Reader" (189 : Nat) "crc") ∈ lw_tbl := TS_4 183 rfl
theorem st_904 : (Jvm.Cond.stringRef "ForesightHub$Reader" (191 : Nat) "stall") ∈ lw_tbl := TS_4 184 rfl
theorem st_905 : (Jvm.Cond.stringRef "ForesightHub$Reader" (193 : Nat) "jitter") ∈ lw_tbl := TS_4 185 rfl
theorem st_906 : (Jvm.Cond.stringRef "ForesightHub$Reader" (195 : Nat) "power") ∈ lw_tbl := TS_4 186 rfl
theorem st_907 : (Jvm.Cond.stringRef "ForesightHub$Reader" (109 : Nat) "device") ∈ lw_tbl := TS_4 187 rfl
theorem st_916 : (Jvm.Cond.stringRef "ForesightHub$Reader" (163 : Nat) "heir") ∈ lw_tbl := TS_4 196 rfl
theorem st_921 : (Jvm.Cond.stringRef "ForesightHub$Reader" (114 : Nat) "stream") ∈ lw_tbl := TS_4 201 rfl
theorem st_926 : (Jvm.Cond.stringRef "ForesightHub$Reader" (119 : Nat) "alarm") ∈ lw_tbl := TS_4 206 rfl
theorem st_992 : (Jvm.Cond.stringRef "ForesightHub" (311 : Nat) "no such kind of error") ∈ lw_tbl := TS_5 32 rfl
theorem st_1000 : (Jvm.Cond.castable "java/lang/IllegalStateException" "java/lang/IllegalStateException") ∈ lw_tbl := TS_5 40 rfl
theorem st_1007 : (Jvm.Cond.stringRef "ForesightHub" (313 : Nat) "the device is not plugged in") ∈ lw_tbl := TS_5 47 rfl
theorem st_1048 : (Jvm.Cond.stringRef "ForesightHub" (309 : Nat) "no such port") ∈ lw_tbl := TS_5 88 rfl
theorem st_1049 : (Jvm.Cond.stringRef "ForesightHub" (283 : Nat) "the device is plugged in already") ∈ lw_tbl := TS_5 89 rfl
theorem st_1054 : (Jvm.Cond.stringRef "ForesightHub" (285 : Nat) "another device is at the port") ∈ lw_tbl := TS_5 94 rfl
theorem st_1069 : (Jvm.Cond.stringRef "ForesightHub" (270 : Nat) "the device is not in alarm") ∈ lw_tbl := TS_5 109 rfl
theorem st_1083 : (Jvm.Cond.stringRef "ForesightHub" (243 : Nat) "no such number of frames") ∈ lw_tbl := TS_5 123 rfl
theorem st_1112 : (Jvm.Cond.stringRef "ForesightHub" (307 : Nat) "no such stream") ∈ lw_tbl := TS_5 152 rfl
theorem st_1114 : (Jvm.Cond.stringRef "ForesightHub" (187 : Nat) "no such property of a stream") ∈ lw_tbl := TS_5 154 rfl
theorem st_1135 : (Jvm.Cond.stringRef "ForesightHub" (238 : Nat) "no such account") ∈ lw_tbl := TS_5 175 rfl
theorem st_1140 : (Jvm.Cond.stringRef "ForesightHub" (261 : Nat) "the device is in alarm already") ∈ lw_tbl := TS_5 180 rfl
theorem hexS {s : State} {b : Nat} (hs : ∀ w ∈ NF, w.before #[Value.ref b] s = true) : ∀ i : Nat, i < nS → (Cond.exactly (tmS i) "java/lang/String").before #[Value.ref b] s = true := fun i hi => match i, hi with
    | 0, _ => hs _ nf_462
    | 1, _ => hs _ nf_469
    | 2, _ => hs _ nf_515
    | 3, _ => hs _ nf_533
    | 4, _ => hs _ nf_543
    | 5, _ => hs _ nf_525
    | 6, _ => hs _ nf_480
    | 7, _ => hs _ nf_487
    | 8, _ => hs _ nf_496
    | 9, _ => hs _ nf_506
    | 10, _ => hs _ nf_296
    | 11, _ => hs _ nf_304
    | 12, _ => hs _ nf_311
    | 13, _ => hs _ nf_324
    | 14, _ => hs _ nf_329
    | 15, _ => hs _ nf_337
    | 16, _ => hs _ nf_347
    | 17, _ => hs _ nf_358
    | 18, _ => hs _ nf_368
    | 19, _ => hs _ nf_373
    | 20, _ => hs _ nf_385
    | 21, _ => hs _ nf_396
    | 22, _ => hs _ nf_408
    | 23, _ => hs _ nf_414
    | 24, _ => hs _ nf_424
    | q9 + 25, h => absurd (show q9 + 25 < 25 from h) (by omega)
theorem hcoS {s : State} {b : Nat} (hs : ∀ w ∈ NF, w.before #[Value.ref b] s = true) : ∀ i : Nat, i < nS → (Cond.eq (.field (tmS i) "java/lang/String" "coder" "B") (.int 0)).before #[Value.ref b] s = true := fun i hi => match i, hi with
    | 0, _ => hs _ nf_463
    | 1, _ => hs _ nf_470
    | 2, _ => hs _ nf_516
    | 3, _ => hs _ nf_534
    | 4, _ => hs _ nf_544
    | 5, _ => hs _ nf_526
    | 6, _ => hs _ nf_481
    | 7, _ => hs _ nf_488
    | 8, _ => hs _ nf_497
    | 9, _ => hs _ nf_507
    | 10, _ => hs _ nf_297
    | 11, _ => hs _ nf_305
    | 12, _ => hs _ nf_312
    | 13, _ => hs _ nf_325
    | 14, _ => hs _ nf_330
    | 15, _ => hs _ nf_338
    | 16, _ => hs _ nf_348
    | 17, _ => hs _ nf_359
    | 18, _ => hs _ nf_369
    | 19, _ => hs _ nf_374
    | 20, _ => hs _ nf_386
    | 21, _ => hs _ nf_397
    | 22, _ => hs _ nf_409
    | 23, _ => hs _ nf_415
    | 24, _ => hs _ nf_425
    | q9 + 25, h => absurd (show q9 + 25 < 25 from h) (by omega)
theorem harS {s : State} {b : Nat} (hs : ∀ w ∈ NF, w.before #[Value.ref b] s = true) : ∀ i : Nat, i < nS → (Cond.arrayOf (.field (tmS i) "java/lang/String" "value" "[B") .byte).before #[Value.ref b] s = true := fun i hi => match i, hi with
    | 0, _ => hs _ nf_464
    | 1, _ => hs _ nf_471
    | 2, _ => hs _ nf_517
    | 3, _ => hs _ nf_535
    | 4, _ => hs _ nf_545
    | 5, _ => hs _ nf_527
    | 6, _ => hs _ nf_482
    | 7, _ => hs _ nf_489
    | 8, _ => hs _ nf_498
    | 9, _ => hs _ nf_508
    | 10, _ => hs _ nf_298
    | 11, _ => hs _ nf_306
    | 12, _ => hs _ nf_313
    | 13, _ => hs _ nf_326
    | 14, _ => hs _ nf_331
    | 15, _ => hs _ nf_339
    | 16, _ => hs _ nf_349
    | 17, _ => hs _ nf_360
    | 18, _ => hs _ nf_370
    | 19, _ => hs _ nf_375
    | 20, _ => hs _ nf_387
    | 21, _ => hs _ nf_398
    | 22, _ => hs _ nf_410
    | 23, _ => hs _ nf_416
    | 24, _ => hs _ nf_426
    | q9 + 25, h => absurd (show q9 + 25 < 25 from h) (by omega)
theorem hleS {s : State} {b : Nat} (hs : ∀ w ∈ NF, w.before #[Value.ref b] s = true) : ∀ i : Nat, i < nS → (Cond.eq (.length (.field (tmS i) "java/lang/String" "value" "[B")) (.int (Int32.ofNat (lenS.getD i 0)))).before #[Value.ref b] s = true := fun i hi => match i, hi with
    | 0, _ => hs _ nf_465
    | 1, _ => hs _ nf_472
    | 2, _ => hs _ nf_518
    | 3, _ => hs _ nf_536
    | 4, _ => hs _ nf_546
    | 5, _ => hs _ nf_528
    | 6, _ => hs _ nf_483
    | 7, _ => hs _ nf_490
    | 8, _ => hs _ nf_499
    | 9, _ => hs _ nf_509
    | 10, _ => hs _ nf_299
    | 11, _ => hs _ nf_307
    | 12, _ => hs _ nf_314
    | 13, _ => hs _ nf_327
    | 14, _ => hs _ nf_332
    | 15, _ => hs _ nf_340
    | 16, _ => hs _ nf_350
    | 17, _ => hs _ nf_361
    | 18, _ => hs _ nf_371
    | 19, _ => hs _ nf_376
    | 20, _ => hs _ nf_388
    | 21, _ => hs _ nf_399
    | 22, _ => hs _ nf_411
    | 23, _ => hs _ nf_417
    | 24, _ => hs _ nf_427
    | q9 + 25, h => absurd (show q9 + 25 < 25 from h) (by omega)
theorem helS {s : State} {b : Nat} (hs : ∀ w ∈ NF, w.before #[Value.ref b] s = true) : ∀ i : Nat, i < nS → ∀ j : Nat, j < lenS.getD i 0 → (Cond.eq (.elem (.field (tmS i) "java/lang/String" "value" "[B") (.int (Int32.ofNat j))) (.int ((bytS.getD i []).getD j 0))).before #[Value.ref b] s = true := fun i hi => match i, hi with
    | 0, _ => (fun j hj => match j, hj with | 0, _ => hs _ nf_466 | 1, _ => hs _ nf_467 | 2, _ => hs _ nf_468 | q8 + 3, h8 => absurd (show q8 + 3 < 3 from h8) (by omega))
    | 1, _ => (fun j hj => match j, hj with | 0, _ => hs _ nf_473 | 1, _ => hs _ nf_474 | 2, _ => hs _ nf_475 | 3, _ => hs _ nf_476 | 4, _ => hs _ nf_477 | 5, _ => hs _ nf_478 | 6, _ => hs _ nf_479 | q8 + 7, h8 => absurd (show q8 + 7 < 7 from h8) (by omega))
    | 2, _ => (fun j hj => match j, hj with | 0, _ => hs _ nf_519 | 1, _ => hs _ nf_520 | 2, _ => hs _ nf_521 | 3, _ => hs _ nf_522 | 4, _ => hs _ nf_523 | 5, _ => hs _ nf_524 | q8 + 6, h8 => absurd (show q8 + 6 < 6 from h8) (by omega))
    | 3, _ => (fun j hj => match j, hj with | 0, _ => hs _ nf_537 | 1, _ => hs _ nf_538 | 2, _ => hs _ nf_539 | 3, _ => hs _ nf_540 | 4, _ => hs _ nf_541 | 5, _ => hs _ nf_542 | q8 + 6, h8 => absurd (show q8 + 6 < 6 from h8) (by omega))
    | 4, _ => (fun j hj => match j, hj with | 0, _ => hs _ nf_547 | 1, _ => hs _ nf_548 | 2, _ => hs _ nf_549 | 3, _ => hs _ nf_550 | 4, _ => hs _ nf_551 | q8 + 5, h8 => absurd (show q8 + 5 < 5 from h8) (by omega))
    | 5, _ => (fun j hj => match j, hj with | 0, _ => hs _ nf_529 | 1, _ => hs _ nf_530 | 2, _ => hs _ nf_531 | 3, _ => hs _ nf_532 | q8 + 4, h8 => absurd (show q8 + 4 < 4 from h8) (by omega))
    | 6, _ => (fun j hj => match j, hj with | 0, _ => hs _ nf_484 | 1, _ => hs _ nf_485 | 2, _ => hs _ nf_486 | q8 + 3, h8 => absurd (show q8 + 3 < 3 from h8) (by omega))
    | 7, _ => (fun j hj => match j, hj with | 0, _ => hs _ nf_491 | 1, _ => hs _ nf_492 | 2, _ => hs _ nf_493 | 3, _ => hs _ nf_494 | 4, _ => hs _ nf_495 | q8 + 5, h8 => absurd (show q8 + 5 < 5 from h8) (by omega))
    | 8, _ => (fun j hj => match j, hj with | 0, _ => hs _ nf_500 | 1, _ => hs _ nf_501 | 2, _ => hs _ nf_502 | 3, _ => hs _ nf_503 | 4, _ => hs _ nf_504 | 5, _ => hs _ nf_505 | q8 + 6, h8 => absurd (show q8 + 6 < 6 from h8) (by omega))
    | 9, _ => (fun j hj => match j, hj with | 0, _ => hs _ nf_510 | 1, _ => hs _ nf_511 | 2, _ => hs _ nf_512 | 3, _ => hs _ nf_513 | 4, _ => hs _ nf_514 | q8 + 5, h8 => absurd (show q8 + 5 < 5 from h8) (by omega))
    | 10, _ => (fun j hj => match j, hj with | 0, _ => hs _ nf_300 | 1, _ => hs _ nf_301 | 2, _ => hs _ nf_302 | 3, _ => hs _ nf_303 | q8 + 4, h8 => absurd (show q8 + 4 < 4 from h8) (by omega))
    | 11, _ => (fun j hj => match j, hj with | 0, _ => hs _ nf_308 | 1, _ => hs _ nf_309 | 2, _ => hs _ nf_310 | q8 + 3, h8 => absurd (show q8 + 3 < 3 from h8) (by omega))
    | 12, _ => (fun j hj => match j, hj with | 0, _ => hs _ nf_315 | 1, _ => hs _ nf_316 | 2, _ => hs _ nf_317 | 3, _ => hs _ nf_318 | 4, _ => hs _ nf_319 | 5, _ => hs _ nf_320 | 6, _ => hs _ nf_321 | 7, _ => hs _ nf_322 | 8, _ => hs _ nf_323 | q8 + 9, h8 => absurd (show q8 + 9 < 9 from h8) (by omega))
    | 13, _ => (fun j hj => match j, hj with | 0, _ => hs _ nf_328 | q8 + 1, h8 => absurd (show q8 + 1 < 1 from h8) (by omega))
    | 14, _ => (fun j hj => match j, hj with | 0, _ => hs _ nf_333 | 1, _ => hs _ nf_334 | 2, _ => hs _ nf_335 | 3, _ => hs _ nf_336 | q8 + 4, h8 => absurd (show q8 + 4 < 4 from h8) (by omega))
    | 15, _ => (fun j hj => match j, hj with | 0, _ => hs _ nf_341 | 1, _ => hs _ nf_342 | 2, _ => hs _ nf_343 | 3, _ => hs _ nf_344 | 4, _ => hs _ nf_345 | 5, _ => hs _ nf_346 | q8 + 6, h8 => absurd (show q8 + 6 < 6 from h8) (by omega))
    | 16, _ => (fun j hj => match j, hj with | 0, _ => hs _ nf_351 | 1, _ => hs _ nf_352 | 2, _ => hs _ nf_353 | 3, _ => hs _ nf_354 | 4, _ => hs _ nf_355 | 5, _ => hs _ nf_356 | 6, _ => hs _ nf_357 | q8 + 7, h8 => absurd (show q8 + 7 < 7 from h8) (by omega))
    | 17, _ => (fun j hj => match j, hj with | 0, _ => hs _ nf_362 | 1, _ => hs _ nf_363 | 2, _ => hs _ nf_364 | 3, _ => hs _ nf_365 | 4, _ => hs _ nf_366 | 5, _ => hs _ nf_367 | q8 + 6, h8 => absurd (show q8 + 6 < 6 from h8) (by omega))
    | 18, _ => (fun j hj => match j, hj with | 0, _ => hs _ nf_372 | q8 + 1, h8 => absurd (show q8 + 1 < 1 from h8) (by omega))
    | 19, _ => (fun j hj => match j, hj with | 0, _ => hs _ nf_377 | 1, _ => hs _ nf_378 | 2, _ => hs _ nf_379 | 3, _ => hs _ nf_380 | 4, _ => hs _ nf_381 | 5, _ => hs _ nf_382 | 6, _ => hs _ nf_383 | 7, _ => hs _ nf_384 | q8 + 8, h8 => absurd (show q8 + 8 < 8 from h8) (by omega))
    | 20, _ => (fun j hj => match j, hj with | 0, _ => hs _ nf_389 | 1, _ => hs _ nf_390 | 2, _ => hs _ nf_391 | 3, _ => hs _ nf_392 | 4, _ => hs _ nf_393 | 5, _ => hs _ nf_394 | 6, _ => hs _ nf_395 | q8 + 7, h8 => absurd (show q8 + 7 < 7 from h8) (by omega))
    | 21, _ => (fun j hj => match j, hj with | 0, _ => hs _ nf_400 | 1, _ => hs _ nf_401 | 2, _ => hs _ nf_402 | 3, _ => hs _ nf_403 | 4, _ => hs _ nf_404 | 5, _ => hs _ nf_405 | 6, _ => hs _ nf_406 | 7, _ => hs _ nf_407 | q8 + 8, h8 => absurd (show q8 + 8 < 8 from h8) (by omega))
    | 22, _ => (fun j hj => match j, hj with | 0, _ => hs _ nf_412 | 1, _ => hs _ nf_413 | q8 + 2, h8 => absurd (show q8 + 2 < 2 from h8) (by omega))
    | 23, _ => (fun j hj => match j, hj with | 0, _ => hs _ nf_418 | 1, _ => hs _ nf_419 | 2, _ => hs _ nf_420 | 3, _ => hs _ nf_421 | 4, _ => hs _ nf_422 | 5, _ => hs _ nf_423 | q8 + 6, h8 => absurd (show q8 + 6 < 6 from h8) (by omega))
    | 24, _ => (fun j hj => match j, hj with | 0, _ => hs _ nf_428 | 1, _ => hs _ nf_429 | 2, _ => hs _ nf_430 | 3, _ => hs _ nf_431 | q8 + 4, h8 => absurd (show q8 + 4 < 4 from h8) (by omega))
    | q9 + 25, h => absurd (show q9 + 25 < 25 from h) (by omega)
theorem hneS {s : State} {b : Nat} (hs : ∀ w ∈ NF, w.before #[Value.ref b] s = true) : ∀ i j : Nat, i < nS → j < nS → i ≠ j → (Cond.not (Cond.eq (tmS i) (tmS j))).before #[Value.ref b] s = true ∨ (Cond.not (Cond.eq (tmS j) (tmS i))).before #[Value.ref b] s = true := fun i j hi hj hij => by
  obtain ⟨a, -, -, -, ha, -⟩ := Cond.exactly_spec (hexS hs i hi)
  obtain ⟨c, -, -, -, hc, -⟩ := Cond.exactly_spec (hexS hs j hj)
  refine Or.inl (lit_ne ha hc fun e => ?_)
  subst e
  have l1 := lit_ln ha (va_eqt (hleS hs i hi)) hc (va_eqt (hleS hs j hj))
  exact hij (keyS i hi j hj l1 fun k k1 k2 => lit_el ha (va_eqt (helS hs i hi k k1)) hc (va_eqt (helS hs j hj k k2)))
theorem hdg1 {s : State} {b : Nat} (hs : ∀ w ∈ NF, w.before #[Value.ref b] s = true) : ∀ j : Nat, j < 100 → (Term.elem (Term.static "java/lang/Integer" "DigitOnes" "[B") (.int (Int32.ofNat j))).eval #[Value.ref b] s none [] s = some (dgO j) := fun j hj => match j, hj with
  | 0, _ => va_eqt (hs _ nf_14)
  | 1, _ => va_eqt (hs _ nf_15)
  | 2, _ => va_eqt (hs _ nf_16)
  | 3, _ => va_eqt (hs _ nf_17)
  | 4, _ => va_eqt (hs _ nf_18)
  | 5, _ => va_eqt (hs _ nf_19)
  | 6, _ => va_eqt (hs _ nf_20)
  | 7, _ => va_eqt (hs _ nf_21)
  | 8, _ => va_eqt (hs _ nf_22)
  | 9, _ => va_eqt (hs _ nf_23)
  | 10, _ => va_eqt (hs _ nf_24)
  | 11, _ => va_eqt (hs _ nf_25)
  | 12, _ => va_eqt (hs _ nf_26)
  | 13, _ => va_eqt (hs _ nf_27)
  | 14, _ => va_eqt (hs _ nf_28)
  | 15, _ => va_eqt (hs _ nf_29)
  | 16, _ => va_eqt (hs _ nf_30)
  | 17, _ => va_eqt (hs _ nf_31)
  | 18, _ => va_eqt (hs _ nf_32)
  | 19, _ => va_eqt (hs _ nf_33)
  | 20, _ => va_eqt (hs _ nf_34)
  | 21, _ => va_eqt (hs _ nf_35)
  | 22, _ => va_eqt (hs _ nf_36)
  | 23, _ => va_eqt (hs _ nf_37)
  | 24, _ => va_eqt (hs _ nf_38)
  | 25, _ => va_eqt (hs _ nf_39)
  | 26, _ => va_eqt (hs _ nf_40)
  | 27, _ => va_eqt (hs _ nf_41)
  | 28, _ => va_eqt (hs _ nf_42)
  | 29, _ => va_eqt (hs _ nf_43)
  | 30, _ => va_eqt (hs _ nf_44)
  | 31, _ => va_eqt (hs _ nf_45)
  | 32, _ => va_eqt (hs _ nf_46)
  | 33, _ => va_eqt (hs _ nf_47)
  | 34, _ => va_eqt (hs _ nf_48)
  | 35, _ => va_eqt (hs _ nf_49)
  | 36, _ => va_eqt (hs _ nf_50)
  | 37, _ => va_eqt (hs _ nf_51)
  | 38, _ => va_eqt (hs _ nf_52)
  | 39, _ => va_eqt (hs _ nf_53)
  | 40, _ => va_eqt (hs _ nf_54)
  | 41, _ => va_eqt (hs _ nf_55)
  | 42, _ => va_eqt (hs _ nf_56)
  | 43, _ => va_eqt (hs _ nf_57)
  | 44, _ => va_eqt (hs _ nf_58)
  | 45, _ => va_eqt (hs _ nf_59)
  | 46, _ => va_eqt (hs _ nf_60)
  | 47, _ => va_eqt (hs _ nf_61)
  | 48, _ => va_eqt (hs _ nf_62)
  | 49, _ => va_eqt (hs _ nf_63)
  | 50, _ => va_eqt (hs _ nf_64)
  | 51, _ => va_eqt (hs _ nf_65)
  | 52, _ => va_eqt (hs _ nf_66)
  | 53, _ => va_eqt (hs _ nf_67)
  | 54, _ => va_eqt (hs _ nf_68)
  | 55, _ => va_eqt (hs _ nf_69)
  | 56, _ => va_eqt (hs _ nf_70)
  | 57, _ => va_eqt (hs _ nf_71)
  | 58, _ => va_eqt (hs _ nf_72)
  | 59, _ => va_eqt (hs _ nf_73)
  | 60, _ => va_eqt (hs _ nf_74)
  | 61, _ => va_eqt (hs _ nf_75)
  | 62, _ => va_eqt (hs _ nf_76)
  | 63, _ => va_eqt (hs _ nf_77)
  | 64, _ => va_eqt (hs _ nf_78)
  | 65, _ => va_eqt (hs _ nf_79)
  | 66, _ => va_eqt (hs _ nf_80)
  | 67, _ => va_eqt (hs _ nf_81)
  | 68, _ => va_eqt (hs _ nf_82)
  | 69, _ => va_eqt (hs _ nf_83)
  | 70, _ => va_eqt (hs _ nf_84)
  | 71, _ => va_eqt (hs _ nf_85)
  | 72, _ => va_eqt (hs _ nf_86)
  | 73, _ => va_eqt (hs _ nf_87)
  | 74, _ => va_eqt (hs _ nf_88)
  | 75, _ => va_eqt (hs _ nf_89)
  | 76, _ => va_eqt (hs _ nf_90)
  | 77, _ => va_eqt (hs _ nf_91)
  | 78, _ => va_eqt (hs _ nf_92)
  | 79, _ => va_eqt (hs _ nf_93)
  | 80, _ => va_eqt (hs _ nf_94)
  | 81, _ => va_eqt (hs _ nf_95)
  | 82, _ => va_eqt (hs _ nf_96)
  | 83, _ => va_eqt (hs _ nf_97)
  | 84, _ => va_eqt (hs _ nf_98)
  | 85, _ => va_eqt (hs _ nf_99)
  | 86, _ => va_eqt (hs _ nf_100)
  | 87, _ => va_eqt (hs _ nf_101)
  | 88, _ => va_eqt (hs _ nf_102)
  | 89, _ => va_eqt (hs _ nf_103)
  | 90, _ => va_eqt (hs _ nf_104)
  | 91, _ => va_eqt (hs _ nf_105)
  | 92, _ => va_eqt (hs _ nf_106)
  | 93, _ => va_eqt (hs _ nf_107)
  | 94, _ => va_eqt (hs _ nf_108)
  | 95, _ => va_eqt (hs _ nf_109)
  | 96, _ => va_eqt (hs _ nf_110)
  | 97, _ => va_eqt (hs _ nf_111)
  | 98, _ => va_eqt (hs _ nf_112)
  | 99, _ => va_eqt (hs _ nf_113)
  | q9 + 100, h => absurd (show q9 + 100 < 100 from h) (by omega)
theorem hdg2 {s : State} {b : Nat} (hs : ∀ w ∈ NF, w.before #[Value.ref b] s = true) : ∀ j : Nat, j < 100 → (Term.elem (Term.static "java/lang/Integer" "DigitTens" "[B") (.int (Int32.ofNat j))).eval #[Value.ref b] s none [] s = some (dgT j) := fun j hj => match j, hj with
  | 0, _ => va_eqt (hs _ nf_117)
  | 1, _ => va_eqt (hs _ nf_118)
  | 2, _ => va_eqt (hs _ nf_119)
  | 3, _ => va_eqt (hs _ nf_120)
  | 4, _ => va_eqt (hs _ nf_121)
  | 5, _ => va_eqt (hs _ nf_122)
  | 6, _ => va_eqt (hs _ nf_123)
  | 7, _ => va_eqt (hs _ nf_124)
  | 8, _ => va_eqt (hs _ nf_125)
  | 9, _ => va_eqt (hs _ nf_126)
  | 10, _ => va_eqt (hs _ nf_127)
  | 11, _ => va_eqt (hs _ nf_128)
  | 12, _ => va_eqt (hs _ nf_129)
  | 13, _ => va_eqt (hs _ nf_130)
  | 14, _ => va_eqt (hs _ nf_131)
  | 15, _ => va_eqt (hs _ nf_132)
  | 16, _ => va_eqt (hs _ nf_133)
  | 17, _ => va_eqt (hs _ nf_134)
  | 18, _ => va_eqt (hs _ nf_135)
  | 19, _ => va_eqt (hs _ nf_136)
  | 20, _ => va_eqt (hs _ nf_137)
  | 21, _ => va_eqt (hs _ nf_138)
  | 22, _ => va_eqt (hs _ nf_139)
  | 23, _ => va_eqt (hs _ nf_140)
  | 24, _ => va_eqt (hs _ nf_141)
  | 25, _ => va_eqt (hs _ nf_142)
  | 26, _ => va_eqt (hs _ nf_143)
  | 27, _ => va_eqt (hs _ nf_144)
  | 28, _ => va_eqt (hs _ nf_145)
  | 29, _ => va_eqt (hs _ nf_146)
  | 30, _ => va_eqt (hs _ nf_147)
  | 31, _ => va_eqt (hs _ nf_148)
  | 32, _ => va_eqt (hs _ nf_149)
  | 33, _ => va_eqt (hs _ nf_150)
  | 34, _ => va_eqt (hs _ nf_151)
  | 35, _ => va_eqt (hs _ nf_152)
  | 36, _ => va_eqt (hs _ nf_153)
  | 37, _ => va_eqt (hs _ nf_154)
  | 38, _ => va_eqt (hs _ nf_155)
  | 39, _ => va_eqt (hs _ nf_156)
  | 40, _ => va_eqt (hs _ nf_157)
  | 41, _ => va_eqt (hs _ nf_158)
  | 42, _ => va_eqt (hs _ nf_159)
  | 43, _ => va_eqt (hs _ nf_160)
  | 44, _ => va_eqt (hs _ nf_161)
  | 45, _ => va_eqt (hs _ nf_162)
  | 46, _ => va_eqt (hs _ nf_163)
  | 47, _ => va_eqt (hs _ nf_164)
  | 48, _ => va_eqt (hs _ nf_165)
  | 49, _ => va_eqt (hs _ nf_166)
  | 50, _ => va_eqt (hs _ nf_167)
  | 51, _ => va_eqt (hs _ nf_168)
  | 52, _ => va_eqt (hs _ nf_169)
  | 53, _ => va_eqt (hs _ nf_170)
  | 54, _ => va_eqt (hs _ nf_171)
  | 55, _ => va_eqt (hs _ nf_172)
  | 56, _ => va_eqt (hs _ nf_173)
  | 57, _ => va_eqt (hs _ nf_174)
  | 58, _ => va_eqt (hs _ nf_175)
  | 59, _ => va_eqt (hs _ nf_176)
  | 60, _ => va_eqt (hs _ nf_177)
  | 61, _ => va_eqt (hs _ nf_178)
  | 62, _ => va_eqt (hs _ nf_179)
  | 63, _ => va_eqt (hs _ nf_180)
  | 64, _ => va_eqt (hs _ nf_181)
  | 65, _ => va_eqt (hs _ nf_182)
  | 66, _ => va_eqt (hs _ nf_183)
  | 67, _ => va_eqt (hs _ nf_184)
  | 68, _ => va_eqt (hs _ nf_185)
  | 69, _ => va_eqt (hs _ nf_186)
  | 70, _ => va_eqt (hs _ nf_187)
  | 71, _ => va_eqt (hs _ nf_188)
  | 72, _ => va_eqt (hs _ nf_189)
  | 73, _ => va_eqt (hs _ nf_190)
  | 74, _ => va_eqt (hs _ nf_191)
  | 75, _ => va_eqt (hs _ nf_192)
  | 76, _ => va_eqt (hs _ nf_193)
  | 77, _ => va_eqt (hs _ nf_194)
  | 78, _ => va_eqt (hs _ nf_195)
  | 79, _ => va_eqt (hs _ nf_196)
  | 80, _ => va_eqt (hs _ nf_197)
  | 81, _ => va_eqt (hs _ nf_198)
  | 82, _ => va_eqt (hs _ nf_199)
  | 83, _ => va_eqt (hs _ nf_200)
  | 84, _ => va_eqt (hs _ nf_201)
  | 85, _ => va_eqt (hs _ nf_202)
  | 86, _ => va_eqt (hs _ nf_203)
  | 87, _ => va_eqt (hs _ nf_204)
  | 88, _ => va_eqt (hs _ nf_205)
  | 89, _ => va_eqt (hs _ nf_206)
  | 90, _ => va_eqt (hs _ nf_207)
  | 91, _ => va_eqt (hs _ nf_208)
  | 92, _ => va_eqt (hs _ nf_209)
  | 93, _ => va_eqt (hs _ nf_210)
  | 94, _ => va_eqt (hs _ nf_211)
  | 95, _ => va_eqt (hs _ nf_212)
  | 96, _ => va_eqt (hs _ nf_213)
  | 97, _ => va_eqt (hs _ nf_214)
  | 98, _ => va_eqt (hs _ nf_215)
  | 99, _ => va_eqt (hs _ nf_216)
  | q9 + 100, h => absurd (show q9 + 100 < 100 from h) (by omega)
theorem hTBX {s : State} {args : Array Value} (hts : ∀ w ∈ lw_tbl, w.before args s = true) : ∀ v ∈ TBX, v.before args s = true := List.forall_mem_cons.mpr ⟨sel_priv (hts _ st_652) rfl ⟨by decide, by decide⟩ (hts _ st_620) (hts _ st_621), List.forall_mem_cons.mpr ⟨sel_priv (hts _ st_652) rfl ⟨by decide, by decide⟩ (hts _ st_624) (hts _ st_625), List.forall_mem_cons.mpr ⟨sel_priv (hts _ st_652) rfl ⟨by decide, by decide⟩ (hts _ st_682) (hts _ st_683), List.forall_mem_cons.mpr ⟨sel_priv (hts _ st_652) rfl ⟨by decide, by decide⟩ (hts _ st_686) (hts _ st_687), fun _ h => absurd h List.not_mem_nil⟩⟩⟩⟩
set_option maxHeartbeats 4000000 in
set_option maxRecDepth 100000 in
theorem start_K {s : State} {b L0 : Nat} {xs : Nat → Int32} (hL0 : L0 ≤ 260) (hX : va_X b L0 xs s s.heap) (hb9 : b < s.heap.size) (hts : ∀ w ∈ lw_tbl, w.before #[Value.ref b] s = true) (hgv : (Jvm.Cond.and given_1 narrow_1).before #[Value.ref b] s = true) : ∃ w : Wd, w.1 = s.heap ∧ w.2.1 99 = b ∧ wL w = L0 ∧ wX w = xs ∧ Ks w s := by
  have hs : ∀ w ∈ NF, w.before #[Value.ref b] s = true := flat_of_before _ hgv
  have hA : ∀ a : Nat, a < s.heap.size → ¬ (fun q : Nat => s.heap.size ≤ q) a := fun a h => Nat.not_le.mpr h
  obtain ⟨c0, i0, k0⟩ := u_known (C := RX0) (T := TX0) (N := 6) (n := 6) hts inT0 (hts _ st_204)
  obtain ⟨c1, i1, k1⟩ := u_known (C := RX1) (T := TX1) (N := 3) (n := 3) hts inT1 (hts _ st_316)
  obtain ⟨c2, i2, k2⟩ := u_known (C := RX2) (T := TX2) (N := 2) (n := 2) hts inT2 (hts _ st_190)
  obtain ⟨c3, i3, k3⟩ := u_known (C := RX3) (T := TX3) (N := 6) (n := 6) hts inT3 (hts _ st_231)
  obtain ⟨c4, i4, k4⟩ := u_known (C := RX4) (T := TX4) (N := 16) (n := 16) hts inT4 (hts _ st_41)
  obtain ⟨c5, i5, k5⟩ := u_known (C := RX5) (T := TX5) (N := 14) (n := 14) hts inT5 (hts _ st_35)
  obtain ⟨c6, i6, k6⟩ := u_known (C := RX6) (T := TX6) (N := 10) (n := 10) hts inT6 (hts _ st_198)
  obtain ⟨c7, i7, k7⟩ := u_known (C := RX7) (T := TX7) (N := 5) (n := 5) hts inT7 (hts _ st_27)
  obtain ⟨c8, i8, k8⟩ := u_known (C := RJ4) (T := TJ4) (N := 4) (n := 4) hts inT8 (hts _ st_573)
  obtain ⟨a0, kk0, cp0, y0, z0, x0⟩ := Cond.arrayClass_spec (type := .byte) (hts _ st_142)
  obtain ⟨a1, kk1, cp1, y1, z1, x1⟩ := Cond.arrayClass_spec (type := .int) (hts _ st_143)
  obtain ⟨a2, kk2, cp2, y2, z2, x2⟩ := Cond.arrayClass_spec (type := .long) (hts _ st_188)
  obtain ⟨a3, kk3, cp3, y3, z3, x3⟩ := Cond.arrayClass_spec (type := .boolean) (hts _ st_353)
  obtain ⟨cp4, a4, kk4, y4, y5, z4, x4, y6⟩ := Cond.arrayOver_spec (n := RX6) (hts _ st_322)
  obtain ⟨adK, adV, hSt, hev⟩ := vk_Sof (args := #[Value.ref b]) (s := s) (N := nS) (tm := tmS) (len := lenS) (byt := bytS) (A := fun q => s.heap.size ≤ q) (fun i hi => lenS_small i) (hexS hs) (hcoS hs) (harS hs) (hleS hs) (helS hs) (hneS hs) hA
  obtain ⟨d1, hd1, hT1⟩ := va_Tof (N := 100) (ty := .byte) (f := dgO) (tm := Term.static "java/lang/Integer" "DigitOnes" "[B") (A := fun q => s.heap.size ≤ q) (by decide) (hs _ nf_12) (va_eqt (hs _ nf_13)) (hdg1 hs) hA
  obtain ⟨d2, hd2, hT2⟩ := va_Tof (N := 100) (ty := .byte) (f := dgT) (tm := Term.static "java/lang/Integer" "DigitTens" "[B") (A := fun q => s.heap.size ≤ q) (by decide) (hs _ nf_115) (va_eqt (hs _ nf_116)) (hdg2 hs) hA
  obtain ⟨e25, -, -, -, q25, -⟩ := Cond.exactly_spec (hs _ nf_228)
  obtain ⟨e26, -, -, -, q26, -⟩ := Cond.exactly_spec (hs _ nf_246)
  obtain ⟨e27, -, -, -, q27, -⟩ := Cond.exactly_spec (hs _ nf_264)
  obtain ⟨e28, -, -, -, q28, -⟩ := Cond.exactly_spec (hs _ nf_432)
  obtain ⟨e29, -, -, -, q29, -⟩ := Cond.exactly_spec (hs _ nf_552)
  obtain ⟨e30, -, -, -, q30, -⟩ := Cond.exactly_spec (hs _ nf_577)
  obtain ⟨e31, -, -, -, q31, -⟩ := Cond.exactly_spec (hs _ nf_609)
  obtain ⟨e32, -, -, -, q32, -⟩ := Cond.exactly_spec (hs _ nf_625)
  obtain ⟨e33, -, -, -, q33, -⟩ := Cond.exactly_spec (hs _ nf_661)
  obtain ⟨e34, -, -, -, q34, -⟩ := Cond.exactly_spec (hs _ nf_694)
  obtain ⟨e35, -, -, -, q35, -⟩ := Cond.exactly_spec (hs _ nf_724)
  obtain ⟨e36, -, -, -, q36, -⟩ := Cond.exactly_spec (hs _ nf_752)
  obtain ⟨e37, -, -, -, q37, -⟩ := Cond.exactly_spec (hs _ nf_770)
  obtain ⟨e38, -, -, -, q38, -⟩ := Cond.exactly_spec (hs _ nf_802)
  obtain ⟨e39, -, -, -, q39, -⟩ := Cond.exactly_spec (hs _ nf_821)
  let AD : Nat → Nat := fun i => match i with
    | 25 => e25
    | 26 => e26
    | 27 => e27
    | 28 => e28
    | 29 => e29
    | 30 => e30
    | 31 => e31
    | 32 => e32
    | 33 => e33
    | 34 => e34
    | 35 => e35
    | 36 => e36
    | 37 => e37
    | 38 => e38
    | 39 => e39
    | 99 => b
    | 100 => d1
    | 101 => d2
    | i => adK i
  have hAD : ∀ i : Nat, i < nS → AD i = adK i := fun i hi => match i, hi with
    | 0, _ => rfl
    | 1, _ => rfl
    | 2, _ => rfl
    | 3, _ => rfl
    | 4, _ => rfl
    | 5, _ => rfl
    | 6, _ => rfl
    | 7, _ => rfl
    | 8, _ => rfl
    | 9, _ => rfl
    | 10, _ => rfl
    | 11, _ => rfl
    | 12, _ => rfl
    | 13, _ => rfl
    | 14, _ => rfl
    | 15, _ => rfl
    | 16, _ => rfl
    | 17, _ => rfl
    | 18, _ => rfl
    | 19, _ => rfl
    | 20, _ => rfl
    | 21, _ => rfl
    | 22, _ => rfl
    | 23, _ => rfl
    | 24, _ => rfl
    | q9 + 25, h => absurd (show q9 + 25 < 25 from h) (by omega)
  refine ⟨(s.heap, AD, adV, (fun c => match c with | 0 => c0 | 1 => c1 | 2 => c2 | 3 => c3 | 4 => c4 | 5 => c5 | 6 => c6 | 7 => c7 | _ => c8, fun c => match c with | 0 => i0 | 1 => i1 | 2 => i2 | 3 => i3 | 4 => i4 | 5 => i5 | 6 => i6 | 7 => i7 | _ => i8), fun k => match k with | 0 => a0 | 1 => a1 | 2 => a2 | 3 => a3 | _ => a4, L0, xs), rfl, rfl, rfl, rfl, ?_⟩
  refine ⟨⟨fun c q hq => ?_, fun k q hk => ?_⟩, ⟨fun i hi => ?_, fun i j hi hj e => hSt.2 i j hi hj (((hAD i hi).symm.trans e).trans (hAD j hj))⟩, ?_, ?_, ?_, ?_, ?_, ?_, ?_, ?_, ?_, ?_, hX, hb9, hL0, ?_, ?_, hT1, hT2⟩
  · match c, hq with
    | 0, hq => cases hq; exact k0
    | 1, hq => cases hq; exact k1
    | 2, hq => cases hq; exact k2
    | 3, hq => cases hq; exact k3
    | 4, hq => cases hq; exact k4
    | 5, hq => cases hq; exact k5
    | 6, hq => cases hq; exact k6
    | 7, hq => cases hq; exact k7
    | 8, hq => cases hq; exact k8
    | c + 9, hq => simp [vwCl] at hq
  · match k, hk with
    | 0, hk => cases hk; exact ⟨fun N z => ⟨fun k h => (by cases h), kk0, z0, cp0, x0⟩, y0⟩
    | 1, hk => cases hk; exact ⟨fun N z => ⟨fun k h => (by cases h), kk1, z1, cp1, x1⟩, y1⟩
    | 2, hk => cases hk; exact ⟨fun N z => ⟨fun k h => (by cases h), kk2, z2, cp2, x2⟩, y2⟩
    | 3, hk => cases hk; exact ⟨fun N z => ⟨fun k h => (by cases h), kk3, z3, cp3, x3⟩, y3⟩
    | 4, hk => cases hk; exact ⟨fun N z => ⟨fun k h => (by cases h), kk4, z4, cp4, x4⟩, kk4, cp4, z4, x4, y4, y6⟩
    | k + 5, hk => simp [wT] at hk
  · show va_O _ (AD i) _ _ _ ∧ va_OF _ _ _ _ (AD i) _ _ _ ∧ va_OF _ _ _ _ (AD i) _ _ _ ∧ _
    rw [hAD i hi]
    exact hSt.1 i hi
  · exact vx_Zqof (hts _ st_389) (hts _ st_9) (hs _ nf_4) hA
  · exact vx_Zqof (hts _ st_391) (hts _ st_9) (hs _ nf_5) hA
  · exact va_Zof (hts _ st_591) (hts _ st_17) (va_eqt (hs _ nf_6)) hA
  · exact List.forall_mem_cons.mpr ⟨vk_R.of (hts _ st_403) q25, List.forall_mem_cons.mpr ⟨vk_R.of (hts _ st_450) q26, List.forall_mem_cons.mpr ⟨vk_R.of (hts _ st_506) q27, List.forall_mem_cons.mpr ⟨vk_R.of (hts _ st_574) (hev 10 (by decide)), List.forall_mem_cons.mpr ⟨vk_R.of (hts _ st_750) (hev 11 (by decide)), List.forall_mem_cons.mpr ⟨vk_R.of (hts _ st_752) (hev 12 (by decide)), List.forall_mem_cons.mpr ⟨vk_R.of (hts _ st_775) (hev 13 (by decide)), List.forall_mem_cons.mpr ⟨vk_R.of (hts _ st_779) (hev 14 (by decide)), List.forall_mem_cons.mpr ⟨vk_R.of (hts _ st_780) (hev 15 (by decide)), List.forall_mem_cons.mpr ⟨vk_R.of (hts _ st_781) (hev 16 (by decide)), List.forall_mem_cons.mpr ⟨vk_R.of (hts _ st_782) (hev 17 (by decide)), List.forall_mem_cons.mpr ⟨vk_R.of (hts _ st_783) (hev 18 (by decide)), List.forall_mem_cons.mpr ⟨vk_R.of (hts _ st_784) (hev 19 (by decide)), List.forall_mem_cons.mpr ⟨vk_R.of (hts _ st_785) (hev 20 (by decide)), List.forall_mem_cons.mpr ⟨vk_R.of (hts _ st_786) (hev 21 (by decide)), List.forall_mem_cons.mpr ⟨vk_R.of (hts _ st_787) (hev 22 (by decide)), List.forall_mem_cons.mpr ⟨vk_R.of (hts _ st_788) (hev 23 (by decide)), List.forall_mem_cons.mpr ⟨vk_R.of (hts _ st_789) (hev 24 (by decide)), List.forall_mem_cons.mpr ⟨vk_R.of (hts _ st_825) q28, List.forall_mem_cons.mpr ⟨vk_R.of (hts _ st_844) (hev 0 (by decide)), List.forall_mem_cons.mpr ⟨vk_R.of (hts _ st_882) (hev 1 (by decide)), List.forall_mem_cons.mpr ⟨vk_R.of (hts _ st_903) (hev 6 (by decide)), List.forall_mem_cons.mpr ⟨vk_R.of (hts _ st_904) (hev 7 (by decide)), List.forall_mem_cons.mpr ⟨vk_R.of (hts _ st_905) (hev 8 (by decide)), List.forall_mem_cons.mpr ⟨vk_R.of (hts _ st_906) (hev 9 (by decide)), List.forall_mem_cons.mpr ⟨vk_R.of (hts _ st_907) (hev 2 (by decide)), List.forall_mem_cons.mpr ⟨vk_R.of (hts _ st_916) (hev 5 (by decide)), List.forall_mem_cons.mpr ⟨vk_R.of (hts _ st_921) (hev 3 (by decide)), List.forall_mem_cons.mpr ⟨vk_R.of (hts _ st_926) (hev 4 (by decide)), List.forall_mem_cons.mpr ⟨vk_R.of (hts _ st_992) q29, List.forall_mem_cons.mpr ⟨vk_R.of (hts _ st_1007) q30, List.forall_mem_cons.mpr ⟨vk_R.of (hts _ st_1048) q31, List.forall_mem_cons.mpr ⟨vk_R.of (hts _ st_1049) q32, List.forall_mem_cons.mpr ⟨vk_R.of (hts _ st_1054) q33, List.forall_mem_cons.mpr ⟨vk_R.of (hts _ st_1069) q34, List.forall_mem_cons.mpr ⟨vk_R.of (hts _ st_1083) q35, List.forall_mem_cons.mpr ⟨vk_R.of (hts _ st_1112) q36, List.forall_mem_cons.mpr ⟨vk_R.of (hts _ st_1114) q37, List.forall_mem_cons.mpr ⟨vk_R.of (hts _ st_1135) q38, List.forall_mem_cons.mpr ⟨vk_R.of (hts _ st_1140) q39, fun _ h => absurd h List.not_mem_nil⟩⟩⟩⟩⟩⟩⟩⟩⟩⟩⟩⟩⟩⟩⟩⟩⟩⟩⟩⟩⟩⟩⟩⟩⟩⟩⟩⟩⟩⟩⟩⟩⟩⟩⟩⟩⟩⟩⟩⟩
  · exact List.forall_mem_cons.mpr ⟨va_Nw.of rfl (hts _ st_36), List.forall_mem_cons.mpr ⟨va_Nw.of rfl (hts _ st_199), List.forall_mem_cons.mpr ⟨va_Nw.of rfl (hts _ st_205), List.forall_mem_cons.mpr ⟨va_Nw.of rfl (hts _ st_232), List.forall_mem_cons.mpr ⟨va_Nw.of rfl (hts _ st_323), List.forall_mem_cons.mpr ⟨va_Nw.of rfl (hts _ st_336), fun _ h => absurd h List.not_mem_nil⟩⟩⟩⟩⟩⟩
  · exact va_AO.of (hts _ st_322)
  · exact List.forall_mem_cons.mpr ⟨va_Nw.of rfl (hts _ st_365), List.forall_mem_cons.mpr ⟨va_Nw.of rfl (hts _ st_366), List.forall_mem_cons.mpr ⟨va_Nw.of rfl (hts _ st_367), List.forall_mem_cons.mpr ⟨va_Nw.of rfl (hts _ st_368), List.forall_mem_cons.mpr ⟨va_Nw.of rfl (hts _ st_369), List.forall_mem_cons.mpr ⟨va_Nw.of rfl (hts _ st_370), fun _ h => absurd h List.not_mem_nil⟩⟩⟩⟩⟩⟩
  · exact List.forall_mem_cons.mpr ⟨va_Nw.of rfl (hts _ st_364), List.forall_mem_cons.mpr ⟨va_Nw.of rfl (hts _ st_443), List.forall_mem_cons.mpr ⟨va_Nw.of rfl (hts _ st_1000), fun _ h => absurd h List.not_mem_nil⟩⟩⟩
  · exact List.forall_mem_cons.mpr ⟨va_Nc.of (hs _ nf_226), List.forall_mem_cons.mpr ⟨va_Nc.of (hs _ nf_227), fun _ h => absurd h List.not_mem_nil⟩⟩
  · exact va_Zqof (hts _ st_668) (hts _ st_21) (hs _ nf_7) hA
  · exact va_Zof (hts _ st_739) (hts _ st_23) hd1 hA
  · exact va_Zof (hts _ st_741) (hts _ st_23) hd2 hA
