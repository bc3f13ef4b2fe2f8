/-! THE JDK's METHODS AS FUNCTIONS -/
-- java/lang/AbstractStringBuilder.length
abbrev rJ5_length_8abf5 : Room := { frames := 0, cells := 0, slots := 0, locals := 0 }
noncomputable def fJ5_length_8abf5 (P : Shp) (s : St) (a0 : Int) : Option (Int) :=
  gF P 8 s a0 3 fun x1 =>
  some (x1 : Int)
-- java/lang/AbstractStringBuilder.isLatin1
abbrev rJ5_isLatin1_aae02 : Room := { frames := 0, cells := 0, slots := 0, locals := 0 }
noncomputable def fJ5_isLatin1_aae02 (P : Shp) (s : St) (a0 : Int) : Option (Int) :=
  jeq 1 0
    (bz 0 (some (0 : Int)))
    (
      gF P 8 s a0 1 fun x1 =>
      jne x1 0
        (bz 0 (some (0 : Int)))
        (bz 1 (some (1 : Int))))
-- jdk/internal/util/ArraysSupport.newLength
abbrev rJ8_newLength_cabcc : Room := { frames := 1, cells := 0, slots := 0, locals := 40 }
noncomputable def fJ8_newLength_cabcc (P : Shp) (s : St) (a0 : Int) (a1 : Int) (a2 : Int) : Option (Int) :=
  mx a1 a2 fun x1 =>
  bd (a0 + x1) fun x2 =>
  jnt
    (
      none)
    fun k21 =>
  jge 0 x2
    (k21)
    (
      jgt x2 2147483639
        (k21)
        (some (x2 : Int)))
-- java/lang/AbstractStringBuilder.newCapacity
abbrev rJ5_newCapacity_0f7a4 : Room := { frames := 2, cells := 0, slots := 0, locals := 63 }
noncomputable def fJ5_newCapacity_0f7a4 (P : Shp) (s : St) (a0 : Int) (a1 : Int) : Option (Int) :=
  gR P 8 s a0 0 fun x1 =>
  aL P 9 x1 fun x2 =>
  gF P 8 s a0 1 fun x3 =>
  bd (ishl a1 x3) fun x4 =>
  bd (x4 - x2) fun x5 =>
  gF P 8 s a0 1 fun x6 =>
  cl (fJ8_newLength_cabcc P s x2 x5 (x2 + (ishl 2 x6))) fun x7 =>
  jne x7 2147483647
    (
      gF P 8 s a0 1 fun x8 =>
      some (ishr x7 x8 : Int))
    (none)
-- java/lang/AbstractStringBuilder.charAt
abbrev rJ5_charAt_5068e : Room := { frames := 7, cells := 0, slots := 0, locals := 183 }
noncomputable def fJ5_charAt_5068e (P : Shp) (s : St) (a0 : Int) (a1 : Int) : Option (Int) :=
  gF P 8 s a0 1 fun x1 =>
  gR P 8 s a0 0 fun x2 =>
  gF P 8 s a0 3 fun x3 =>
  aL P 9 x2 fun x4 =>
  mn x3 (ishr x4 x1) fun x5 =>
  chkI a1 x5 <|
  jne x1 0
    (none)
    (
      aI P 9 s x2 a1 fun x6 =>
      if 0 ≤ (i2c (iand x6 255)) ∧ (i2c (iand x6 255)) < 65536 then some (i2c (iand x6 255) : Int) else none)
-- java/lang/AbstractStringBuilder.inflateIfNeededFor
abbrev rJ5_inflateIfNeededFor_a7421 : Room := { frames := 7, cells := 0, slots := 0, locals := 183 }
noncomputable def fJ5_inflateIfNeededFor_a7421 (P : Shp) (s : St) (a0 : Int) (a1 : Int) : Option (Unit) :=
  jeq 1 0
    (some ())
    (
      gF P 8 s a0 1 fun x1 =>
      isL a1 <|
      jeq x1 0
        (some ())
        (none))
-- java/lang/AbstractStringBuilder.putStringAt
abbrev rJ5_putStringAt_47b60 : Room := { frames := 8, cells := 0, slots := 0, locals := 204 }
noncomputable def fJ5_putStringAt_47b60 (P : Shp) (s : St) (a0 : Int) (a1 : Int) (a2 : Int) : Option (St) :=
  onO P 8 a0 <| cl (fJ5_inflateIfNeededFor_a7421 P s a0 a2) fun x1 =>
  gR P 8 s a0 0 fun x2 =>
  gF P 8 s a0 1 fun x3 =>
  gBz P s a2 x2 a1 x3 fun s4 =>
  some s4
-- java/lang/StringBuilder.charAt
abbrev rJ4_charAt_5068e : Room := { frames := 8, cells := 0, slots := 0, locals := 207 }
noncomputable def fJ4_charAt_5068e (P : Shp) (s : St) (a0 : Int) (a1 : Int) : Option (Int) :=
  onO P 8 a0 <| cl (fJ5_charAt_5068e P s a0 a1) fun x1 =>
  if 0 ≤ x1 ∧ x1 < 65536 then some (x1 : Int) else none
-- java/lang/StringBuilder.length
abbrev rJ4_length_8abf5 : Room := { frames := 1, cells := 0, slots := 0, locals := 20 }
noncomputable def fJ4_length_8abf5 (P : Shp) (s : St) (a0 : Int) : Option (Int) :=
  onO P 8 a0 <| cl (fJ5_length_8abf5 P s a0) fun x1 =>
  some (x1 : Int)
-- java/util/Arrays.copyOf
abbrev rJ7_copyOf_9075b : Room := { frames := 1, cells := 1, slots := 1024, locals := 40 }
noncomputable def fJ7_copyOf_9075b (P : Shp) (n : Nat) (s : St) (a0 : Int) (a1 : Int) : Option (Hr) :=
  aL P 9 a0 fun x1 =>
  jne a1 x1
    (
      mkD P n s 9 a1 fun P n x2 s3 =>
      aL P 9 a0 fun x4 =>
      mn x4 a1 fun x5 =>
      cpY P s3 a0 0 x2 0 x5 fun s6 =>
      some (x2, P, n, s6))
    (none)
-- java/lang/AbstractStringBuilder.ensureCapacityInternal
abbrev rJ5_ensureCapacityInternal_d00df : Room := { frames := 3, cells := 1, slots := 1024, locals := 88 }
noncomputable def fJ5_ensureCapacityInternal_d00df (P : Shp) (n : Nat) (s : St) (a0 : Int) (a1 : Int) : Option (Hs) :=
  gR P 8 s a0 0 fun x1 =>
  aL P 9 x1 fun x2 =>
  gF P 8 s a0 1 fun x3 =>
  bd (ishr x2 x3) fun x4 =>
  jle (a1 - x4) 0
    (some (P, n, s))
    (
      gR P 8 s a0 0 fun x5 =>
      onO P 8 a0 <| cl (fJ5_newCapacity_0f7a4 P s a0 a1) fun x6 =>
      gF P 8 s a0 1 fun x7 =>
      cl (fJ7_copyOf_9075b P n s x5 (ishl x6 x7)) fun (x9, P, n, s8) =>
      pR P 8 s8 a0 0 x9 fun s10 =>
      some (P, n, s10))
-- java/lang/StringLatin1.canEncode
abbrev rJ1_canEncode_fc78d : Room := { frames := 0, cells := 0, slots := 0, locals := 0 }
noncomputable def fJ1_canEncode_fc78d (P : Shp) (s : St) (a0 : Int) : Option (Int) :=
  jgt a0 255
    (bz 0 (some (0 : Int)))
    (bz 1 (some (1 : Int)))
-- java/lang/AbstractStringBuilder.append
abbrev rJ5_append_3fe6f : Room := { frames := 4, cells := 1, slots := 1024, locals := 110 }
noncomputable def fJ5_append_3fe6f (P : Shp) (n : Nat) (s : St) (a0 : Int) (a1 : Int) : Option (Hr) :=
  gF P 8 s a0 3 fun x1 =>
  onO P 8 a0 <| cl (fJ5_ensureCapacityInternal_d00df P n s a0 (x1 + 1)) fun (P, n, s2) =>
  onO P 8 a0 <| cl (fJ5_isLatin1_aae02 P s2 a0) fun x4 =>
  jnt
    (
      onO P 8 a0 <| cl (fJ5_isLatin1_aae02 P s2 a0) fun x5 =>
      jeq x5 0
        (
          gR P 8 s2 a0 0 fun x6 =>
          gF P 8 s2 a0 3 fun x7 =>
          pF P 8 s2 a0 3 (x7 + 1) fun s8 =>
          none)
        (none))
    fun k45 =>
  jeq x4 0
    (k45)
    (
      cl (fJ1_canEncode_fc78d P s2 a1) fun x9 =>
      jeq x9 0
        (k45)
        (
          gR P 8 s2 a0 0 fun x10 =>
          gF P 8 s2 a0 3 fun x11 =>
          pF P 8 s2 a0 3 (x11 + 1) fun s12 =>
          sB P 9 s12 x10 x11 (i2b a1) fun s13 =>
          some (a0, P, n, s13)))
-- java/lang/Integer.stringSize
abbrev rJ6_stringSize_0f7a4 : Room := { frames := 0, cells := 0, slots := 0, locals := 0 }
noncomputable def fJ6_stringSize_0f7a4_L16 (P : Shp) (s : St) (c0 : Int) (c1 : Int) (kE42 : Option (Int)) (kE27 : Int → Option (Int)) : Nat → Int → Int → Option (Int)
  | 0, _, _ => none
  | m + 1, p2, p3 =>
    jge p3 10
      (kE42)
      (
        jle c0 p2
          (
            bd (10 * p2) fun x3 =>
            bd (p3 + 1) fun x4 =>
            fJ6_stringSize_0f7a4_L16 P s c0 c1 kE42 kE27 m x3 x4)
          (kE27 p3))
noncomputable def fJ6_stringSize_0f7a4 (P : Shp) (s : St) (a0 : Int) : Option (Int) :=
  jnt
    (fun x1 x2 =>
      fJ6_stringSize_0f7a4_L16 P s x1 x2
        (
          some (10 + x2 : Int))
        (fun x5 =>
          some (x5 + x2 : Int))
        1000 ((-10)) 1)
    fun k11 =>
  jlt a0 0
    (k11 a0 1)
    (
      bd (ineg a0) fun x6 =>
      k11 x6 0)
-- java/lang/Integer.getChars
abbrev rJ6_getChars_ba4f3 : Room := { frames := 0, cells := 0, slots := 0, locals := 0 }
noncomputable def fJ6_getChars_ba4f3_L22 (P : Shp) (c2 : Int) (c6 : Int) (kE72 : Int → Int → St → Option (Int × St)) : Nat → Int → Int → St → Option (Int × St)
  | 0, _, _, _ => none
  | m + 1, p0, p5, s =>
    jgt p0 ((-100))
      (kE72 p0 p5 s)
      (
        dv p0 100 fun x3 =>
        bd ((x3 * 100) - p0) fun x4 =>
        bd (p5 + (-1)) fun x5 =>
        dig1 x4 fun x6 =>
        sB P 9 s c2 x5 x6 fun s7 =>
        bd (x5 + (-1)) fun x8 =>
        dig2 x4 fun x9 =>
        sB P 9 s7 c2 x8 x9 fun s10 =>
        fJ6_getChars_ba4f3_L22 P c2 c6 kE72 m x3 x8 s10)
noncomputable def fJ6_getChars_ba4f3 (P : Shp) (s : St) (a0 : Int) (a1 : Int) (a2 : Int) : Option (Int × St) :=
  jnt
    (fun x1 =>
      jnt
        (fun x2 =>
          fJ6_getChars_ba4f3_L22 P a2 x1
            (fun x11 x12 s13 =>
              bd (x12 + (-1)) fun x14 =>
              dig1 (ineg x11) fun x15 =>
              sB P 9 s13 a2 x14 x15 fun s16 =>
              jnt
                (fun x17 s18 =>
                  jeq x1 0
                    (some ((x17 : Int), s18))
                    (
                      bd (x17 + (-1)) fun x19 =>
                      sB P 9 s18 a2 x19 45 fun s20 =>
                      some ((x19 : Int), s20)))
                fun k104 =>
              jge x11 ((-9))
                (k104 x14 s16)
                (
                  bd (x14 + (-1)) fun x21 =>
                  dig2 (ineg x11) fun x22 =>
                  sB P 9 s16 a2 x21 x22 fun s23 =>
                  k104 x21 s23))
            1000 x2 a1 s)
        fun k22 =>
      jne x1 0
        (k22 a0)
        (
          bd (ineg a0) fun x24 =>
          k22 x24))
    fun k12 =>
  jge a0 0
    (k12 0)
    (k12 1)
-- java/lang/AbstractStringBuilder.append
abbrev rJ5_append_c97b9 : Room := { frames := 4, cells := 1, slots := 1024, locals := 110 }
noncomputable def fJ5_append_c97b9 (P : Shp) (n : Nat) (s : St) (a0 : Int) (a1 : Int) : Option (Hr) :=
  gF P 8 s a0 3 fun x1 =>
  cl (fJ6_stringSize_0f7a4 P s a1) fun x2 =>
  bd (x1 + x2) fun x3 =>
  onO P 8 a0 <| cl (fJ5_ensureCapacityInternal_d00df P n s a0 x3) fun (P, n, s4) =>
  onO P 8 a0 <| cl (fJ5_isLatin1_aae02 P s4 a0) fun x6 =>
  jeq x6 0
    (
      gR P 8 s4 a0 0 fun x7 =>
      none)
    (
      gR P 8 s4 a0 0 fun x8 =>
      cl (fJ6_getChars_ba4f3 P s4 a1 x3 x8) fun (x10, s11) =>
      pF P 8 s11 a0 3 x3 fun s12 =>
      some (a0, P, n, s12))
-- java/lang/AbstractStringBuilder.append
abbrev rJ5_append_cf1ce : Room := { frames := 9, cells := 1, slots := 1024, locals := 226 }
noncomputable def fJ5_append_cf1ce (P : Shp) (n : Nat) (s : St) (a0 : Int) (a1 : Int) : Option (Hr) :=
  sln a1 fun x1 =>
  gF P 8 s a0 3 fun x2 =>
  onO P 8 a0 <| cl (fJ5_ensureCapacityInternal_d00df P n s a0 (x2 + x1)) fun (P, n, s3) =>
  gF P 8 s3 a0 3 fun x5 =>
  onO P 8 a0 <| cl (fJ5_putStringAt_47b60 P s3 a0 x5 a1) fun s6 =>
  gF P 8 s6 a0 3 fun x7 =>
  pF P 8 s6 a0 3 (x7 + x1) fun s8 =>
  some (a0, P, n, s8)
-- java/lang/StringBuilder.append
abbrev rJ4_append_15ec4 : Room := { frames := 10, cells := 1, slots := 1024, locals := 248 }
noncomputable def fJ4_append_15ec4 (P : Shp) (n : Nat) (s : St) (a0 : Int) (a1 : Int) : Option (Hr) :=
  onO P 8 a0 <| cl (fJ5_append_cf1ce P n s a0 a1) fun (x2, P, n, s1) =>
  some (a0, P, n, s1)
-- java/lang/StringBuilder.append
abbrev rJ4_append_cf1ce : Room := { frames := 11, cells := 1, slots := 1024, locals := 269 }
noncomputable def fJ4_append_cf1ce (P : Shp) (n : Nat) (s : St) (a0 : Int) (a1 : Int) : Option (Hr) :=
  onO P 8 a0 <| cl (fJ4_append_15ec4 P n s a0 a1) fun (x2, P, n, s1) =>
  some (x2, P, n, s1)
-- java/lang/AbstractStringBuilder.<init>
abbrev rJ5_init_a7421 : Room := { frames := 12, cells := 2, slots := 2048, locals := 290 }
noncomputable def fJ5_init_a7421 (P : Shp) (n : Nat) (s : St) (a0 : Int) (a1 : Int) : Option (Hs) :=
  sln a1 fun x1 =>
  jnt
    (fun x2 =>
      isL a1 <|
      pZ P 8 s a0 1 0 fun s3 =>
      jne 0 0
        (none)
        (
          mkD P n s3 9 x2 fun P n x4 s5 =>
          pR P 8 s5 a0 0 x4 fun s6 =>
          onO P 8 a0 <| cl (fJ4_append_cf1ce P n s6 a0 a1) fun (x8, P, n, s7) =>
          some (P, n, s7)))
    fun k24 =>
  jge x1 2147483631
    (k24 2147483647)
    (k24 (x1 + 16))
-- java/lang/StringBuilder.<init>
abbrev rJ4_init_a7421 : Room := { frames := 13, cells := 2, slots := 2048, locals := 314 }
noncomputable def fJ4_init_a7421 (P : Shp) (n : Nat) (s : St) (a0 : Int) (a1 : Int) : Option (Hs) :=
  cl (fJ5_init_a7421 P n s a0 a1) fun (P, n, s1) =>
  some (P, n, s1)
-- java/lang/StringBuilder.append
abbrev rJ4_append_cf468 : Room := { frames := 5, cells := 1, slots := 1024, locals := 131 }
noncomputable def fJ4_append_cf468 (P : Shp) (n : Nat) (s : St) (a0 : Int) (a1 : Int) : Option (Hr) :=
  onO P 8 a0 <| cl (fJ5_append_3fe6f P n s a0 a1) fun (x2, P, n, s1) =>
  some (a0, P, n, s1)
-- java/lang/StringBuilder.append
abbrev rJ4_append_bf812 : Room := { frames := 5, cells := 1, slots := 1024, locals := 133 }
noncomputable def fJ4_append_bf812 (P : Shp) (n : Nat) (s : St) (a0 : Int) (a1 : Int) : Option (Hr) :=
  onO P 8 a0 <| cl (fJ5_append_c97b9 P n s a0 a1) fun (x2, P, n, s1) =>
  some (a0, P, n, s1)
