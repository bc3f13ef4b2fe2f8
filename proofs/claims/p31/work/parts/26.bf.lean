/-! THE LAW'S METHODS AS FUNCTIONS -/
-- ForesightHubLaw.cell
abbrev rL_cell : Room := { frames := 0, cells := 0, slots := 0, locals := 0 }
noncomputable def fL_cell (L : Nat) (xs : Nat → Int32) (P : Shp) (s : St) (a1 : Int) : Option (Int) :=
  jne ((L : Int)) 0
    (
      rm a1 ((L : Int)) fun x1 =>
      aS L xs x1 fun x2 =>
      dv a1 ((L : Int)) fun x3 =>
      some (ixor x2 (40503 * x3) : Int))
    (some (0 : Int))
-- ForesightHubLaw.pick
abbrev rL_pick : Room := { frames := 1, cells := 0, slots := 0, locals := 21 }
noncomputable def fL_pick (L : Nat) (xs : Nat → Int32) (P : Shp) (s : St) (a1 : Int) (a2 : Int) : Option (Int) :=
  cl (fL_cell L xs P s a1) fun x1 =>
  rm (iand x1 65535) a2 fun x2 =>
  some (x2 : Int)
-- ForesightHubLaw.kind
abbrev rL_kind : Room := { frames := 0, cells := 0, slots := 0, locals := 0 }
noncomputable def fL_kind (P : Shp) (s : St) (a0 : Int) : Option (Int) :=
  jne a0 0
    (
      jne a0 1
        (
          jne a0 2
            (some ((-19) : Int))
            (some ((-18) : Int)))
        (some ((-17) : Int)))
    (some ((-16) : Int))
-- ForesightHubLaw.acts
abbrev rL_acts : Room := { frames := 7, cells := 0, slots := 0, locals := 182 }
noncomputable def fL_acts (L : Nat) (xs : Nat → Int32) (P : Shp) (s : St) (a0 : Int) (a2 : Int) : Option (Int × St) :=
  onO P 7 a0 <| cl (fX7_size P s a0 1) fun x1 =>
  cl (fL_pick L xs P s a2 x1) fun x2 =>
  cl (fL_pick L xs P s (a2 + 1) 6) fun x3 =>
  onO P 7 a0 <| cl (fX7_device P s a0 x2 0) fun x4 =>
  jnt
    (fun x5 =>
      jnt
        (
          jnt
            (
              jnt
                (
                  cl (fL_pick L xs P s (a2 + 3) 7) fun x6 =>
                  onO P 7 a0 <| cl (fX7_frames P s a0 (1 + x6)) fun (x8, s9) =>
                  jlt x8 0
                    (bz 0 (some ((0 : Int), s9)))
                    (bz 1 (some ((1 : Int), s9))))
                fun k128 =>
              jne x3 4
                (k128)
                (
                  onO P 7 a0 <| cl (fX7_device P s a0 x2 2) fun x10 =>
                  jne x10 1
                    (k128)
                    (
                      onO P 7 a0 <| cl (fX7_callOff P s a0 x2) fun (x12, s13) =>
                      jlt x12 0
                        (bz 0 (some ((0 : Int), s13)))
                        (bz 1 (some ((1 : Int), s13))))))
            fun k98 =>
          jne x3 3
            (k98)
            (
              jne x5 0
                (k98)
                (
                  onO P 7 a0 <| cl (fX7_plug P s a0 x2 x2) fun (x15, s16) =>
                  jlt x15 0
                    (bz 0 (some ((0 : Int), s16)))
                    (bz 1 (some ((1 : Int), s16))))))
        fun k72 =>
      jge x3 3
        (k72)
        (
          jeq x5 0
            (k72)
            (
              cl (fL_pick L xs P s (a2 + 2) 4) fun x17 =>
              onO P 7 a0 <| cl (fX7_fail P s a0 x2 x17) fun (x19, s20) =>
              jlt x19 0
                (bz 0 (some ((0 : Int), s20)))
                (bz 1 (some ((1 : Int), s20))))))
    fun k37 =>
  jeq x4 ((-1))
    (k37 0)
    (k37 1)
-- ForesightHubLaw.isWithin
abbrev rL_isWithin : Room := { frames := 6, cells := 0, slots := 0, locals := 160 }
noncomputable def fL_isWithin_L6 (P : Shp) (s : St) (c0 : Int) (kE75 : Int → Int → Option (Int)) (kE47 : Option (Int)) : Nat → Int → Int → Int → Option (Int)
  | 0, _, _, _ => none
  | m + 1, p1, p2, p3 =>
    onO P 7 c0 <| cl (fX7_size P s c0 1) fun x1 =>
    jge p3 x1
      (kE75 p1 p2)
      (
        onO P 7 c0 <| cl (fX7_device P s c0 p3 6) fun x2 =>
        jne (iand p2 x2) 0
          (kE47)
          (
            onO P 7 c0 <| cl (fX7_device P s c0 p3 0) fun x3 =>
            jnt
              (
                onO P 7 c0 <| cl (fX7_device P s c0 p3 6) fun x4 =>
                bd (ior p2 x4) fun x5 =>
                onO P 7 c0 <| cl (fX7_device P s c0 p3 7) fun x6 =>
                bd (p1 + x6) fun x7 =>
                bd (p3 + 1) fun x8 =>
                fL_isWithin_L6 P s c0 kE75 kE47 m x7 x5 x8)
              fun k49 =>
            jne x3 ((-1))
              (k49)
              (
                onO P 7 c0 <| cl (fX7_device P s c0 p3 6) fun x9 =>
                jeq x9 0
                  (k49)
                  (kE47))))
noncomputable def fL_isWithin_L77 (P : Shp) (s : St) (c0 : Int) (c1 : Int) (c2 : Int) (kE140 : Option (Int)) (kE132 : Option (Int)) : Nat → Int → Option (Int)
  | 0, _ => none
  | m + 1, p3 =>
    onO P 7 c0 <| cl (fX7_size P s c0 2) fun x12 =>
    jge p3 x12
      (kE140)
      (
        onO P 7 c0 <| cl (fX7_stream P s c0 p3 0) fun x13 =>
        jnt
          (fun x14 =>
            jnt
              (fun x15 =>
                jne x14 x15
                  (kE132)
                  (
                    onO P 7 c0 <| cl (fX7_stream P s c0 p3 5) fun x16 =>
                    onO P 7 c0 <| cl (fX7_stream P s c0 p3 4) fun x17 =>
                    jlt x16 x17
                      (
                        bd (p3 + 1) fun x18 =>
                        fL_isWithin_L77 P s c0 c1 c2 kE140 kE132 m x18)
                      (kE132)))
              fun k114 =>
            jne (iand (ishr c2 p3) 1) 1
              (k114 0)
              (k114 1))
          fun k100 =>
        jle x13 0
          (k100 0)
          (k100 1))
noncomputable def fL_isWithin (P : Shp) (s : St) (a0 : Int) : Option (Int) :=
  fL_isWithin_L6 P s a0
    (fun x10 x11 =>
      fL_isWithin_L77 P s a0 x10 x11
        (
          onO P 7 a0 <| cl (fX7_size P s a0 6) fun x19 =>
          jne x10 x19
            (bz 0 (some (0 : Int)))
            (
              onO P 7 a0 <| cl (fX7_size P s a0 3) fun x20 =>
              jgt x10 x20
                (bz 0 (some (0 : Int)))
                (bz 1 (some (1 : Int)))))
        (
          bz 0 (some (0 : Int)))
        1000 0)
    (
      bz 0 (some (0 : Int)))
    1000 0 0 0
-- ForesightHubLaw.isForeseen
abbrev rL_isForeseen : Room := { frames := 7, cells := 0, slots := 0, locals := 183 }
noncomputable def fL_isForeseen (P : Shp) (s : St) (a0 : Int) (a1 : Int) : Option (Int × St) :=
  onO P 7 a0 <| cl (fX7_device P s a0 a1 2) fun x1 =>
  jnt
    (fun s2 =>
      onO P 7 a0 <| cl (fX7_framesToClear P s2 a0 a1) fun x3 =>
      onO P 7 a0 <| cl (fX7_account P s2 a0 2) fun x4 =>
      i2l x4 fun x5 =>
      onO P 7 a0 <| cl (fX7_warn P s2 a0 a1) fun (x7, s8) =>
      jne x7 x3
        (bz 0 (some ((0 : Int), s8)))
        (
          onO P 7 a0 <| cl (fX7_device P s8 a0 a1 2) fun x9 =>
          jeq x9 1
            (
              jnt
                (fun s10 =>
                  onO P 7 a0 <| cl (fX7_device P s10 a0 a1 6) fun x11 =>
                  jne x11 0
                    (bz 0 (some ((0 : Int), s10)))
                    (
                      onO P 7 a0 <| cl (fX7_atStake P s10 a0 a1) fun x12 =>
                      jne x12 0
                        (bz 0 (some ((0 : Int), s10)))
                        (
                          cl (fL_isWithin P s10 a0) fun x13 =>
                          jne x13 0
                            (
                              onO P 7 a0 <| cl (fX7_unplug P s10 a0 a1) fun (x15, s16) =>
                              jne x15 0
                                (bz 0 (some ((0 : Int), s16)))
                                (
                                  onO P 7 a0 <| cl (fX7_account P s16 a0 2) fun x17 =>
                                  i2l x17 fun x18 =>
                                  lc x18 (x5 + 1) fun x19 =>
                                  jne x19 0
                                    (bz 0 (some ((0 : Int), s16)))
                                    (
                                      onO P 7 a0 <| cl (fX7_device P s16 a0 a1 5) fun x20 =>
                                      jne x20 0
                                        (bz 0 (some ((0 : Int), s16)))
                                        (bz 1 (some ((1 : Int), s16))))))
                            (bz 0 (some ((0 : Int), s10))))))
                fun k60 =>
              jle x3 0
                (k60 s8)
                (
                  onO P 7 a0 <| cl (fX7_frames P s8 a0 x3) fun (x22, s23) =>
                  k60 s23))
            (bz 0 (some ((0 : Int), s8)))))
    fun k16 =>
  jne x1 1
    (k16 s)
    (
      onO P 7 a0 <| cl (fX7_callOff P s a0 a1) fun (x25, s26) =>
      k16 s26)
-- ForesightHubLaw.isTorn
abbrev rL_isTorn : Room := { frames := 7, cells := 0, slots := 0, locals := 183 }
noncomputable def fL_isTorn_L27 (P : Shp) (s : St) (c0 : Int) (c1 : Int) (c2 : Int) (c3 : Int) (c4 : Int) (kE74 : Int → Option (Int × St)) : Nat → Int → Int → Option (Int × St)
  | 0, _, _ => none
  | m + 1, p5, p6 =>
    onO P 7 c0 <| cl (fX7_size P s c0 2) fun x4 =>
    jge p6 x4
      (kE74 p5)
      (
        onO P 7 c0 <| cl (fX7_stream P s c0 p6 1) fun x5 =>
        jnt
          (fun x6 =>
            bd (p5 + x6) fun x7 =>
            bd (p6 + 1) fun x8 =>
            fL_isTorn_L27 P s c0 c1 c2 c3 c4 kE74 m x7 x8)
          fun k65 =>
        jnt
          (
            k65 0)
          fun k64 =>
        jne x5 c1
          (k64)
          (
            onO P 7 c0 <| cl (fX7_stream P s c0 p6 5) fun x9 =>
            jle x9 0
              (k64)
              (k65 1)))
noncomputable def fL_isTorn (P : Shp) (s : St) (a0 : Int) (a1 : Int) : Option (Int × St) :=
  onO P 7 a0 <| cl (fX7_atStake P s a0 a1) fun x1 =>
  onO P 7 a0 <| cl (fX7_account P s a0 8) fun x2 =>
  onO P 7 a0 <| cl (fX7_account P s a0 7) fun x3 =>
  fL_isTorn_L27 P s a0 a1 x1 x2 x3
    (fun x10 =>
      onO P 7 a0 <| cl (fX7_unplug P s a0 a1) fun (x12, s13) =>
      jne x12 x1
        (bz 0 (some ((0 : Int), s13)))
        (
          onO P 7 a0 <| cl (fX7_account P s13 a0 8) fun x14 =>
          jne x14 (x2 + x1)
            (bz 0 (some ((0 : Int), s13)))
            (
              onO P 7 a0 <| cl (fX7_account P s13 a0 7) fun x15 =>
              jne x15 (x3 + x10)
                (bz 0 (some ((0 : Int), s13)))
                (
                  cl (fL_isWithin P s13 a0) fun x16 =>
                  jeq x16 0
                    (bz 0 (some ((0 : Int), s13)))
                    (
                      onO P 7 a0 <| cl (fX7_device P s13 a0 a1 0) fun x17 =>
                      jne x17 ((-1))
                        (bz 0 (some ((0 : Int), s13)))
                        (bz 1 (some ((1 : Int), s13))))))))
    1000 0 0
-- ForesightHubLaw.begins
abbrev rL_begins : Room := { frames := 14, cells := 1000, slots := 1024000, locals := 335 }
noncomputable def fL_begins_L126 (L : Nat) (xs : Nat → Int32) (c0 : Int) (c2 : Int) (c3 : Int) (c4 : Int) (c5 : Int) (c6 : Int) (kE171 : Shp → Nat → Nat → St → Option (Hr)) : Nat → Int → Shp → Nat → Nat → St → Option (Hr)
  | 0, _, _, _, _, _ => none
  | m + 1, p7, P, n, c, s =>
    bud c <|
    cl (fL_pick L xs P s (10 + c6) 3) fun x29 =>
    jgt p7 x29
      (kE171 P n c s)
      (
        bud c <|
        cl (fL_pick L xs P s ((13 + (3 * c6)) + p7) 4) fun x30 =>
        bud c <|
        cl (fL_kind P s x30) fun x31 =>
        bud (c + 1) <|
        onO P 8 c5 <| cl (fJ4_append_15ec4 P n s c5 x31) fun (x33, P32, n32, s32) =>
        bd (p7 + 1) fun x34 =>
        fL_begins_L126 L xs c0 c2 c3 c4 c5 c6 kE171 m x34 P32 n32 (c + 1) s32)
noncomputable def fL_begins_L54 (L : Nat) (xs : Nat → Int32) (c0 : Int) (c2 : Int) (c3 : Int) (c4 : Int) (c5 : Int) (kE185 : Shp → Nat → Nat → St → Option (Hr)) : Nat → Int → Shp → Nat → Nat → St → Option (Hr)
  | 0, _, _, _, _, _ => none
  | m + 1, p6, P, n, c, s =>
    bud c <|
    cl (fL_pick L xs P s 3 3) fun x14 =>
    jgt p6 x14
      (kE185 P n c s)
      (
        bud (c + 1) <|
        onO P 8 c5 <| cl (fJ4_append_15ec4 P n s c5 ((-14))) fun (x16, P15, n15, s15) =>
        bud (c + 2) <|
        onO P15 8 x16 <| cl (fJ4_append_cf468 P15 n15 s15 x16 (i2c (97 + p6))) fun (x18, P17, n17, s17) =>
        bud (c + 3) <|
        onO P17 8 x18 <| cl (fJ4_append_15ec4 P17 n17 s17 x18 ((-15))) fun (x20, P19, n19, s19) =>
        bud (c + 3) <|
        cl (fL_pick L xs P19 s19 (4 + p6) 9) fun x21 =>
        bud (c + 4) <|
        onO P19 8 x20 <| cl (fJ4_append_bf812 P19 n19 s19 x20 (1 + x21)) fun (x23, P22, n22, s22) =>
        bud (c + 5) <|
        onO P22 8 x23 <| cl (fJ4_append_15ec4 P22 n22 s22 x23 ((-15))) fun (x25, P24, n24, s24) =>
        bud (c + 5) <|
        cl (fL_pick L xs P24 s24 (7 + p6) 20) fun x26 =>
        bud (c + 6) <|
        onO P24 8 x25 <| cl (fJ4_append_bf812 P24 n24 s24 x25 (5 + x26)) fun (x28, P27, n27, s27) =>
        fL_begins_L126 L xs c0 c2 c3 c4 c5 p6
          (fun P35 n35 c35 s35 =>
            bud (c35 + 1) <|
            onO P35 8 c5 <| cl (fJ4_append_15ec4 P35 n35 s35 c5 ((-20))) fun (x37, P36, n36, s36) =>
            bd (p6 + 1) fun x38 =>
            fL_begins_L54 L xs c0 c2 c3 c4 c5 kE185 m x38 P36 n36 (c35 + 1) s36)
          1000 0 P27 n27 (c + 6) s27)
noncomputable def fL_begins_L188 (L : Nat) (xs : Nat → Int32) (c0 : Int) (c2 : Int) (c3 : Int) (c4 : Int) (c5 : Int) (kE279 : Shp → Nat → Nat → St → Option (Hr)) : Nat → Int → Shp → Nat → Nat → St → Option (Hr)
  | 0, _, _, _, _, _ => none
  | m + 1, p6, P, n, c, s =>
    jge p6 c2
      (kE279 P n c s)
      (
        bud (c + 1) <|
        onO P 8 c5 <| cl (fJ4_append_15ec4 P n s c5 ((-21))) fun (x41, P40, n40, s40) =>
        bud (c + 2) <|
        onO P40 8 x41 <| cl (fJ4_append_cf468 P40 n40 s40 x41 (i2c (97 + p6))) fun (x43, P42, n42, s42) =>
        bud (c + 3) <|
        onO P42 8 x43 <| cl (fJ4_append_15ec4 P42 n42 s42 x43 ((-15))) fun (x45, P44, n44, s44) =>
        bud (c + 4) <|
        onO P44 8 x45 <| cl (fJ4_append_bf812 P44 n44 s44 x45 p6) fun (x47, P46, n46, s46) =>
        jnt
          (fun P48 n48 c48 s48 =>
            bud (c48 + 1) <|
            onO P48 8 c5 <| cl (fJ4_append_15ec4 P48 n48 s48 c5 ((-20))) fun (x50, P49, n49, s49) =>
            bd (p6 + 1) fun x51 =>
            fL_begins_L188 L xs c0 c2 c3 c4 c5 kE279 m x51 P49 n49 (c48 + 1) s49)
          fun k265 =>
        jle p6 0
          (k265 P46 n46 (c + 4) s46)
          (
            bud (c + 4) <|
            cl (fL_pick L xs P46 s46 (22 + p6) 3) fun x52 =>
            jle x52 0
              (k265 P46 n46 (c + 4) s46)
              (
                bud (c + 5) <|
                onO P46 8 c5 <| cl (fJ4_append_15ec4 P46 n46 s46 c5 ((-22))) fun (x54, P53, n53, s53) =>
                bud (c + 5) <|
                cl (fL_pick L xs P53 s53 (26 + p6) p6) fun x55 =>
                bud (c + 6) <|
                onO P53 8 x54 <| cl (fJ4_append_cf468 P53 n53 s53 x54 (i2c (97 + x55))) fun (x57, P56, n56, s56) =>
                k265 P56 n56 (c + 6) s56)))
noncomputable def fL_begins_L282 (L : Nat) (xs : Nat → Int32) (c0 : Int) (c2 : Int) (c3 : Int) (c4 : Int) (c5 : Int) (kE382 : Shp → Nat → Nat → St → Option (Hr)) : Nat → Int → Shp → Nat → Nat → St → Option (Hr)
  | 0, _, _, _, _, _ => none
  | m + 1, p6, P, n, c, s =>
    jge p6 c3
      (kE382 P n c s)
      (
        bud (c + 1) <|
        onO P 8 c5 <| cl (fJ4_append_15ec4 P n s c5 ((-23))) fun (x60, P59, n59, s59) =>
        bud (c + 2) <|
        onO P59 8 x60 <| cl (fJ4_append_cf468 P59 n59 s59 x60 (i2c (97 + p6))) fun (x62, P61, n61, s61) =>
        bud (c + 3) <|
        onO P61 8 x62 <| cl (fJ4_append_15ec4 P61 n61 s61 x62 ((-24))) fun (x64, P63, n63, s63) =>
        bud (c + 3) <|
        cl (fL_pick L xs P63 s63 (30 + p6) c2) fun x65 =>
        bud (c + 4) <|
        onO P63 8 x64 <| cl (fJ4_append_cf468 P63 n63 s63 x64 (i2c (97 + x65))) fun (x67, P66, n66, s66) =>
        bud (c + 5) <|
        onO P66 8 x67 <| cl (fJ4_append_15ec4 P66 n66 s66 x67 ((-15))) fun (x69, P68, n68, s68) =>
        bud (c + 5) <|
        cl (fL_pick L xs P68 s68 (35 + p6) (c4 - 1)) fun x70 =>
        bud (c + 6) <|
        onO P68 8 x69 <| cl (fJ4_append_bf812 P68 n68 s68 x69 (2 + x70)) fun (x72, P71, n71, s71) =>
        bud (c + 7) <|
        onO P71 8 x72 <| cl (fJ4_append_15ec4 P71 n71 s71 x72 ((-15))) fun (x74, P73, n73, s73) =>
        bud (c + 7) <|
        cl (fL_pick L xs P73 s73 (40 + p6) 60) fun x75 =>
        bud (c + 8) <|
        onO P73 8 x74 <| cl (fJ4_append_bf812 P73 n73 s73 x74 (1 + x75)) fun (x77, P76, n76, s76) =>
        bud (c + 9) <|
        onO P76 8 x77 <| cl (fJ4_append_15ec4 P76 n76 s76 x77 ((-20))) fun (x79, P78, n78, s78) =>
        bd (p6 + 1) fun x80 =>
        fL_begins_L282 L xs c0 c2 c3 c4 c5 kE382 m x80 P78 n78 (c + 9) s78)
noncomputable def fL_begins_L433 (L : Nat) (xs : Nat → Int32) (c0 : Int) (c3 : Int) (c5 : Int) (c6 : Int) (c7 : Int) (c8 : Int) (kE489 : Shp → Nat → Nat → St → Option (Hr)) : Nat → Int → Shp → Nat → Nat → St → Option (Hr)
  | 0, _, _, _, _, _ => none
  | m + 1, p9, P, n, c, s =>
    jge p9 20
      (kE489 P n c s)
      (
        dv p9 4 fun x92 =>
        dv p9 4 fun x93 =>
        aI P 10 s c8 x93 fun x94 =>
        jnt
          (fun x96 P95 n95 c95 s95 =>
            sI P95 10 s95 c8 x92 (ior (ishl x94 8) x96) fun s97 =>
            bd (p9 + 1) fun x98 =>
            fL_begins_L433 L xs c0 c3 c5 c6 c7 c8 kE489 m x98 P95 n95 c95 s97)
          fun k481 =>
        jge (c7 + p9) c6
          (k481 32 P n c s)
          (
            bud c <|
            onO P 8 c5 <| cl (fJ4_charAt_5068e P s c5 (c7 + p9)) fun x99 =>
            k481 x99 P n c s))
noncomputable def fL_begins_L418 (L : Nat) (xs : Nat → Int32) (c0 : Int) (c3 : Int) (c5 : Int) (c6 : Int) (kE520 : Shp → Nat → Nat → St → Option (Hr)) : Nat → Int → Shp → Nat → Nat → St → Option (Hr)
  | 0, _, _, _, _, _ => none
  | m + 1, p7, P, n, c, s =>
    jge p7 c6
      (kE520 P n c s)
      (
        bud (c + 1) <| mkA P n s 10 5 fun P91 n91 x90 s91 =>
        fL_begins_L433 L xs c0 c3 c5 c6 p7 x90
          (fun P100 n100 c100 s100 =>
            aI P100 10 s100 x90 0 fun x101 =>
            aI P100 10 s100 x90 1 fun x102 =>
            aI P100 10 s100 x90 2 fun x103 =>
            aI P100 10 s100 x90 3 fun x104 =>
            aI P100 10 s100 x90 4 fun x105 =>
            bud c100 <|
            onO P100 7 c0 <| cl (fX7_append P100 s100 c0 x101 x102 x103 x104 x105) fun (x107, s108) =>
            bd (p7 + 20) fun x109 =>
            fL_begins_L418 L xs c0 c3 c5 c6 kE520 m x109 P100 n100 c100 s108)
          1000 0 P91 n91 (c + 1) s91)
noncomputable def fL_begins (L : Nat) (xs : Nat → Int32) (P : Shp) (n : Nat) (s : St) (a0 : Int) : Option (Hr) :=
  bud 0 <|
  cl (fL_pick L xs P s 0 2) fun x1 =>
  bd (3 + x1) fun x2 =>
  bud 0 <|
  cl (fL_pick L xs P s 1 5) fun x3 =>
  bd (1 + x3) fun x4 =>
  bud 0 <|
  cl (fL_pick L xs P s 2 30) fun x5 =>
  bd (10 + x5) fun x6 =>
  bud (0 + 1) <| mkO P n s 8 fun P8 n8 x7 s8 =>
  bud (0 + 3) <|
  cl (fJ4_init_a7421 P8 n8 s8 x7 ((-12))) fun (P9, n9, s9) =>
  bud (0 + 4) <|
  onO P9 8 x7 <| cl (fJ4_append_bf812 P9 n9 s9 x7 x6) fun (x11, P10, n10, s10) =>
  bud (0 + 5) <|
  onO P10 8 x11 <| cl (fJ4_append_15ec4 P10 n10 s10 x11 ((-13))) fun (x13, P12, n12, s12) =>
  fL_begins_L54 L xs a0 x2 x4 x6 x13
    (fun P39 n39 c39 s39 =>
      fL_begins_L188 L xs a0 x2 x4 x6 x13
        (fun P58 n58 c58 s58 =>
          fL_begins_L282 L xs a0 x2 x4 x6 x13
            (fun P81 n81 c81 s81 =>
              bud (c81 + 1) <|
              onO P81 8 x13 <| cl (fJ4_append_15ec4 P81 n81 s81 x13 ((-25))) fun (x83, P82, n82, s82) =>
              bud (c81 + 1) <|
              cl (fL_pick L xs P82 s82 45 12) fun x84 =>
              bud (c81 + 2) <|
              onO P82 8 x83 <| cl (fJ4_append_bf812 P82 n82 s82 x83 (3 + x84)) fun (x86, P85, n85, s85) =>
              bud (c81 + 3) <|
              onO P85 8 x86 <| cl (fJ4_append_15ec4 P85 n85 s85 x86 ((-26))) fun (x88, P87, n87, s87) =>
              bud (c81 + 3) <|
              onO P87 8 x13 <| cl (fJ4_length_8abf5 P87 s87 x13) fun x89 =>
              fL_begins_L418 L xs a0 x4 x13 x89
                (fun P110 n110 c110 s110 =>
                  bud c110 <|
                  onO P110 7 a0 <| cl (fX7_parse P110 s110 a0 x89) fun (x112, s113) =>
                  jne x112 x4
                    (
                      bud c110 <|
                      bz 0 (some ((0 : Int), P110, n110, s113)))
                    (
                      bud c110 <|
                      bz 1 (some ((1 : Int), P110, n110, s113))))
                1000 0 P87 n87 (c81 + 3) s87)
            1000 0 P58 n58 c58 s58)
        1000 0 P39 n39 c39 s39)
    1000 0 P12 n12 (0 + 5) s12
