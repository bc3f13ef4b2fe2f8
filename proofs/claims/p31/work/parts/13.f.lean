/-! THE METHODS AS FUNCTIONS over the number heap; a throw is none (laid by wip/p31/gen/wmake.py) -/
-- ForesightHub$Reader.hasRoomFor
abbrev rX5_hasRoomFor : Room := { frames := 0, cells := 0, slots := 0, locals := 0 }
noncomputable def fX5_hasRoomFor (P : Shp) (s : St) (a0 : Int) (a1 : Int) : Option (Int) :=
  gF P 5 s a0 1 fun x1 =>
  jgt (x1 + a1) 600
    (bz 0 (some (0 : Int)))
    (bz 1 (some (1 : Int)))
-- ForesightHub$Reader.addBytesOf
abbrev rX5_addBytesOf : Room := { frames := 0, cells := 0, slots := 0, locals := 0 }
noncomputable def fX5_addBytesOf_L3 (P : Shp) (c0 : Int) (c1 : Int) (kE46 : St → Option (St)) : Nat → Int → St → Option (St)
  | 0, _, _ => none
  | m + 1, p2, s =>
    jlt p2 0
      (kE46 s)
      (
        gF P 5 s c0 1 fun x1 =>
        jnt
          (fun s2 =>
            bd (p2 + (-8)) fun x3 =>
            fX5_addBytesOf_L3 P c0 c1 kE46 m x3 s2)
          fun k40 =>
        jge x1 600
          (k40 s)
          (
            gR P 5 s c0 0 fun x4 =>
            gF P 5 s c0 1 fun x5 =>
            sB P 9 s x4 x5 (i2b (iushr c1 p2)) fun s6 =>
            gF P 5 s6 c0 1 fun x7 =>
            pF P 5 s6 c0 1 (x7 + 1) fun s8 =>
            k40 s8))
noncomputable def fX5_addBytesOf (P : Shp) (s : St) (a0 : Int) (a1 : Int) : Option (St) :=
  fX5_addBytesOf_L3 P a0 a1
    (fun s9 =>
      some s9)
    1000 24 s
-- ForesightHub.append
abbrev rX7_append : Room := { frames := 1, cells := 0, slots := 0, locals := 22 }
noncomputable def fX7_append (P : Shp) (s : St) (a0 : Int) (a1 : Int) (a2 : Int) (a3 : Int) (a4 : Int) (a5 : Int) : Option (Int × St) :=
  gR P 7 s a0 0 fun x1 =>
  onO P 5 x1 <| cl (fX5_hasRoomFor P s x1 20) fun x2 =>
  jne x2 0
    (
      gR P 7 s a0 0 fun x3 =>
      onO P 5 x3 <| cl (fX5_addBytesOf P s x3 a1) fun s4 =>
      gR P 7 s4 a0 0 fun x5 =>
      onO P 5 x5 <| cl (fX5_addBytesOf P s4 x5 a2) fun s6 =>
      gR P 7 s6 a0 0 fun x7 =>
      onO P 5 x7 <| cl (fX5_addBytesOf P s6 x7 a3) fun s8 =>
      gR P 7 s8 a0 0 fun x9 =>
      onO P 5 x9 <| cl (fX5_addBytesOf P s8 x9 a4) fun s10 =>
      gR P 7 s10 a0 0 fun x11 =>
      onO P 5 x11 <| cl (fX5_addBytesOf P s10 x11 a5) fun s12 =>
      gR P 7 s12 a0 0 fun x13 =>
      gF P 5 s12 x13 1 fun x14 =>
      some ((x14 : Int), s12))
    (some (((-1) : Int), s))
-- ForesightHub$Plan.clear
abbrev rX4_clear : Room := { frames := 0, cells := 0, slots := 0, locals := 0 }
noncomputable def fX4_clear (P : Shp) (s : St) (a0 : Int) : Option (St) :=
  pF P 4 s a0 0 1 fun s1 =>
  pF P 4 s1 a0 1 1 fun s2 =>
  pF P 4 s2 a0 2 10 fun s3 =>
  pF P 4 s3 a0 3 5 fun s4 =>
  pF P 4 s4 a0 4 0 fun s5 =>
  pF P 4 s5 a0 5 0 fun s6 =>
  pF P 4 s6 a0 6 0 fun s7 =>
  some s7
-- ForesightHub$Reader.kindOfSign
abbrev rX5_kindOfSign : Room := { frames := 0, cells := 0, slots := 0, locals := 0 }
noncomputable def fX5_kindOfSign (P : Shp) (s : St) (a0 : Int) : Option (Int) :=
  jeq a0 32
    (some (5 : Int))
    (
      jne a0 10
        (
          jnt
            (
              jnt
                (
                  jne a0 59
                    (some (4 : Int))
                    (some (3 : Int)))
                fun k42 =>
              jlt a0 48
                (k42)
                (
                  jgt a0 57
                    (k42)
                    (some (2 : Int))))
            fun k28 =>
          jlt a0 97
            (k28)
            (
              jgt a0 122
                (k28)
                (some (1 : Int))))
        (some (5 : Int)))
-- ForesightHub$Reader.advance
abbrev rX5_advance : Room := { frames := 1, cells := 0, slots := 0, locals := 40 }
noncomputable def fX5_advance_L0 (P : Shp) (c0 : Int) (kE40 : St → Option (St)) : Nat → St → Option (St)
  | 0, _ => none
  | m + 1, s =>
    gF P 5 s c0 3 fun x1 =>
    gF P 5 s c0 2 fun x2 =>
    jge x1 x2
      (kE40 s)
      (
        gR P 5 s c0 0 fun x3 =>
        gF P 5 s c0 3 fun x4 =>
        aI P 9 s x3 x4 fun x5 =>
        cl (fX5_kindOfSign P s x5) fun x6 =>
        jne x6 5
          (kE40 s)
          (
            gF P 5 s c0 3 fun x7 =>
            pF P 5 s c0 3 (x7 + 1) fun s8 =>
            fX5_advance_L0 P c0 kE40 m s8))
noncomputable def fX5_advance_L150 (P : Shp) (c0 : Int) (c1 : Int) (c2 : Int) (kE217 : St → Option (St)) : Nat → St → Option (St)
  | 0, _ => none
  | m + 1, s =>
    gF P 5 s c0 3 fun x22 =>
    gF P 5 s c0 2 fun x23 =>
    jge x22 x23
      (kE217 s)
      (
        gR P 5 s c0 0 fun x24 =>
        gF P 5 s c0 3 fun x25 =>
        aI P 9 s x24 x25 fun x26 =>
        cl (fX5_kindOfSign P s x26) fun x27 =>
        gF P 5 s c0 4 fun x28 =>
        jne x27 x28
          (kE217 s)
          (
            gF P 5 s c0 6 fun x29 =>
            i2l c1 fun x30 =>
            gR P 5 s c0 0 fun x31 =>
            gF P 5 s c0 3 fun x32 =>
            aI P 9 s x31 x32 fun x33 =>
            i2l (x33 - c2) fun x34 =>
            pF P 5 s c0 6 ((x29 * x30) + x34) fun s35 =>
            gF P 5 s35 c0 3 fun x36 =>
            pF P 5 s35 c0 3 (x36 + 1) fun s37 =>
            fX5_advance_L150 P c0 c1 c2 kE217 m s37))
noncomputable def fX5_advance (P : Shp) (s : St) (a0 : Int) : Option (St) :=
  fX5_advance_L0 P a0
    (fun s9 =>
      gF P 5 s9 a0 3 fun x10 =>
      pF P 5 s9 a0 5 x10 fun s11 =>
      gF P 5 s11 a0 3 fun x12 =>
      gF P 5 s11 a0 2 fun x13 =>
      jnt
        (fun x14 =>
          pF P 5 s11 a0 4 x14 fun s15 =>
          gF P 5 s15 a0 4 fun x16 =>
          jnt
            (
              gF P 5 s15 a0 4 fun x17 =>
              jnt
                (fun x18 =>
                  gF P 5 s15 a0 4 fun x19 =>
                  jnt
                    (fun x20 =>
                      pF P 5 s15 a0 6 0 fun s21 =>
                      fX5_advance_L150 P a0 x18 x20
                        (fun s38 =>
                          gF P 5 s38 a0 3 fun x39 =>
                          gF P 5 s38 a0 5 fun x40 =>
                          gF P 5 s38 a0 4 fun x41 =>
                          jnt
                            (fun x42 =>
                              jle (x39 - x40) x42
                                (some s38)
                                (
                                  pF P 5 s38 a0 4 4 fun s43 =>
                                  some s43))
                            fun k240 =>
                          jne x41 1
                            (k240 4)
                            (k240 8))
                        1000 s21)
                    fun k144 =>
                  jne x19 1
                    (k144 48)
                    (k144 96))
                fun k128 =>
              jne x17 1
                (k128 10)
                (k128 27))
            fun k113 =>
          jeq x16 1
            (k113)
            (
              gF P 5 s15 a0 4 fun x44 =>
              jeq x44 2
                (k113)
                (
                  gF P 5 s15 a0 3 fun x45 =>
                  gF P 5 s15 a0 2 fun x46 =>
                  mn (x45 + 1) x46 fun x47 =>
                  pF P 5 s15 a0 3 x47 fun s48 =>
                  some s48)))
        fun k76 =>
      jge x12 x13
        (k76 0)
        (
          gR P 5 s11 a0 0 fun x49 =>
          gF P 5 s11 a0 3 fun x50 =>
          aI P 9 s11 x49 x50 fun x51 =>
          cl (fX5_kindOfSign P s11 x51) fun x52 =>
          k76 x52))
    1000 s
-- ForesightHub$Reader.isWord
abbrev rX5_isWord : Room := { frames := 7, cells := 0, slots := 0, locals := 182 }
noncomputable def fX5_isWord_L28 (P : Shp) (s : St) (c0 : Int) (c1 : Int) (kE63 : Option (Int)) (kE55 : Option (Int)) : Nat → Int → Option (Int)
  | 0, _ => none
  | m + 1, p2 =>
    sln c1 fun x5 =>
    jge p2 x5
      (kE63)
      (
        gR P 5 s c0 0 fun x6 =>
        gF P 5 s c0 5 fun x7 =>
        aI P 9 s x6 (x7 + p2) fun x8 =>
        sch c1 p2 fun x9 =>
        jeq x8 x9
          (
            bd (p2 + 1) fun x10 =>
            fX5_isWord_L28 P s c0 c1 kE63 kE55 m x10)
          (kE55))
noncomputable def fX5_isWord (P : Shp) (s : St) (a0 : Int) (a1 : Int) : Option (Int) :=
  gF P 5 s a0 4 fun x1 =>
  jne x1 1
    (bz 0 (some (0 : Int)))
    (
      gF P 5 s a0 3 fun x2 =>
      gF P 5 s a0 5 fun x3 =>
      sln a1 fun x4 =>
      jeq (x2 - x3) x4
        (
          fX5_isWord_L28 P s a0 a1
            (
              bz 1 (some (1 : Int)))
            (
              bz 0 (some (0 : Int)))
            1000 0)
        (bz 0 (some (0 : Int))))
-- ForesightHub$Reader.fault
abbrev rX5_fault : Room := { frames := 0, cells := 0, slots := 0, locals := 0 }
noncomputable def fX5_fault (P : Shp) (s : St) (a0 : Int) (a1 : Int) : Option (Int × St) :=
  gF P 5 s a0 5 fun x1 =>
  pF P 5 s a0 7 x1 fun s2 =>
  pF P 5 s2 a0 8 a1 fun s3 =>
  bz 0 (some ((0 : Int), s3))
-- ForesightHub$Reader.isNumberWithin
abbrev rX5_isNumberWithin : Room := { frames := 1, cells := 0, slots := 0, locals := 21 }
noncomputable def fX5_isNumberWithin (P : Shp) (s : St) (a0 : Int) (a1 : Int) (a2 : Int) : Option (Int × St) :=
  gF P 5 s a0 4 fun x1 =>
  jeq x1 2
    (
      gF P 5 s a0 6 fun x2 =>
      i2l a1 fun x3 =>
      lc x2 x3 fun x4 =>
      jnt
        (
          onO P 5 a0 <| cl (fX5_fault P s a0 4) fun (x6, s7) =>
          jeq x6 0
            (bz 0 (some ((0 : Int), s7)))
            (bz 1 (some ((1 : Int), s7))))
        fun k34 =>
      jlt x4 0
        (k34)
        (
          gF P 5 s a0 6 fun x8 =>
          i2l a2 fun x9 =>
          lc x8 x9 fun x10 =>
          jle x10 0
            (bz 1 (some ((1 : Int), s)))
            (k34)))
    (
      onO P 5 a0 <| cl (fX5_fault P s a0 1) fun (x12, s13) =>
      bz x12 (some ((x12 : Int), s13)))
-- ForesightHub$Reader.takeSemicolon
abbrev rX5_takeSemicolon : Room := { frames := 2, cells := 0, slots := 0, locals := 62 }
noncomputable def fX5_takeSemicolon (P : Shp) (s : St) (a0 : Int) : Option (Int × St) :=
  gF P 5 s a0 4 fun x1 =>
  jeq x1 3
    (
      onO P 5 a0 <| cl (fX5_advance P s a0) fun s2 =>
      bz 1 (some ((1 : Int), s2)))
    (
      onO P 5 a0 <| cl (fX5_fault P s a0 1) fun (x4, s5) =>
      bz x4 (some ((x4 : Int), s5)))
-- ForesightHub$Reader.readHeader
abbrev rX5_readHeader : Room := { frames := 8, cells := 0, slots := 0, locals := 204 }
noncomputable def fX5_readHeader (P : Shp) (s : St) (a0 : Int) : Option (Int × St) :=
  onO P 5 a0 <| cl (fX5_isWord P s a0 ((-2))) fun x1 =>
  jne x1 0
    (
      onO P 5 a0 <| cl (fX5_advance P s a0) fun s2 =>
      onO P 5 a0 <| cl (fX5_isNumberWithin P s2 a0 1 999) fun (x4, s5) =>
      jne x4 0
        (
          gR P 5 s5 a0 9 fun x6 =>
          gF P 5 s5 a0 6 fun x7 =>
          pF P 4 s5 x6 0 x7 fun s8 =>
          onO P 5 a0 <| cl (fX5_advance P s8 a0) fun s9 =>
          onO P 5 a0 <| cl (fX5_isNumberWithin P s9 a0 1 8) fun (x11, s12) =>
          jne x11 0
            (
              gR P 5 s12 a0 9 fun x13 =>
              gF P 5 s12 a0 6 fun x14 =>
              pF P 4 s12 x13 1 x14 fun s15 =>
              onO P 5 a0 <| cl (fX5_advance P s15 a0) fun s16 =>
              onO P 5 a0 <| cl (fX5_takeSemicolon P s16 a0) fun (x18, s19) =>
              bz x18 (some ((x18 : Int), s19)))
            (bz 0 (some ((0 : Int), s12))))
        (bz 0 (some ((0 : Int), s5))))
    (
      onO P 5 a0 <| cl (fX5_fault P s a0 1) fun (x21, s22) =>
      bz x21 (some ((x21 : Int), s22)))
-- ForesightHub$Reader.indexOfWord
abbrev rX5_indexOfWord : Room := { frames := 0, cells := 0, slots := 0, locals := 0 }
noncomputable def fX5_indexOfWord_L2 (P : Shp) (s : St) (c0 : Int) (c1 : Int) (c2 : Int) (kE32 : Option (Int)) (kE24 : Int → Option (Int)) : Nat → Int → Option (Int)
  | 0, _ => none
  | m + 1, p3 =>
    jge p3 c2
      (kE32)
      (
        aL P 11 c1 fun x1 =>
        jge p3 x1
          (kE32)
          (
            aI P 11 s c1 p3 fun x2 =>
            gF P 5 s c0 6 fun x3 =>
            lc x2 x3 fun x4 =>
            jne x4 0
              (
                bd (p3 + 1) fun x5 =>
                fX5_indexOfWord_L2 P s c0 c1 c2 kE32 kE24 m x5)
              (kE24 p3)))
noncomputable def fX5_indexOfWord (P : Shp) (s : St) (a0 : Int) (a1 : Int) (a2 : Int) : Option (Int) :=
  fX5_indexOfWord_L2 P s a0 a1 a2
    (
      some ((-1) : Int))
    (fun x6 =>
      some (x6 : Int))
    1000 0
-- ForesightHub$Reader.takeNewName
abbrev rX5_takeNewName : Room := { frames := 2, cells := 0, slots := 0, locals := 62 }
noncomputable def fX5_takeNewName (P : Shp) (s : St) (a0 : Int) (a1 : Int) (a2 : Int) : Option (Int × St) :=
  gF P 5 s a0 4 fun x1 =>
  jeq x1 1
    (
      onO P 5 a0 <| cl (fX5_indexOfWord P s a0 a1 a2) fun x2 =>
      jeq x2 ((-1))
        (
          jnt
            (fun s3 =>
              onO P 5 a0 <| cl (fX5_advance P s3 a0) fun s4 =>
              bz 1 (some ((1 : Int), s4)))
            fun k47 =>
          jlt a2 0
            (k47 s)
            (
              aL P 11 a1 fun x5 =>
              jge a2 x5
                (k47 s)
                (
                  gF P 5 s a0 6 fun x6 =>
                  sI P 11 s a1 a2 x6 fun s7 =>
                  k47 s7)))
        (
          onO P 5 a0 <| cl (fX5_fault P s a0 3) fun (x9, s10) =>
          bz x9 (some ((x9 : Int), s10))))
    (
      onO P 5 a0 <| cl (fX5_fault P s a0 1) fun (x12, s13) =>
      bz x12 (some ((x12 : Int), s13)))
-- ForesightHub$Reader.kindOfWord
abbrev rX5_kindOfWord : Room := { frames := 8, cells := 0, slots := 0, locals := 204 }
noncomputable def fX5_kindOfWord (P : Shp) (s : St) (a0 : Int) : Option (Int) :=
  onO P 5 a0 <| cl (fX5_isWord P s a0 ((-8))) fun x1 =>
  jeq x1 0
    (
      onO P 5 a0 <| cl (fX5_isWord P s a0 ((-9))) fun x2 =>
      jeq x2 0
        (
          onO P 5 a0 <| cl (fX5_isWord P s a0 ((-10))) fun x3 =>
          jeq x3 0
            (
              onO P 5 a0 <| cl (fX5_isWord P s a0 ((-11))) fun x4 =>
              jeq x4 0
                (some ((-1) : Int))
                (some (3 : Int)))
            (some (2 : Int)))
        (some (1 : Int)))
    (some (0 : Int))
-- ForesightHub$Reader.readPatternErrors
abbrev rX5_readPatternErrors : Room := { frames := 9, cells := 0, slots := 0, locals := 224 }
noncomputable def fX5_readPatternErrors_L2 (P : Shp) (c0 : Int) (c1 : Int) (kE42 : Int → St → Option (Int × St)) : Nat → Int → St → Option (Int × St)
  | 0, _, _ => none
  | m + 1, p2, s =>
    jge p2 5
      (kE42 p2 s)
      (
        onO P 5 c0 <| cl (fX5_kindOfWord P s c0) fun x1 =>
        jeq x1 ((-1))
          (kE42 p2 s)
          (
            gR P 5 s c0 9 fun x2 =>
            gR P 4 s x2 10 fun x3 =>
            onO P 5 c0 <| cl (fX5_kindOfWord P s c0) fun x4 =>
            sI P 10 s x3 ((c1 * 5) + p2) x4 fun s5 =>
            bd (p2 + 1) fun x6 =>
            onO P 5 c0 <| cl (fX5_advance P s5 c0) fun s7 =>
            fX5_readPatternErrors_L2 P c0 c1 kE42 m x6 s7))
noncomputable def fX5_readPatternErrors (P : Shp) (s : St) (a0 : Int) (a1 : Int) : Option (Int × St) :=
  fX5_readPatternErrors_L2 P a0 a1
    (fun x8 s9 =>
      gR P 5 s9 a0 9 fun x10 =>
      gR P 4 s9 x10 9 fun x11 =>
      sI P 10 s9 x11 a1 x8 fun s12 =>
      jne x8 0
        (
          onO P 5 a0 <| cl (fX5_kindOfWord P s12 a0) fun x13 =>
          jeq x13 ((-1))
            (bz 1 (some ((1 : Int), s12)))
            (
              onO P 5 a0 <| cl (fX5_fault P s12 a0 5) fun (x15, s16) =>
              jeq x15 0
                (bz 0 (some ((0 : Int), s16)))
                (bz 1 (some ((1 : Int), s16)))))
        (
          onO P 5 a0 <| cl (fX5_fault P s12 a0 1) fun (x18, s19) =>
          bz x18 (some ((x18 : Int), s19))))
    1000 0 s
-- ForesightHub$Reader.readPattern
abbrev rX5_readPattern : Room := { frames := 10, cells := 0, slots := 0, locals := 246 }
noncomputable def fX5_readPattern (P : Shp) (s : St) (a0 : Int) : Option (Int × St) :=
  gR P 5 s a0 9 fun x1 =>
  gF P 4 s x1 4 fun x2 =>
  jlt x2 6
    (
      onO P 5 a0 <| cl (fX5_advance P s a0) fun s3 =>
      gR P 5 s3 a0 11 fun x4 =>
      onO P 5 a0 <| cl (fX5_takeNewName P s3 a0 x4 x2) fun (x6, s7) =>
      jne x6 0
        (
          onO P 5 a0 <| cl (fX5_isNumberWithin P s7 a0 1 99) fun (x9, s10) =>
          jne x9 0
            (
              gR P 5 s10 a0 9 fun x11 =>
              gR P 4 s10 x11 7 fun x12 =>
              gF P 5 s10 a0 6 fun x13 =>
              sI P 10 s10 x12 x2 x13 fun s14 =>
              onO P 5 a0 <| cl (fX5_advance P s14 a0) fun s15 =>
              onO P 5 a0 <| cl (fX5_isNumberWithin P s15 a0 1 200) fun (x17, s18) =>
              jne x17 0
                (
                  gR P 5 s18 a0 9 fun x19 =>
                  gR P 4 s18 x19 8 fun x20 =>
                  gF P 5 s18 a0 6 fun x21 =>
                  sI P 10 s18 x20 x2 x21 fun s22 =>
                  onO P 5 a0 <| cl (fX5_advance P s22 a0) fun s23 =>
                  gR P 5 s23 a0 9 fun x24 =>
                  pF P 4 s23 x24 4 (x2 + 1) fun s25 =>
                  onO P 5 a0 <| cl (fX5_readPatternErrors P s25 a0 x2) fun (x27, s28) =>
                  bz x27 (some ((x27 : Int), s28)))
                (bz 0 (some ((0 : Int), s18))))
            (bz 0 (some ((0 : Int), s10))))
        (bz 0 (some ((0 : Int), s7))))
    (
      onO P 5 a0 <| cl (fX5_fault P s a0 5) fun (x30, s31) =>
      bz x30 (some ((x30 : Int), s31)))
-- ForesightHub$Reader.isTakenPort
abbrev rX5_isTakenPort : Room := { frames := 0, cells := 0, slots := 0, locals := 0 }
noncomputable def fX5_isTakenPort_L2 (P : Shp) (s : St) (c0 : Int) (c1 : Int) (kE40 : Option (Int)) (kE32 : Option (Int)) : Nat → Int → Option (Int)
  | 0, _ => none
  | m + 1, p2 =>
    gR P 5 s c0 9 fun x1 =>
    gF P 4 s x1 5 fun x2 =>
    jge p2 x2
      (kE40)
      (
        jge p2 8
          (kE40)
          (
            gR P 5 s c0 9 fun x3 =>
            gR P 4 s x3 11 fun x4 =>
            aI P 10 s x4 p2 fun x5 =>
            jne x5 c1
              (
                bd (p2 + 1) fun x6 =>
                fX5_isTakenPort_L2 P s c0 c1 kE40 kE32 m x6)
              (kE32)))
noncomputable def fX5_isTakenPort (P : Shp) (s : St) (a0 : Int) (a1 : Int) : Option (Int) :=
  fX5_isTakenPort_L2 P s a0 a1
    (
      bz 0 (some (0 : Int)))
    (
      bz 1 (some (1 : Int)))
    1000 0
-- ForesightHub$Reader.isKnownDevice
abbrev rX5_isKnownDevice : Room := { frames := 1, cells := 0, slots := 0, locals := 23 }
noncomputable def fX5_isKnownDevice (P : Shp) (s : St) (a0 : Int) : Option (Int × St) :=
  gF P 5 s a0 4 fun x1 =>
  jeq x1 1
    (
      gR P 5 s a0 12 fun x2 =>
      gR P 5 s a0 9 fun x3 =>
      gF P 4 s x3 5 fun x4 =>
      onO P 5 a0 <| cl (fX5_indexOfWord P s a0 x2 x4) fun x5 =>
      jne x5 ((-1))
        (bz 1 (some ((1 : Int), s)))
        (
          onO P 5 a0 <| cl (fX5_fault P s a0 2) fun (x7, s8) =>
          jeq x7 0
            (bz 0 (some ((0 : Int), s8)))
            (bz 1 (some ((1 : Int), s8)))))
    (
      onO P 5 a0 <| cl (fX5_fault P s a0 1) fun (x10, s11) =>
      bz x10 (some ((x10 : Int), s11)))
-- ForesightHub$Reader.readDevice
abbrev rX5_readDevice : Room := { frames := 8, cells := 0, slots := 0, locals := 204 }
noncomputable def fX5_readDevice (P : Shp) (s : St) (a0 : Int) : Option (Int × St) :=
  gR P 5 s a0 9 fun x1 =>
  gF P 4 s x1 5 fun x2 =>
  jlt x2 8
    (
      onO P 5 a0 <| cl (fX5_advance P s a0) fun s3 =>
      gR P 5 s3 a0 12 fun x4 =>
      onO P 5 a0 <| cl (fX5_takeNewName P s3 a0 x4 x2) fun (x6, s7) =>
      jne x6 0
        (
          gR P 5 s7 a0 9 fun x8 =>
          gF P 4 s7 x8 1 fun x9 =>
          onO P 5 a0 <| cl (fX5_isNumberWithin P s7 a0 0 (x9 - 1)) fun (x11, s12) =>
          jne x11 0
            (
              gF P 5 s12 a0 6 fun x13 =>
              onO P 5 a0 <| cl (fX5_isTakenPort P s12 a0 x13) fun x14 =>
              jeq x14 0
                (
                  gR P 5 s12 a0 9 fun x15 =>
                  gR P 4 s12 x15 11 fun x16 =>
                  gF P 5 s12 a0 6 fun x17 =>
                  sI P 10 s12 x16 x2 x17 fun s18 =>
                  onO P 5 a0 <| cl (fX5_advance P s18 a0) fun s19 =>
                  gR P 5 s19 a0 9 fun x20 =>
                  gR P 4 s19 x20 12 fun x21 =>
                  sI P 10 s19 x21 x2 ((-1)) fun s22 =>
                  onO P 5 a0 <| cl (fX5_isWord P s22 a0 ((-7))) fun x23 =>
                  jnt
                    (fun s24 =>
                      gR P 5 s24 a0 9 fun x25 =>
                      pF P 4 s24 x25 5 (x2 + 1) fun s26 =>
                      bz 1 (some ((1 : Int), s26)))
                    fun k147 =>
                  jeq x23 0
                    (k147 s22)
                    (
                      onO P 5 a0 <| cl (fX5_advance P s22 a0) fun s27 =>
                      onO P 5 a0 <| cl (fX5_isKnownDevice P s27 a0) fun (x29, s30) =>
                      jne x29 0
                        (
                          gR P 5 s30 a0 9 fun x31 =>
                          gR P 4 s30 x31 12 fun x32 =>
                          gR P 5 s30 a0 12 fun x33 =>
                          onO P 5 a0 <| cl (fX5_indexOfWord P s30 a0 x33 x2) fun x34 =>
                          sI P 10 s30 x32 x2 x34 fun s35 =>
                          onO P 5 a0 <| cl (fX5_advance P s35 a0) fun s36 =>
                          k147 s36)
                        (bz 0 (some ((0 : Int), s30)))))
                (
                  onO P 5 a0 <| cl (fX5_fault P s12 a0 3) fun (x38, s39) =>
                  bz x38 (some ((x38 : Int), s39))))
            (bz 0 (some ((0 : Int), s12))))
        (bz 0 (some ((0 : Int), s7))))
    (
      onO P 5 a0 <| cl (fX5_fault P s a0 5) fun (x41, s42) =>
      bz x41 (some ((x41 : Int), s42)))
-- ForesightHub$Reader.readStream
abbrev rX5_readStream : Room := { frames := 3, cells := 0, slots := 0, locals := 84 }
noncomputable def fX5_readStream (P : Shp) (s : St) (a0 : Int) : Option (Int × St) :=
  gR P 5 s a0 9 fun x1 =>
  gF P 4 s x1 6 fun x2 =>
  jlt x2 12
    (
      onO P 5 a0 <| cl (fX5_advance P s a0) fun s3 =>
      gR P 5 s3 a0 13 fun x4 =>
      onO P 5 a0 <| cl (fX5_takeNewName P s3 a0 x4 x2) fun (x6, s7) =>
      jne x6 0
        (
          onO P 5 a0 <| cl (fX5_isKnownDevice P s7 a0) fun (x9, s10) =>
          jne x9 0
            (
              gR P 5 s10 a0 9 fun x11 =>
              gR P 4 s10 x11 13 fun x12 =>
              gR P 5 s10 a0 12 fun x13 =>
              gR P 5 s10 a0 9 fun x14 =>
              gF P 4 s10 x14 5 fun x15 =>
              onO P 5 a0 <| cl (fX5_indexOfWord P s10 a0 x13 x15) fun x16 =>
              sI P 10 s10 x12 x2 x16 fun s17 =>
              onO P 5 a0 <| cl (fX5_advance P s17 a0) fun s18 =>
              gR P 5 s18 a0 9 fun x19 =>
              gF P 4 s18 x19 0 fun x20 =>
              onO P 5 a0 <| cl (fX5_isNumberWithin P s18 a0 1 x20) fun (x22, s23) =>
              jne x22 0
                (
                  gR P 5 s23 a0 9 fun x24 =>
                  gR P 4 s23 x24 14 fun x25 =>
                  gF P 5 s23 a0 6 fun x26 =>
                  sI P 10 s23 x25 x2 x26 fun s27 =>
                  onO P 5 a0 <| cl (fX5_advance P s27 a0) fun s28 =>
                  onO P 5 a0 <| cl (fX5_isNumberWithin P s28 a0 1 9999) fun (x30, s31) =>
                  jne x30 0
                    (
                      gR P 5 s31 a0 9 fun x32 =>
                      gR P 4 s31 x32 15 fun x33 =>
                      gF P 5 s31 a0 6 fun x34 =>
                      sI P 10 s31 x33 x2 x34 fun s35 =>
                      onO P 5 a0 <| cl (fX5_advance P s35 a0) fun s36 =>
                      gR P 5 s36 a0 9 fun x37 =>
                      pF P 4 s36 x37 6 (x2 + 1) fun s38 =>
                      bz 1 (some ((1 : Int), s38)))
                    (bz 0 (some ((0 : Int), s31))))
                (bz 0 (some ((0 : Int), s23))))
            (bz 0 (some ((0 : Int), s10))))
        (bz 0 (some ((0 : Int), s7))))
    (
      onO P 5 a0 <| cl (fX5_fault P s a0 5) fun (x40, s41) =>
      bz x40 (some ((x40 : Int), s41)))
-- ForesightHub$Reader.readAlarm
abbrev rX5_readAlarm : Room := { frames := 2, cells := 0, slots := 0, locals := 62 }
noncomputable def fX5_readAlarm (P : Shp) (s : St) (a0 : Int) : Option (Int × St) :=
  gF P 5 s a0 10 fun x1 =>
  jeq x1 0
    (
      pZ P 5 s a0 10 1 fun s2 =>
      onO P 5 a0 <| cl (fX5_advance P s2 a0) fun s3 =>
      onO P 5 a0 <| cl (fX5_isNumberWithin P s3 a0 1 999) fun (x5, s6) =>
      jne x5 0
        (
          gR P 5 s6 a0 9 fun x7 =>
          gF P 5 s6 a0 6 fun x8 =>
          pF P 4 s6 x7 2 x8 fun s9 =>
          onO P 5 a0 <| cl (fX5_advance P s9 a0) fun s10 =>
          onO P 5 a0 <| cl (fX5_isNumberWithin P s10 a0 1 99) fun (x12, s13) =>
          jne x12 0
            (
              gR P 5 s13 a0 9 fun x14 =>
              gF P 5 s13 a0 6 fun x15 =>
              pF P 4 s13 x14 3 x15 fun s16 =>
              onO P 5 a0 <| cl (fX5_advance P s16 a0) fun s17 =>
              bz 1 (some ((1 : Int), s17)))
            (bz 0 (some ((0 : Int), s13))))
        (bz 0 (some ((0 : Int), s6))))
    (
      onO P 5 a0 <| cl (fX5_fault P s a0 3) fun (x19, s20) =>
      bz x19 (some ((x19 : Int), s20)))
-- ForesightHub$Reader.readStatement
abbrev rX5_readStatement : Room := { frames := 11, cells := 0, slots := 0, locals := 267 }
noncomputable def fX5_readStatement (P : Shp) (s : St) (a0 : Int) : Option (Int × St) :=
  onO P 5 a0 <| cl (fX5_isWord P s a0 ((-3))) fun x1 =>
  jeq x1 0
    (
      onO P 5 a0 <| cl (fX5_isWord P s a0 ((-4))) fun x2 =>
      jeq x2 0
        (
          onO P 5 a0 <| cl (fX5_isWord P s a0 ((-5))) fun x3 =>
          jeq x3 0
            (
              onO P 5 a0 <| cl (fX5_isWord P s a0 ((-6))) fun x4 =>
              jeq x4 0
                (
                  onO P 5 a0 <| cl (fX5_fault P s a0 1) fun (x6, s7) =>
                  bz x6 (some ((x6 : Int), s7)))
                (
                  onO P 5 a0 <| cl (fX5_readAlarm P s a0) fun (x9, s10) =>
                  jeq x9 0
                    (bz 0 (some ((0 : Int), s10)))
                    (
                      onO P 5 a0 <| cl (fX5_takeSemicolon P s10 a0) fun (x12, s13) =>
                      jeq x12 0
                        (bz 0 (some ((0 : Int), s13)))
                        (bz 1 (some ((1 : Int), s13))))))
            (
              onO P 5 a0 <| cl (fX5_readStream P s a0) fun (x15, s16) =>
              jeq x15 0
                (bz 0 (some ((0 : Int), s16)))
                (
                  onO P 5 a0 <| cl (fX5_takeSemicolon P s16 a0) fun (x18, s19) =>
                  jeq x18 0
                    (bz 0 (some ((0 : Int), s19)))
                    (bz 1 (some ((1 : Int), s19))))))
        (
          onO P 5 a0 <| cl (fX5_readDevice P s a0) fun (x21, s22) =>
          jeq x21 0
            (bz 0 (some ((0 : Int), s22)))
            (
              onO P 5 a0 <| cl (fX5_takeSemicolon P s22 a0) fun (x24, s25) =>
              jeq x24 0
                (bz 0 (some ((0 : Int), s25)))
                (bz 1 (some ((1 : Int), s25))))))
    (
      onO P 5 a0 <| cl (fX5_readPattern P s a0) fun (x27, s28) =>
      jeq x27 0
        (bz 0 (some ((0 : Int), s28)))
        (
          onO P 5 a0 <| cl (fX5_takeSemicolon P s28 a0) fun (x30, s31) =>
          jeq x30 0
            (bz 0 (some ((0 : Int), s31)))
            (bz 1 (some ((1 : Int), s31)))))
-- ForesightHub$Reader.read
abbrev rX5_read : Room := { frames := 12, cells := 0, slots := 0, locals := 287 }
noncomputable def fX5_read_L48 (P : Shp) (c0 : Int) (kE79 : St → Option (Int × St)) (kE62 : St → Option (Int × St)) (kE71 : St → Option (Int × St)) : Nat → Int → St → Option (Int × St)
  | 0, _, _ => none
  | m + 1, p2, s =>
    jgt p2 600
      (kE79 s)
      (
        gF P 5 s c0 4 fun x13 =>
        jne x13 0
          (
            onO P 5 c0 <| cl (fX5_readStatement P s c0) fun (x15, s16) =>
            jne x15 0
              (
                bd (p2 + 1) fun x17 =>
                fX5_read_L48 P c0 kE79 kE62 kE71 m x17 s16)
              (kE71 s16))
          (kE62 s))
noncomputable def fX5_read (P : Shp) (s : St) (a0 : Int) (a1 : Int) : Option (Int × St) :=
  gF P 5 s a0 1 fun x1 =>
  mn a1 x1 fun x2 =>
  mx 0 x2 fun x3 =>
  pF P 5 s a0 2 x3 fun s4 =>
  pF P 5 s4 a0 3 0 fun s5 =>
  pZ P 5 s5 a0 10 0 fun s6 =>
  gR P 5 s6 a0 9 fun x7 =>
  onO P 4 x7 <| cl (fX4_clear P s6 x7) fun s8 =>
  onO P 5 a0 <| cl (fX5_advance P s8 a0) fun s9 =>
  onO P 5 a0 <| cl (fX5_readHeader P s9 a0) fun (x11, s12) =>
  jne x11 0
    (
      fX5_read_L48 P a0
        (fun s18 =>
          onO P 5 a0 <| cl (fX5_fault P s18 a0 1) fun (x20, s21) =>
          bz x20 (some ((x20 : Int), s21)))
        (fun s22 =>
          bz 1 (some ((1 : Int), s22)))
        (fun s23 =>
          bz 0 (some ((0 : Int), s23)))
        1000 0 s12)
    (bz 0 (some ((0 : Int), s12)))
-- ForesightHub$Reader.faultAnswer
abbrev rX5_faultAnswer : Room := { frames := 0, cells := 0, slots := 0, locals := 0 }
noncomputable def fX5_faultAnswer (P : Shp) (s : St) (a0 : Int) : Option (Int) :=
  gF P 5 s a0 7 fun x1 =>
  gF P 5 s a0 8 fun x2 =>
  some (((-2)) - ((8 * x1) + x2) : Int)
-- ForesightHub$Reader.exchangePlan
abbrev rX5_exchangePlan : Room := { frames := 0, cells := 0, slots := 0, locals := 0 }
noncomputable def fX5_exchangePlan (P : Shp) (s : St) (a0 : Int) (a1 : Int) : Option (Int × St) :=
  gR P 5 s a0 9 fun x1 =>
  pR P 5 s a0 9 a1 fun s2 =>
  some ((x1 : Int), s2)
-- ForesightHub$ErrorBook.clear
abbrev rX0_clear : Room := { frames := 0, cells := 0, slots := 0, locals := 0 }
noncomputable def fX0_clear_L7 (P : Shp) (c0 : Int) (kE26 : St → Option (St)) : Nat → Int → St → Option (St)
  | 0, _, _ => none
  | m + 1, p1, s =>
    jge p1 32
      (kE26 s)
      (
        gR P 0 s c0 5 fun x2 =>
        sI P 10 s x2 p1 0 fun s3 =>
        bd (p1 + 1) fun x4 =>
        fX0_clear_L7 P c0 kE26 m x4 s3)
noncomputable def fX0_clear_L28 (P : Shp) (c0 : Int) (kE47 : St → Option (St)) : Nat → Int → St → Option (St)
  | 0, _, _ => none
  | m + 1, p1, s =>
    jge p1 8
      (kE47 s)
      (
        gR P 0 s c0 0 fun x6 =>
        sI P 10 s x6 p1 0 fun s7 =>
        bd (p1 + 1) fun x8 =>
        fX0_clear_L28 P c0 kE47 m x8 s7)
noncomputable def fX0_clear (P : Shp) (s : St) (a0 : Int) : Option (St) :=
  pF P 0 s a0 3 0 fun s1 =>
  fX0_clear_L7 P a0
    (fun s5 =>
      fX0_clear_L28 P a0
        (fun s9 =>
          some s9)
        1000 0 s5)
    1000 0 s1
-- ForesightHub$Log.clear
abbrev rX3_clear : Room := { frames := 0, cells := 0, slots := 0, locals := 0 }
noncomputable def fX3_clear_L12 (P : Shp) (c0 : Int) (kE31 : St → Option (St)) : Nat → Int → St → Option (St)
  | 0, _, _ => none
  | m + 1, p1, s =>
    jge p1 10
      (kE31 s)
      (
        gR P 3 s c0 5 fun x3 =>
        sI P 10 s x3 p1 0 fun s4 =>
        bd (p1 + 1) fun x5 =>
        fX3_clear_L12 P c0 kE31 m x5 s4)
noncomputable def fX3_clear (P : Shp) (s : St) (a0 : Int) : Option (St) :=
  pF P 3 s a0 0 0 fun s1 =>
  pF P 3 s1 a0 1 0 fun s2 =>
  fX3_clear_L12 P a0
    (fun s6 =>
      some s6)
    1000 0 s2
-- ForesightHub$State.begin
abbrev rX6_begin : Room := { frames := 1, cells := 0, slots := 0, locals := 21 }
noncomputable def fX6_begin_L15 (P : Shp) (c0 : Int) (c1 : Int) (kE58 : St → Option (St)) : Nat → Int → St → Option (St)
  | 0, _, _ => none
  | m + 1, p2, s =>
    jge p2 8
      (kE58 s)
      (
        gR P 6 s c0 2 fun x4 =>
        gF P 4 s c1 5 fun x5 =>
        jnt
          (fun x6 =>
            sI P 10 s x4 p2 x6 fun s7 =>
            gR P 6 s7 c0 3 fun x8 =>
            sI P 10 s7 x8 p2 ((-1)) fun s9 =>
            bd (p2 + 1) fun x10 =>
            fX6_begin_L15 P c0 c1 kE58 m x10 s9)
          fun k44 =>
        jge p2 x5
          (k44 ((-1)))
          (
            gR P 4 s c1 11 fun x11 =>
            aI P 10 s x11 p2 fun x12 =>
            k44 x12))
noncomputable def fX6_begin_L60 (P : Shp) (c0 : Int) (kE100 : St → Option (St)) : Nat → Int → St → Option (St)
  | 0, _, _ => none
  | m + 1, p2, s =>
    jge p2 12
      (kE100 s)
      (
        gR P 6 s c0 4 fun x14 =>
        sI P 10 s x14 p2 ((-1)) fun s15 =>
        gR P 6 s15 c0 5 fun x16 =>
        sI P 10 s15 x16 p2 0 fun s17 =>
        gR P 6 s17 c0 6 fun x18 =>
        sI P 10 s17 x18 p2 0 fun s19 =>
        gR P 6 s19 c0 7 fun x20 =>
        sI P 11 s19 x20 p2 0 fun s21 =>
        bd (p2 + 1) fun x22 =>
        fX6_begin_L60 P c0 kE100 m x22 s21)
noncomputable def fX6_begin (P : Shp) (s : St) (a0 : Int) (a1 : Int) : Option (St) :=
  pF P 6 s a0 0 0 fun s1 =>
  gF P 4 s1 a1 2 fun x2 =>
  pF P 6 s1 a0 1 x2 fun s3 =>
  fX6_begin_L15 P a0 a1
    (fun s13 =>
      fX6_begin_L60 P a0
        (fun s23 =>
          gR P 6 s23 a0 8 fun x24 =>
          onO P 0 x24 <| cl (fX0_clear P s23 x24) fun s25 =>
          gR P 6 s25 a0 9 fun x26 =>
          onO P 3 x26 <| cl (fX3_clear P s25 x26) fun s27 =>
          some s27)
        1000 0 s13)
    1000 0 s3
-- ForesightHub$Hub.isDevice
abbrev rX2_isDevice : Room := { frames := 0, cells := 0, slots := 0, locals := 0 }
noncomputable def fX2_isDevice (P : Shp) (s : St) (a0 : Int) (a1 : Int) : Option (Int) :=
  jlt a1 0
    (bz 0 (some (0 : Int)))
    (
      gR P 2 s a0 0 fun x1 =>
      gF P 4 s x1 5 fun x2 =>
      jge a1 x2
        (bz 0 (some (0 : Int)))
        (
          jge a1 8
            (bz 0 (some (0 : Int)))
            (bz 1 (some (1 : Int)))))
-- ForesightHub$Hub.canHold
abbrev rX2_canHold : Room := { frames := 1, cells := 0, slots := 0, locals := 21 }
noncomputable def fX2_canHold (P : Shp) (s : St) (a0 : Int) (a1 : Int) : Option (Int) :=
  onO P 2 a0 <| cl (fX2_isDevice P s a0 a1) fun x1 =>
  jeq x1 0
    (bz 0 (some (0 : Int)))
    (
      gR P 2 s a0 1 fun x2 =>
      gR P 6 s x2 2 fun x3 =>
      aI P 10 s x3 a1 fun x4 =>
      jeq x4 ((-1))
        (bz 0 (some (0 : Int)))
        (
          gR P 2 s a0 1 fun x5 =>
          gR P 6 s x5 3 fun x6 =>
          aI P 10 s x6 a1 fun x7 =>
          jne x7 ((-1))
            (bz 0 (some (0 : Int)))
            (bz 1 (some (1 : Int)))))
-- ForesightHub$Hub.heirOfHome
abbrev rX2_heirOfHome : Room := { frames := 1, cells := 0, slots := 0, locals := 21 }
noncomputable def fX2_heirOfHome (P : Shp) (s : St) (a0 : Int) (a1 : Int) : Option (Int) :=
  gR P 2 s a0 0 fun x1 =>
  gR P 4 s x1 13 fun x2 =>
  aI P 10 s x2 a1 fun x3 =>
  onO P 2 a0 <| cl (fX2_isDevice P s a0 x3) fun x4 =>
  jeq x4 0
    (some ((-1) : Int))
    (
      gR P 2 s a0 0 fun x5 =>
      gR P 4 s x5 12 fun x6 =>
      aI P 10 s x6 x3 fun x7 =>
      some (x7 : Int))
-- ForesightHub$Hub.wantedHolder
abbrev rX2_wantedHolder : Room := { frames := 2, cells := 0, slots := 0, locals := 43 }
noncomputable def fX2_wantedHolder (P : Shp) (s : St) (a0 : Int) (a1 : Int) : Option (Int) :=
  gR P 2 s a0 0 fun x1 =>
  gR P 4 s x1 13 fun x2 =>
  aI P 10 s x2 a1 fun x3 =>
  onO P 2 a0 <| cl (fX2_canHold P s a0 x3) fun x4 =>
  jeq x4 0
    (
      onO P 2 a0 <| cl (fX2_heirOfHome P s a0 a1) fun x5 =>
      onO P 2 a0 <| cl (fX2_canHold P s a0 x5) fun x6 =>
      jeq x6 0
        (some ((-1) : Int))
        (some (x5 : Int)))
    (some (x3 : Int))
-- ForesightHub$Log.add
abbrev rX3_add : Room := { frames := 1, cells := 0, slots := 0, locals := 40 }
noncomputable def fX3_add (P : Shp) (s : St) (a0 : Int) (a1 : Int) (a2 : Int) (a3 : Int) : Option (St) :=
  jnt
    (fun s1 =>
      gF P 3 s1 a0 1 fun x2 =>
      jnt
        (fun s3 =>
          gR P 3 s3 a0 2 fun x4 =>
          gF P 3 s3 a0 1 fun x5 =>
          sI P 10 s3 x4 x5 a1 fun s6 =>
          gR P 3 s6 a0 3 fun x7 =>
          gF P 3 s6 a0 1 fun x8 =>
          sI P 10 s6 x7 x8 a2 fun s9 =>
          gR P 3 s9 a0 4 fun x10 =>
          gF P 3 s9 a0 1 fun x11 =>
          sI P 10 s9 x10 x11 a3 fun s12 =>
          gF P 3 s12 a0 1 fun x13 =>
          pF P 3 s12 a0 1 (x13 + 1) fun s14 =>
          gF P 3 s14 a0 0 fun x15 =>
          mn (x15 + 1) 24 fun x16 =>
          pF P 3 s14 a0 0 x16 fun s17 =>
          some s17)
        fun k41 =>
      jnt
        (
          pF P 3 s1 a0 1 0 fun s18 =>
          k41 s18)
        fun k36 =>
      jlt x2 0
        (k36)
        (
          gF P 3 s1 a0 1 fun x19 =>
          jlt x19 24
            (k41 s1)
            (k36)))
    fun k20 =>
  jlt a1 0
    (k20 s)
    (
      jge a1 10
        (k20 s)
        (
          gR P 3 s a0 5 fun x20 =>
          aI P 10 s x20 a1 fun x21 =>
          sI P 10 s x20 a1 (x21 + 1) fun s22 =>
          k20 s22))
-- ForesightHub$Hub.settleHeld
abbrev rX2_settleHeld : Room := { frames := 3, cells := 0, slots := 0, locals := 66 }
noncomputable def fX2_settleHeld (P : Shp) (s : St) (a0 : Int) (a1 : Int) : Option (St) :=
  onO P 2 a0 <| cl (fX2_wantedHolder P s a0 a1) fun x1 =>
  gR P 2 s a0 1 fun x2 =>
  gR P 6 s x2 4 fun x3 =>
  aI P 10 s x3 a1 fun x4 =>
  jne x4 x1
    (
      gR P 2 s a0 1 fun x5 =>
      gR P 6 s x5 6 fun x6 =>
      aI P 10 s x6 a1 fun x7 =>
      jle x7 0
        (
          gR P 2 s a0 1 fun x8 =>
          gR P 6 s x8 4 fun x9 =>
          sI P 10 s x9 a1 x1 fun s10 =>
          gR P 2 s10 a0 1 fun x11 =>
          gR P 6 s10 x11 5 fun x12 =>
          jnt
            (fun x13 =>
              sI P 10 s10 x12 a1 x13 fun s14 =>
              gR P 2 s14 a0 1 fun x15 =>
              gR P 6 s14 x15 9 fun x16 =>
              jnt
                (fun x17 =>
                  gR P 2 s14 a0 1 fun x18 =>
                  gF P 6 s14 x18 0 fun x19 =>
                  onO P 3 x16 <| cl (fX3_add P s14 x16 x17 a1 x19) fun s20 =>
                  some s20)
                fun k103 =>
              jne x1 ((-1))
                (k103 4)
                (k103 5))
            fun k85 =>
          jne x1 ((-1))
            (k85 1)
            (k85 0))
        (
          gR P 2 s a0 1 fun x21 =>
          gR P 6 s x21 5 fun x22 =>
          sI P 10 s x22 a1 2 fun s23 =>
          some s23))
    (
      gR P 2 s a0 1 fun x24 =>
      gR P 6 s x24 5 fun x25 =>
      sI P 10 s x25 a1 1 fun s26 =>
      some s26)
-- ForesightHub$Hub.reserved
abbrev rX2_reserved : Room := { frames := 0, cells := 0, slots := 0, locals := 0 }
noncomputable def fX2_reserved_L4 (P : Shp) (s : St) (c0 : Int) (kE45 : Int → Option (Int)) : Nat → Int → Int → Option (Int)
  | 0, _, _ => none
  | m + 1, p1, p2 =>
    gR P 2 s c0 0 fun x1 =>
    gF P 4 s x1 6 fun x2 =>
    jge p2 x2
      (kE45 p1)
      (
        gR P 2 s c0 1 fun x3 =>
        gR P 6 s x3 5 fun x4 =>
        aI P 10 s x4 p2 fun x5 =>
        jnt
          (fun x6 =>
            bd (p2 + 1) fun x7 =>
            fX2_reserved_L4 P s c0 kE45 m x6 x7)
          fun k39 =>
        jeq x5 0
          (k39 p1)
          (
            gR P 2 s c0 0 fun x8 =>
            gR P 4 s x8 14 fun x9 =>
            aI P 10 s x9 p2 fun x10 =>
            bd (p1 + x10) fun x11 =>
            k39 x11))
noncomputable def fX2_reserved (P : Shp) (s : St) (a0 : Int) : Option (Int) :=
  fX2_reserved_L4 P s a0
    (fun x12 =>
      some (x12 : Int))
    1000 0 0
-- ForesightHub$Hub.settle
abbrev rX2_settle : Room := { frames := 4, cells := 0, slots := 0, locals := 88 }
noncomputable def fX2_settle_L2 (P : Shp) (c0 : Int) (kE36 : St → Option (St)) : Nat → Int → St → Option (St)
  | 0, _, _ => none
  | m + 1, p1, s =>
    gR P 2 s c0 0 fun x1 =>
    gF P 4 s x1 6 fun x2 =>
    jge p1 x2
      (kE36 s)
      (
        gR P 2 s c0 1 fun x3 =>
        gR P 6 s x3 5 fun x4 =>
        aI P 10 s x4 p1 fun x5 =>
        jnt
          (fun s6 =>
            bd (p1 + 1) fun x7 =>
            fX2_settle_L2 P c0 kE36 m x7 s6)
          fun k30 =>
        jeq x5 0
          (k30 s)
          (
            onO P 2 c0 <| cl (fX2_settleHeld P s c0 p1) fun s8 =>
            k30 s8))
noncomputable def fX2_settle_L51 (P : Shp) (c0 : Int) (kE168 : St → Option (St)) : Nat → Int → Int → St → Option (St)
  | 0, _, _, _ => none
  | m + 1, p1, p2, s =>
    gR P 2 s c0 0 fun x14 =>
    gF P 4 s x14 6 fun x15 =>
    jge p2 x15
      (kE168 s)
      (
        onO P 2 c0 <| cl (fX2_wantedHolder P s c0 p2) fun x16 =>
        gR P 2 s c0 1 fun x17 =>
        gR P 6 s x17 5 fun x18 =>
        aI P 10 s x18 p2 fun x19 =>
        jnt
          (fun x20 =>
            jnt
              (fun x21 s22 =>
                bd (p2 + 1) fun x23 =>
                fX2_settle_L51 P c0 kE168 m x21 x23 s22)
              fun k162 =>
            jeq x20 0
              (k162 p1 s)
              (
                jeq x16 ((-1))
                  (k162 p1 s)
                  (
                    gR P 2 s c0 0 fun x24 =>
                    gR P 4 s x24 14 fun x25 =>
                    aI P 10 s x25 p2 fun x26 =>
                    jgt x26 p1
                      (k162 p1 s)
                      (
                        gR P 2 s c0 0 fun x27 =>
                        gR P 4 s x27 14 fun x28 =>
                        aI P 10 s x28 p2 fun x29 =>
                        bd (p1 - x29) fun x30 =>
                        gR P 2 s c0 1 fun x31 =>
                        gR P 6 s x31 4 fun x32 =>
                        sI P 10 s x32 p2 x16 fun s33 =>
                        gR P 2 s33 c0 1 fun x34 =>
                        gR P 6 s33 x34 5 fun x35 =>
                        sI P 10 s33 x35 p2 1 fun s36 =>
                        gR P 2 s36 c0 1 fun x37 =>
                        gR P 6 s36 x37 9 fun x38 =>
                        gR P 2 s36 c0 1 fun x39 =>
                        gF P 6 s36 x39 0 fun x40 =>
                        onO P 3 x38 <| cl (fX3_add P s36 x38 6 p2 x40) fun s41 =>
                        k162 x30 s41))))
          fun k85 =>
        jne x19 0
          (k85 0)
          (k85 1))
noncomputable def fX2_settle (P : Shp) (s : St) (a0 : Int) : Option (St) :=
  fX2_settle_L2 P a0
    (fun s9 =>
      gR P 2 s9 a0 0 fun x10 =>
      gF P 4 s9 x10 0 fun x11 =>
      onO P 2 a0 <| cl (fX2_reserved P s9 a0) fun x12 =>
      bd (x11 - x12) fun x13 =>
      fX2_settle_L51 P a0
        (fun s42 =>
          some s42)
        1000 x13 0 s9)
    1000 0 s
-- ForesightHub$Hub.begin
abbrev rX2_begin : Room := { frames := 5, cells := 0, slots := 0, locals := 112 }
noncomputable def fX2_begin (P : Shp) (s : St) (a0 : Int) (a1 : Int) : Option (St) :=
  pR P 2 s a0 0 a1 fun s1 =>
  gR P 2 s1 a0 1 fun x2 =>
  onO P 6 x2 <| cl (fX6_begin P s1 x2 a1) fun s3 =>
  onO P 2 a0 <| cl (fX2_settle P s3 a0) fun s4 =>
  some s4
-- ForesightHub$History.clear
abbrev rX1_clear : Room := { frames := 0, cells := 0, slots := 0, locals := 0 }
noncomputable def fX1_clear (P : Shp) (s : St) (a0 : Int) : Option (St) :=
  pF P 1 s a0 1 0 fun s1 =>
  some s1
-- ForesightHub.parse
abbrev rX7_parse : Room := { frames := 13, cells := 0, slots := 0, locals := 309 }
noncomputable def fX7_parse_L84 (P : Shp) (c0 : Int) (kE102 : St → Option (Int × St)) : Nat → Int → St → Option (Int × St)
  | 0, _, _ => none
  | m + 1, p3, s =>
    jge p3 2
      (kE102 s)
      (
        gR P 7 s c0 4 fun x19 =>
        sZ P 12 s x19 p3 0 fun s20 =>
        bd (p3 + 1) fun x21 =>
        fX7_parse_L84 P c0 kE102 m x21 s20)
noncomputable def fX7_parse (P : Shp) (s : St) (a0 : Int) (a1 : Int) : Option (Int × St) :=
  jnt
    (
      none)
    fun k15 =>
  jlt a1 0
    (k15)
    (
      gR P 7 s a0 0 fun x1 =>
      gF P 5 s x1 1 fun x2 =>
      jle a1 x2
        (
          gR P 7 s a0 0 fun x3 =>
          onO P 5 x3 <| cl (fX5_read P s x3 a1) fun (x5, s6) =>
          gR P 7 s6 a0 0 fun x7 =>
          pF P 5 s6 x7 1 0 fun s8 =>
          jne x5 0
            (
              gR P 7 s8 a0 1 fun x9 =>
              gR P 7 s8 a0 0 fun x10 =>
              gR P 7 s8 a0 1 fun x11 =>
              gR P 2 s8 x11 0 fun x12 =>
              onO P 5 x10 <| cl (fX5_exchangePlan P s8 x10 x12) fun (x14, s15) =>
              onO P 2 x9 <| cl (fX2_begin P s15 x9 x14) fun s16 =>
              gR P 7 s16 a0 2 fun x17 =>
              onO P 1 x17 <| cl (fX1_clear P s16 x17) fun s18 =>
              fX7_parse_L84 P a0
                (fun s22 =>
                  gR P 7 s22 a0 1 fun x23 =>
                  gR P 2 s22 x23 0 fun x24 =>
                  gF P 4 s22 x24 6 fun x25 =>
                  some ((x25 : Int), s22))
                1000 0 s18)
            (
              gR P 7 s8 a0 0 fun x26 =>
              onO P 5 x26 <| cl (fX5_faultAnswer P s8 x26) fun x27 =>
              some ((x27 : Int), s8)))
        (k15))
-- ForesightHub.size
abbrev rX7_size : Room := { frames := 1, cells := 0, slots := 0, locals := 22 }
noncomputable def fX7_size (P : Shp) (s : St) (a0 : Int) (a1 : Int) : Option (Int) :=
  jsw a1
    [
      (0,
        gR P 7 s a0 1 fun x1 =>
        gR P 2 s x1 0 fun x2 =>
        gF P 4 s x2 4 fun x3 =>
        some (x3 : Int)),
      (1,
        gR P 7 s a0 1 fun x4 =>
        gR P 2 s x4 0 fun x5 =>
        gF P 4 s x5 5 fun x6 =>
        some (x6 : Int)),
      (2,
        gR P 7 s a0 1 fun x7 =>
        gR P 2 s x7 0 fun x8 =>
        gF P 4 s x8 6 fun x9 =>
        some (x9 : Int)),
      (3,
        gR P 7 s a0 1 fun x10 =>
        gR P 2 s x10 0 fun x11 =>
        gF P 4 s x11 0 fun x12 =>
        some (x12 : Int)),
      (4,
        gR P 7 s a0 1 fun x13 =>
        gR P 2 s x13 0 fun x14 =>
        gF P 4 s x14 1 fun x15 =>
        some (x15 : Int)),
      (5,
        gR P 7 s a0 1 fun x16 =>
        gR P 2 s x16 1 fun x17 =>
        gF P 6 s x17 0 fun x18 =>
        some (x18 : Int)),
      (6,
        gR P 7 s a0 1 fun x19 =>
        onO P 2 x19 <| cl (fX2_reserved P s x19) fun x20 =>
        some (x20 : Int)),
      (7,
        gR P 7 s a0 1 fun x21 =>
        gR P 2 s x21 1 fun x22 =>
        gF P 6 s x22 1 fun x23 =>
        some (x23 : Int)),
      (8,
        gR P 7 s a0 1 fun x24 =>
        gR P 2 s x24 0 fun x25 =>
        gF P 4 s x25 3 fun x26 =>
        some (x26 : Int)),
      (9,
        gR P 7 s a0 2 fun x27 =>
        gF P 1 s x27 1 fun x28 =>
        some (x28 : Int))]
    (
      none)
-- ForesightHub.requireDevice
abbrev rX7_requireDevice : Room := { frames := 1, cells := 0, slots := 0, locals := 21 }
noncomputable def fX7_requireDevice (P : Shp) (s : St) (a0 : Int) (a1 : Int) : Option (Unit) :=
  gR P 7 s a0 1 fun x1 =>
  onO P 2 x1 <| cl (fX2_isDevice P s x1 a1) fun x2 =>
  jne x2 0
    (some ())
    (none)
-- ForesightHub$Hub.inAlarm
abbrev rX2_inAlarm : Room := { frames := 1, cells := 0, slots := 0, locals := 21 }
noncomputable def fX2_inAlarm (P : Shp) (s : St) (a0 : Int) (a1 : Int) : Option (Int) :=
  onO P 2 a0 <| cl (fX2_isDevice P s a0 a1) fun x1 =>
  jeq x1 0
    (bz 0 (some (0 : Int)))
    (
      gR P 2 s a0 1 fun x2 =>
      gR P 6 s x2 3 fun x3 =>
      aI P 10 s x3 a1 fun x4 =>
      jeq x4 ((-1))
        (bz 0 (some (0 : Int)))
        (bz 1 (some (1 : Int))))
-- ForesightHub$ErrorBook.staying
abbrev rX0_staying : Room := { frames := 1, cells := 0, slots := 0, locals := 40 }
noncomputable def fX0_staying (P : Shp) (s : St) (a0 : Int) (a1 : Int) : Option (Int) :=
  jlt a1 0
    (some (0 : Int))
    (
      jlt a1 8
        (
          gR P 0 s a0 0 fun x1 =>
          aI P 10 s x1 a1 fun x2 =>
          mn x2 11 fun x3 =>
          some (x3 : Int))
        (some (0 : Int)))
-- ForesightHub$ErrorBook.placeOf
abbrev rX0_placeOf : Room := { frames := 0, cells := 0, slots := 0, locals := 0 }
noncomputable def fX0_placeOf (P : Shp) (s : St) (a0 : Int) (a1 : Int) (a2 : Int) : Option (Int) :=
  jlt a1 0
    (some ((-1) : Int))
    (
      jge a1 8
        (some ((-1) : Int))
        (
          jlt a2 0
            (some ((-1) : Int))
            (
              gR P 0 s a0 0 fun x1 =>
              aI P 10 s x1 a1 fun x2 =>
              jlt a2 x2
                (
                  gR P 0 s a0 0 fun x3 =>
                  aI P 10 s x3 a1 fun x4 =>
                  some ((((a1 * 12) + x4) - 1) - a2 : Int))
                (some ((-1) : Int)))))
-- ForesightHub$ErrorBook.timeOf
abbrev rX0_timeOf : Room := { frames := 1, cells := 0, slots := 0, locals := 22 }
noncomputable def fX0_timeOf (P : Shp) (s : St) (a0 : Int) (a1 : Int) (a2 : Int) : Option (Int) :=
  onO P 0 a0 <| cl (fX0_placeOf P s a0 a1 a2) fun x1 =>
  jne x1 ((-1))
    (
      gR P 0 s a0 2 fun x2 =>
      aI P 10 s x2 x1 fun x3 =>
      some (x3 : Int))
    (some ((-1) : Int))
-- ForesightHub$ErrorBook.kindOf
abbrev rX0_kindOf : Room := { frames := 1, cells := 0, slots := 0, locals := 22 }
noncomputable def fX0_kindOf (P : Shp) (s : St) (a0 : Int) (a1 : Int) (a2 : Int) : Option (Int) :=
  onO P 0 a0 <| cl (fX0_placeOf P s a0 a1 a2) fun x1 =>
  jne x1 ((-1))
    (
      gR P 0 s a0 1 fun x2 =>
      aI P 10 s x2 x1 fun x3 =>
      some (x3 : Int))
    (some ((-1) : Int))
-- ForesightHub$Hub.isNextOf
abbrev rX2_isNextOf : Room := { frames := 0, cells := 0, slots := 0, locals := 0 }
noncomputable def fX2_isNextOf (P : Shp) (s : St) (a0 : Int) (a1 : Int) (a2 : Int) (a3 : Int) : Option (Int) :=
  gR P 2 s a0 0 fun x1 =>
  gR P 4 s x1 9 fun x2 =>
  aI P 10 s x2 a1 fun x3 =>
  jge a2 x3
    (bz 0 (some (0 : Int)))
    (
      jge a2 5
        (bz 0 (some (0 : Int)))
        (
          gR P 2 s a0 0 fun x4 =>
          gR P 4 s x4 10 fun x5 =>
          aI P 10 s x5 ((a1 * 5) + a2) fun x6 =>
          jne x6 a3
            (bz 0 (some (0 : Int)))
            (bz 1 (some (1 : Int)))))
-- ForesightHub$Hub.matches
abbrev rX2_matches : Room := { frames := 2, cells := 0, slots := 0, locals := 61 }
noncomputable def fX2_matches_L71 (P : Shp) (s : St) (c0 : Int) (c1 : Int) (c2 : Int) (c3 : Int) (c4 : Int) (kE138 : Int → Option (Int)) : Nat → Int → Int → Option (Int)
  | 0, _, _ => none
  | m + 1, p6, p7 =>
    jlt p7 0
      (kE138 p6)
      (
        gR P 2 s c0 1 fun x10 =>
        gR P 6 s x10 8 fun x11 =>
        onO P 0 x11 <| cl (fX0_timeOf P s x11 c2 p7) fun x12 =>
        jnt
          (fun x13 =>
            jnt
              (fun x14 =>
                bd (p7 + (-1)) fun x15 =>
                fX2_matches_L71 P s c0 c1 c2 c3 c4 kE138 m x14 x15)
              fun k132 =>
            jeq x13 0
              (k132 p6)
              (
                gR P 2 s c0 1 fun x16 =>
                gR P 6 s x16 8 fun x17 =>
                onO P 0 x17 <| cl (fX0_kindOf P s x17 c2 p7) fun x18 =>
                onO P 2 c0 <| cl (fX2_isNextOf P s c0 c1 p6 x18) fun x19 =>
                jeq x19 0
                  (k132 p6)
                  (
                    bd (p6 + 1) fun x20 =>
                    k132 x20)))
          fun k99 =>
        jle x12 c4
          (k99 0)
          (k99 1))
noncomputable def fX2_matches (P : Shp) (s : St) (a0 : Int) (a1 : Int) (a2 : Int) (a3 : Int) : Option (Int) :=
  onO P 2 a0 <| cl (fX2_isDevice P s a0 a2) fun x1 =>
  jne x1 0
    (
      gR P 2 s a0 1 fun x2 =>
      gF P 6 s x2 0 fun x3 =>
      gR P 2 s a0 0 fun x4 =>
      gR P 4 s x4 8 fun x5 =>
      aI P 10 s x5 a1 fun x6 =>
      bd (x3 - x6) fun x7 =>
      jnt
        (fun x8 =>
          bd (x8 - 1) fun x9 =>
          fX2_matches_L71 P s a0 a1 a2 a3 x7
            (fun x21 =>
              jnt
                (fun x22 =>
                  gR P 2 s a0 0 fun x23 =>
                  gR P 4 s x23 9 fun x24 =>
                  aI P 10 s x24 a1 fun x25 =>
                  jne x22 x25
                    (bz 0 (some (0 : Int)))
                    (bz 1 (some (1 : Int))))
                fun k157 =>
              jeq a3 ((-1))
                (k157 x21)
                (
                  onO P 2 a0 <| cl (fX2_isNextOf P s a0 a1 x21 a3) fun x26 =>
                  jeq x26 0
                    (k157 x21)
                    (
                      bd (x21 + 1) fun x27 =>
                      k157 x27)))
            1000 0 x9)
        fun k60 =>
      jne a3 ((-1))
        (
          gR P 2 s a0 1 fun x28 =>
          gR P 6 s x28 8 fun x29 =>
          onO P 0 x29 <| cl (fX0_staying P s x29 a2) fun x30 =>
          k60 x30)
        (
          gR P 2 s a0 1 fun x31 =>
          gR P 6 s x31 8 fun x32 =>
          gR P 0 s x32 0 fun x33 =>
          aI P 10 s x33 a2 fun x34 =>
          k60 x34))
    (bz 0 (some (0 : Int)))
-- ForesightHub$Hub.matchingBits
abbrev rX2_matchingBits : Room := { frames := 3, cells := 0, slots := 0, locals := 89 }
noncomputable def fX2_matchingBits_L5 (P : Shp) (s : St) (c0 : Int) (c1 : Int) (c2 : Int) (kE41 : Int → Option (Int)) : Nat → Int → Int → Option (Int)
  | 0, _, _ => none
  | m + 1, p3, p4 =>
    gR P 2 s c0 0 fun x1 =>
    gF P 4 s x1 4 fun x2 =>
    jge p4 x2
      (kE41 p3)
      (
        onO P 2 c0 <| cl (fX2_matches P s c0 p4 c1 c2) fun x3 =>
        jnt
          (fun x4 =>
            bd (p4 + 1) fun x5 =>
            fX2_matchingBits_L5 P s c0 c1 c2 kE41 m x4 x5)
          fun k35 =>
        jeq x3 0
          (k35 p3)
          (
            bd (ior p3 (ishl 1 p4)) fun x6 =>
            k35 x6))
noncomputable def fX2_matchingBits (P : Shp) (s : St) (a0 : Int) (a1 : Int) (a2 : Int) : Option (Int) :=
  fX2_matchingBits_L5 P s a0 a1 a2
    (fun x7 =>
      some (x7 : Int))
    1000 0 0
-- ForesightHub$Hub.scoreOf
abbrev rX2_scoreOf : Room := { frames := 4, cells := 0, slots := 0, locals := 113 }
noncomputable def fX2_scoreOf_L13 (P : Shp) (s : St) (c0 : Int) (c3 : Int) (kE56 : Int → Option (Int)) : Nat → Int → Int → Option (Int)
  | 0, _, _ => none
  | m + 1, p4, p5 =>
    gR P 2 s c0 0 fun x2 =>
    gF P 4 s x2 4 fun x3 =>
    jge p5 x3
      (kE56 p4)
      (
        jnt
          (fun x4 =>
            bd (p5 + 1) fun x5 =>
            fX2_scoreOf_L13 P s c0 c3 kE56 m x4 x5)
          fun k50 =>
        jne (iand (ishr c3 p5) 1) 1
          (k50 p4)
          (
            gR P 2 s c0 0 fun x6 =>
            gR P 4 s x6 7 fun x7 =>
            aI P 10 s x7 p5 fun x8 =>
            bd (p4 + x8) fun x9 =>
            k50 x9))
noncomputable def fX2_scoreOf (P : Shp) (s : St) (a0 : Int) (a1 : Int) (a2 : Int) : Option (Int) :=
  onO P 2 a0 <| cl (fX2_matchingBits P s a0 a1 a2) fun x1 =>
  fX2_scoreOf_L13 P s a0 x1
    (fun x10 =>
      some (x10 : Int))
    1000 0 0
-- ForesightHub$Hub.heldBits
abbrev rX2_heldBits : Room := { frames := 0, cells := 0, slots := 0, locals := 0 }
noncomputable def fX2_heldBits_L4 (P : Shp) (s : St) (c0 : Int) (c1 : Int) (kE40 : Int → Option (Int)) : Nat → Int → Int → Option (Int)
  | 0, _, _ => none
  | m + 1, p2, p3 =>
    gR P 2 s c0 0 fun x1 =>
    gF P 4 s x1 6 fun x2 =>
    jge p3 x2
      (kE40 p2)
      (
        gR P 2 s c0 1 fun x3 =>
        gR P 6 s x3 4 fun x4 =>
        aI P 10 s x4 p3 fun x5 =>
        jnt
          (fun x6 =>
            bd (p3 + 1) fun x7 =>
            fX2_heldBits_L4 P s c0 c1 kE40 m x6 x7)
          fun k34 =>
        jne x5 c1
          (k34 p2)
          (
            bd (ior p2 (ishl 1 p3)) fun x8 =>
            k34 x8))
noncomputable def fX2_heldBits (P : Shp) (s : St) (a0 : Int) (a1 : Int) : Option (Int) :=
  fX2_heldBits_L4 P s a0 a1
    (fun x9 =>
      some (x9 : Int))
    1000 0 0
-- ForesightHub$Hub.reservedFor
abbrev rX2_reservedFor : Room := { frames := 0, cells := 0, slots := 0, locals := 0 }
noncomputable def fX2_reservedFor_L4 (P : Shp) (s : St) (c0 : Int) (c1 : Int) (kE46 : Int → Option (Int)) : Nat → Int → Int → Option (Int)
  | 0, _, _ => none
  | m + 1, p2, p3 =>
    gR P 2 s c0 0 fun x1 =>
    gF P 4 s x1 6 fun x2 =>
    jge p3 x2
      (kE46 p2)
      (
        gR P 2 s c0 1 fun x3 =>
        gR P 6 s x3 4 fun x4 =>
        aI P 10 s x4 p3 fun x5 =>
        jnt
          (fun x6 =>
            bd (p3 + 1) fun x7 =>
            fX2_reservedFor_L4 P s c0 c1 kE46 m x6 x7)
          fun k40 =>
        jne x5 c1
          (k40 p2)
          (
            gR P 2 s c0 0 fun x8 =>
            gR P 4 s x8 14 fun x9 =>
            aI P 10 s x9 p3 fun x10 =>
            bd (p2 + x10) fun x11 =>
            k40 x11))
noncomputable def fX2_reservedFor (P : Shp) (s : St) (a0 : Int) (a1 : Int) : Option (Int) :=
  fX2_reservedFor_L4 P s a0 a1
    (fun x12 =>
      some (x12 : Int))
    1000 0 0
-- ForesightHub.device
abbrev rX7_device : Room := { frames := 5, cells := 0, slots := 0, locals := 138 }
noncomputable def fX7_device (P : Shp) (s : St) (a0 : Int) (a1 : Int) (a2 : Int) : Option (Int) :=
  onO P 7 a0 <| cl (fX7_requireDevice P s a0 a1) fun x1 =>
  jsw a2
    [
      (0,
        gR P 7 s a0 1 fun x2 =>
        gR P 2 s x2 1 fun x3 =>
        gR P 6 s x3 2 fun x4 =>
        aI P 10 s x4 a1 fun x5 =>
        some (x5 : Int)),
      (1,
        gR P 7 s a0 1 fun x6 =>
        gR P 2 s x6 0 fun x7 =>
        gR P 4 s x7 12 fun x8 =>
        aI P 10 s x8 a1 fun x9 =>
        some (x9 : Int)),
      (2,
        gR P 7 s a0 1 fun x10 =>
        onO P 2 x10 <| cl (fX2_inAlarm P s x10 a1) fun x11 =>
        jeq x11 0
          (some (0 : Int))
          (some (1 : Int))),
      (3,
        gR P 7 s a0 1 fun x12 =>
        onO P 2 x12 <| cl (fX2_scoreOf P s x12 a1 ((-1))) fun x13 =>
        some (x13 : Int)),
      (4,
        gR P 7 s a0 1 fun x14 =>
        onO P 2 x14 <| cl (fX2_matchingBits P s x14 a1 ((-1))) fun x15 =>
        some (x15 : Int)),
      (5,
        gR P 7 s a0 1 fun x16 =>
        gR P 2 s x16 1 fun x17 =>
        gR P 6 s x17 8 fun x18 =>
        gR P 0 s x18 0 fun x19 =>
        aI P 10 s x19 a1 fun x20 =>
        some (x20 : Int)),
      (6,
        gR P 7 s a0 1 fun x21 =>
        onO P 2 x21 <| cl (fX2_heldBits P s x21 a1) fun x22 =>
        some (x22 : Int)),
      (7,
        gR P 7 s a0 1 fun x23 =>
        onO P 2 x23 <| cl (fX2_reservedFor P s x23 a1) fun x24 =>
        some (x24 : Int))]
    (
      none)
-- ForesightHub.requireStream
abbrev rX7_requireStream : Room := { frames := 0, cells := 0, slots := 0, locals := 0 }
noncomputable def fX7_requireStream (P : Shp) (s : St) (a0 : Int) (a1 : Int) : Option (Unit) :=
  jnt
    (
      none)
    fun k18 =>
  jlt a1 0
    (k18)
    (
      gR P 7 s a0 1 fun x1 =>
      gR P 2 s x1 0 fun x2 =>
      gF P 4 s x2 6 fun x3 =>
      jlt a1 x3
        (some ())
        (k18))
-- ForesightHub.stream
abbrev rX7_stream : Room := { frames := 3, cells := 0, slots := 0, locals := 66 }
noncomputable def fX7_stream (P : Shp) (s : St) (a0 : Int) (a1 : Int) (a2 : Int) : Option (Int) :=
  onO P 7 a0 <| cl (fX7_requireStream P s a0 a1) fun x1 =>
  jsw a2
    [
      (0,
        gR P 7 s a0 1 fun x2 =>
        gR P 2 s x2 1 fun x3 =>
        gR P 6 s x3 5 fun x4 =>
        aI P 10 s x4 a1 fun x5 =>
        some (x5 : Int)),
      (1,
        gR P 7 s a0 1 fun x6 =>
        gR P 2 s x6 1 fun x7 =>
        gR P 6 s x7 4 fun x8 =>
        aI P 10 s x8 a1 fun x9 =>
        some (x9 : Int)),
      (2,
        gR P 7 s a0 1 fun x10 =>
        onO P 2 x10 <| cl (fX2_wantedHolder P s x10 a1) fun x11 =>
        some (x11 : Int)),
      (3,
        gR P 7 s a0 1 fun x12 =>
        gR P 2 s x12 0 fun x13 =>
        gR P 4 s x13 14 fun x14 =>
        aI P 10 s x14 a1 fun x15 =>
        some (x15 : Int)),
      (4,
        gR P 7 s a0 1 fun x16 =>
        gR P 2 s x16 0 fun x17 =>
        gR P 4 s x17 15 fun x18 =>
        aI P 10 s x18 a1 fun x19 =>
        some (x19 : Int)),
      (5,
        gR P 7 s a0 1 fun x20 =>
        gR P 2 s x20 1 fun x21 =>
        gR P 6 s x21 6 fun x22 =>
        aI P 10 s x22 a1 fun x23 =>
        some (x23 : Int)),
      (6,
        gR P 7 s a0 1 fun x24 =>
        gR P 2 s x24 0 fun x25 =>
        gR P 4 s x25 13 fun x26 =>
        aI P 10 s x26 a1 fun x27 =>
        some (x27 : Int))]
    (
      none)
-- ForesightHub$Hub.framesToPacketEnd
abbrev rX2_framesToPacketEnd : Room := { frames := 0, cells := 0, slots := 0, locals := 0 }
noncomputable def fX2_framesToPacketEnd (P : Shp) (s : St) (a0 : Int) (a1 : Int) : Option (Int) :=
  gR P 2 s a0 0 fun x1 =>
  gR P 4 s x1 14 fun x2 =>
  aI P 10 s x2 a1 fun x3 =>
  gR P 2 s a0 0 fun x4 =>
  gR P 4 s x4 15 fun x5 =>
  aI P 10 s x5 a1 fun x6 =>
  gR P 2 s a0 1 fun x7 =>
  gR P 6 s x7 6 fun x8 =>
  aI P 10 s x8 a1 fun x9 =>
  bd (x6 - x9) fun x10 =>
  jle x3 0
    (some (0 : Int))
    (
      dv ((x10 + x3) - 1) x3 fun x11 =>
      some (x11 : Int))
-- ForesightHub$Hub.clearingFrames
abbrev rX2_clearingFrames : Room := { frames := 1, cells := 0, slots := 0, locals := 40 }
noncomputable def fX2_clearingFrames_L4 (P : Shp) (s : St) (c0 : Int) (c1 : Int) (kE56 : Int → Option (Int)) : Nat → Int → Int → Option (Int)
  | 0, _, _ => none
  | m + 1, p2, p3 =>
    gR P 2 s c0 0 fun x1 =>
    gF P 4 s x1 6 fun x2 =>
    jge p3 x2
      (kE56 p2)
      (
        gR P 2 s c0 1 fun x3 =>
        gR P 6 s x3 4 fun x4 =>
        aI P 10 s x4 p3 fun x5 =>
        jnt
          (fun x6 =>
            bd (p3 + 1) fun x7 =>
            fX2_clearingFrames_L4 P s c0 c1 kE56 m x6 x7)
          fun k50 =>
        jne x5 c1
          (k50 p2)
          (
            gR P 2 s c0 1 fun x8 =>
            gR P 6 s x8 6 fun x9 =>
            aI P 10 s x9 p3 fun x10 =>
            jle x10 0
              (k50 p2)
              (
                onO P 2 c0 <| cl (fX2_framesToPacketEnd P s c0 p3) fun x11 =>
                mx p2 x11 fun x12 =>
                k50 x12)))
noncomputable def fX2_clearingFrames (P : Shp) (s : St) (a0 : Int) (a1 : Int) : Option (Int) :=
  fX2_clearingFrames_L4 P s a0 a1
    (fun x13 =>
      some (x13 : Int))
    1000 0 0
-- ForesightHub.framesToClear
abbrev rX7_framesToClear : Room := { frames := 2, cells := 0, slots := 0, locals := 63 }
noncomputable def fX7_framesToClear (P : Shp) (s : St) (a0 : Int) (a1 : Int) : Option (Int) :=
  onO P 7 a0 <| cl (fX7_requireDevice P s a0 a1) fun x1 =>
  gR P 7 s a0 1 fun x2 =>
  onO P 2 x2 <| cl (fX2_clearingFrames P s x2 a1) fun x3 =>
  some (x3 : Int)
-- ForesightHub$Hub.unitsAtStake
abbrev rX2_unitsAtStake : Room := { frames := 0, cells := 0, slots := 0, locals := 0 }
noncomputable def fX2_unitsAtStake_L4 (P : Shp) (s : St) (c0 : Int) (c1 : Int) (kE46 : Int → Option (Int)) : Nat → Int → Int → Option (Int)
  | 0, _, _ => none
  | m + 1, p2, p3 =>
    gR P 2 s c0 0 fun x1 =>
    gF P 4 s x1 6 fun x2 =>
    jge p3 x2
      (kE46 p2)
      (
        gR P 2 s c0 1 fun x3 =>
        gR P 6 s x3 4 fun x4 =>
        aI P 10 s x4 p3 fun x5 =>
        jnt
          (fun x6 =>
            bd (p3 + 1) fun x7 =>
            fX2_unitsAtStake_L4 P s c0 c1 kE46 m x6 x7)
          fun k40 =>
        jne x5 c1
          (k40 p2)
          (
            gR P 2 s c0 1 fun x8 =>
            gR P 6 s x8 6 fun x9 =>
            aI P 10 s x9 p3 fun x10 =>
            bd (p2 + x10) fun x11 =>
            k40 x11))
noncomputable def fX2_unitsAtStake (P : Shp) (s : St) (a0 : Int) (a1 : Int) : Option (Int) :=
  fX2_unitsAtStake_L4 P s a0 a1
    (fun x12 =>
      some (x12 : Int))
    1000 0 0
-- ForesightHub.atStake
abbrev rX7_atStake : Room := { frames := 2, cells := 0, slots := 0, locals := 42 }
noncomputable def fX7_atStake (P : Shp) (s : St) (a0 : Int) (a1 : Int) : Option (Int) :=
  onO P 7 a0 <| cl (fX7_requireDevice P s a0 a1) fun x1 =>
  gR P 7 s a0 1 fun x2 =>
  onO P 2 x2 <| cl (fX2_unitsAtStake P s x2 a1) fun x3 =>
  some (x3 : Int)
-- ForesightHub$Hub.isPluggedIn
abbrev rX2_isPluggedIn : Room := { frames := 1, cells := 0, slots := 0, locals := 21 }
noncomputable def fX2_isPluggedIn (P : Shp) (s : St) (a0 : Int) (a1 : Int) : Option (Int) :=
  onO P 2 a0 <| cl (fX2_isDevice P s a0 a1) fun x1 =>
  jeq x1 0
    (bz 0 (some (0 : Int)))
    (
      gR P 2 s a0 1 fun x2 =>
      gR P 6 s x2 2 fun x3 =>
      aI P 10 s x3 a1 fun x4 =>
      jeq x4 ((-1))
        (bz 0 (some (0 : Int)))
        (bz 1 (some (1 : Int))))
-- ForesightHub$Hub.weakestDevice
abbrev rX2_weakestDevice : Room := { frames := 5, cells := 0, slots := 0, locals := 138 }
noncomputable def fX2_weakestDevice_L6 (P : Shp) (s : St) (c0 : Int) (kE50 : Int → Option (Int)) : Nat → Int → Int → Int → Option (Int)
  | 0, _, _, _ => none
  | m + 1, p1, p2, p3 =>
    gR P 2 s c0 0 fun x1 =>
    gF P 4 s x1 5 fun x2 =>
    jge p3 x2
      (kE50 p1)
      (
        onO P 2 c0 <| cl (fX2_isPluggedIn P s c0 p3) fun x3 =>
        jnt
          (fun x4 x5 =>
            bd (p3 + 1) fun x6 =>
            fX2_weakestDevice_L6 P s c0 kE50 m x4 x5 x6)
          fun k44 =>
        jeq x3 0
          (k44 p1 p2)
          (
            onO P 2 c0 <| cl (fX2_scoreOf P s c0 p3 ((-1))) fun x7 =>
            jle x7 p2
              (k44 p1 p2)
              (
                onO P 2 c0 <| cl (fX2_scoreOf P s c0 p3 ((-1))) fun x8 =>
                k44 p3 x8)))
noncomputable def fX2_weakestDevice (P : Shp) (s : St) (a0 : Int) : Option (Int) :=
  fX2_weakestDevice_L6 P s a0
    (fun x9 =>
      some (x9 : Int))
    1000 ((-1)) ((-1)) 0
-- ForesightHub.weakest
abbrev rX7_weakest : Room := { frames := 6, cells := 0, slots := 0, locals := 161 }
noncomputable def fX7_weakest (P : Shp) (s : St) (a0 : Int) : Option (Int) :=
  gR P 7 s a0 1 fun x1 =>
  onO P 2 x1 <| cl (fX2_weakestDevice P s x1) fun x2 =>
  some (x2 : Int)
-- ForesightHub.account
abbrev rX7_account : Room := { frames := 0, cells := 0, slots := 0, locals := 0 }
noncomputable def fX7_account (P : Shp) (s : St) (a0 : Int) (a1 : Int) : Option (Int) :=
  jnt
    (
      none)
    fun k10 =>
  jlt a1 0
    (k10)
    (
      jlt a1 10
        (
          gR P 7 s a0 1 fun x1 =>
          gR P 2 s x1 1 fun x2 =>
          gR P 6 s x2 9 fun x3 =>
          gR P 3 s x3 5 fun x4 =>
          aI P 10 s x4 a1 fun x5 =>
          some (x5 : Int))
        (k10))
-- ForesightHub$ErrorBook.copyFrom
abbrev rX0_copyFrom : Room := { frames := 1, cells := 0, slots := 0, locals := 40 }
noncomputable def fX0_copyFrom (P : Shp) (s : St) (a0 : Int) (a1 : Int) : Option (St) :=
  gF P 0 s a1 3 fun x1 =>
  pF P 0 s a0 3 x1 fun s2 =>
  gR P 0 s2 a1 0 fun x3 =>
  gR P 0 s2 a0 0 fun x4 =>
  cpA P 10 s2 x3 0 x4 0 8 fun s5 =>
  gR P 0 s5 a1 1 fun x6 =>
  gR P 0 s5 a0 1 fun x7 =>
  cpA P 10 s5 x6 0 x7 0 96 fun s8 =>
  gR P 0 s8 a1 2 fun x9 =>
  gR P 0 s8 a0 2 fun x10 =>
  cpA P 10 s8 x9 0 x10 0 96 fun s11 =>
  gR P 0 s11 a1 4 fun x12 =>
  gR P 0 s11 a0 4 fun x13 =>
  cpA P 10 s11 x12 0 x13 0 32 fun s14 =>
  gR P 0 s14 a1 5 fun x15 =>
  gR P 0 s14 a0 5 fun x16 =>
  cpA P 10 s14 x15 0 x16 0 32 fun s17 =>
  some s17
-- ForesightHub$Log.copyFrom
abbrev rX3_copyFrom : Room := { frames := 1, cells := 0, slots := 0, locals := 40 }
noncomputable def fX3_copyFrom (P : Shp) (s : St) (a0 : Int) (a1 : Int) : Option (St) :=
  gF P 3 s a1 0 fun x1 =>
  pF P 3 s a0 0 x1 fun s2 =>
  gF P 3 s2 a1 1 fun x3 =>
  pF P 3 s2 a0 1 x3 fun s4 =>
  gR P 3 s4 a1 2 fun x5 =>
  gR P 3 s4 a0 2 fun x6 =>
  cpA P 10 s4 x5 0 x6 0 24 fun s7 =>
  gR P 3 s7 a1 3 fun x8 =>
  gR P 3 s7 a0 3 fun x9 =>
  cpA P 10 s7 x8 0 x9 0 24 fun s10 =>
  gR P 3 s10 a1 4 fun x11 =>
  gR P 3 s10 a0 4 fun x12 =>
  cpA P 10 s10 x11 0 x12 0 24 fun s13 =>
  gR P 3 s13 a1 5 fun x14 =>
  gR P 3 s13 a0 5 fun x15 =>
  cpA P 10 s13 x14 0 x15 0 10 fun s16 =>
  some s16
-- ForesightHub$State.copyFrom
abbrev rX6_copyFrom : Room := { frames := 2, cells := 0, slots := 0, locals := 61 }
noncomputable def fX6_copyFrom (P : Shp) (s : St) (a0 : Int) (a1 : Int) : Option (St) :=
  gF P 6 s a1 0 fun x1 =>
  pF P 6 s a0 0 x1 fun s2 =>
  gF P 6 s2 a1 1 fun x3 =>
  pF P 6 s2 a0 1 x3 fun s4 =>
  gR P 6 s4 a1 2 fun x5 =>
  gR P 6 s4 a0 2 fun x6 =>
  cpA P 10 s4 x5 0 x6 0 8 fun s7 =>
  gR P 6 s7 a1 3 fun x8 =>
  gR P 6 s7 a0 3 fun x9 =>
  cpA P 10 s7 x8 0 x9 0 8 fun s10 =>
  gR P 6 s10 a1 4 fun x11 =>
  gR P 6 s10 a0 4 fun x12 =>
  cpA P 10 s10 x11 0 x12 0 12 fun s13 =>
  gR P 6 s13 a1 5 fun x14 =>
  gR P 6 s13 a0 5 fun x15 =>
  cpA P 10 s13 x14 0 x15 0 12 fun s16 =>
  gR P 6 s16 a1 6 fun x17 =>
  gR P 6 s16 a0 6 fun x18 =>
  cpA P 10 s16 x17 0 x18 0 12 fun s19 =>
  gR P 6 s19 a1 7 fun x20 =>
  gR P 6 s19 a0 7 fun x21 =>
  cpA P 11 s19 x20 0 x21 0 12 fun s22 =>
  gR P 6 s22 a0 8 fun x23 =>
  gR P 6 s22 a1 8 fun x24 =>
  onO P 0 x23 <| cl (fX0_copyFrom P s22 x23 x24) fun s25 =>
  gR P 6 s25 a0 9 fun x26 =>
  gR P 6 s25 a1 9 fun x27 =>
  onO P 3 x26 <| cl (fX3_copyFrom P s25 x26 x27) fun s28 =>
  some s28
-- ForesightHub$History.remember
abbrev rX1_remember : Room := { frames := 3, cells := 0, slots := 0, locals := 82 }
noncomputable def fX1_remember (P : Shp) (s : St) (a0 : Int) (a1 : Int) : Option (St) :=
  gF P 1 s a0 2 fun x1 =>
  jnt
    (fun s2 =>
      gR P 1 s2 a0 0 fun x3 =>
      gF P 1 s2 a0 2 fun x4 =>
      aR P 13 s2 x3 x4 fun x5 =>
      onO P 6 x5 <| cl (fX6_copyFrom P s2 x5 a1) fun s6 =>
      gF P 1 s6 a0 2 fun x7 =>
      rm (x7 + 1) 10 fun x8 =>
      pF P 1 s6 a0 2 x8 fun s9 =>
      gF P 1 s9 a0 1 fun x10 =>
      mn (x10 + 1) 10 fun x11 =>
      pF P 1 s9 a0 1 x11 fun s12 =>
      some s12)
    fun k21 =>
  jnt
    (
      pF P 1 s a0 2 0 fun s13 =>
      k21 s13)
    fun k16 =>
  jlt x1 0
    (k16)
    (
      gF P 1 s a0 2 fun x14 =>
      jlt x14 10
        (k21 s)
        (k16))
-- ForesightHub$Hub.sendOn
abbrev rX2_sendOn : Room := { frames := 0, cells := 0, slots := 0, locals := 0 }
noncomputable def fX2_sendOn (P : Shp) (s : St) (a0 : Int) (a1 : Int) : Option (St) :=
  gR P 2 s a0 1 fun x1 =>
  gR P 6 s x1 6 fun x2 =>
  aI P 10 s x2 a1 fun x3 =>
  gR P 2 s a0 0 fun x4 =>
  gR P 4 s x4 14 fun x5 =>
  aI P 10 s x5 a1 fun x6 =>
  bd (x3 + x6) fun x7 =>
  gR P 2 s a0 0 fun x8 =>
  gR P 4 s x8 15 fun x9 =>
  aI P 10 s x9 a1 fun x10 =>
  jle x10 0
    (some s)
    (
      gR P 2 s a0 1 fun x11 =>
      gR P 6 s x11 7 fun x12 =>
      aI P 11 s x12 a1 fun x13 =>
      dv x7 x10 fun x14 =>
      i2l x14 fun x15 =>
      sI P 11 s x12 a1 (x13 + x15) fun s16 =>
      gR P 2 s16 a0 1 fun x17 =>
      gR P 6 s16 x17 6 fun x18 =>
      rm x7 x10 fun x19 =>
      sI P 10 s16 x18 a1 x19 fun s20 =>
      some s20)
-- ForesightHub$Hub.sendToPacketEnd
abbrev rX2_sendToPacketEnd : Room := { frames := 0, cells := 0, slots := 0, locals := 0 }
noncomputable def fX2_sendToPacketEnd (P : Shp) (s : St) (a0 : Int) (a1 : Int) : Option (St) :=
  gR P 2 s a0 1 fun x1 =>
  gR P 6 s x1 6 fun x2 =>
  aI P 10 s x2 a1 fun x3 =>
  gR P 2 s a0 0 fun x4 =>
  gR P 4 s x4 14 fun x5 =>
  aI P 10 s x5 a1 fun x6 =>
  bd (x3 + x6) fun x7 =>
  gR P 2 s a0 0 fun x8 =>
  gR P 4 s x8 15 fun x9 =>
  aI P 10 s x9 a1 fun x10 =>
  jnt
    (fun x11 s12 =>
      gR P 2 s12 a0 1 fun x13 =>
      gR P 6 s12 x13 6 fun x14 =>
      sI P 10 s12 x14 a1 x11 fun s15 =>
      some s15)
    fun k48 =>
  jlt x7 x10
    (k48 x7 s)
    (
      gR P 2 s a0 1 fun x16 =>
      gR P 6 s x16 7 fun x17 =>
      aI P 11 s x17 a1 fun x18 =>
      sI P 11 s x17 a1 (x18 + 1) fun s19 =>
      k48 0 s19)
-- ForesightHub$Hub.isWrongAlarm
abbrev rX2_isWrongAlarm : Room := { frames := 2, cells := 0, slots := 0, locals := 45 }
noncomputable def fX2_isWrongAlarm (P : Shp) (s : St) (a0 : Int) (a1 : Int) : Option (Int) :=
  onO P 2 a0 <| cl (fX2_inAlarm P s a0 a1) fun x1 =>
  jeq x1 0
    (bz 0 (some (0 : Int)))
    (
      gR P 2 s a0 1 fun x2 =>
      gF P 6 s x2 0 fun x3 =>
      gR P 2 s a0 1 fun x4 =>
      gR P 6 s x4 3 fun x5 =>
      aI P 10 s x5 a1 fun x6 =>
      gR P 2 s a0 0 fun x7 =>
      gF P 4 s x7 3 fun x8 =>
      jge (x3 - x6) x8
        (
          gR P 2 s a0 1 fun x9 =>
          gR P 6 s x9 8 fun x10 =>
          gR P 0 s x10 0 fun x11 =>
          aI P 10 s x11 a1 fun x12 =>
          jeq x12 0
            (bz 1 (some (1 : Int)))
            (
              gR P 2 s a0 1 fun x13 =>
              gF P 6 s x13 0 fun x14 =>
              gR P 2 s a0 1 fun x15 =>
              gR P 6 s x15 8 fun x16 =>
              onO P 0 x16 <| cl (fX0_timeOf P s x16 a1 0) fun x17 =>
              gR P 2 s a0 0 fun x18 =>
              gF P 4 s x18 3 fun x19 =>
              jlt (x14 - x17) x19
                (bz 0 (some (0 : Int)))
                (bz 1 (some (1 : Int)))))
        (bz 0 (some (0 : Int))))
-- ForesightHub$ErrorBook.forget
abbrev rX0_forget : Room := { frames := 0, cells := 0, slots := 0, locals := 0 }
noncomputable def fX0_forget (P : Shp) (s : St) (a0 : Int) (a1 : Int) : Option (St) :=
  jlt a1 0
    (some s)
    (
      jge a1 8
        (some s)
        (
          gR P 0 s a0 0 fun x1 =>
          sI P 10 s x1 a1 0 fun s2 =>
          some s2))
-- ForesightHub$Hub.endWrongAlarm
abbrev rX2_endWrongAlarm : Room := { frames := 2, cells := 0, slots := 0, locals := 63 }
noncomputable def fX2_endWrongAlarm (P : Shp) (s : St) (a0 : Int) (a1 : Int) : Option (St) :=
  onO P 2 a0 <| cl (fX2_isDevice P s a0 a1) fun x1 =>
  jeq x1 0
    (some s)
    (
      gR P 2 s a0 1 fun x2 =>
      gR P 6 s x2 3 fun x3 =>
      sI P 10 s x3 a1 ((-1)) fun s4 =>
      gR P 2 s4 a0 1 fun x5 =>
      gR P 6 s4 x5 8 fun x6 =>
      onO P 0 x6 <| cl (fX0_forget P s4 x6 a1) fun s7 =>
      gR P 2 s7 a0 1 fun x8 =>
      gR P 6 s7 x8 9 fun x9 =>
      gR P 2 s7 a0 1 fun x10 =>
      gF P 6 s7 x10 0 fun x11 =>
      onO P 3 x9 <| cl (fX3_add P s7 x9 1 a1 x11) fun s12 =>
      some s12)
-- ForesightHub$Hub.passFrame
abbrev rX2_passFrame : Room := { frames := 5, cells := 0, slots := 0, locals := 112 }
noncomputable def fX2_passFrame_L15 (P : Shp) (c0 : Int) (kE71 : St → Option (St)) : Nat → Int → St → Option (St)
  | 0, _, _ => none
  | m + 1, p1, s =>
    gR P 2 s c0 0 fun x4 =>
    gF P 4 s x4 6 fun x5 =>
    jge p1 x5
      (kE71 s)
      (
        gR P 2 s c0 1 fun x6 =>
        gR P 6 s x6 5 fun x7 =>
        aI P 10 s x7 p1 fun x8 =>
        jnt
          (fun s9 =>
            bd (p1 + 1) fun x10 =>
            fX2_passFrame_L15 P c0 kE71 m x10 s9)
          fun k65 =>
        jne x8 1
          (
            gR P 2 s c0 1 fun x11 =>
            gR P 6 s x11 5 fun x12 =>
            aI P 10 s x12 p1 fun x13 =>
            jne x13 2
              (k65 s)
              (
                onO P 2 c0 <| cl (fX2_sendToPacketEnd P s c0 p1) fun s14 =>
                k65 s14))
          (
            onO P 2 c0 <| cl (fX2_sendOn P s c0 p1) fun s15 =>
            k65 s15))
noncomputable def fX2_passFrame_L73 (P : Shp) (c0 : Int) (kE103 : St → Option (St)) : Nat → Int → St → Option (St)
  | 0, _, _ => none
  | m + 1, p1, s =>
    gR P 2 s c0 0 fun x17 =>
    gF P 4 s x17 5 fun x18 =>
    jge p1 x18
      (kE103 s)
      (
        onO P 2 c0 <| cl (fX2_isWrongAlarm P s c0 p1) fun x19 =>
        jnt
          (fun s20 =>
            bd (p1 + 1) fun x21 =>
            fX2_passFrame_L73 P c0 kE103 m x21 s20)
          fun k97 =>
        jeq x19 0
          (k97 s)
          (
            onO P 2 c0 <| cl (fX2_endWrongAlarm P s c0 p1) fun s22 =>
            k97 s22))
noncomputable def fX2_passFrame (P : Shp) (s : St) (a0 : Int) : Option (St) :=
  gR P 2 s a0 1 fun x1 =>
  gF P 6 s x1 0 fun x2 =>
  pF P 6 s x1 0 (x2 + 1) fun s3 =>
  fX2_passFrame_L15 P a0
    (fun s16 =>
      fX2_passFrame_L73 P a0
        (fun s23 =>
          onO P 2 a0 <| cl (fX2_settle P s23 a0) fun s24 =>
          some s24)
        1000 0 s16)
    1000 0 s3
-- ForesightHub.frames
abbrev rX7_frames : Room := { frames := 6, cells := 0, slots := 0, locals := 133 }
noncomputable def fX7_frames_L38 (P : Shp) (c0 : Int) (c1 : Int) (kE56 : St → Option (Int × St)) : Nat → Int → St → Option (Int × St)
  | 0, _, _ => none
  | m + 1, p2, s =>
    jge p2 c1
      (kE56 s)
      (
        gR P 7 s c0 1 fun x5 =>
        onO P 2 x5 <| cl (fX2_passFrame P s x5) fun s6 =>
        bd (p2 + 1) fun x7 =>
        fX7_frames_L38 P c0 c1 kE56 m x7 s6)
noncomputable def fX7_frames (P : Shp) (s : St) (a0 : Int) (a1 : Int) : Option (Int × St) :=
  jnt
    (
      none)
    fun k12 =>
  jlt a1 1
    (k12)
    (
      jle a1 200
        (
          gR P 7 s a0 2 fun x1 =>
          gR P 7 s a0 1 fun x2 =>
          gR P 2 s x2 1 fun x3 =>
          onO P 1 x1 <| cl (fX1_remember P s x1 x3) fun s4 =>
          fX7_frames_L38 P a0 a1
            (fun s8 =>
              gR P 7 s8 a0 1 fun x9 =>
              onO P 2 x9 <| cl (fX2_reserved P s8 x9) fun x10 =>
              some ((x10 : Int), s8))
            1000 0 s4)
        (k12))
-- ForesightHub.requireKind
abbrev rX7_requireKind : Room := { frames := 0, cells := 0, slots := 0, locals := 0 }
noncomputable def fX7_requireKind (P : Shp) (s : St) (a0 : Int) (a1 : Int) : Option (Unit) :=
  jnt
    (
      none)
    fun k9 =>
  jlt a1 0
    (k9)
    (
      jlt a1 4
        (some ())
        (k9))
-- ForesightHub.requirePluggedIn
abbrev rX7_requirePluggedIn : Room := { frames := 2, cells := 0, slots := 0, locals := 42 }
noncomputable def fX7_requirePluggedIn (P : Shp) (s : St) (a0 : Int) (a1 : Int) : Option (Unit) :=
  gR P 7 s a0 1 fun x1 =>
  onO P 2 x1 <| cl (fX2_isPluggedIn P s x1 a1) fun x2 =>
  jne x2 0
    (some ())
    (none)
-- ForesightHub$ErrorBook.dropOldest
abbrev rX0_dropOldest : Room := { frames := 0, cells := 0, slots := 0, locals := 0 }
noncomputable def fX0_dropOldest_L7 (P : Shp) (c0 : Int) (c1 : Int) (c2 : Int) (kE51 : St → Option (St)) : Nat → Int → St → Option (St)
  | 0, _, _ => none
  | m + 1, p3, s =>
    jge p3 ((c2 + 12) - 1)
      (kE51 s)
      (
        gR P 0 s c0 1 fun x2 =>
        gR P 0 s c0 1 fun x3 =>
        aI P 10 s x3 (p3 + 1) fun x4 =>
        sI P 10 s x2 p3 x4 fun s5 =>
        gR P 0 s5 c0 2 fun x6 =>
        gR P 0 s5 c0 2 fun x7 =>
        aI P 10 s5 x7 (p3 + 1) fun x8 =>
        sI P 10 s5 x6 p3 x8 fun s9 =>
        bd (p3 + 1) fun x10 =>
        fX0_dropOldest_L7 P c0 c1 c2 kE51 m x10 s9)
noncomputable def fX0_dropOldest (P : Shp) (s : St) (a0 : Int) (a1 : Int) : Option (St) :=
  bd (a1 * 12) fun x1 =>
  fX0_dropOldest_L7 P a0 a1 x1
    (fun s11 =>
      gR P 0 s11 a0 0 fun x12 =>
      sI P 10 s11 x12 a1 11 fun s13 =>
      some s13)
    1000 x1 s
-- ForesightHub$ErrorBook.countCause
abbrev rX0_countCause : Room := { frames := 0, cells := 0, slots := 0, locals := 0 }
noncomputable def fX0_countCause (P : Shp) (s : St) (a0 : Int) (a1 : Int) : Option (St) :=
  jlt a1 0
    (some s)
    (
      jlt a1 32
        (
          gR P 0 s a0 5 fun x1 =>
          aI P 10 s x1 a1 fun x2 =>
          jnt
            (fun s3 =>
              gR P 0 s3 a0 5 fun x4 =>
              aI P 10 s3 x4 a1 fun x5 =>
              sI P 10 s3 x4 a1 (x5 + 1) fun s6 =>
              some s6)
            fun k49 =>
          jne x2 0
            (k49 s)
            (
              gF P 0 s a0 3 fun x7 =>
              jge x7 32
                (k49 s)
                (
                  gR P 0 s a0 4 fun x8 =>
                  gF P 0 s a0 3 fun x9 =>
                  sI P 10 s x8 x9 a1 fun s10 =>
                  gF P 0 s10 a0 3 fun x11 =>
                  pF P 0 s10 a0 3 (x11 + 1) fun s12 =>
                  k49 s12)))
        (some s))
-- ForesightHub$ErrorBook.add
abbrev rX0_add : Room := { frames := 1, cells := 0, slots := 0, locals := 23 }
noncomputable def fX0_add (P : Shp) (s : St) (a0 : Int) (a1 : Int) (a2 : Int) (a3 : Int) : Option (St) :=
  jlt a1 0
    (some s)
    (
      jge a1 8
        (some s)
        (
          jlt a2 0
            (some s)
            (
              jlt a2 4
                (
                  gR P 0 s a0 0 fun x1 =>
                  aI P 10 s x1 a1 fun x2 =>
                  jnt
                    (fun s3 =>
                      gR P 0 s3 a0 0 fun x4 =>
                      aI P 10 s3 x4 a1 fun x5 =>
                      bd ((a1 * 12) + x5) fun x6 =>
                      jnt
                        (fun s7 =>
                          onO P 0 a0 <| cl (fX0_countCause P s7 a0 ((a1 * 4) + a2)) fun s8 =>
                          some s8)
                        fun k90 =>
                      jlt x6 0
                        (k90 s3)
                        (
                          gR P 0 s3 a0 1 fun x9 =>
                          aL P 10 x9 fun x10 =>
                          jge x6 x10
                            (k90 s3)
                            (
                              gR P 0 s3 a0 1 fun x11 =>
                              sI P 10 s3 x11 x6 a2 fun s12 =>
                              gR P 0 s12 a0 2 fun x13 =>
                              sI P 10 s12 x13 x6 a3 fun s14 =>
                              gR P 0 s14 a0 0 fun x15 =>
                              aI P 10 s14 x15 a1 fun x16 =>
                              sI P 10 s14 x15 a1 (x16 + 1) fun s17 =>
                              k90 s17)))
                    fun k36 =>
                  jlt x2 12
                    (k36 s)
                    (
                      onO P 0 a0 <| cl (fX0_dropOldest P s a0 a1) fun s18 =>
                      k36 s18))
                (some s))))
-- ForesightHub$Hub.beginAlarm
abbrev rX2_beginAlarm : Room := { frames := 2, cells := 0, slots := 0, locals := 63 }
noncomputable def fX2_beginAlarm (P : Shp) (s : St) (a0 : Int) (a1 : Int) : Option (St) :=
  onO P 2 a0 <| cl (fX2_isDevice P s a0 a1) fun x1 =>
  jeq x1 0
    (some s)
    (
      gR P 2 s a0 1 fun x2 =>
      gR P 6 s x2 3 fun x3 =>
      gR P 2 s a0 1 fun x4 =>
      gF P 6 s x4 0 fun x5 =>
      sI P 10 s x3 a1 x5 fun s6 =>
      gR P 2 s6 a0 1 fun x7 =>
      gR P 6 s6 x7 9 fun x8 =>
      gR P 2 s6 a0 1 fun x9 =>
      gF P 6 s6 x9 0 fun x10 =>
      onO P 3 x8 <| cl (fX3_add P s6 x8 0 a1 x10) fun s11 =>
      some s11)
-- ForesightHub$Hub.takeError
abbrev rX2_takeError : Room := { frames := 5, cells := 0, slots := 0, locals := 138 }
noncomputable def fX2_takeError (P : Shp) (s : St) (a0 : Int) (a1 : Int) (a2 : Int) : Option (St) :=
  gR P 2 s a0 1 fun x1 =>
  gR P 6 s x1 8 fun x2 =>
  gR P 2 s a0 1 fun x3 =>
  gF P 6 s x3 0 fun x4 =>
  onO P 0 x2 <| cl (fX0_add P s x2 a1 a2 x4) fun s5 =>
  gR P 2 s5 a0 1 fun x6 =>
  gR P 6 s5 x6 9 fun x7 =>
  gR P 3 s5 x7 5 fun x8 =>
  aI P 10 s5 x8 9 fun x9 =>
  sI P 10 s5 x8 9 (x9 + 1) fun s10 =>
  onO P 2 a0 <| cl (fX2_inAlarm P s10 a0 a1) fun x11 =>
  jne x11 0
    (some s10)
    (
      onO P 2 a0 <| cl (fX2_scoreOf P s10 a0 a1 ((-1))) fun x12 =>
      gR P 2 s10 a0 1 fun x13 =>
      gF P 6 s10 x13 1 fun x14 =>
      jlt x12 x14
        (some s10)
        (
          onO P 2 a0 <| cl (fX2_beginAlarm P s10 a0 a1) fun s15 =>
          onO P 2 a0 <| cl (fX2_settle P s15 a0) fun s16 =>
          some s16))
-- ForesightHub.fail
abbrev rX7_fail : Room := { frames := 6, cells := 0, slots := 0, locals := 160 }
noncomputable def fX7_fail (P : Shp) (s : St) (a0 : Int) (a1 : Int) (a2 : Int) : Option (Int × St) :=
  onO P 7 a0 <| cl (fX7_requireDevice P s a0 a1) fun x1 =>
  onO P 7 a0 <| cl (fX7_requireKind P s a0 a2) fun x2 =>
  onO P 7 a0 <| cl (fX7_requirePluggedIn P s a0 a1) fun x3 =>
  gR P 7 s a0 2 fun x4 =>
  gR P 7 s a0 1 fun x5 =>
  gR P 2 s x5 1 fun x6 =>
  onO P 1 x4 <| cl (fX1_remember P s x4 x6) fun s7 =>
  gR P 7 s7 a0 1 fun x8 =>
  onO P 2 x8 <| cl (fX2_takeError P s7 x8 a1 a2) fun s9 =>
  gR P 7 s9 a0 1 fun x10 =>
  onO P 2 x10 <| cl (fX2_scoreOf P s9 x10 a1 ((-1))) fun x11 =>
  some ((x11 : Int), s9)
-- ForesightHub.warn
abbrev rX7_warn : Room := { frames := 5, cells := 0, slots := 0, locals := 112 }
noncomputable def fX7_warn (P : Shp) (s : St) (a0 : Int) (a1 : Int) : Option (Int × St) :=
  onO P 7 a0 <| cl (fX7_requireDevice P s a0 a1) fun x1 =>
  onO P 7 a0 <| cl (fX7_requirePluggedIn P s a0 a1) fun x2 =>
  gR P 7 s a0 1 fun x3 =>
  onO P 2 x3 <| cl (fX2_inAlarm P s x3 a1) fun x4 =>
  jeq x4 0
    (
      gR P 7 s a0 2 fun x5 =>
      gR P 7 s a0 1 fun x6 =>
      gR P 2 s x6 1 fun x7 =>
      onO P 1 x5 <| cl (fX1_remember P s x5 x7) fun s8 =>
      gR P 7 s8 a0 1 fun x9 =>
      onO P 2 x9 <| cl (fX2_clearingFrames P s8 x9 a1) fun x10 =>
      gR P 7 s8 a0 1 fun x11 =>
      onO P 2 x11 <| cl (fX2_beginAlarm P s8 x11 a1) fun s12 =>
      gR P 7 s12 a0 1 fun x13 =>
      onO P 2 x13 <| cl (fX2_settle P s12 x13) fun s14 =>
      some ((x10 : Int), s14))
    (none)
-- java/lang/Integer.bitCount
abbrev rJ6_bitCount_0f7a4 : Room := { frames := 0, cells := 0, slots := 0, locals := 0 }
noncomputable def fJ6_bitCount_0f7a4 (P : Shp) (s : St) (a0 : Int) : Option (Int) :=
  bd (a0 - (iand (iushr a0 1) 1431655765)) fun x1 =>
  bd ((iand x1 858993459) + (iand (iushr x1 2) 858993459)) fun x2 =>
  bd (iand (x2 + (iushr x2 4)) 252645135) fun x3 =>
  bd (x3 + (iushr x3 8)) fun x4 =>
  bd (x4 + (iushr x4 16)) fun x5 =>
  some (iand x5 63 : Int)
-- ForesightHub.callOff
abbrev rX7_callOff : Room := { frames := 5, cells := 0, slots := 0, locals := 112 }
noncomputable def fX7_callOff (P : Shp) (s : St) (a0 : Int) (a1 : Int) : Option (Int × St) :=
  onO P 7 a0 <| cl (fX7_requireDevice P s a0 a1) fun x1 =>
  gR P 7 s a0 1 fun x2 =>
  onO P 2 x2 <| cl (fX2_inAlarm P s x2 a1) fun x3 =>
  jne x3 0
    (
      gR P 7 s a0 2 fun x4 =>
      gR P 7 s a0 1 fun x5 =>
      gR P 2 s x5 1 fun x6 =>
      onO P 1 x4 <| cl (fX1_remember P s x4 x6) fun s7 =>
      gR P 7 s7 a0 1 fun x8 =>
      onO P 2 x8 <| cl (fX2_endWrongAlarm P s7 x8 a1) fun s9 =>
      gR P 7 s9 a0 1 fun x10 =>
      onO P 2 x10 <| cl (fX2_settle P s9 x10) fun s11 =>
      gR P 7 s11 a0 1 fun x12 =>
      onO P 2 x12 <| cl (fX2_heldBits P s11 x12 a1) fun x13 =>
      cl (fJ6_bitCount_0f7a4 P s11 x13) fun x14 =>
      some ((x14 : Int), s11))
    (none)
-- ForesightHub$Hub.dropStream
abbrev rX2_dropStream : Room := { frames := 2, cells := 0, slots := 0, locals := 63 }
noncomputable def fX2_dropStream (P : Shp) (s : St) (a0 : Int) (a1 : Int) : Option (Int × St) :=
  gR P 2 s a0 1 fun x1 =>
  gR P 6 s x1 6 fun x2 =>
  aI P 10 s x2 a1 fun x3 =>
  jnt
    (fun s4 =>
      gR P 2 s4 a0 1 fun x5 =>
      gR P 6 s4 x5 6 fun x6 =>
      sI P 10 s4 x6 a1 0 fun s7 =>
      gR P 2 s7 a0 1 fun x8 =>
      gR P 6 s7 x8 4 fun x9 =>
      sI P 10 s7 x9 a1 ((-1)) fun s10 =>
      gR P 2 s10 a0 1 fun x11 =>
      gR P 6 s10 x11 5 fun x12 =>
      sI P 10 s10 x12 a1 0 fun s13 =>
      some ((x3 : Int), s13))
    fun k34 =>
  jle x3 0
    (k34 s)
    (
      gR P 2 s a0 1 fun x14 =>
      gR P 6 s x14 9 fun x15 =>
      gR P 2 s a0 1 fun x16 =>
      gF P 6 s x16 0 fun x17 =>
      onO P 3 x15 <| cl (fX3_add P s x15 7 a1 x17) fun s18 =>
      k34 s18)
-- ForesightHub$Hub.pullOut
abbrev rX2_pullOut : Room := { frames := 5, cells := 0, slots := 0, locals := 112 }
noncomputable def fX2_pullOut_L76 (P : Shp) (c0 : Int) (c1 : Int) (kE114 : Int → St → Option (Int × St)) : Nat → Int → Int → St → Option (Int × St)
  | 0, _, _, _ => none
  | m + 1, p2, p3, s =>
    gR P 2 s c0 0 fun x18 =>
    gF P 4 s x18 6 fun x19 =>
    jge p3 x19
      (kE114 p2 s)
      (
        gR P 2 s c0 1 fun x20 =>
        gR P 6 s x20 4 fun x21 =>
        aI P 10 s x21 p3 fun x22 =>
        jnt
          (fun x23 s24 =>
            bd (p3 + 1) fun x25 =>
            fX2_pullOut_L76 P c0 c1 kE114 m x23 x25 s24)
          fun k108 =>
        jne x22 c1
          (k108 p2 s)
          (
            onO P 2 c0 <| cl (fX2_dropStream P s c0 p3) fun (x27, s28) =>
            bd (p2 + x27) fun x29 =>
            k108 x29 s28))
noncomputable def fX2_pullOut (P : Shp) (s : St) (a0 : Int) (a1 : Int) : Option (Int × St) :=
  onO P 2 a0 <| cl (fX2_isDevice P s a0 a1) fun x1 =>
  jne x1 0
    (
      gR P 2 s a0 1 fun x2 =>
      gR P 6 s x2 9 fun x3 =>
      onO P 2 a0 <| cl (fX2_inAlarm P s a0 a1) fun x4 =>
      jnt
        (fun x5 =>
          gR P 2 s a0 1 fun x6 =>
          gF P 6 s x6 0 fun x7 =>
          onO P 3 x3 <| cl (fX3_add P s x3 x5 a1 x7) fun s8 =>
          gR P 2 s8 a0 1 fun x9 =>
          gR P 6 s8 x9 2 fun x10 =>
          sI P 10 s8 x10 a1 ((-1)) fun s11 =>
          gR P 2 s11 a0 1 fun x12 =>
          gR P 6 s11 x12 3 fun x13 =>
          sI P 10 s11 x13 a1 ((-1)) fun s14 =>
          gR P 2 s14 a0 1 fun x15 =>
          gR P 6 s14 x15 8 fun x16 =>
          onO P 0 x16 <| cl (fX0_forget P s14 x16 a1) fun s17 =>
          fX2_pullOut_L76 P a0 a1
            (fun x30 s31 =>
              gR P 2 s31 a0 1 fun x32 =>
              gR P 6 s31 x32 9 fun x33 =>
              gR P 3 s31 x33 5 fun x34 =>
              aI P 10 s31 x34 8 fun x35 =>
              sI P 10 s31 x34 8 (x35 + x30) fun s36 =>
              onO P 2 a0 <| cl (fX2_settle P s36 a0) fun s37 =>
              some ((x30 : Int), s37))
            1000 0 0 s17)
        fun k30 =>
      jeq x4 0
        (k30 3)
        (k30 2))
    (some ((0 : Int), s))
-- ForesightHub.unplug
abbrev rX7_unplug : Room := { frames := 6, cells := 0, slots := 0, locals := 135 }
noncomputable def fX7_unplug (P : Shp) (s : St) (a0 : Int) (a1 : Int) : Option (Int × St) :=
  onO P 7 a0 <| cl (fX7_requireDevice P s a0 a1) fun x1 =>
  onO P 7 a0 <| cl (fX7_requirePluggedIn P s a0 a1) fun x2 =>
  gR P 7 s a0 2 fun x3 =>
  gR P 7 s a0 1 fun x4 =>
  gR P 2 s x4 1 fun x5 =>
  onO P 1 x3 <| cl (fX1_remember P s x3 x5) fun s6 =>
  gR P 7 s6 a0 1 fun x7 =>
  onO P 2 x7 <| cl (fX2_pullOut P s6 x7 a1) fun (x9, s10) =>
  some ((x9 : Int), s10)
-- ForesightHub.requirePort
abbrev rX7_requirePort : Room := { frames := 0, cells := 0, slots := 0, locals := 0 }
noncomputable def fX7_requirePort (P : Shp) (s : St) (a0 : Int) (a1 : Int) : Option (Unit) :=
  jnt
    (
      none)
    fun k18 =>
  jlt a1 0
    (k18)
    (
      gR P 7 s a0 1 fun x1 =>
      gR P 2 s x1 0 fun x2 =>
      gF P 4 s x2 1 fun x3 =>
      jlt a1 x3
        (some ())
        (k18))
-- ForesightHub$Hub.pluggedInAt
abbrev rX2_pluggedInAt : Room := { frames := 0, cells := 0, slots := 0, locals := 0 }
noncomputable def fX2_pluggedInAt_L2 (P : Shp) (s : St) (c0 : Int) (c1 : Int) (kE34 : Option (Int)) (kE26 : Int → Option (Int)) : Nat → Int → Option (Int)
  | 0, _ => none
  | m + 1, p2 =>
    gR P 2 s c0 0 fun x1 =>
    gF P 4 s x1 5 fun x2 =>
    jge p2 x2
      (kE34)
      (
        gR P 2 s c0 1 fun x3 =>
        gR P 6 s x3 2 fun x4 =>
        aI P 10 s x4 p2 fun x5 =>
        jne x5 c1
          (
            bd (p2 + 1) fun x6 =>
            fX2_pluggedInAt_L2 P s c0 c1 kE34 kE26 m x6)
          (kE26 p2))
noncomputable def fX2_pluggedInAt (P : Shp) (s : St) (a0 : Int) (a1 : Int) : Option (Int) :=
  fX2_pluggedInAt_L2 P s a0 a1
    (
      some ((-1) : Int))
    (fun x7 =>
      some (x7 : Int))
    1000 0
-- ForesightHub$Hub.putIn
abbrev rX2_putIn : Room := { frames := 5, cells := 0, slots := 0, locals := 112 }
noncomputable def fX2_putIn (P : Shp) (s : St) (a0 : Int) (a1 : Int) (a2 : Int) : Option (St) :=
  onO P 2 a0 <| cl (fX2_isDevice P s a0 a1) fun x1 =>
  jeq x1 0
    (some s)
    (
      gR P 2 s a0 1 fun x2 =>
      gR P 6 s x2 2 fun x3 =>
      sI P 10 s x3 a1 a2 fun s4 =>
      gR P 2 s4 a0 1 fun x5 =>
      gR P 6 s4 x5 3 fun x6 =>
      sI P 10 s4 x6 a1 ((-1)) fun s7 =>
      onO P 2 a0 <| cl (fX2_settle P s7 a0) fun s8 =>
      some s8)
-- ForesightHub.plug
abbrev rX7_plug : Room := { frames := 6, cells := 0, slots := 0, locals := 134 }
noncomputable def fX7_plug (P : Shp) (s : St) (a0 : Int) (a1 : Int) (a2 : Int) : Option (Int × St) :=
  onO P 7 a0 <| cl (fX7_requireDevice P s a0 a1) fun x1 =>
  onO P 7 a0 <| cl (fX7_requirePort P s a0 a2) fun x2 =>
  gR P 7 s a0 1 fun x3 =>
  onO P 2 x3 <| cl (fX2_isPluggedIn P s x3 a1) fun x4 =>
  jeq x4 0
    (
      gR P 7 s a0 1 fun x5 =>
      onO P 2 x5 <| cl (fX2_pluggedInAt P s x5 a2) fun x6 =>
      jeq x6 ((-1))
        (
          gR P 7 s a0 2 fun x7 =>
          gR P 7 s a0 1 fun x8 =>
          gR P 2 s x8 1 fun x9 =>
          onO P 1 x7 <| cl (fX1_remember P s x7 x9) fun s10 =>
          gR P 7 s10 a0 1 fun x11 =>
          onO P 2 x11 <| cl (fX2_putIn P s10 x11 a1 a2) fun s12 =>
          gR P 7 s12 a0 1 fun x13 =>
          onO P 2 x13 <| cl (fX2_heldBits P s12 x13 a1) fun x14 =>
          cl (fJ6_bitCount_0f7a4 P s12 x14) fun x15 =>
          some ((x15 : Int), s12))
        (none))
    (none)
-- java/lang/Math.floorMod
abbrev rJ9_floorMod_7cf53 : Room := { frames := 0, cells := 0, slots := 0, locals := 0 }
noncomputable def fJ9_floorMod_7cf53 (P : Shp) (s : St) (a0 : Int) (a1 : Int) : Option (Int) :=
  rm a0 a1 fun x1 =>
  jge (ixor a0 a1) 0
    (some (x1 : Int))
    (
      jeq x1 0
        (some (x1 : Int))
        (some (x1 + a1 : Int)))
-- ForesightHub$History.takeBack
abbrev rX1_takeBack : Room := { frames := 3, cells := 0, slots := 0, locals := 82 }
noncomputable def fX1_takeBack (P : Shp) (s : St) (a0 : Int) (a1 : Int) : Option (Int × St) :=
  gF P 1 s a0 1 fun x1 =>
  jgt x1 0
    (
      gF P 1 s a0 2 fun x2 =>
      cl (fJ9_floorMod_7cf53 P s (x2 - 1) 10) fun x3 =>
      pF P 1 s a0 2 x3 fun s4 =>
      gR P 1 s4 a0 0 fun x5 =>
      gF P 1 s4 a0 2 fun x6 =>
      aR P 13 s4 x5 x6 fun x7 =>
      onO P 6 a1 <| cl (fX6_copyFrom P s4 a1 x7) fun s8 =>
      gF P 1 s8 a0 1 fun x9 =>
      pF P 1 s8 a0 1 (x9 - 1) fun s10 =>
      bz 1 (some ((1 : Int), s10)))
    (bz 0 (some ((0 : Int), s)))
-- ForesightHub.undo
abbrev rX7_undo : Room := { frames := 4, cells := 0, slots := 0, locals := 103 }
noncomputable def fX7_undo (P : Shp) (s : St) (a0 : Int) : Option (Int × St) :=
  gR P 7 s a0 2 fun x1 =>
  gR P 7 s a0 1 fun x2 =>
  gR P 2 s x2 1 fun x3 =>
  onO P 1 x1 <| cl (fX1_takeBack P s x1 x3) fun (x5, s6) =>
  jeq x5 0
    (some (((-1) : Int), s6))
    (
      gR P 7 s6 a0 2 fun x7 =>
      gF P 1 s6 x7 1 fun x8 =>
      some ((x8 : Int), s6))
-- ForesightHub.saveSnapshot
abbrev rX7_saveSnapshot : Room := { frames := 3, cells := 0, slots := 0, locals := 82 }
noncomputable def fX7_saveSnapshot (P : Shp) (s : St) (a0 : Int) (a1 : Int) : Option (Int × St) :=
  jlt a1 0
    (bz 0 (some ((0 : Int), s)))
    (
      jlt a1 2
        (
          gR P 7 s a0 3 fun x1 =>
          aR P 13 s x1 a1 fun x2 =>
          gR P 7 s a0 1 fun x3 =>
          gR P 2 s x3 1 fun x4 =>
          onO P 6 x2 <| cl (fX6_copyFrom P s x2 x4) fun s5 =>
          gR P 7 s5 a0 4 fun x6 =>
          sZ P 12 s5 x6 a1 1 fun s7 =>
          bz 1 (some ((1 : Int), s7)))
        (bz 0 (some ((0 : Int), s))))
-- ForesightHub.restoreSnapshot
abbrev rX7_restoreSnapshot : Room := { frames := 3, cells := 0, slots := 0, locals := 82 }
noncomputable def fX7_restoreSnapshot (P : Shp) (s : St) (a0 : Int) (a1 : Int) : Option (Int × St) :=
  jlt a1 0
    (bz 0 (some ((0 : Int), s)))
    (
      jge a1 2
        (bz 0 (some ((0 : Int), s)))
        (
          gR P 7 s a0 4 fun x1 =>
          aI P 12 s x1 a1 fun x2 =>
          jne x2 0
            (
              gR P 7 s a0 1 fun x3 =>
              gR P 2 s x3 1 fun x4 =>
              gR P 7 s a0 3 fun x5 =>
              aR P 13 s x5 a1 fun x6 =>
              onO P 6 x4 <| cl (fX6_copyFrom P s x4 x6) fun s7 =>
              gR P 7 s7 a0 2 fun x8 =>
              onO P 1 x8 <| cl (fX1_clear P s7 x8) fun s9 =>
              bz 1 (some ((1 : Int), s9)))
            (bz 0 (some ((0 : Int), s)))))
