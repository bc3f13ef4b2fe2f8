/-! THE THROWING METHODS AS FUNCTIONS -/
-- ForesightHub.parse
abbrev rX7_parse : Room := { frames := 13, cells := 1, slots := 6, locals := 309 }
noncomputable def fX7_parse_L84 (P : Shp) (c0 : Int) (kE102 : St → Option ((Int × St) ⊕ Nat)) : Nat → Int → St → Option ((Int × St) ⊕ Nat)
  | 0, _, _ => none
  | m + 1, p3, s =>
    jge p3 2
      (kE102 s)
      (
        gR P 7 s c0 4 fun x19 =>
        sZ P 12 s x19 p3 0 fun s20 =>
        bd (p3 + 1) fun x21 =>
        fX7_parse_L84 P c0 kE102 m x21 s20)
noncomputable def fX7_parse (P : Shp) (s : St) (a0 : Int) (a1 : Int) : Option ((Int × St) ⊕ Nat) :=
  jnt
    (
      some (.inr 0))
    fun k15 =>
  jlt a1 0
    (k15)
    (
      gR P 7 s a0 0 fun x1 =>
      gF P 5 s x1 1 fun x2 =>
      jle a1 x2
        (
          gR P 7 s a0 0 fun x3 =>
          onO P 5 x3 <| cl (fX5_read P s x3 a1) fun (x5, s6) =>
          gR P 7 s6 a0 0 fun x7 =>
          pF P 5 s6 x7 1 0 fun s8 =>
          jne x5 0
            (
              gR P 7 s8 a0 1 fun x9 =>
              gR P 7 s8 a0 0 fun x10 =>
              gR P 7 s8 a0 1 fun x11 =>
              gR P 2 s8 x11 0 fun x12 =>
              onO P 5 x10 <| cl (fX5_exchangePlan P s8 x10 x12) fun (x14, s15) =>
              onO P 2 x9 <| cl (fX2_begin P s15 x9 x14) fun s16 =>
              gR P 7 s16 a0 2 fun x17 =>
              onO P 1 x17 <| cl (fX1_clear P s16 x17) fun s18 =>
              fX7_parse_L84 P a0
                (fun s22 =>
                  gR P 7 s22 a0 1 fun x23 =>
                  gR P 2 s22 x23 0 fun x24 =>
                  gF P 4 s22 x24 6 fun x25 =>
                  some (.inl ((x25 : Int), s22)))
                1000 0 s18)
            (
              gR P 7 s8 a0 0 fun x26 =>
              onO P 5 x26 <| cl (fX5_faultAnswer P s8 x26) fun x27 =>
              some (.inl ((x27 : Int), s8))))
        (k15))
-- ForesightHub.size
abbrev rX7_size : Room := { frames := 6, cells := 1, slots := 6, locals := 90 }
noncomputable def fX7_size (P : Shp) (s : St) (a0 : Int) (a1 : Int) : Option ((Int × St) ⊕ Nat) :=
  jsw a1
    [
      (0,
        gR P 7 s a0 1 fun x1 =>
        gR P 2 s x1 0 fun x2 =>
        gF P 4 s x2 4 fun x3 =>
        some (.inl ((x3 : Int), s))),
      (1,
        gR P 7 s a0 1 fun x4 =>
        gR P 2 s x4 0 fun x5 =>
        gF P 4 s x5 5 fun x6 =>
        some (.inl ((x6 : Int), s))),
      (2,
        gR P 7 s a0 1 fun x7 =>
        gR P 2 s x7 0 fun x8 =>
        gF P 4 s x8 6 fun x9 =>
        some (.inl ((x9 : Int), s))),
      (3,
        gR P 7 s a0 1 fun x10 =>
        gR P 2 s x10 0 fun x11 =>
        gF P 4 s x11 0 fun x12 =>
        some (.inl ((x12 : Int), s))),
      (4,
        gR P 7 s a0 1 fun x13 =>
        gR P 2 s x13 0 fun x14 =>
        gF P 4 s x14 1 fun x15 =>
        some (.inl ((x15 : Int), s))),
      (5,
        gR P 7 s a0 1 fun x16 =>
        gR P 2 s x16 1 fun x17 =>
        gF P 6 s x17 0 fun x18 =>
        some (.inl ((x18 : Int), s))),
      (6,
        gR P 7 s a0 1 fun x19 =>
        onO P 2 x19 <| cl (fX2_reserved P s x19) fun x20 =>
        some (.inl ((x20 : Int), s))),
      (7,
        gR P 7 s a0 1 fun x21 =>
        gR P 2 s x21 1 fun x22 =>
        gF P 6 s x22 1 fun x23 =>
        some (.inl ((x23 : Int), s))),
      (8,
        gR P 7 s a0 1 fun x24 =>
        gR P 2 s x24 0 fun x25 =>
        gF P 4 s x25 3 fun x26 =>
        some (.inl ((x26 : Int), s))),
      (9,
        gR P 7 s a0 2 fun x27 =>
        gF P 1 s x27 1 fun x28 =>
        some (.inl ((x28 : Int), s)))]
    (
      some (.inr 0))
-- ForesightHub.requirePort
abbrev rX7_requirePort : Room := { frames := 6, cells := 1, slots := 6, locals := 90 }
noncomputable def fX7_requirePort (P : Shp) (s : St) (a0 : Int) (a1 : Int) : Option (Int ⊕ Nat) :=
  jnt
    (
      some (.inr 2))
    fun k18 =>
  jlt a1 0
    (k18)
    (
      gR P 7 s a0 1 fun x1 =>
      gR P 2 s x1 0 fun x2 =>
      gF P 4 s x2 1 fun x3 =>
      jlt a1 x3
        (some (.inl 0))
        (k18))
-- ForesightHub.deviceAt
abbrev rX7_deviceAt : Room := { frames := 7, cells := 1, slots := 6, locals := 111 }
noncomputable def fX7_deviceAt (P : Shp) (s : St) (a0 : Int) (a1 : Int) : Option ((Int × St) ⊕ Nat) :=
  onO P 7 a0 <| clx (fX7_requirePort P s a0 a1) <|
  gR P 7 s a0 1 fun x1 =>
  onO P 2 x1 <| cl (fX2_pluggedInAt P s x1 a1) fun x2 =>
  some (.inl ((x2 : Int), s))
-- ForesightHub.requireDevice
abbrev rX7_requireDevice : Room := { frames := 6, cells := 1, slots := 6, locals := 90 }
noncomputable def fX7_requireDevice (P : Shp) (s : St) (a0 : Int) (a1 : Int) : Option (Int ⊕ Nat) :=
  gR P 7 s a0 1 fun x1 =>
  onO P 2 x1 <| cl (fX2_isDevice P s x1 a1) fun x2 =>
  jne x2 0
    (some (.inl 0))
    (some (.inr 2))
-- ForesightHub.device
abbrev rX7_device : Room := { frames := 7, cells := 2, slots := 12, locals := 138 }
noncomputable def fX7_device (P : Shp) (s : St) (a0 : Int) (a1 : Int) (a2 : Int) : Option ((Int × St) ⊕ Nat) :=
  onO P 7 a0 <| clx (fX7_requireDevice P s a0 a1) <|
  jsw a2
    [
      (0,
        gR P 7 s a0 1 fun x1 =>
        gR P 2 s x1 1 fun x2 =>
        gR P 6 s x2 2 fun x3 =>
        aI P 10 s x3 a1 fun x4 =>
        some (.inl ((x4 : Int), s))),
      (1,
        gR P 7 s a0 1 fun x5 =>
        gR P 2 s x5 0 fun x6 =>
        gR P 4 s x6 12 fun x7 =>
        aI P 10 s x7 a1 fun x8 =>
        some (.inl ((x8 : Int), s))),
      (2,
        gR P 7 s a0 1 fun x9 =>
        onO P 2 x9 <| cl (fX2_inAlarm P s x9 a1) fun x10 =>
        jeq x10 0
          (some (.inl ((0 : Int), s)))
          (some (.inl ((1 : Int), s)))),
      (3,
        gR P 7 s a0 1 fun x11 =>
        onO P 2 x11 <| cl (fX2_scoreOf P s x11 a1 ((-1))) fun x12 =>
        some (.inl ((x12 : Int), s))),
      (4,
        gR P 7 s a0 1 fun x13 =>
        onO P 2 x13 <| cl (fX2_matchingBits P s x13 a1 ((-1))) fun x14 =>
        some (.inl ((x14 : Int), s))),
      (5,
        gR P 7 s a0 1 fun x15 =>
        gR P 2 s x15 1 fun x16 =>
        gR P 6 s x16 8 fun x17 =>
        gR P 0 s x17 0 fun x18 =>
        aI P 10 s x18 a1 fun x19 =>
        some (.inl ((x19 : Int), s))),
      (6,
        gR P 7 s a0 1 fun x20 =>
        onO P 2 x20 <| cl (fX2_heldBits P s x20 a1) fun x21 =>
        some (.inl ((x21 : Int), s))),
      (7,
        gR P 7 s a0 1 fun x22 =>
        onO P 2 x22 <| cl (fX2_reservedFor P s x22 a1) fun x23 =>
        some (.inl ((x23 : Int), s)))]
    (
      some (.inr 0))
-- ForesightHub.requireStream
abbrev rX7_requireStream : Room := { frames := 6, cells := 1, slots := 6, locals := 90 }
noncomputable def fX7_requireStream (P : Shp) (s : St) (a0 : Int) (a1 : Int) : Option (Int ⊕ Nat) :=
  jnt
    (
      some (.inr 2))
    fun k18 =>
  jlt a1 0
    (k18)
    (
      gR P 7 s a0 1 fun x1 =>
      gR P 2 s x1 0 fun x2 =>
      gF P 4 s x2 6 fun x3 =>
      jlt a1 x3
        (some (.inl 0))
        (k18))
-- ForesightHub.stream
abbrev rX7_stream : Room := { frames := 7, cells := 2, slots := 12, locals := 111 }
noncomputable def fX7_stream (P : Shp) (s : St) (a0 : Int) (a1 : Int) (a2 : Int) : Option ((Int × St) ⊕ Nat) :=
  onO P 7 a0 <| clx (fX7_requireStream P s a0 a1) <|
  jsw a2
    [
      (0,
        gR P 7 s a0 1 fun x1 =>
        gR P 2 s x1 1 fun x2 =>
        gR P 6 s x2 5 fun x3 =>
        aI P 10 s x3 a1 fun x4 =>
        some (.inl ((x4 : Int), s))),
      (1,
        gR P 7 s a0 1 fun x5 =>
        gR P 2 s x5 1 fun x6 =>
        gR P 6 s x6 4 fun x7 =>
        aI P 10 s x7 a1 fun x8 =>
        some (.inl ((x8 : Int), s))),
      (2,
        gR P 7 s a0 1 fun x9 =>
        onO P 2 x9 <| cl (fX2_wantedHolder P s x9 a1) fun x10 =>
        some (.inl ((x10 : Int), s))),
      (3,
        gR P 7 s a0 1 fun x11 =>
        gR P 2 s x11 0 fun x12 =>
        gR P 4 s x12 14 fun x13 =>
        aI P 10 s x13 a1 fun x14 =>
        some (.inl ((x14 : Int), s))),
      (4,
        gR P 7 s a0 1 fun x15 =>
        gR P 2 s x15 0 fun x16 =>
        gR P 4 s x16 15 fun x17 =>
        aI P 10 s x17 a1 fun x18 =>
        some (.inl ((x18 : Int), s))),
      (5,
        gR P 7 s a0 1 fun x19 =>
        gR P 2 s x19 1 fun x20 =>
        gR P 6 s x20 6 fun x21 =>
        aI P 10 s x21 a1 fun x22 =>
        some (.inl ((x22 : Int), s))),
      (6,
        gR P 7 s a0 1 fun x23 =>
        gR P 2 s x23 0 fun x24 =>
        gR P 4 s x24 13 fun x25 =>
        aI P 10 s x25 a1 fun x26 =>
        some (.inl ((x26 : Int), s)))]
    (
      some (.inr 0))
-- ForesightHub.packets
abbrev rX7_packets : Room := { frames := 7, cells := 1, slots := 6, locals := 111 }
noncomputable def fX7_packets (P : Shp) (s : St) (a0 : Int) (a1 : Int) : Option ((Int × St) ⊕ Nat) :=
  onO P 7 a0 <| clx (fX7_requireStream P s a0 a1) <|
  gR P 7 s a0 1 fun x1 =>
  gR P 2 s x1 1 fun x2 =>
  gR P 6 s x2 7 fun x3 =>
  aI P 11 s x3 a1 fun x4 =>
  some (.inl ((x4 : Int), s))
-- ForesightHub.error
abbrev rX7_error : Room := { frames := 7, cells := 2, slots := 12, locals := 111 }
noncomputable def fX7_error (P : Shp) (s : St) (a0 : Int) (a1 : Int) (a2 : Int) (a3 : Int) : Option ((Int × St) ⊕ Nat) :=
  onO P 7 a0 <| clx (fX7_requireDevice P s a0 a1) <|
  jnt
    (
      some (.inr 0))
    fun k14 =>
  jlt a3 0
    (k14)
    (
      jle a3 1
        (
          jne a3 0
            (
              gR P 7 s a0 1 fun x1 =>
              gR P 2 s x1 1 fun x2 =>
              gR P 6 s x2 8 fun x3 =>
              onO P 0 x3 <| cl (fX0_timeOf P s x3 a1 a2) fun x4 =>
              some (.inl ((x4 : Int), s)))
            (
              gR P 7 s a0 1 fun x5 =>
              gR P 2 s x5 1 fun x6 =>
              gR P 6 s x6 8 fun x7 =>
              onO P 0 x7 <| cl (fX0_kindOf P s x7 a1 a2) fun x8 =>
              some (.inl ((x8 : Int), s))))
        (k14))
-- ForesightHub.cause
abbrev rX7_cause : Room := { frames := 6, cells := 1, slots := 6, locals := 90 }
noncomputable def fX7_cause (P : Shp) (s : St) (a0 : Int) (a1 : Int) (a2 : Int) : Option ((Int × St) ⊕ Nat) :=
  jnt
    (
      some (.inr 0))
    fun k9 =>
  jlt a2 0
    (k9)
    (
      jle a2 2
        (
          gR P 7 s a0 1 fun x1 =>
          gR P 2 s x1 1 fun x2 =>
          gR P 6 s x2 8 fun x3 =>
          onO P 0 x3 <| cl (fX0_causePart P s x3 a1 a2) fun x4 =>
          some (.inl ((x4 : Int), s)))
        (k9))
-- ForesightHub.requireKind
abbrev rX7_requireKind : Room := { frames := 6, cells := 1, slots := 6, locals := 90 }
noncomputable def fX7_requireKind (P : Shp) (s : St) (a0 : Int) (a1 : Int) : Option (Int ⊕ Nat) :=
  jnt
    (
      some (.inr 0))
    fun k9 =>
  jlt a1 0
    (k9)
    (
      jlt a1 4
        (some (.inl 0))
        (k9))
-- ForesightHub.scoreWith
abbrev rX7_scoreWith : Room := { frames := 7, cells := 2, slots := 12, locals := 138 }
noncomputable def fX7_scoreWith (P : Shp) (s : St) (a0 : Int) (a1 : Int) (a2 : Int) : Option ((Int × St) ⊕ Nat) :=
  onO P 7 a0 <| clx (fX7_requireDevice P s a0 a1) <|
  onO P 7 a0 <| clx (fX7_requireKind P s a0 a2) <|
  gR P 7 s a0 1 fun x1 =>
  onO P 2 x1 <| cl (fX2_isPluggedIn P s x1 a1) fun x2 =>
  jeq x2 0
    (some (.inl (((-1) : Int), s)))
    (
      gR P 7 s a0 1 fun x3 =>
      onO P 2 x3 <| cl (fX2_scoreOf P s x3 a1 a2) fun x4 =>
      some (.inl ((x4 : Int), s)))
-- ForesightHub.feared
abbrev rX7_feared : Room := { frames := 7, cells := 1, slots := 6, locals := 160 }
noncomputable def fX7_feared (P : Shp) (s : St) (a0 : Int) (a1 : Int) : Option ((Int × St) ⊕ Nat) :=
  onO P 7 a0 <| clx (fX7_requireDevice P s a0 a1) <|
  gR P 7 s a0 1 fun x1 =>
  onO P 2 x1 <| cl (fX2_fearedKind P s x1 a1) fun x2 =>
  some (.inl ((x2 : Int), s))
-- ForesightHub.framesToClear
abbrev rX7_framesToClear : Room := { frames := 7, cells := 1, slots := 6, locals := 111 }
noncomputable def fX7_framesToClear (P : Shp) (s : St) (a0 : Int) (a1 : Int) : Option ((Int × St) ⊕ Nat) :=
  onO P 7 a0 <| clx (fX7_requireDevice P s a0 a1) <|
  gR P 7 s a0 1 fun x1 =>
  onO P 2 x1 <| cl (fX2_clearingFrames P s x1 a1) fun x2 =>
  some (.inl ((x2 : Int), s))
-- ForesightHub.atStake
abbrev rX7_atStake : Room := { frames := 7, cells := 1, slots := 6, locals := 111 }
noncomputable def fX7_atStake (P : Shp) (s : St) (a0 : Int) (a1 : Int) : Option ((Int × St) ⊕ Nat) :=
  onO P 7 a0 <| clx (fX7_requireDevice P s a0 a1) <|
  gR P 7 s a0 1 fun x1 =>
  onO P 2 x1 <| cl (fX2_unitsAtStake P s x1 a1) fun x2 =>
  some (.inl ((x2 : Int), s))
-- ForesightHub.whyNotRunning
abbrev rX7_whyNotRunning : Room := { frames := 7, cells := 1, slots := 6, locals := 111 }
noncomputable def fX7_whyNotRunning (P : Shp) (s : St) (a0 : Int) (a1 : Int) : Option ((Int × St) ⊕ Nat) :=
  onO P 7 a0 <| clx (fX7_requireStream P s a0 a1) <|
  gR P 7 s a0 1 fun x1 =>
  onO P 2 x1 <| cl (fX2_reasonNotToRun P s x1 a1) fun x2 =>
  some (.inl ((x2 : Int), s))
-- ForesightHub.event
abbrev rX7_event : Room := { frames := 6, cells := 1, slots := 6, locals := 90 }
noncomputable def fX7_event (P : Shp) (s : St) (a0 : Int) (a1 : Int) (a2 : Int) : Option ((Int × St) ⊕ Nat) :=
  jnt
    (
      some (.inr 0))
    fun k9 =>
  jlt a2 0
    (k9)
    (
      jle a2 2
        (
          gR P 7 s a0 1 fun x1 =>
          gR P 2 s x1 1 fun x2 =>
          gR P 6 s x2 9 fun x3 =>
          onO P 3 x3 <| cl (fX3_partOf P s x3 a1 a2) fun x4 =>
          some (.inl ((x4 : Int), s)))
        (k9))
-- ForesightHub.account
abbrev rX7_account : Room := { frames := 6, cells := 1, slots := 6, locals := 90 }
noncomputable def fX7_account (P : Shp) (s : St) (a0 : Int) (a1 : Int) : Option ((Int × St) ⊕ Nat) :=
  jnt
    (
      some (.inr 0))
    fun k10 =>
  jlt a1 0
    (k10)
    (
      jlt a1 10
        (
          gR P 7 s a0 1 fun x1 =>
          gR P 2 s x1 1 fun x2 =>
          gR P 6 s x2 9 fun x3 =>
          gR P 3 s x3 5 fun x4 =>
          aI P 10 s x4 a1 fun x5 =>
          some (.inl ((x5 : Int), s)))
        (k10))
-- ForesightHub.frames
abbrev rX7_frames : Room := { frames := 6, cells := 1, slots := 6, locals := 133 }
noncomputable def fX7_frames_L38 (P : Shp) (c0 : Int) (c1 : Int) (kE56 : St → Option ((Int × St) ⊕ Nat)) : Nat → Int → St → Option ((Int × St) ⊕ Nat)
  | 0, _, _ => none
  | m + 1, p2, s =>
    jge p2 c1
      (kE56 s)
      (
        gR P 7 s c0 1 fun x5 =>
        onO P 2 x5 <| cl (fX2_passFrame P s x5) fun s6 =>
        bd (p2 + 1) fun x7 =>
        fX7_frames_L38 P c0 c1 kE56 m x7 s6)
noncomputable def fX7_frames (P : Shp) (s : St) (a0 : Int) (a1 : Int) : Option ((Int × St) ⊕ Nat) :=
  jnt
    (
      some (.inr 0))
    fun k12 =>
  jlt a1 1
    (k12)
    (
      jle a1 200
        (
          gR P 7 s a0 2 fun x1 =>
          gR P 7 s a0 1 fun x2 =>
          gR P 2 s x2 1 fun x3 =>
          onO P 1 x1 <| cl (fX1_remember P s x1 x3) fun s4 =>
          fX7_frames_L38 P a0 a1
            (fun s8 =>
              gR P 7 s8 a0 1 fun x9 =>
              onO P 2 x9 <| cl (fX2_reserved P s8 x9) fun x10 =>
              some (.inl ((x10 : Int), s8)))
            1000 0 s4)
        (k12))
-- ForesightHub.requirePluggedIn
abbrev rX7_requirePluggedIn : Room := { frames := 6, cells := 1, slots := 6, locals := 90 }
noncomputable def fX7_requirePluggedIn (P : Shp) (s : St) (a0 : Int) (a1 : Int) : Option (Int ⊕ Nat) :=
  gR P 7 s a0 1 fun x1 =>
  onO P 2 x1 <| cl (fX2_isPluggedIn P s x1 a1) fun x2 =>
  jne x2 0
    (some (.inl 0))
    (some (.inr 1))
-- ForesightHub.fail
abbrev rX7_fail : Room := { frames := 7, cells := 3, slots := 18, locals := 160 }
noncomputable def fX7_fail (P : Shp) (s : St) (a0 : Int) (a1 : Int) (a2 : Int) : Option ((Int × St) ⊕ Nat) :=
  onO P 7 a0 <| clx (fX7_requireDevice P s a0 a1) <|
  onO P 7 a0 <| clx (fX7_requireKind P s a0 a2) <|
  onO P 7 a0 <| clx (fX7_requirePluggedIn P s a0 a1) <|
  gR P 7 s a0 2 fun x1 =>
  gR P 7 s a0 1 fun x2 =>
  gR P 2 s x2 1 fun x3 =>
  onO P 1 x1 <| cl (fX1_remember P s x1 x3) fun s4 =>
  gR P 7 s4 a0 1 fun x5 =>
  onO P 2 x5 <| cl (fX2_takeError P s4 x5 a1 a2) fun s6 =>
  gR P 7 s6 a0 1 fun x7 =>
  onO P 2 x7 <| cl (fX2_scoreOf P s6 x7 a1 ((-1))) fun x8 =>
  some (.inl ((x8 : Int), s6))
-- ForesightHub.warn
abbrev rX7_warn : Room := { frames := 7, cells := 3, slots := 18, locals := 112 }
noncomputable def fX7_warn (P : Shp) (s : St) (a0 : Int) (a1 : Int) : Option ((Int × St) ⊕ Nat) :=
  onO P 7 a0 <| clx (fX7_requireDevice P s a0 a1) <|
  onO P 7 a0 <| clx (fX7_requirePluggedIn P s a0 a1) <|
  gR P 7 s a0 1 fun x1 =>
  onO P 2 x1 <| cl (fX2_inAlarm P s x1 a1) fun x2 =>
  jeq x2 0
    (
      gR P 7 s a0 2 fun x3 =>
      gR P 7 s a0 1 fun x4 =>
      gR P 2 s x4 1 fun x5 =>
      onO P 1 x3 <| cl (fX1_remember P s x3 x5) fun s6 =>
      gR P 7 s6 a0 1 fun x7 =>
      onO P 2 x7 <| cl (fX2_clearingFrames P s6 x7 a1) fun x8 =>
      gR P 7 s6 a0 1 fun x9 =>
      onO P 2 x9 <| cl (fX2_beginAlarm P s6 x9 a1) fun s10 =>
      gR P 7 s10 a0 1 fun x11 =>
      onO P 2 x11 <| cl (fX2_settle P s10 x11) fun s12 =>
      some (.inl ((x8 : Int), s12)))
    (some (.inr 1))
-- ForesightHub.callOff
abbrev rX7_callOff : Room := { frames := 7, cells := 2, slots := 12, locals := 112 }
noncomputable def fX7_callOff (P : Shp) (s : St) (a0 : Int) (a1 : Int) : Option ((Int × St) ⊕ Nat) :=
  onO P 7 a0 <| clx (fX7_requireDevice P s a0 a1) <|
  gR P 7 s a0 1 fun x1 =>
  onO P 2 x1 <| cl (fX2_inAlarm P s x1 a1) fun x2 =>
  jne x2 0
    (
      gR P 7 s a0 2 fun x3 =>
      gR P 7 s a0 1 fun x4 =>
      gR P 2 s x4 1 fun x5 =>
      onO P 1 x3 <| cl (fX1_remember P s x3 x5) fun s6 =>
      gR P 7 s6 a0 1 fun x7 =>
      onO P 2 x7 <| cl (fX2_endWrongAlarm P s6 x7 a1) fun s8 =>
      gR P 7 s8 a0 1 fun x9 =>
      onO P 2 x9 <| cl (fX2_settle P s8 x9) fun s10 =>
      gR P 7 s10 a0 1 fun x11 =>
      onO P 2 x11 <| cl (fX2_heldBits P s10 x11 a1) fun x12 =>
      cl (fJ6_bitCount_0f7a4 P s10 x12) fun x13 =>
      some (.inl ((x13 : Int), s10)))
    (some (.inr 1))
-- ForesightHub.unplug
abbrev rX7_unplug : Room := { frames := 7, cells := 2, slots := 12, locals := 135 }
noncomputable def fX7_unplug (P : Shp) (s : St) (a0 : Int) (a1 : Int) : Option ((Int × St) ⊕ Nat) :=
  onO P 7 a0 <| clx (fX7_requireDevice P s a0 a1) <|
  onO P 7 a0 <| clx (fX7_requirePluggedIn P s a0 a1) <|
  gR P 7 s a0 2 fun x1 =>
  gR P 7 s a0 1 fun x2 =>
  gR P 2 s x2 1 fun x3 =>
  onO P 1 x1 <| cl (fX1_remember P s x1 x3) fun s4 =>
  gR P 7 s4 a0 1 fun x5 =>
  onO P 2 x5 <| cl (fX2_pullOut P s4 x5 a1) fun (x7, s8) =>
  some (.inl ((x7 : Int), s8))
-- ForesightHub.plug
abbrev rX7_plug : Room := { frames := 7, cells := 3, slots := 18, locals := 134 }
noncomputable def fX7_plug (P : Shp) (s : St) (a0 : Int) (a1 : Int) (a2 : Int) : Option ((Int × St) ⊕ Nat) :=
  onO P 7 a0 <| clx (fX7_requireDevice P s a0 a1) <|
  onO P 7 a0 <| clx (fX7_requirePort P s a0 a2) <|
  gR P 7 s a0 1 fun x1 =>
  onO P 2 x1 <| cl (fX2_isPluggedIn P s x1 a1) fun x2 =>
  jeq x2 0
    (
      gR P 7 s a0 1 fun x3 =>
      onO P 2 x3 <| cl (fX2_pluggedInAt P s x3 a2) fun x4 =>
      jeq x4 ((-1))
        (
          gR P 7 s a0 2 fun x5 =>
          gR P 7 s a0 1 fun x6 =>
          gR P 2 s x6 1 fun x7 =>
          onO P 1 x5 <| cl (fX1_remember P s x5 x7) fun s8 =>
          gR P 7 s8 a0 1 fun x9 =>
          onO P 2 x9 <| cl (fX2_putIn P s8 x9 a1 a2) fun s10 =>
          gR P 7 s10 a0 1 fun x11 =>
          onO P 2 x11 <| cl (fX2_heldBits P s10 x11 a1) fun x12 =>
          cl (fJ6_bitCount_0f7a4 P s10 x12) fun x13 =>
          some (.inl ((x13 : Int), s10)))
        (some (.inr 1)))
    (some (.inr 1))
-- ForesightHub.setScore
abbrev rX7_setScore : Room := { frames := 6, cells := 1, slots := 6, locals := 103 }
noncomputable def fX7_setScore (P : Shp) (s : St) (a0 : Int) (a1 : Int) : Option ((Int × St) ⊕ Nat) :=
  jnt
    (
      some (.inr 0))
    fun k12 =>
  jlt a1 1
    (k12)
    (
      jle a1 999
        (
          gR P 7 s a0 2 fun x1 =>
          gR P 7 s a0 1 fun x2 =>
          gR P 2 s x2 1 fun x3 =>
          onO P 1 x1 <| cl (fX1_remember P s x1 x3) fun s4 =>
          gR P 7 s4 a0 1 fun x5 =>
          gR P 2 s4 x5 1 fun x6 =>
          gF P 6 s4 x6 1 fun x7 =>
          gR P 7 s4 a0 1 fun x8 =>
          gR P 2 s4 x8 1 fun x9 =>
          pF P 6 s4 x9 1 a1 fun s10 =>
          some (.inl ((x7 : Int), s10)))
        (k12))
