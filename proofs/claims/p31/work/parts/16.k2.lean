/-! CONTRACTS (laid by wip/p31/gen/wmake.py) -/
-- ForesightHub$Hub.reservedFor
set_option maxRecDepth 100000 in
theorem vX2_reservedFor_L4 {X : Cxt} {w : Wd} {P : Shp} {n : Nat} {s : St} (res : Int) (hRm : X.2.2.2.1 = rX2_reservedFor) (C : Cok X w cX2_reservedFor 4 RX2 (some FieldType.int)) (hO : Own X w 0 0 (QI w P n res s))  (c0 : Int) (c1 : Int) (kE46 : Int → Option (Int)) (hE46 : ∀ (p2e : Int), V X w 4 P n 0 0 res (kE46 p2e) s 46 [(2, I p2e)] []) : ∀ (fuel : Nat) (p2 p3 : Int), V X w 4 P n 0 0 res (fX2_reservedFor_L4 P s c0 c1 kE46 fuel p2 p3) s 4 [(0, A w c0), (1, I c1), (2, I p2), (3, I p3)] [] := by
  intro fuel
  induction fuel with
  | zero => intro p2 p3; exact v_none
  | succ m ih =>
    intro p2 p3
    rw [fX2_reservedFor_L4]
    refine v_iload_n C dX2_reservedFor_4 rfl (j := 3) rfl ?_
    refine v_aload_n C dX2_reservedFor_5 rfl (j := 0) rfl ?_
    refine v_getR C 0 rfl (T := TX2) rfl inB2 (by decide) (by decide) rfl tw_306 dX2_reservedFor_6 (fun x1 => ?_)
    refine v_getI C 6 rfl (T := TX4) rfl inB4 (by decide) (by decide) rfl tw_76 dX2_reservedFor_9 (fun x2 => ?_)
    refine v_icmp_ge (tgt := 46) C dX2_reservedFor_12 rfl ?_ ?_
    · skip
      refine v_sub [(2, I p2)] [2] rfl ?_
      exact hE46 p2
    · skip
      refine v_aload_n C dX2_reservedFor_15 rfl (j := 0) rfl ?_
      refine v_getR C 1 rfl (T := TX2) rfl inB2 (by decide) (by decide) rfl tw_308 dX2_reservedFor_16 (fun x3 => ?_)
      refine v_getR C 4 rfl (T := TX6) rfl inB6 (by decide) (by decide) rfl tw_270 dX2_reservedFor_19 (fun x4 => ?_)
      refine v_iload_n C dX2_reservedFor_22 rfl (j := 3) rfl ?_
      refine v_iald C dX2_reservedFor_23 (fun x5 => ?_)
      refine v_iload_n C dX2_reservedFor_24 rfl (j := 1) rfl ?_
      refine v_jnt (fun (k40 : Int → Option (Int)) => ∀ (x6 : Int), V X w 4 P n 0 0 res (k40 x6) s 40 [(0, A w c0), (1, I c1), (2, I x6), (3, I p3)] []) ?_ ?_
      · intro x6
        refine v_iinc C (j := 3) [(0, A w c0), (1, I c1), (2, I x6)] dX2_reservedFor_40 (by decide) rfl (fun _ => rfl) (fun x7 => ?_)
        refine v_goto (tgt := 4) C dX2_reservedFor_43 rfl ?_
        refine v_sub [(0, A w c0), (1, I c1), (2, I x6), (3, I x7)] [1, 2, 3, 0] rfl ?_
        exact ih x6 x7
      intro k40 hk40
      refine v_icmp_ne (tgt := 40) C dX2_reservedFor_25 rfl ?_ ?_
      · skip
        exact hk40 p2
      · skip
        refine v_iload_n C dX2_reservedFor_28 rfl (j := 2) rfl ?_
        refine v_aload_n C dX2_reservedFor_29 rfl (j := 0) rfl ?_
        refine v_getR C 0 rfl (T := TX2) rfl inB2 (by decide) (by decide) rfl tw_306 dX2_reservedFor_30 (fun x8 => ?_)
        refine v_getR C 14 rfl (T := TX4) rfl inB4 (by decide) (by decide) rfl tw_103 dX2_reservedFor_33 (fun x9 => ?_)
        refine v_iload_n C dX2_reservedFor_36 rfl (j := 3) rfl ?_
        refine v_iald C dX2_reservedFor_37 (fun x10 => ?_)
        refine v_iadd C dX2_reservedFor_38 ?_
        refine v_bdI (fun x11 => ?_)
        refine v_istore_n C [(2, I x11), (0, A w c0), (1, I c1), (3, I p3)] dX2_reservedFor_39 rfl (by decide) rfl ?_
        refine v_sub [(0, A w c0), (1, I c1), (2, I x11), (3, I p3)] [1, 2, 0, 3] rfl ?_
        exact hk40 x11
theorem hX2_reservedFor : yX2_reservedFor.cls ≠ "java/lang/invoke/MethodHandle" ∧ yX2_reservedFor.cls ≠ "java/lang/invoke/VarHandle" ∧ (parseMethodDescriptor yX2_reservedFor.desc).map (fun d => d.parameters.length) = some 1 := by decide +kernel
set_option maxRecDepth 100000 in
theorem kX2_reservedFor (l : Launch) (w : Wd) (P : Shp) (n : Nat) {s : St} {a0 : Int} {a1 : Int} {res : Int} (h : fX2_reservedFor P s a0 a1 = some res) : Ct l w yX2_reservedFor cX2_reservedFor 4 (some FieldType.int) rX2_reservedFor P n [A w a0, I a1] s (QI w P n res s) :=
  Ct.of h (by decide) (Nat.le_of_ble_eq_true rfl) (lv := [(0, A w a0), (1, I a1)]) rfl fun X hl hRm C hO => by
  subst hl
  unfold fX2_reservedFor
  refine v_iconst C dX2_reservedFor_0 ?_
  refine v_istore_n C [(2, I 0), (0, A w a0), (1, I a1)] dX2_reservedFor_1 rfl (by decide) rfl ?_
  refine v_iconst C dX2_reservedFor_2 ?_
  refine v_istore_n C [(3, I 0), (2, I 0), (0, A w a0), (1, I a1)] dX2_reservedFor_3 rfl (by decide) rfl ?_
  refine v_sub [(0, A w a0), (1, I a1), (2, I 0), (3, I 0)] [2, 3, 1, 0] rfl ?_
  refine vX2_reservedFor_L4 res hRm C hO a0 a1 _ ?_ 1000 0 0
  · intro x12
    refine v_iload_n C dX2_reservedFor_46 rfl (j := 0) rfl ?_
    exact v_iret C rfl hO pS dX2_reservedFor_47
-- ForesightHub.device
theorem hX7_device : yX7_device.cls ≠ "java/lang/invoke/MethodHandle" ∧ yX7_device.cls ≠ "java/lang/invoke/VarHandle" ∧ (parseMethodDescriptor yX7_device.desc).map (fun d => d.parameters.length) = some 2 := by decide +kernel
set_option maxRecDepth 100000 in
theorem kX7_device (l : Launch) (w : Wd) (P : Shp) (n : Nat) {s : St} {a0 : Int} {a1 : Int} {a2 : Int} {res : Int} (h : fX7_device P s a0 a1 a2 = some res) : Ct l w yX7_device cX7_device 3 (some FieldType.int) rX7_device P n [A w a0, I a1, I a2] s (QI w P n res s) :=
  Ct.of h (by decide) (Nat.le_of_ble_eq_true rfl) (lv := [(0, A w a0), (1, I a1), (2, I a2)]) rfl fun X hl hRm C hO => by
  subst hl
  unfold fX7_device
  refine v_aload_n C dX7_device_0 rfl (j := 0) rfl ?_
  refine v_iload_n C dX7_device_1 rfl (j := 1) rfl ?_
  refine v_callV_rV C [I a1] [] (Cee.of (rm := rX7_requireDevice) tw_436 tw_1 hX7_requireDevice rfl rfl hRm (Nat.le_of_ble_eq_true rfl) (Nat.le_of_ble_eq_true rfl)) (fun x h => kX7_requireDevice X.2.1 w _ _ h) tw_433 tw_435 ts_1 rfl (ci := 7) rfl (by decide) rfl rfl (Nat.le_of_ble_eq_true rfl) ⟨Nat.zero_le _, Nat.zero_le _⟩ dX7_device_2 (fun x1 => ?_)
  refine v_iload_n C dX7_device_5 rfl (j := 2) rfl ?_
  refine v_tsw C (vals := [0, 1, 2, 3, 4, 5, 6, 7]) (tgts := [52, 65, 78, 95, 105, 115, 131, 140]) (dt := 149) dX7_device_6 rfl rfl (by decide) ?_ ?_
  · skip
    refine v_sw_cons ?_ ?_
    · skip
      refine v_aload_n C dX7_device_52 rfl (j := 0) rfl ?_
      refine v_getR C 1 rfl (T := TX7) rfl inB7 (by decide) (by decide) rfl tw_338 dX7_device_53 (fun x2 => ?_)
      refine v_getR C 1 rfl (T := TX2) rfl inB2 (by decide) (by decide) rfl tw_309 dX7_device_56 (fun x3 => ?_)
      refine v_getR C 2 rfl (T := TX6) rfl inB6 (by decide) (by decide) rfl tw_265 dX7_device_59 (fun x4 => ?_)
      refine v_iload_n C dX7_device_62 rfl (j := 1) rfl ?_
      refine v_iald C dX7_device_63 (fun x5 => ?_)
      exact v_iret C rfl hO pS dX7_device_64
    refine v_sw_cons ?_ ?_
    · skip
      refine v_aload_n C dX7_device_65 rfl (j := 0) rfl ?_
      refine v_getR C 1 rfl (T := TX7) rfl inB7 (by decide) (by decide) rfl tw_338 dX7_device_66 (fun x6 => ?_)
      refine v_getR C 0 rfl (T := TX2) rfl inB2 (by decide) (by decide) rfl tw_307 dX7_device_69 (fun x7 => ?_)
      refine v_getR C 12 rfl (T := TX4) rfl inB4 (by decide) (by decide) rfl tw_94 dX7_device_72 (fun x8 => ?_)
      refine v_iload_n C dX7_device_75 rfl (j := 1) rfl ?_
      refine v_iald C dX7_device_76 (fun x9 => ?_)
      exact v_iret C rfl hO pS dX7_device_77
    refine v_sw_cons ?_ ?_
    · skip
      refine v_aload_n C dX7_device_78 rfl (j := 0) rfl ?_
      refine v_getR C 1 rfl (T := TX7) rfl inB7 (by decide) (by decide) rfl tw_338 dX7_device_79 (fun x10 => ?_)
      refine v_iload_n C dX7_device_82 rfl (j := 1) rfl ?_
      refine v_callV_rI C [I a1] [] (Cee.of (rm := rX2_inAlarm) tw_460 tw_4 hX2_inAlarm rfl rfl hRm (Nat.le_of_ble_eq_true rfl) (Nat.le_of_ble_eq_true rfl)) (fun x h => kX2_inAlarm X.2.1 w _ _ h) tw_457 tw_458 tw_459 rfl (ci := 2) rfl (by decide) rfl rfl (Nat.le_of_ble_eq_true rfl) ⟨Nat.zero_le _, Nat.zero_le _⟩ dX7_device_83 (fun x11 => ?_)
      refine v_if_eq (tgt := 93) C dX7_device_86 rfl ?_ ?_
      · skip
        refine v_iconst C dX7_device_93 ?_
        exact v_iret C rfl hO pS dX7_device_94
      · skip
        refine v_iconst C dX7_device_89 ?_
        refine v_goto (tgt := 94) C dX7_device_90 rfl ?_
        exact v_iret C rfl hO pS dX7_device_94
    refine v_sw_cons ?_ ?_
    · skip
      refine v_aload_n C dX7_device_95 rfl (j := 0) rfl ?_
      refine v_getR C 1 rfl (T := TX7) rfl inB7 (by decide) (by decide) rfl tw_338 dX7_device_96 (fun x12 => ?_)
      refine v_iload_n C dX7_device_99 rfl (j := 1) rfl ?_
      refine v_iconst C dX7_device_100 ?_
      refine v_callV_rI C [I a1, I ((-1))] [] (Cee.of (rm := rX2_scoreOf) tw_465 tw_4 hX2_scoreOf rfl rfl hRm (Nat.le_of_ble_eq_true rfl) (Nat.le_of_ble_eq_true rfl)) (fun x h => kX2_scoreOf X.2.1 w _ _ h) tw_462 tw_463 tw_464 rfl (ci := 2) rfl (by decide) rfl rfl (Nat.le_of_ble_eq_true rfl) ⟨Nat.zero_le _, Nat.zero_le _⟩ dX7_device_101 (fun x13 => ?_)
      exact v_iret C rfl hO pS dX7_device_104
    refine v_sw_cons ?_ ?_
    · skip
      refine v_aload_n C dX7_device_105 rfl (j := 0) rfl ?_
      refine v_getR C 1 rfl (T := TX7) rfl inB7 (by decide) (by decide) rfl tw_338 dX7_device_106 (fun x14 => ?_)
      refine v_iload_n C dX7_device_109 rfl (j := 1) rfl ?_
      refine v_iconst C dX7_device_110 ?_
      refine v_callV_rI C [I a1, I ((-1))] [] (Cee.of (rm := rX2_matchingBits) tw_469 tw_4 hX2_matchingBits rfl rfl hRm (Nat.le_of_ble_eq_true rfl) (Nat.le_of_ble_eq_true rfl)) (fun x h => kX2_matchingBits X.2.1 w _ _ h) tw_497 tw_467 tw_468 rfl (ci := 2) rfl (by decide) rfl rfl (Nat.le_of_ble_eq_true rfl) ⟨Nat.zero_le _, Nat.zero_le _⟩ dX7_device_111 (fun x15 => ?_)
      exact v_iret C rfl hO pS dX7_device_114
    refine v_sw_cons ?_ ?_
    · skip
      refine v_aload_n C dX7_device_115 rfl (j := 0) rfl ?_
      refine v_getR C 1 rfl (T := TX7) rfl inB7 (by decide) (by decide) rfl tw_338 dX7_device_116 (fun x16 => ?_)
      refine v_getR C 1 rfl (T := TX2) rfl inB2 (by decide) (by decide) rfl tw_309 dX7_device_119 (fun x17 => ?_)
      refine v_getR C 8 rfl (T := TX6) rfl inB6 (by decide) (by decide) rfl tw_280 dX7_device_122 (fun x18 => ?_)
      refine v_getR C 0 rfl (T := TX0) rfl inB0 (by decide) (by decide) rfl tw_210 dX7_device_125 (fun x19 => ?_)
      refine v_iload_n C dX7_device_128 rfl (j := 1) rfl ?_
      refine v_iald C dX7_device_129 (fun x20 => ?_)
      exact v_iret C rfl hO pS dX7_device_130
    refine v_sw_cons ?_ ?_
    · skip
      refine v_aload_n C dX7_device_131 rfl (j := 0) rfl ?_
      refine v_getR C 1 rfl (T := TX7) rfl inB7 (by decide) (by decide) rfl tw_338 dX7_device_132 (fun x21 => ?_)
      refine v_iload_n C dX7_device_135 rfl (j := 1) rfl ?_
      refine v_callV_rI C [I a1] [] (Cee.of (rm := rX2_heldBits) tw_501 tw_4 hX2_heldBits rfl rfl hRm (Nat.le_of_ble_eq_true rfl) (Nat.le_of_ble_eq_true rfl)) (fun x h => kX2_heldBits X.2.1 w _ _ h) tw_498 tw_499 tw_500 rfl (ci := 2) rfl (by decide) rfl rfl (Nat.le_of_ble_eq_true rfl) ⟨Nat.zero_le _, Nat.zero_le _⟩ dX7_device_136 (fun x22 => ?_)
      exact v_iret C rfl hO pS dX7_device_139
    refine v_sw_cons ?_ ?_
    · skip
      refine v_aload_n C dX7_device_140 rfl (j := 0) rfl ?_
      refine v_getR C 1 rfl (T := TX7) rfl inB7 (by decide) (by decide) rfl tw_338 dX7_device_141 (fun x23 => ?_)
      refine v_iload_n C dX7_device_144 rfl (j := 1) rfl ?_
      refine v_callV_rI C [I a1] [] (Cee.of (rm := rX2_reservedFor) tw_505 tw_4 hX2_reservedFor rfl rfl hRm (Nat.le_of_ble_eq_true rfl) (Nat.le_of_ble_eq_true rfl)) (fun x h => kX2_reservedFor X.2.1 w _ _ h) tw_502 tw_503 tw_504 rfl (ci := 2) rfl (by decide) rfl rfl (Nat.le_of_ble_eq_true rfl) ⟨Nat.zero_le _, Nat.zero_le _⟩ dX7_device_145 (fun x24 => ?_)
      exact v_iret C rfl hO pS dX7_device_148
    exact v_sw_nil
  · skip
    exact v_none
-- ForesightHub.requireStream
theorem hX7_requireStream : yX7_requireStream.cls ≠ "java/lang/invoke/MethodHandle" ∧ yX7_requireStream.cls ≠ "java/lang/invoke/VarHandle" ∧ (parseMethodDescriptor yX7_requireStream.desc).map (fun d => d.parameters.length) = some 1 := by decide +kernel
set_option maxRecDepth 100000 in
theorem kX7_requireStream (l : Launch) (w : Wd) (P : Shp) (n : Nat) {s : St} {a0 : Int} {a1 : Int} {res : Unit} (h : fX7_requireStream P s a0 a1 = some res) : Ct l w yX7_requireStream cX7_requireStream 2 (Option.none : Option FieldType) rX7_requireStream P n [A w a0, I a1] s (QV w P n s) :=
  Ct.of h (by decide) (Nat.le_of_ble_eq_true rfl) (lv := [(0, A w a0), (1, I a1)]) rfl fun X hl hRm C hO => by
  subst hl
  unfold fX7_requireStream
  refine v_iload_n C dX7_requireStream_0 rfl (j := 1) rfl ?_
  refine v_jnt (fun (k18 : Option (Unit)) => V X w 2 P n 0 0 res (k18) s 18 [] []) ?_ ?_
  · skip
    exact v_none
  intro k18 hk18
  refine v_if_lt (tgt := 18) C dX7_requireStream_1 rfl ?_ ?_
  · skip
    refine v_sub [] [] rfl ?_
    exact hk18
  · skip
    refine v_iload_n C dX7_requireStream_4 rfl (j := 1) rfl ?_
    refine v_aload_n C dX7_requireStream_5 rfl (j := 0) rfl ?_
    refine v_getR C 1 rfl (T := TX7) rfl inB7 (by decide) (by decide) rfl tw_338 dX7_requireStream_6 (fun x1 => ?_)
    refine v_getR C 0 rfl (T := TX2) rfl inB2 (by decide) (by decide) rfl tw_307 dX7_requireStream_9 (fun x2 => ?_)
    refine v_getI C 6 rfl (T := TX4) rfl inB4 (by decide) (by decide) rfl tw_75 dX7_requireStream_12 (fun x3 => ?_)
    refine v_icmp_lt (tgt := 29) C dX7_requireStream_15 rfl ?_ ?_
    · skip
      exact v_vret C rfl hO (fun h => rfl) dX7_requireStream_29
    · skip
      refine v_sub [] [] rfl ?_
      exact hk18
-- ForesightHub.stream
theorem hX7_stream : yX7_stream.cls ≠ "java/lang/invoke/MethodHandle" ∧ yX7_stream.cls ≠ "java/lang/invoke/VarHandle" ∧ (parseMethodDescriptor yX7_stream.desc).map (fun d => d.parameters.length) = some 2 := by decide +kernel
set_option maxRecDepth 100000 in
theorem kX7_stream (l : Launch) (w : Wd) (P : Shp) (n : Nat) {s : St} {a0 : Int} {a1 : Int} {a2 : Int} {res : Int} (h : fX7_stream P s a0 a1 a2 = some res) : Ct l w yX7_stream cX7_stream 3 (some FieldType.int) rX7_stream P n [A w a0, I a1, I a2] s (QI w P n res s) :=
  Ct.of h (by decide) (Nat.le_of_ble_eq_true rfl) (lv := [(0, A w a0), (1, I a1), (2, I a2)]) rfl fun X hl hRm C hO => by
  subst hl
  unfold fX7_stream
  refine v_aload_n C dX7_stream_0 rfl (j := 0) rfl ?_
  refine v_iload_n C dX7_stream_1 rfl (j := 1) rfl ?_
  refine v_callV_rV C [I a1] [] (Cee.of (rm := rX7_requireStream) tw_1111 tw_1 hX7_requireStream rfl rfl hRm (Nat.le_of_ble_eq_true rfl) (Nat.le_of_ble_eq_true rfl)) (fun x h => kX7_requireStream X.2.1 w _ _ h) tw_1108 tw_1110 ts_33 rfl (ci := 7) rfl (by decide) rfl rfl (Nat.le_of_ble_eq_true rfl) ⟨Nat.zero_le _, Nat.zero_le _⟩ dX7_stream_2 (fun x1 => ?_)
  refine v_iload_n C dX7_stream_5 rfl (j := 2) rfl ?_
  refine v_tsw C (vals := [0, 1, 2, 3, 4, 5, 6]) (tgts := [48, 61, 74, 83, 96, 109, 122]) (dt := 135) dX7_stream_6 rfl rfl (by decide) ?_ ?_
  · skip
    refine v_sw_cons ?_ ?_
    · skip
      refine v_aload_n C dX7_stream_48 rfl (j := 0) rfl ?_
      refine v_getR C 1 rfl (T := TX7) rfl inB7 (by decide) (by decide) rfl tw_338 dX7_stream_49 (fun x2 => ?_)
      refine v_getR C 1 rfl (T := TX2) rfl inB2 (by decide) (by decide) rfl tw_309 dX7_stream_52 (fun x3 => ?_)
      refine v_getR C 5 rfl (T := TX6) rfl inB6 (by decide) (by decide) rfl tw_272 dX7_stream_55 (fun x4 => ?_)
      refine v_iload_n C dX7_stream_58 rfl (j := 1) rfl ?_
      refine v_iald C dX7_stream_59 (fun x5 => ?_)
      exact v_iret C rfl hO pS dX7_stream_60
    refine v_sw_cons ?_ ?_
    · skip
      refine v_aload_n C dX7_stream_61 rfl (j := 0) rfl ?_
      refine v_getR C 1 rfl (T := TX7) rfl inB7 (by decide) (by decide) rfl tw_338 dX7_stream_62 (fun x6 => ?_)
      refine v_getR C 1 rfl (T := TX2) rfl inB2 (by decide) (by decide) rfl tw_309 dX7_stream_65 (fun x7 => ?_)
      refine v_getR C 4 rfl (T := TX6) rfl inB6 (by decide) (by decide) rfl tw_269 dX7_stream_68 (fun x8 => ?_)
      refine v_iload_n C dX7_stream_71 rfl (j := 1) rfl ?_
      refine v_iald C dX7_stream_72 (fun x9 => ?_)
      exact v_iret C rfl hO pS dX7_stream_73
    refine v_sw_cons ?_ ?_
    · skip
      refine v_aload_n C dX7_stream_74 rfl (j := 0) rfl ?_
      refine v_getR C 1 rfl (T := TX7) rfl inB7 (by decide) (by decide) rfl tw_338 dX7_stream_75 (fun x10 => ?_)
      refine v_iload_n C dX7_stream_78 rfl (j := 1) rfl ?_
      refine v_callV_rI C [I a1] [] (Cee.of (rm := rX2_wantedHolder) tw_966 tw_4 hX2_wantedHolder rfl rfl hRm (Nat.le_of_ble_eq_true rfl) (Nat.le_of_ble_eq_true rfl)) (fun x h => kX2_wantedHolder X.2.1 w _ _ h) tw_1113 tw_964 tw_965 rfl (ci := 2) rfl (by decide) rfl rfl (Nat.le_of_ble_eq_true rfl) ⟨Nat.zero_le _, Nat.zero_le _⟩ dX7_stream_79 (fun x11 => ?_)
      exact v_iret C rfl hO pS dX7_stream_82
    refine v_sw_cons ?_ ?_
    · skip
      refine v_aload_n C dX7_stream_83 rfl (j := 0) rfl ?_
      refine v_getR C 1 rfl (T := TX7) rfl inB7 (by decide) (by decide) rfl tw_338 dX7_stream_84 (fun x12 => ?_)
      refine v_getR C 0 rfl (T := TX2) rfl inB2 (by decide) (by decide) rfl tw_307 dX7_stream_87 (fun x13 => ?_)
      refine v_getR C 14 rfl (T := TX4) rfl inB4 (by decide) (by decide) rfl tw_102 dX7_stream_90 (fun x14 => ?_)
      refine v_iload_n C dX7_stream_93 rfl (j := 1) rfl ?_
      refine v_iald C dX7_stream_94 (fun x15 => ?_)
      exact v_iret C rfl hO pS dX7_stream_95
    refine v_sw_cons ?_ ?_
    · skip
      refine v_aload_n C dX7_stream_96 rfl (j := 0) rfl ?_
      refine v_getR C 1 rfl (T := TX7) rfl inB7 (by decide) (by decide) rfl tw_338 dX7_stream_97 (fun x16 => ?_)
      refine v_getR C 0 rfl (T := TX2) rfl inB2 (by decide) (by decide) rfl tw_307 dX7_stream_100 (fun x17 => ?_)
      refine v_getR C 15 rfl (T := TX4) rfl inB4 (by decide) (by decide) rfl tw_106 dX7_stream_103 (fun x18 => ?_)
      refine v_iload_n C dX7_stream_106 rfl (j := 1) rfl ?_
      refine v_iald C dX7_stream_107 (fun x19 => ?_)
      exact v_iret C rfl hO pS dX7_stream_108
    refine v_sw_cons ?_ ?_
    · skip
      refine v_aload_n C dX7_stream_109 rfl (j := 0) rfl ?_
      refine v_getR C 1 rfl (T := TX7) rfl inB7 (by decide) (by decide) rfl tw_338 dX7_stream_110 (fun x20 => ?_)
      refine v_getR C 1 rfl (T := TX2) rfl inB2 (by decide) (by decide) rfl tw_309 dX7_stream_113 (fun x21 => ?_)
      refine v_getR C 6 rfl (T := TX6) rfl inB6 (by decide) (by decide) rfl tw_275 dX7_stream_116 (fun x22 => ?_)
      refine v_iload_n C dX7_stream_119 rfl (j := 1) rfl ?_
      refine v_iald C dX7_stream_120 (fun x23 => ?_)
      exact v_iret C rfl hO pS dX7_stream_121
    refine v_sw_cons ?_ ?_
    · skip
      refine v_aload_n C dX7_stream_122 rfl (j := 0) rfl ?_
      refine v_getR C 1 rfl (T := TX7) rfl inB7 (by decide) (by decide) rfl tw_338 dX7_stream_123 (fun x24 => ?_)
      refine v_getR C 0 rfl (T := TX2) rfl inB2 (by decide) (by decide) rfl tw_307 dX7_stream_126 (fun x25 => ?_)
      refine v_getR C 13 rfl (T := TX4) rfl inB4 (by decide) (by decide) rfl tw_98 dX7_stream_129 (fun x26 => ?_)
      refine v_iload_n C dX7_stream_132 rfl (j := 1) rfl ?_
      refine v_iald C dX7_stream_133 (fun x27 => ?_)
      exact v_iret C rfl hO pS dX7_stream_134
    exact v_sw_nil
  · skip
    exact v_none
-- ForesightHub$Hub.framesToPacketEnd
theorem hX2_framesToPacketEnd : yX2_framesToPacketEnd.cls ≠ "java/lang/invoke/MethodHandle" ∧ yX2_framesToPacketEnd.cls ≠ "java/lang/invoke/VarHandle" ∧ (parseMethodDescriptor yX2_framesToPacketEnd.desc).map (fun d => d.parameters.length) = some 1 := by decide +kernel
set_option maxRecDepth 100000 in
theorem kX2_framesToPacketEnd (l : Launch) (w : Wd) (P : Shp) (n : Nat) {s : St} {a0 : Int} {a1 : Int} {res : Int} (h : fX2_framesToPacketEnd P s a0 a1 = some res) : Ct l w yX2_framesToPacketEnd cX2_framesToPacketEnd 4 (some FieldType.int) rX2_framesToPacketEnd P n [A w a0, I a1] s (QI w P n res s) :=
  Ct.of h (by decide) (Nat.le_of_ble_eq_true rfl) (lv := [(0, A w a0), (1, I a1)]) rfl fun X hl hRm C hO => by
  subst hl
  unfold fX2_framesToPacketEnd
  refine v_aload_n C dX2_framesToPacketEnd_0 rfl (j := 0) rfl ?_
  refine v_getR C 0 rfl (T := TX2) rfl inB2 (by decide) (by decide) rfl tw_306 dX2_framesToPacketEnd_1 (fun x1 => ?_)
  refine v_getR C 14 rfl (T := TX4) rfl inB4 (by decide) (by decide) rfl tw_103 dX2_framesToPacketEnd_4 (fun x2 => ?_)
  refine v_iload_n C dX2_framesToPacketEnd_7 rfl (j := 1) rfl ?_
  refine v_iald C dX2_framesToPacketEnd_8 (fun x3 => ?_)
  refine v_istore_n C [(2, I x3), (0, A w a0), (1, I a1)] dX2_framesToPacketEnd_9 rfl (by decide) rfl ?_
  refine v_aload_n C dX2_framesToPacketEnd_10 rfl (j := 1) rfl ?_
  refine v_getR C 0 rfl (T := TX2) rfl inB2 (by decide) (by decide) rfl tw_306 dX2_framesToPacketEnd_11 (fun x4 => ?_)
  refine v_getR C 15 rfl (T := TX4) rfl inB4 (by decide) (by decide) rfl tw_107 dX2_framesToPacketEnd_14 (fun x5 => ?_)
  refine v_iload_n C dX2_framesToPacketEnd_17 rfl (j := 2) rfl ?_
  refine v_iald C dX2_framesToPacketEnd_18 (fun x6 => ?_)
  refine v_aload_n C dX2_framesToPacketEnd_19 rfl (j := 1) rfl ?_
  refine v_getR C 1 rfl (T := TX2) rfl inB2 (by decide) (by decide) rfl tw_308 dX2_framesToPacketEnd_20 (fun x7 => ?_)
  refine v_getR C 6 rfl (T := TX6) rfl inB6 (by decide) (by decide) rfl tw_276 dX2_framesToPacketEnd_23 (fun x8 => ?_)
  refine v_iload_n C dX2_framesToPacketEnd_26 rfl (j := 2) rfl ?_
  refine v_iald C dX2_framesToPacketEnd_27 (fun x9 => ?_)
  refine v_isub C dX2_framesToPacketEnd_28 ?_
  refine v_bdI (fun x10 => ?_)
  refine v_istore_n C [(3, I x10), (2, I x3), (0, A w a0), (1, I a1)] dX2_framesToPacketEnd_29 rfl (by decide) rfl ?_
  refine v_iload_n C dX2_framesToPacketEnd_30 rfl (j := 1) rfl ?_
  refine v_if_le (tgt := 44) C dX2_framesToPacketEnd_31 rfl ?_ ?_
  · skip
    refine v_iconst C dX2_framesToPacketEnd_44 ?_
    exact v_iret C rfl hO pS dX2_framesToPacketEnd_45
  · skip
    refine v_iload_n C dX2_framesToPacketEnd_34 rfl (j := 0) rfl ?_
    refine v_iload_n C dX2_framesToPacketEnd_35 rfl (j := 1) rfl ?_
    refine v_iadd C dX2_framesToPacketEnd_36 ?_
    refine v_iconst C dX2_framesToPacketEnd_37 ?_
    refine v_isub C dX2_framesToPacketEnd_38 ?_
    refine v_iload_n C dX2_framesToPacketEnd_39 rfl (j := 1) rfl ?_
    refine v_idiv C dX2_framesToPacketEnd_40 (fun x11 => ?_)
    refine v_goto (tgt := 45) C dX2_framesToPacketEnd_41 rfl ?_
    exact v_iret C rfl hO pS dX2_framesToPacketEnd_45
-- ForesightHub$Hub.clearingFrames
set_option maxRecDepth 100000 in
theorem vX2_clearingFrames_L4 {X : Cxt} {w : Wd} {P : Shp} {n : Nat} {s : St} (res : Int) (hRm : X.2.2.2.1 = rX2_clearingFrames) (C : Cok X w cX2_clearingFrames 4 RX2 (some FieldType.int)) (hO : Own X w 0 0 (QI w P n res s))  (c0 : Int) (c1 : Int) (kE56 : Int → Option (Int)) (hE56 : ∀ (p2e : Int), V X w 4 P n 0 0 res (kE56 p2e) s 56 [(2, I p2e)] []) : ∀ (fuel : Nat) (p2 p3 : Int), V X w 4 P n 0 0 res (fX2_clearingFrames_L4 P s c0 c1 kE56 fuel p2 p3) s 4 [(0, A w c0), (1, I c1), (2, I p2), (3, I p3)] [] := by
  intro fuel
  induction fuel with
  | zero => intro p2 p3; exact v_none
  | succ m ih =>
    intro p2 p3
    rw [fX2_clearingFrames_L4]
    refine v_iload_n C dX2_clearingFrames_4 rfl (j := 3) rfl ?_
    refine v_aload_n C dX2_clearingFrames_5 rfl (j := 0) rfl ?_
    refine v_getR C 0 rfl (T := TX2) rfl inB2 (by decide) (by decide) rfl tw_306 dX2_clearingFrames_6 (fun x1 => ?_)
    refine v_getI C 6 rfl (T := TX4) rfl inB4 (by decide) (by decide) rfl tw_76 dX2_clearingFrames_9 (fun x2 => ?_)
    refine v_icmp_ge (tgt := 56) C dX2_clearingFrames_12 rfl ?_ ?_
    · skip
      refine v_sub [(2, I p2)] [2] rfl ?_
      exact hE56 p2
    · skip
      refine v_aload_n C dX2_clearingFrames_15 rfl (j := 0) rfl ?_
      refine v_getR C 1 rfl (T := TX2) rfl inB2 (by decide) (by decide) rfl tw_308 dX2_clearingFrames_16 (fun x3 => ?_)
      refine v_getR C 4 rfl (T := TX6) rfl inB6 (by decide) (by decide) rfl tw_270 dX2_clearingFrames_19 (fun x4 => ?_)
      refine v_iload_n C dX2_clearingFrames_22 rfl (j := 3) rfl ?_
      refine v_iald C dX2_clearingFrames_23 (fun x5 => ?_)
      refine v_iload_n C dX2_clearingFrames_24 rfl (j := 1) rfl ?_
      refine v_jnt (fun (k50 : Int → Option (Int)) => ∀ (x6 : Int), V X w 4 P n 0 0 res (k50 x6) s 50 [(0, A w c0), (1, I c1), (2, I x6), (3, I p3)] []) ?_ ?_
      · intro x6
        refine v_iinc C (j := 3) [(0, A w c0), (1, I c1), (2, I x6)] dX2_clearingFrames_50 (by decide) rfl (fun _ => rfl) (fun x7 => ?_)
        refine v_goto (tgt := 4) C dX2_clearingFrames_53 rfl ?_
        refine v_sub [(0, A w c0), (1, I c1), (2, I x6), (3, I x7)] [1, 2, 3, 0] rfl ?_
        exact ih x6 x7
      intro k50 hk50
      refine v_icmp_ne (tgt := 50) C dX2_clearingFrames_25 rfl ?_ ?_
      · skip
        exact hk50 p2
      · skip
        refine v_aload_n C dX2_clearingFrames_28 rfl (j := 0) rfl ?_
        refine v_getR C 1 rfl (T := TX2) rfl inB2 (by decide) (by decide) rfl tw_308 dX2_clearingFrames_29 (fun x8 => ?_)
        refine v_getR C 6 rfl (T := TX6) rfl inB6 (by decide) (by decide) rfl tw_276 dX2_clearingFrames_32 (fun x9 => ?_)
        refine v_iload_n C dX2_clearingFrames_35 rfl (j := 3) rfl ?_
        refine v_iald C dX2_clearingFrames_36 (fun x10 => ?_)
        refine v_if_le (tgt := 50) C dX2_clearingFrames_37 rfl ?_ ?_
        · skip
          exact hk50 p2
        · skip
          refine v_iload_n C dX2_clearingFrames_40 rfl (j := 2) rfl ?_
          refine v_aload_n C dX2_clearingFrames_41 rfl (j := 0) rfl ?_
          refine v_iload_n C dX2_clearingFrames_42 rfl (j := 3) rfl ?_
          refine v_callV_rI C [I p3] [I p2] (Cee.of (rm := rX2_framesToPacketEnd) tw_1129 tw_4 hX2_framesToPacketEnd rfl rfl hRm (Nat.le_of_ble_eq_true rfl) (Nat.le_of_ble_eq_true rfl)) (fun x h => kX2_framesToPacketEnd X.2.1 w _ _ h) tw_1126 tw_1128 ts_34 rfl (ci := 2) rfl (by decide) rfl rfl (Nat.le_of_ble_eq_true rfl) ⟨Nat.zero_le _, Nat.zero_le _⟩ dX2_clearingFrames_43 (fun x11 => ?_)
          refine v_mx C tw_1130 tw_631 tw_13 tw_632 (by rw [hRm]; exact Nat.le_of_ble_eq_true rfl) (by rw [hRm]; exact Nat.le_of_ble_eq_true rfl) (Nat.le_of_ble_eq_true rfl) ⟨Nat.zero_le _, Nat.zero_le _⟩ dX2_clearingFrames_46 (fun x12 => ?_)
          refine v_istore_n C [(2, I x12), (0, A w c0), (1, I c1), (3, I p3)] dX2_clearingFrames_49 rfl (by decide) rfl ?_
          refine v_sub [(0, A w c0), (1, I c1), (2, I x12), (3, I p3)] [1, 2, 0, 3] rfl ?_
          exact hk50 x12
theorem hX2_clearingFrames : yX2_clearingFrames.cls ≠ "java/lang/invoke/MethodHandle" ∧ yX2_clearingFrames.cls ≠ "java/lang/invoke/VarHandle" ∧ (parseMethodDescriptor yX2_clearingFrames.desc).map (fun d => d.parameters.length) = some 1 := by decide +kernel
set_option maxRecDepth 100000 in
theorem kX2_clearingFrames (l : Launch) (w : Wd) (P : Shp) (n : Nat) {s : St} {a0 : Int} {a1 : Int} {res : Int} (h : fX2_clearingFrames P s a0 a1 = some res) : Ct l w yX2_clearingFrames cX2_clearingFrames 4 (some FieldType.int) rX2_clearingFrames P n [A w a0, I a1] s (QI w P n res s) :=
  Ct.of h (by decide) (Nat.le_of_ble_eq_true rfl) (lv := [(0, A w a0), (1, I a1)]) rfl fun X hl hRm C hO => by
  subst hl
  unfold fX2_clearingFrames
  refine v_iconst C dX2_clearingFrames_0 ?_
  refine v_istore_n C [(2, I 0), (0, A w a0), (1, I a1)] dX2_clearingFrames_1 rfl (by decide) rfl ?_
  refine v_iconst C dX2_clearingFrames_2 ?_
  refine v_istore_n C [(3, I 0), (2, I 0), (0, A w a0), (1, I a1)] dX2_clearingFrames_3 rfl (by decide) rfl ?_
  refine v_sub [(0, A w a0), (1, I a1), (2, I 0), (3, I 0)] [2, 3, 1, 0] rfl ?_
  refine vX2_clearingFrames_L4 res hRm C hO a0 a1 _ ?_ 1000 0 0
  · intro x13
    refine v_iload_n C dX2_clearingFrames_56 rfl (j := 0) rfl ?_
    exact v_iret C rfl hO pS dX2_clearingFrames_57
-- ForesightHub.framesToClear
theorem hX7_framesToClear : yX7_framesToClear.cls ≠ "java/lang/invoke/MethodHandle" ∧ yX7_framesToClear.cls ≠ "java/lang/invoke/VarHandle" ∧ (parseMethodDescriptor yX7_framesToClear.desc).map (fun d => d.parameters.length) = some 1 := by decide +kernel
set_option maxRecDepth 100000 in
theorem kX7_framesToClear (l : Launch) (w : Wd) (P : Shp) (n : Nat) {s : St} {a0 : Int} {a1 : Int} {res : Int} (h : fX7_framesToClear P s a0 a1 = some res) : Ct l w yX7_framesToClear cX7_framesToClear 2 (some FieldType.int) rX7_framesToClear P n [A w a0, I a1] s (QI w P n res s) :=
  Ct.of h (by decide) (Nat.le_of_ble_eq_true rfl) (lv := [(0, A w a0), (1, I a1)]) rfl fun X hl hRm C hO => by
  subst hl
  unfold fX7_framesToClear
  refine v_aload_n C dX7_framesToClear_0 rfl (j := 0) rfl ?_
  refine v_iload_n C dX7_framesToClear_1 rfl (j := 1) rfl ?_
  refine v_callV_rV C [I a1] [] (Cee.of (rm := rX7_requireDevice) tw_436 tw_1 hX7_requireDevice rfl rfl hRm (Nat.le_of_ble_eq_true rfl) (Nat.le_of_ble_eq_true rfl)) (fun x h => kX7_requireDevice X.2.1 w _ _ h) tw_433 tw_435 ts_1 rfl (ci := 7) rfl (by decide) rfl rfl (Nat.le_of_ble_eq_true rfl) ⟨Nat.zero_le _, Nat.zero_le _⟩ dX7_framesToClear_2 (fun x1 => ?_)
  refine v_aload_n C dX7_framesToClear_5 rfl (j := 0) rfl ?_
  refine v_getR C 1 rfl (T := TX7) rfl inB7 (by decide) (by decide) rfl tw_338 dX7_framesToClear_6 (fun x2 => ?_)
  refine v_iload_n C dX7_framesToClear_9 rfl (j := 1) rfl ?_
  refine v_callV_rI C [I a1] [] (Cee.of (rm := rX2_clearingFrames) tw_1125 tw_4 hX2_clearingFrames rfl rfl hRm (Nat.le_of_ble_eq_true rfl) (Nat.le_of_ble_eq_true rfl)) (fun x h => kX2_clearingFrames X.2.1 w _ _ h) tw_1122 tw_1123 tw_1124 rfl (ci := 2) rfl (by decide) rfl rfl (Nat.le_of_ble_eq_true rfl) ⟨Nat.zero_le _, Nat.zero_le _⟩ dX7_framesToClear_10 (fun x3 => ?_)
  exact v_iret C rfl hO pS dX7_framesToClear_13
-- ForesightHub$Hub.unitsAtStake
set_option maxRecDepth 100000 in
theorem vX2_unitsAtStake_L4 {X : Cxt} {w : Wd} {P : Shp} {n : Nat} {s : St} (res : Int) (hRm : X.2.2.2.1 = rX2_unitsAtStake) (C : Cok X w cX2_unitsAtStake 4 RX2 (some FieldType.int)) (hO : Own X w 0 0 (QI w P n res s))  (c0 : Int) (c1 : Int) (kE46 : Int → Option (Int)) (hE46 : ∀ (p2e : Int), V X w 4 P n 0 0 res (kE46 p2e) s 46 [(2, I p2e)] []) : ∀ (fuel : Nat) (p2 p3 : Int), V X w 4 P n 0 0 res (fX2_unitsAtStake_L4 P s c0 c1 kE46 fuel p2 p3) s 4 [(0, A w c0), (1, I c1), (2, I p2), (3, I p3)] [] := by
  intro fuel
  induction fuel with
  | zero => intro p2 p3; exact v_none
  | succ m ih =>
    intro p2 p3
    rw [fX2_unitsAtStake_L4]
    refine v_iload_n C dX2_unitsAtStake_4 rfl (j := 3) rfl ?_
    refine v_aload_n C dX2_unitsAtStake_5 rfl (j := 0) rfl ?_
    refine v_getR C 0 rfl (T := TX2) rfl inB2 (by decide) (by decide) rfl tw_306 dX2_unitsAtStake_6 (fun x1 => ?_)
    refine v_getI C 6 rfl (T := TX4) rfl inB4 (by decide) (by decide) rfl tw_76 dX2_unitsAtStake_9 (fun x2 => ?_)
    refine v_icmp_ge (tgt := 46) C dX2_unitsAtStake_12 rfl ?_ ?_
    · skip
      refine v_sub [(2, I p2)] [2] rfl ?_
      exact hE46 p2
    · skip
      refine v_aload_n C dX2_unitsAtStake_15 rfl (j := 0) rfl ?_
      refine v_getR C 1 rfl (T := TX2) rfl inB2 (by decide) (by decide) rfl tw_308 dX2_unitsAtStake_16 (fun x3 => ?_)
      refine v_getR C 4 rfl (T := TX6) rfl inB6 (by decide) (by decide) rfl tw_270 dX2_unitsAtStake_19 (fun x4 => ?_)
      refine v_iload_n C dX2_unitsAtStake_22 rfl (j := 3) rfl ?_
      refine v_iald C dX2_unitsAtStake_23 (fun x5 => ?_)
      refine v_iload_n C dX2_unitsAtStake_24 rfl (j := 1) rfl ?_
      refine v_jnt (fun (k40 : Int → Option (Int)) => ∀ (x6 : Int), V X w 4 P n 0 0 res (k40 x6) s 40 [(0, A w c0), (1, I c1), (2, I x6), (3, I p3)] []) ?_ ?_
      · intro x6
        refine v_iinc C (j := 3) [(0, A w c0), (1, I c1), (2, I x6)] dX2_unitsAtStake_40 (by decide) rfl (fun _ => rfl) (fun x7 => ?_)
        refine v_goto (tgt := 4) C dX2_unitsAtStake_43 rfl ?_
        refine v_sub [(0, A w c0), (1, I c1), (2, I x6), (3, I x7)] [1, 2, 3, 0] rfl ?_
        exact ih x6 x7
      intro k40 hk40
      refine v_icmp_ne (tgt := 40) C dX2_unitsAtStake_25 rfl ?_ ?_
      · skip
        exact hk40 p2
      · skip
        refine v_iload_n C dX2_unitsAtStake_28 rfl (j := 2) rfl ?_
        refine v_aload_n C dX2_unitsAtStake_29 rfl (j := 0) rfl ?_
        refine v_getR C 1 rfl (T := TX2) rfl inB2 (by decide) (by decide) rfl tw_308 dX2_unitsAtStake_30 (fun x8 => ?_)
        refine v_getR C 6 rfl (T := TX6) rfl inB6 (by decide) (by decide) rfl tw_276 dX2_unitsAtStake_33 (fun x9 => ?_)
        refine v_iload_n C dX2_unitsAtStake_36 rfl (j := 3) rfl ?_
        refine v_iald C dX2_unitsAtStake_37 (fun x10 => ?_)
        refine v_iadd C dX2_unitsAtStake_38 ?_
        refine v_bdI (fun x11 => ?_)
        refine v_istore_n C [(2, I x11), (0, A w c0), (1, I c1), (3, I p3)] dX2_unitsAtStake_39 rfl (by decide) rfl ?_
        refine v_sub [(0, A w c0), (1, I c1), (2, I x11), (3, I p3)] [1, 2, 0, 3] rfl ?_
        exact hk40 x11
theorem hX2_unitsAtStake : yX2_unitsAtStake.cls ≠ "java/lang/invoke/MethodHandle" ∧ yX2_unitsAtStake.cls ≠ "java/lang/invoke/VarHandle" ∧ (parseMethodDescriptor yX2_unitsAtStake.desc).map (fun d => d.parameters.length) = some 1 := by decide +kernel
set_option maxRecDepth 100000 in
theorem kX2_unitsAtStake (l : Launch) (w : Wd) (P : Shp) (n : Nat) {s : St} {a0 : Int} {a1 : Int} {res : Int} (h : fX2_unitsAtStake P s a0 a1 = some res) : Ct l w yX2_unitsAtStake cX2_unitsAtStake 4 (some FieldType.int) rX2_unitsAtStake P n [A w a0, I a1] s (QI w P n res s) :=
  Ct.of h (by decide) (Nat.le_of_ble_eq_true rfl) (lv := [(0, A w a0), (1, I a1)]) rfl fun X hl hRm C hO => by
  subst hl
  unfold fX2_unitsAtStake
  refine v_iconst C dX2_unitsAtStake_0 ?_
  refine v_istore_n C [(2, I 0), (0, A w a0), (1, I a1)] dX2_unitsAtStake_1 rfl (by decide) rfl ?_
  refine v_iconst C dX2_unitsAtStake_2 ?_
  refine v_istore_n C [(3, I 0), (2, I 0), (0, A w a0), (1, I a1)] dX2_unitsAtStake_3 rfl (by decide) rfl ?_
  refine v_sub [(0, A w a0), (1, I a1), (2, I 0), (3, I 0)] [2, 3, 1, 0] rfl ?_
  refine vX2_unitsAtStake_L4 res hRm C hO a0 a1 _ ?_ 1000 0 0
  · intro x12
    refine v_iload_n C dX2_unitsAtStake_46 rfl (j := 0) rfl ?_
    exact v_iret C rfl hO pS dX2_unitsAtStake_47
-- ForesightHub.atStake
theorem hX7_atStake : yX7_atStake.cls ≠ "java/lang/invoke/MethodHandle" ∧ yX7_atStake.cls ≠ "java/lang/invoke/VarHandle" ∧ (parseMethodDescriptor yX7_atStake.desc).map (fun d => d.parameters.length) = some 1 := by decide +kernel
set_option maxRecDepth 100000 in
theorem kX7_atStake (l : Launch) (w : Wd) (P : Shp) (n : Nat) {s : St} {a0 : Int} {a1 : Int} {res : Int} (h : fX7_atStake P s a0 a1 = some res) : Ct l w yX7_atStake cX7_atStake 2 (some FieldType.int) rX7_atStake P n [A w a0, I a1] s (QI w P n res s) :=
  Ct.of h (by decide) (Nat.le_of_ble_eq_true rfl) (lv := [(0, A w a0), (1, I a1)]) rfl fun X hl hRm C hO => by
  subst hl
  unfold fX7_atStake
  refine v_aload_n C dX7_atStake_0 rfl (j := 0) rfl ?_
  refine v_iload_n C dX7_atStake_1 rfl (j := 1) rfl ?_
  refine v_callV_rV C [I a1] [] (Cee.of (rm := rX7_requireDevice) tw_436 tw_1 hX7_requireDevice rfl rfl hRm (Nat.le_of_ble_eq_true rfl) (Nat.le_of_ble_eq_true rfl)) (fun x h => kX7_requireDevice X.2.1 w _ _ h) tw_433 tw_435 ts_1 rfl (ci := 7) rfl (by decide) rfl rfl (Nat.le_of_ble_eq_true rfl) ⟨Nat.zero_le _, Nat.zero_le _⟩ dX7_atStake_2 (fun x1 => ?_)
  refine v_aload_n C dX7_atStake_5 rfl (j := 0) rfl ?_
  refine v_getR C 1 rfl (T := TX7) rfl inB7 (by decide) (by decide) rfl tw_338 dX7_atStake_6 (fun x2 => ?_)
  refine v_iload_n C dX7_atStake_9 rfl (j := 1) rfl ?_
  refine v_callV_rI C [I a1] [] (Cee.of (rm := rX2_unitsAtStake) tw_1149 tw_4 hX2_unitsAtStake rfl rfl hRm (Nat.le_of_ble_eq_true rfl) (Nat.le_of_ble_eq_true rfl)) (fun x h => kX2_unitsAtStake X.2.1 w _ _ h) tw_1146 tw_1147 tw_1148 rfl (ci := 2) rfl (by decide) rfl rfl (Nat.le_of_ble_eq_true rfl) ⟨Nat.zero_le _, Nat.zero_le _⟩ dX7_atStake_10 (fun x3 => ?_)
  exact v_iret C rfl hO pS dX7_atStake_13
-- ForesightHub$Hub.isPluggedIn
theorem hX2_isPluggedIn : yX2_isPluggedIn.cls ≠ "java/lang/invoke/MethodHandle" ∧ yX2_isPluggedIn.cls ≠ "java/lang/invoke/VarHandle" ∧ (parseMethodDescriptor yX2_isPluggedIn.desc).map (fun d => d.parameters.length) = some 1 := by decide +kernel
set_option maxRecDepth 100000 in
theorem kX2_isPluggedIn (l : Launch) (w : Wd) (P : Shp) (n : Nat) {s : St} {a0 : Int} {a1 : Int} {res : Int} (h : fX2_isPluggedIn P s a0 a1 = some res) : Ct l w yX2_isPluggedIn cX2_isPluggedIn 2 (some FieldType.boolean) rX2_isPluggedIn P n [A w a0, I a1] s (QI w P n res s) :=
  Ct.of h (by decide) (Nat.le_of_ble_eq_true rfl) (lv := [(0, A w a0), (1, I a1)]) rfl fun X hl hRm C hO => by
  subst hl
  unfold fX2_isPluggedIn
  refine v_aload_n C dX2_isPluggedIn_0 rfl (j := 0) rfl ?_
  refine v_iload_n C dX2_isPluggedIn_1 rfl (j := 1) rfl ?_
  refine v_callV_rI C [I a1] [] (Cee.of (rm := rX2_isDevice) tw_440 tw_4 hX2_isDevice rfl rfl hRm (Nat.le_of_ble_eq_true rfl) (Nat.le_of_ble_eq_true rfl)) (fun x h => kX2_isDevice X.2.1 w _ _ h) tw_461 tw_438 tw_439 rfl (ci := 2) rfl (by decide) rfl rfl (Nat.le_of_ble_eq_true rfl) ⟨Nat.zero_le _, Nat.zero_le _⟩ dX2_isPluggedIn_2 (fun x1 => ?_)
  refine v_if_eq (tgt := 25) C dX2_isPluggedIn_5 rfl ?_ ?_
  · skip
    refine v_iconst C dX2_isPluggedIn_25 ?_
    exact v_zret C rfl hO pS dX2_isPluggedIn_26
  · skip
    refine v_aload_n C dX2_isPluggedIn_8 rfl (j := 0) rfl ?_
    refine v_getR C 1 rfl (T := TX2) rfl inB2 (by decide) (by decide) rfl tw_308 dX2_isPluggedIn_9 (fun x2 => ?_)
    refine v_getR C 2 rfl (T := TX6) rfl inB6 (by decide) (by decide) rfl tw_264 dX2_isPluggedIn_12 (fun x3 => ?_)
    refine v_iload_n C dX2_isPluggedIn_15 rfl (j := 1) rfl ?_
    refine v_iald C dX2_isPluggedIn_16 (fun x4 => ?_)
    refine v_iconst C dX2_isPluggedIn_17 ?_
    refine v_icmp_eq (tgt := 25) C dX2_isPluggedIn_18 rfl ?_ ?_
    · skip
      refine v_iconst C dX2_isPluggedIn_25 ?_
      exact v_zret C rfl hO pS dX2_isPluggedIn_26
    · skip
      refine v_iconst C dX2_isPluggedIn_21 ?_
      refine v_goto (tgt := 26) C dX2_isPluggedIn_22 rfl ?_
      exact v_zret C rfl hO pS dX2_isPluggedIn_26
-- ForesightHub$Hub.weakestDevice
set_option maxRecDepth 100000 in
theorem vX2_weakestDevice_L6 {X : Cxt} {w : Wd} {P : Shp} {n : Nat} {s : St} (res : Int) (hRm : X.2.2.2.1 = rX2_weakestDevice) (C : Cok X w cX2_weakestDevice 4 RX2 (some FieldType.int)) (hO : Own X w 0 0 (QI w P n res s))  (c0 : Int) (kE50 : Int → Option (Int)) (hE50 : ∀ (p1e : Int), V X w 4 P n 0 0 res (kE50 p1e) s 50 [(1, I p1e)] []) : ∀ (fuel : Nat) (p1 p2 p3 : Int), V X w 4 P n 0 0 res (fX2_weakestDevice_L6 P s c0 kE50 fuel p1 p2 p3) s 6 [(0, A w c0), (1, I p1), (2, I p2), (3, I p3)] [] := by
  intro fuel
  induction fuel with
  | zero => intro p1 p2 p3; exact v_none
  | succ m ih =>
    intro p1 p2 p3
    rw [fX2_weakestDevice_L6]
    refine v_iload_n C dX2_weakestDevice_6 rfl (j := 3) rfl ?_
    refine v_aload_n C dX2_weakestDevice_7 rfl (j := 0) rfl ?_
    refine v_getR C 0 rfl (T := TX2) rfl inB2 (by decide) (by decide) rfl tw_306 dX2_weakestDevice_8 (fun x1 => ?_)
    refine v_getI C 5 rfl (T := TX4) rfl inB4 (by decide) (by decide) rfl tw_71 dX2_weakestDevice_11 (fun x2 => ?_)
    refine v_icmp_ge (tgt := 50) C dX2_weakestDevice_14 rfl ?_ ?_
    · skip
      refine v_sub [(1, I p1)] [1] rfl ?_
      exact hE50 p1
    · skip
      refine v_aload_n C dX2_weakestDevice_17 rfl (j := 0) rfl ?_
      refine v_iload_n C dX2_weakestDevice_18 rfl (j := 3) rfl ?_
      refine v_callV_rI C [I p3] [] (Cee.of (rm := rX2_isPluggedIn) tw_518 tw_4 hX2_isPluggedIn rfl rfl hRm (Nat.le_of_ble_eq_true rfl) (Nat.le_of_ble_eq_true rfl)) (fun x h => kX2_isPluggedIn X.2.1 w _ _ h) tw_515 tw_516 tw_517 rfl (ci := 2) rfl (by decide) rfl rfl (Nat.le_of_ble_eq_true rfl) ⟨Nat.zero_le _, Nat.zero_le _⟩ dX2_weakestDevice_19 (fun x3 => ?_)
      refine v_jnt (fun (k44 : Int → Int → Option (Int)) => ∀ (x4 x5 : Int), V X w 4 P n 0 0 res (k44 x4 x5) s 44 [(0, A w c0), (1, I x4), (2, I x5), (3, I p3)] []) ?_ ?_
      · intro x4 x5
        refine v_iinc C (j := 3) [(0, A w c0), (1, I x4), (2, I x5)] dX2_weakestDevice_44 (by decide) rfl (fun _ => rfl) (fun x6 => ?_)
        refine v_goto (tgt := 6) C dX2_weakestDevice_47 rfl ?_
        refine v_sub [(0, A w c0), (1, I x4), (2, I x5), (3, I x6)] [1, 2, 3, 0] rfl ?_
        exact ih x4 x5 x6
      intro k44 hk44
      refine v_if_eq (tgt := 44) C dX2_weakestDevice_22 rfl ?_ ?_
      · skip
        exact hk44 p1 p2
      · skip
        refine v_aload_n C dX2_weakestDevice_25 rfl (j := 0) rfl ?_
        refine v_iload_n C dX2_weakestDevice_26 rfl (j := 3) rfl ?_
        refine v_iconst C dX2_weakestDevice_27 ?_
        refine v_callV_rI C [I p3, I ((-1))] [] (Cee.of (rm := rX2_scoreOf) tw_465 tw_4 hX2_scoreOf rfl rfl hRm (Nat.le_of_ble_eq_true rfl) (Nat.le_of_ble_eq_true rfl)) (fun x h => kX2_scoreOf X.2.1 w _ _ h) tw_519 tw_463 tw_464 rfl (ci := 2) rfl (by decide) rfl rfl (Nat.le_of_ble_eq_true rfl) ⟨Nat.zero_le _, Nat.zero_le _⟩ dX2_weakestDevice_28 (fun x7 => ?_)
        refine v_iload_n C dX2_weakestDevice_31 rfl (j := 2) rfl ?_
        refine v_icmp_le (tgt := 44) C dX2_weakestDevice_32 rfl ?_ ?_
        · skip
          exact hk44 p1 p2
        · skip
          refine v_iload_n C dX2_weakestDevice_35 rfl (j := 3) rfl ?_
          refine v_istore_n C [(1, I p3), (0, A w c0), (2, I p2), (3, I p3)] dX2_weakestDevice_36 rfl (by decide) rfl ?_
          refine v_aload_n C dX2_weakestDevice_37 rfl (j := 1) rfl ?_
          refine v_iload_n C dX2_weakestDevice_38 rfl (j := 3) rfl ?_
          refine v_iconst C dX2_weakestDevice_39 ?_
          refine v_callV_rI C [I p3, I ((-1))] [] (Cee.of (rm := rX2_scoreOf) tw_465 tw_4 hX2_scoreOf rfl rfl hRm (Nat.le_of_ble_eq_true rfl) (Nat.le_of_ble_eq_true rfl)) (fun x h => kX2_scoreOf X.2.1 w _ _ h) tw_519 tw_463 tw_464 rfl (ci := 2) rfl (by decide) rfl rfl (Nat.le_of_ble_eq_true rfl) ⟨Nat.zero_le _, Nat.zero_le _⟩ dX2_weakestDevice_40 (fun x8 => ?_)
          refine v_istore_n C [(2, I x8), (1, I p3), (0, A w c0), (3, I p3)] dX2_weakestDevice_43 rfl (by decide) rfl ?_
          refine v_sub [(0, A w c0), (1, I p3), (2, I x8), (3, I p3)] [2, 1, 0, 3] rfl ?_
          exact hk44 p3 x8
theorem hX2_weakestDevice : yX2_weakestDevice.cls ≠ "java/lang/invoke/MethodHandle" ∧ yX2_weakestDevice.cls ≠ "java/lang/invoke/VarHandle" ∧ (parseMethodDescriptor yX2_weakestDevice.desc).map (fun d => d.parameters.length) = some 0 := by decide +kernel
set_option maxRecDepth 100000 in
theorem kX2_weakestDevice (l : Launch) (w : Wd) (P : Shp) (n : Nat) {s : St} {a0 : Int} {res : Int} (h : fX2_weakestDevice P s a0 = some res) : Ct l w yX2_weakestDevice cX2_weakestDevice 4 (some FieldType.int) rX2_weakestDevice P n [A w a0] s (QI w P n res s) :=
  Ct.of h (by decide) (Nat.le_of_ble_eq_true rfl) (lv := [(0, A w a0)]) rfl fun X hl hRm C hO => by
  subst hl
  unfold fX2_weakestDevice
  refine v_iconst C dX2_weakestDevice_0 ?_
  refine v_istore_n C [(1, I ((-1))), (0, A w a0)] dX2_weakestDevice_1 rfl (by decide) rfl ?_
  refine v_iconst C dX2_weakestDevice_2 ?_
  refine v_istore_n C [(2, I ((-1))), (1, I ((-1))), (0, A w a0)] dX2_weakestDevice_3 rfl (by decide) rfl ?_
  refine v_iconst C dX2_weakestDevice_4 ?_
  refine v_istore_n C [(3, I 0), (2, I ((-1))), (1, I ((-1))), (0, A w a0)] dX2_weakestDevice_5 rfl (by decide) rfl ?_
  refine v_sub [(0, A w a0), (1, I ((-1))), (2, I ((-1))), (3, I 0)] [3, 2, 1, 0] rfl ?_
  refine vX2_weakestDevice_L6 res hRm C hO a0 _ ?_ 1000 ((-1)) ((-1)) 0
  · intro x9
    refine v_iload_n C dX2_weakestDevice_50 rfl (j := 0) rfl ?_
    exact v_iret C rfl hO pS dX2_weakestDevice_51
-- ForesightHub.weakest
theorem hX7_weakest : yX7_weakest.cls ≠ "java/lang/invoke/MethodHandle" ∧ yX7_weakest.cls ≠ "java/lang/invoke/VarHandle" ∧ (parseMethodDescriptor yX7_weakest.desc).map (fun d => d.parameters.length) = some 0 := by decide +kernel
set_option maxRecDepth 100000 in
theorem kX7_weakest (l : Launch) (w : Wd) (P : Shp) (n : Nat) {s : St} {a0 : Int} {res : Int} (h : fX7_weakest P s a0 = some res) : Ct l w yX7_weakest cX7_weakest 1 (some FieldType.int) rX7_weakest P n [A w a0] s (QI w P n res s) :=
  Ct.of h (by decide) (Nat.le_of_ble_eq_true rfl) (lv := [(0, A w a0)]) rfl fun X hl hRm C hO => by
  subst hl
  unfold fX7_weakest
  refine v_aload_n C dX7_weakest_0 rfl (j := 0) rfl ?_
  refine v_getR C 1 rfl (T := TX7) rfl inB7 (by decide) (by decide) rfl tw_338 dX7_weakest_1 (fun x1 => ?_)
  refine v_callV_rI C [] [] (Cee.of (rm := rX2_weakestDevice) tw_514 tw_4 hX2_weakestDevice rfl rfl hRm (Nat.le_of_ble_eq_true rfl) (Nat.le_of_ble_eq_true rfl)) (fun x h => kX2_weakestDevice X.2.1 w _ _ h) tw_511 tw_512 tw_513 rfl (ci := 2) rfl (by decide) rfl rfl (Nat.le_of_ble_eq_true rfl) ⟨Nat.zero_le _, Nat.zero_le _⟩ dX7_weakest_4 (fun x2 => ?_)
  exact v_iret C rfl hO pS dX7_weakest_7
-- ForesightHub.account
theorem hX7_account : yX7_account.cls ≠ "java/lang/invoke/MethodHandle" ∧ yX7_account.cls ≠ "java/lang/invoke/VarHandle" ∧ (parseMethodDescriptor yX7_account.desc).map (fun d => d.parameters.length) = some 1 := by decide +kernel
set_option maxRecDepth 100000 in
theorem kX7_account (l : Launch) (w : Wd) (P : Shp) (n : Nat) {s : St} {a0 : Int} {a1 : Int} {res : Int} (h : fX7_account P s a0 a1 = some res) : Ct l w yX7_account cX7_account 2 (some FieldType.int) rX7_account P n [A w a0, I a1] s (QI w P n res s) :=
  Ct.of h (by decide) (Nat.le_of_ble_eq_true rfl) (lv := [(0, A w a0), (1, I a1)]) rfl fun X hl hRm C hO => by
  subst hl
  unfold fX7_account
  refine v_iload_n C dX7_account_0 rfl (j := 1) rfl ?_
  refine v_jnt (fun (k10 : Option (Int)) => V X w 2 P n 0 0 res (k10) s 10 [] []) ?_ ?_
  · skip
    exact v_none
  intro k10 hk10
  refine v_if_lt (tgt := 10) C dX7_account_1 rfl ?_ ?_
  · skip
    refine v_sub [] [] rfl ?_
    exact hk10
  · skip
    refine v_iload_n C dX7_account_4 rfl (j := 1) rfl ?_
    refine v_bipush C dX7_account_5 (by decide) ?_
    refine v_icmp_lt (tgt := 20) C dX7_account_7 rfl ?_ ?_
    · skip
      refine v_aload_n C dX7_account_20 rfl (j := 0) rfl ?_
      refine v_getR C 1 rfl (T := TX7) rfl inB7 (by decide) (by decide) rfl tw_338 dX7_account_21 (fun x1 => ?_)
      refine v_getR C 1 rfl (T := TX2) rfl inB2 (by decide) (by decide) rfl tw_309 dX7_account_24 (fun x2 => ?_)
      refine v_getR C 9 rfl (T := TX6) rfl inB6 (by decide) (by decide) rfl tw_283 dX7_account_27 (fun x3 => ?_)
      refine v_getR C 5 rfl (T := TX3) rfl inB3 (by decide) (by decide) rfl tw_242 dX7_account_30 (fun x4 => ?_)
      refine v_iload_n C dX7_account_33 rfl (j := 1) rfl ?_
      refine v_iald C dX7_account_34 (fun x5 => ?_)
      exact v_iret C rfl hO pS dX7_account_35
    · skip
      refine v_sub [] [] rfl ?_
      exact hk10
-- ForesightHub$ErrorBook.copyFrom
theorem hX0_copyFrom : yX0_copyFrom.cls ≠ "java/lang/invoke/MethodHandle" ∧ yX0_copyFrom.cls ≠ "java/lang/invoke/VarHandle" ∧ (parseMethodDescriptor yX0_copyFrom.desc).map (fun d => d.parameters.length) = some 1 := by decide +kernel
set_option maxRecDepth 100000 in
theorem kX0_copyFrom (l : Launch) (w : Wd) (P : Shp) (n : Nat) {s : St} {a0 : Int} {a1 : Int} {res : St} (h : fX0_copyFrom P s a0 a1 = some res) : Ct l w yX0_copyFrom cX0_copyFrom 2 (Option.none : Option FieldType) rX0_copyFrom P n [A w a0, A w a1] s (QV w P n res) :=
  Ct.of h (by decide) (Nat.le_of_ble_eq_true rfl) (lv := [(0, A w a0), (1, A w a1)]) rfl fun X hl hRm C hO => by
  subst hl
  unfold fX0_copyFrom
  refine v_aload_n C dX0_copyFrom_0 rfl (j := 0) rfl ?_
  refine v_aload_n C dX0_copyFrom_1 rfl (j := 1) rfl ?_
  refine v_getI C 3 rfl (T := TX0) rfl inB0 (by decide) (by decide) rfl tw_214 dX0_copyFrom_2 (fun x1 => ?_)
  refine v_putI C 3 rfl (T := TX0) rfl inB0 (by decide) tyX0_ok nmX0 (by decide) rfl rfl tw_214 dX0_copyFrom_5 rfl (fun s2 => ?_)
  refine v_aload_n C dX0_copyFrom_8 rfl (j := 1) rfl ?_
  refine v_getR C 0 rfl (T := TX0) rfl inB0 (by decide) (by decide) rfl tw_209 dX0_copyFrom_9 (fun x3 => ?_)
  refine v_iconst C dX0_copyFrom_12 ?_
  refine v_aload_n C dX0_copyFrom_13 rfl (j := 0) rfl ?_
  refine v_getR C 0 rfl (T := TX0) rfl inB0 (by decide) (by decide) rfl tw_209 dX0_copyFrom_14 (fun x4 => ?_)
  refine v_iconst C dX0_copyFrom_17 ?_
  refine v_bipush C dX0_copyFrom_18 (by decide) ?_
  refine v_copy10 C tw_542 tw_537 tw_536 tw_14 (by rw [hRm]; exact Nat.le_of_ble_eq_true rfl) (by rw [hRm]; exact Nat.le_of_ble_eq_true rfl) (Nat.le_of_ble_eq_true rfl) dX0_copyFrom_20 (fun s5 => ?_)
  refine v_aload_n C dX0_copyFrom_23 rfl (j := 1) rfl ?_
  refine v_getR C 1 rfl (T := TX0) rfl inB0 (by decide) (by decide) rfl tw_212 dX0_copyFrom_24 (fun x6 => ?_)
  refine v_iconst C dX0_copyFrom_27 ?_
  refine v_aload_n C dX0_copyFrom_28 rfl (j := 0) rfl ?_
  refine v_getR C 1 rfl (T := TX0) rfl inB0 (by decide) (by decide) rfl tw_212 dX0_copyFrom_29 (fun x7 => ?_)
  refine v_iconst C dX0_copyFrom_32 ?_
  refine v_bipush C dX0_copyFrom_33 (by decide) ?_
  refine v_copy10 C tw_542 tw_537 tw_536 tw_14 (by rw [hRm]; exact Nat.le_of_ble_eq_true rfl) (by rw [hRm]; exact Nat.le_of_ble_eq_true rfl) (Nat.le_of_ble_eq_true rfl) dX0_copyFrom_35 (fun s8 => ?_)
  refine v_aload_n C dX0_copyFrom_38 rfl (j := 1) rfl ?_
  refine v_getR C 2 rfl (T := TX0) rfl inB0 (by decide) (by decide) rfl tw_213 dX0_copyFrom_39 (fun x9 => ?_)
  refine v_iconst C dX0_copyFrom_42 ?_
  refine v_aload_n C dX0_copyFrom_43 rfl (j := 0) rfl ?_
  refine v_getR C 2 rfl (T := TX0) rfl inB0 (by decide) (by decide) rfl tw_213 dX0_copyFrom_44 (fun x10 => ?_)
  refine v_iconst C dX0_copyFrom_47 ?_
  refine v_bipush C dX0_copyFrom_48 (by decide) ?_
  refine v_copy10 C tw_542 tw_537 tw_536 tw_14 (by rw [hRm]; exact Nat.le_of_ble_eq_true rfl) (by rw [hRm]; exact Nat.le_of_ble_eq_true rfl) (Nat.le_of_ble_eq_true rfl) dX0_copyFrom_50 (fun s11 => ?_)
  refine v_aload_n C dX0_copyFrom_53 rfl (j := 1) rfl ?_
  refine v_getR C 4 rfl (T := TX0) rfl inB0 (by decide) (by decide) rfl tw_215 dX0_copyFrom_54 (fun x12 => ?_)
  refine v_iconst C dX0_copyFrom_57 ?_
  refine v_aload_n C dX0_copyFrom_58 rfl (j := 0) rfl ?_
  refine v_getR C 4 rfl (T := TX0) rfl inB0 (by decide) (by decide) rfl tw_215 dX0_copyFrom_59 (fun x13 => ?_)
  refine v_iconst C dX0_copyFrom_62 ?_
  refine v_bipush C dX0_copyFrom_63 (by decide) ?_
  refine v_copy10 C tw_542 tw_537 tw_536 tw_14 (by rw [hRm]; exact Nat.le_of_ble_eq_true rfl) (by rw [hRm]; exact Nat.le_of_ble_eq_true rfl) (Nat.le_of_ble_eq_true rfl) dX0_copyFrom_65 (fun s14 => ?_)
  refine v_aload_n C dX0_copyFrom_68 rfl (j := 1) rfl ?_
  refine v_getR C 5 rfl (T := TX0) rfl inB0 (by decide) (by decide) rfl tw_216 dX0_copyFrom_69 (fun x15 => ?_)
  refine v_iconst C dX0_copyFrom_72 ?_
  refine v_aload_n C dX0_copyFrom_73 rfl (j := 0) rfl ?_
  refine v_getR C 5 rfl (T := TX0) rfl inB0 (by decide) (by decide) rfl tw_216 dX0_copyFrom_74 (fun x16 => ?_)
  refine v_iconst C dX0_copyFrom_77 ?_
  refine v_bipush C dX0_copyFrom_78 (by decide) ?_
  refine v_copy10 C tw_542 tw_537 tw_536 tw_14 (by rw [hRm]; exact Nat.le_of_ble_eq_true rfl) (by rw [hRm]; exact Nat.le_of_ble_eq_true rfl) (Nat.le_of_ble_eq_true rfl) dX0_copyFrom_80 (fun s17 => ?_)
  exact v_vret C rfl hO (fun h => Option.some.inj h) dX0_copyFrom_83
-- ForesightHub$Log.copyFrom
theorem hX3_copyFrom : yX3_copyFrom.cls ≠ "java/lang/invoke/MethodHandle" ∧ yX3_copyFrom.cls ≠ "java/lang/invoke/VarHandle" ∧ (parseMethodDescriptor yX3_copyFrom.desc).map (fun d => d.parameters.length) = some 1 := by decide +kernel
set_option maxRecDepth 100000 in
theorem kX3_copyFrom (l : Launch) (w : Wd) (P : Shp) (n : Nat) {s : St} {a0 : Int} {a1 : Int} {res : St} (h : fX3_copyFrom P s a0 a1 = some res) : Ct l w yX3_copyFrom cX3_copyFrom 2 (Option.none : Option FieldType) rX3_copyFrom P n [A w a0, A w a1] s (QV w P n res) :=
  Ct.of h (by decide) (Nat.le_of_ble_eq_true rfl) (lv := [(0, A w a0), (1, A w a1)]) rfl fun X hl hRm C hO => by
  subst hl
  unfold fX3_copyFrom
  refine v_aload_n C dX3_copyFrom_0 rfl (j := 0) rfl ?_
  refine v_aload_n C dX3_copyFrom_1 rfl (j := 1) rfl ?_
  refine v_getI C 0 rfl (T := TX3) rfl inB3 (by decide) (by decide) rfl tw_236 dX3_copyFrom_2 (fun x1 => ?_)
  refine v_putI C 0 rfl (T := TX3) rfl inB3 (by decide) tyX3_ok nmX3 (by decide) rfl rfl tw_236 dX3_copyFrom_5 rfl (fun s2 => ?_)
  refine v_aload_n C dX3_copyFrom_8 rfl (j := 0) rfl ?_
  refine v_aload_n C dX3_copyFrom_9 rfl (j := 1) rfl ?_
  refine v_getI C 1 rfl (T := TX3) rfl inB3 (by decide) (by decide) rfl tw_237 dX3_copyFrom_10 (fun x3 => ?_)
  refine v_putI C 1 rfl (T := TX3) rfl inB3 (by decide) tyX3_ok nmX3 (by decide) rfl rfl tw_237 dX3_copyFrom_13 rfl (fun s4 => ?_)
  refine v_aload_n C dX3_copyFrom_16 rfl (j := 1) rfl ?_
  refine v_getR C 2 rfl (T := TX3) rfl inB3 (by decide) (by decide) rfl tw_238 dX3_copyFrom_17 (fun x5 => ?_)
  refine v_iconst C dX3_copyFrom_20 ?_
  refine v_aload_n C dX3_copyFrom_21 rfl (j := 0) rfl ?_
  refine v_getR C 2 rfl (T := TX3) rfl inB3 (by decide) (by decide) rfl tw_238 dX3_copyFrom_22 (fun x6 => ?_)
  refine v_iconst C dX3_copyFrom_25 ?_
  refine v_bipush C dX3_copyFrom_26 (by decide) ?_
  refine v_copy10 C tw_547 tw_537 tw_536 tw_14 (by rw [hRm]; exact Nat.le_of_ble_eq_true rfl) (by rw [hRm]; exact Nat.le_of_ble_eq_true rfl) (Nat.le_of_ble_eq_true rfl) dX3_copyFrom_28 (fun s7 => ?_)
  refine v_aload_n C dX3_copyFrom_31 rfl (j := 1) rfl ?_
  refine v_getR C 3 rfl (T := TX3) rfl inB3 (by decide) (by decide) rfl tw_239 dX3_copyFrom_32 (fun x8 => ?_)
  refine v_iconst C dX3_copyFrom_35 ?_
  refine v_aload_n C dX3_copyFrom_36 rfl (j := 0) rfl ?_
  refine v_getR C 3 rfl (T := TX3) rfl inB3 (by decide) (by decide) rfl tw_239 dX3_copyFrom_37 (fun x9 => ?_)
  refine v_iconst C dX3_copyFrom_40 ?_
  refine v_bipush C dX3_copyFrom_41 (by decide) ?_
  refine v_copy10 C tw_547 tw_537 tw_536 tw_14 (by rw [hRm]; exact Nat.le_of_ble_eq_true rfl) (by rw [hRm]; exact Nat.le_of_ble_eq_true rfl) (Nat.le_of_ble_eq_true rfl) dX3_copyFrom_43 (fun s10 => ?_)
  refine v_aload_n C dX3_copyFrom_46 rfl (j := 1) rfl ?_
  refine v_getR C 4 rfl (T := TX3) rfl inB3 (by decide) (by decide) rfl tw_240 dX3_copyFrom_47 (fun x11 => ?_)
  refine v_iconst C dX3_copyFrom_50 ?_
  refine v_aload_n C dX3_copyFrom_51 rfl (j := 0) rfl ?_
  refine v_getR C 4 rfl (T := TX3) rfl inB3 (by decide) (by decide) rfl tw_240 dX3_copyFrom_52 (fun x12 => ?_)
  refine v_iconst C dX3_copyFrom_55 ?_
  refine v_bipush C dX3_copyFrom_56 (by decide) ?_
  refine v_copy10 C tw_547 tw_537 tw_536 tw_14 (by rw [hRm]; exact Nat.le_of_ble_eq_true rfl) (by rw [hRm]; exact Nat.le_of_ble_eq_true rfl) (Nat.le_of_ble_eq_true rfl) dX3_copyFrom_58 (fun s13 => ?_)
  refine v_aload_n C dX3_copyFrom_61 rfl (j := 1) rfl ?_
  refine v_getR C 5 rfl (T := TX3) rfl inB3 (by decide) (by decide) rfl tw_241 dX3_copyFrom_62 (fun x14 => ?_)
  refine v_iconst C dX3_copyFrom_65 ?_
  refine v_aload_n C dX3_copyFrom_66 rfl (j := 0) rfl ?_
  refine v_getR C 5 rfl (T := TX3) rfl inB3 (by decide) (by decide) rfl tw_241 dX3_copyFrom_67 (fun x15 => ?_)
  refine v_iconst C dX3_copyFrom_70 ?_
  refine v_bipush C dX3_copyFrom_71 (by decide) ?_
  refine v_copy10 C tw_547 tw_537 tw_536 tw_14 (by rw [hRm]; exact Nat.le_of_ble_eq_true rfl) (by rw [hRm]; exact Nat.le_of_ble_eq_true rfl) (Nat.le_of_ble_eq_true rfl) dX3_copyFrom_73 (fun s16 => ?_)
  exact v_vret C rfl hO (fun h => Option.some.inj h) dX3_copyFrom_76
-- ForesightHub$State.copyFrom
theorem hX6_copyFrom : yX6_copyFrom.cls ≠ "java/lang/invoke/MethodHandle" ∧ yX6_copyFrom.cls ≠ "java/lang/invoke/VarHandle" ∧ (parseMethodDescriptor yX6_copyFrom.desc).map (fun d => d.parameters.length) = some 1 := by decide +kernel
set_option maxRecDepth 100000 in
theorem kX6_copyFrom (l : Launch) (w : Wd) (P : Shp) (n : Nat) {s : St} {a0 : Int} {a1 : Int} {res : St} (h : fX6_copyFrom P s a0 a1 = some res) : Ct l w yX6_copyFrom cX6_copyFrom 2 (Option.none : Option FieldType) rX6_copyFrom P n [A w a0, A w a1] s (QV w P n res) :=
  Ct.of h (by decide) (Nat.le_of_ble_eq_true rfl) (lv := [(0, A w a0), (1, A w a1)]) rfl fun X hl hRm C hO => by
  subst hl
  unfold fX6_copyFrom
  refine v_aload_n C dX6_copyFrom_0 rfl (j := 0) rfl ?_
  refine v_aload_n C dX6_copyFrom_1 rfl (j := 1) rfl ?_
  refine v_getI C 0 rfl (T := TX6) rfl inB6 (by decide) (by decide) rfl tw_257 dX6_copyFrom_2 (fun x1 => ?_)
  refine v_putI C 0 rfl (T := TX6) rfl inB6 (by decide) tyX6_ok nmX6 (by decide) rfl rfl tw_257 dX6_copyFrom_5 rfl (fun s2 => ?_)
  refine v_aload_n C dX6_copyFrom_8 rfl (j := 0) rfl ?_
  refine v_aload_n C dX6_copyFrom_9 rfl (j := 1) rfl ?_
  refine v_getI C 1 rfl (T := TX6) rfl inB6 (by decide) (by decide) rfl tw_261 dX6_copyFrom_10 (fun x3 => ?_)
  refine v_putI C 1 rfl (T := TX6) rfl inB6 (by decide) tyX6_ok nmX6 (by decide) rfl rfl tw_261 dX6_copyFrom_13 rfl (fun s4 => ?_)
  refine v_aload_n C dX6_copyFrom_16 rfl (j := 1) rfl ?_
  refine v_getR C 2 rfl (T := TX6) rfl inB6 (by decide) (by decide) rfl tw_263 dX6_copyFrom_17 (fun x5 => ?_)
  refine v_iconst C dX6_copyFrom_20 ?_
  refine v_aload_n C dX6_copyFrom_21 rfl (j := 0) rfl ?_
  refine v_getR C 2 rfl (T := TX6) rfl inB6 (by decide) (by decide) rfl tw_263 dX6_copyFrom_22 (fun x6 => ?_)
  refine v_iconst C dX6_copyFrom_25 ?_
  refine v_bipush C dX6_copyFrom_26 (by decide) ?_
  refine v_copy10 C tw_535 tw_537 tw_536 tw_14 (by rw [hRm]; exact Nat.le_of_ble_eq_true rfl) (by rw [hRm]; exact Nat.le_of_ble_eq_true rfl) (Nat.le_of_ble_eq_true rfl) dX6_copyFrom_28 (fun s7 => ?_)
  refine v_aload_n C dX6_copyFrom_31 rfl (j := 1) rfl ?_
  refine v_getR C 3 rfl (T := TX6) rfl inB6 (by decide) (by decide) rfl tw_266 dX6_copyFrom_32 (fun x8 => ?_)
  refine v_iconst C dX6_copyFrom_35 ?_
  refine v_aload_n C dX6_copyFrom_36 rfl (j := 0) rfl ?_
  refine v_getR C 3 rfl (T := TX6) rfl inB6 (by decide) (by decide) rfl tw_266 dX6_copyFrom_37 (fun x9 => ?_)
  refine v_iconst C dX6_copyFrom_40 ?_
  refine v_bipush C dX6_copyFrom_41 (by decide) ?_
  refine v_copy10 C tw_535 tw_537 tw_536 tw_14 (by rw [hRm]; exact Nat.le_of_ble_eq_true rfl) (by rw [hRm]; exact Nat.le_of_ble_eq_true rfl) (Nat.le_of_ble_eq_true rfl) dX6_copyFrom_43 (fun s10 => ?_)
  refine v_aload_n C dX6_copyFrom_46 rfl (j := 1) rfl ?_
  refine v_getR C 4 rfl (T := TX6) rfl inB6 (by decide) (by decide) rfl tw_268 dX6_copyFrom_47 (fun x11 => ?_)
  refine v_iconst C dX6_copyFrom_50 ?_
  refine v_aload_n C dX6_copyFrom_51 rfl (j := 0) rfl ?_
  refine v_getR C 4 rfl (T := TX6) rfl inB6 (by decide) (by decide) rfl tw_268 dX6_copyFrom_52 (fun x12 => ?_)
  refine v_iconst C dX6_copyFrom_55 ?_
  refine v_bipush C dX6_copyFrom_56 (by decide) ?_
  refine v_copy10 C tw_535 tw_537 tw_536 tw_14 (by rw [hRm]; exact Nat.le_of_ble_eq_true rfl) (by rw [hRm]; exact Nat.le_of_ble_eq_true rfl) (Nat.le_of_ble_eq_true rfl) dX6_copyFrom_58 (fun s13 => ?_)
  refine v_aload_n C dX6_copyFrom_61 rfl (j := 1) rfl ?_
  refine v_getR C 5 rfl (T := TX6) rfl inB6 (by decide) (by decide) rfl tw_271 dX6_copyFrom_62 (fun x14 => ?_)
  refine v_iconst C dX6_copyFrom_65 ?_
  refine v_aload_n C dX6_copyFrom_66 rfl (j := 0) rfl ?_
  refine v_getR C 5 rfl (T := TX6) rfl inB6 (by decide) (by decide) rfl tw_271 dX6_copyFrom_67 (fun x15 => ?_)
  refine v_iconst C dX6_copyFrom_70 ?_
  refine v_bipush C dX6_copyFrom_71 (by decide) ?_
  refine v_copy10 C tw_535 tw_537 tw_536 tw_14 (by rw [hRm]; exact Nat.le_of_ble_eq_true rfl) (by rw [hRm]; exact Nat.le_of_ble_eq_true rfl) (Nat.le_of_ble_eq_true rfl) dX6_copyFrom_73 (fun s16 => ?_)
  refine v_aload_n C dX6_copyFrom_76 rfl (j := 1) rfl ?_
  refine v_getR C 6 rfl (T := TX6) rfl inB6 (by decide) (by decide) rfl tw_274 dX6_copyFrom_77 (fun x17 => ?_)
  refine v_iconst C dX6_copyFrom_80 ?_
  refine v_aload_n C dX6_copyFrom_81 rfl (j := 0) rfl ?_
  refine v_getR C 6 rfl (T := TX6) rfl inB6 (by decide) (by decide) rfl tw_274 dX6_copyFrom_82 (fun x18 => ?_)
  refine v_iconst C dX6_copyFrom_85 ?_
  refine v_bipush C dX6_copyFrom_86 (by decide) ?_
  refine v_copy10 C tw_535 tw_537 tw_536 tw_14 (by rw [hRm]; exact Nat.le_of_ble_eq_true rfl) (by rw [hRm]; exact Nat.le_of_ble_eq_true rfl) (Nat.le_of_ble_eq_true rfl) dX6_copyFrom_88 (fun s19 => ?_)
  refine v_aload_n C dX6_copyFrom_91 rfl (j := 1) rfl ?_
  refine v_getR C 7 rfl (T := TX6) rfl inB6 (by decide) (by decide) rfl tw_277 dX6_copyFrom_92 (fun x20 => ?_)
  refine v_iconst C dX6_copyFrom_95 ?_
  refine v_aload_n C dX6_copyFrom_96 rfl (j := 0) rfl ?_
  refine v_getR C 7 rfl (T := TX6) rfl inB6 (by decide) (by decide) rfl tw_277 dX6_copyFrom_97 (fun x21 => ?_)
  refine v_iconst C dX6_copyFrom_100 ?_
  refine v_bipush C dX6_copyFrom_101 (by decide) ?_
  refine v_copy11 C tw_535 tw_537 tw_536 tw_14 (by rw [hRm]; exact Nat.le_of_ble_eq_true rfl) (by rw [hRm]; exact Nat.le_of_ble_eq_true rfl) (Nat.le_of_ble_eq_true rfl) dX6_copyFrom_103 (fun s22 => ?_)
  refine v_aload_n C dX6_copyFrom_106 rfl (j := 0) rfl ?_
  refine v_getR C 8 rfl (T := TX6) rfl inB6 (by decide) (by decide) rfl tw_279 dX6_copyFrom_107 (fun x23 => ?_)
  refine v_aload_n C dX6_copyFrom_110 rfl (j := 1) rfl ?_
  refine v_getR C 8 rfl (T := TX6) rfl inB6 (by decide) (by decide) rfl tw_279 dX6_copyFrom_111 (fun x24 => ?_)
  refine v_callV_wV C [A w x24] [] (Cee.of (rm := rX0_copyFrom) tw_541 tw_6 hX0_copyFrom rfl rfl hRm (Nat.le_of_ble_eq_true rfl) (Nat.le_of_ble_eq_true rfl)) (fun x h => kX0_copyFrom X.2.1 w _ _ h) tw_538 tw_539 tw_540 rfl (ci := 0) rfl (by decide) rfl rfl (Nat.le_of_ble_eq_true rfl) ⟨Nat.zero_le _, Nat.zero_le _⟩ dX6_copyFrom_114 (fun s25 => ?_)
  refine v_aload_n C dX6_copyFrom_117 rfl (j := 0) rfl ?_
  refine v_getR C 9 rfl (T := TX6) rfl inB6 (by decide) (by decide) rfl tw_282 dX6_copyFrom_118 (fun x26 => ?_)
  refine v_aload_n C dX6_copyFrom_121 rfl (j := 1) rfl ?_
  refine v_getR C 9 rfl (T := TX6) rfl inB6 (by decide) (by decide) rfl tw_282 dX6_copyFrom_122 (fun x27 => ?_)
  refine v_callV_wV C [A w x27] [] (Cee.of (rm := rX3_copyFrom) tw_546 tw_7 hX3_copyFrom rfl rfl hRm (Nat.le_of_ble_eq_true rfl) (Nat.le_of_ble_eq_true rfl)) (fun x h => kX3_copyFrom X.2.1 w _ _ h) tw_543 tw_544 tw_545 rfl (ci := 3) rfl (by decide) rfl rfl (Nat.le_of_ble_eq_true rfl) ⟨Nat.zero_le _, Nat.zero_le _⟩ dX6_copyFrom_125 (fun s28 => ?_)
  exact v_vret C rfl hO (fun h => Option.some.inj h) dX6_copyFrom_128
-- ForesightHub$History.remember
theorem hX1_remember : yX1_remember.cls ≠ "java/lang/invoke/MethodHandle" ∧ yX1_remember.cls ≠ "java/lang/invoke/VarHandle" ∧ (parseMethodDescriptor yX1_remember.desc).map (fun d => d.parameters.length) = some 1 := by decide +kernel
set_option maxRecDepth 100000 in
theorem kX1_remember (l : Launch) (w : Wd) (P : Shp) (n : Nat) {s : St} {a0 : Int} {a1 : Int} {res : St} (h : fX1_remember P s a0 a1 = some res) : Ct l w yX1_remember cX1_remember 2 (Option.none : Option FieldType) rX1_remember P n [A w a0, A w a1] s (QV w P n res) :=
  Ct.of h (by decide) (Nat.le_of_ble_eq_true rfl) (lv := [(0, A w a0), (1, A w a1)]) rfl fun X hl hRm C hO => by
  subst hl
  unfold fX1_remember
  refine v_aload_n C dX1_remember_0 rfl (j := 0) rfl ?_
  refine v_getI C 2 rfl (T := TX1) rfl inB1 (by decide) (by decide) rfl tw_327 dX1_remember_1 (fun x1 => ?_)
  refine v_jnt (fun (k21 : St → Option (St)) => ∀ (s2 : St), V X w 2 P n 0 0 res (k21 s2) s2 21 [(0, A w a0), (1, A w a1)] []) ?_ ?_
  · intro s2
    refine v_aload_n C dX1_remember_21 rfl (j := 0) rfl ?_
    refine v_getR C 0 rfl (T := TX1) rfl inB1 (by decide) (by decide) rfl tw_324 dX1_remember_22 (fun x3 => ?_)
    refine v_aload_n C dX1_remember_25 rfl (j := 0) rfl ?_
    refine v_getI C 2 rfl (T := TX1) rfl inB1 (by decide) (by decide) rfl tw_327 dX1_remember_26 (fun x4 => ?_)
    refine v_aald C dX1_remember_29 (fun x5 => ?_)
    refine v_aload_n C dX1_remember_30 rfl (j := 1) rfl ?_
    refine v_callV_wV C [A w a1] [] (Cee.of (rm := rX6_copyFrom) tw_534 tw_5 hX6_copyFrom rfl rfl hRm (Nat.le_of_ble_eq_true rfl) (Nat.le_of_ble_eq_true rfl)) (fun x h => kX6_copyFrom X.2.1 w _ _ h) tw_531 tw_532 tw_533 rfl (ci := 6) rfl (by decide) rfl rfl (Nat.le_of_ble_eq_true rfl) ⟨Nat.zero_le _, Nat.zero_le _⟩ dX1_remember_31 (fun s6 => ?_)
    refine v_aload_n C dX1_remember_34 rfl (j := 0) rfl ?_
    refine v_aload_n C dX1_remember_35 rfl (j := 0) rfl ?_
    refine v_getI C 2 rfl (T := TX1) rfl inB1 (by decide) (by decide) rfl tw_327 dX1_remember_36 (fun x7 => ?_)
    refine v_iconst C dX1_remember_39 ?_
    refine v_iadd C dX1_remember_40 ?_
    refine v_bipush C dX1_remember_41 (by decide) ?_
    refine v_irem C dX1_remember_43 (fun x8 => ?_)
    refine v_putI C 2 rfl (T := TX1) rfl inB1 (by decide) tyX1_ok nmX1 (by decide) rfl rfl tw_327 dX1_remember_44 rfl (fun s9 => ?_)
    refine v_aload_n C dX1_remember_47 rfl (j := 0) rfl ?_
    refine v_aload_n C dX1_remember_48 rfl (j := 0) rfl ?_
    refine v_getI C 1 rfl (T := TX1) rfl inB1 (by decide) (by decide) rfl tw_325 dX1_remember_49 (fun x10 => ?_)
    refine v_iconst C dX1_remember_52 ?_
    refine v_iadd C dX1_remember_53 ?_
    refine v_bipush C dX1_remember_54 (by decide) ?_
    refine v_mn C tw_1018 tw_479 tw_13 tw_480 (by rw [hRm]; exact Nat.le_of_ble_eq_true rfl) (by rw [hRm]; exact Nat.le_of_ble_eq_true rfl) (Nat.le_of_ble_eq_true rfl) ⟨Nat.zero_le _, Nat.zero_le _⟩ dX1_remember_56 (fun x11 => ?_)
    refine v_putI C 1 rfl (T := TX1) rfl inB1 (by decide) tyX1_ok nmX1 (by decide) rfl rfl tw_325 dX1_remember_59 rfl (fun s12 => ?_)
    exact v_vret C rfl hO (fun h => Option.some.inj h) dX1_remember_62
  intro k21 hk21
  refine v_jnt (fun (k16 : Option (St)) => V X w 2 P n 0 0 res (k16) s 16 [(0, A w a0), (1, A w a1)] []) ?_ ?_
  · skip
    refine v_aload_n C dX1_remember_16 rfl (j := 0) rfl ?_
    refine v_iconst C dX1_remember_17 ?_
    refine v_putI C 2 rfl (T := TX1) rfl inB1 (by decide) tyX1_ok nmX1 (by decide) rfl rfl tw_327 dX1_remember_18 rfl (fun s13 => ?_)
    exact hk21 s13
  intro k16 hk16
  refine v_if_lt (tgt := 16) C dX1_remember_4 rfl ?_ ?_
  · skip
    exact hk16
  · skip
    refine v_aload_n C dX1_remember_7 rfl (j := 0) rfl ?_
    refine v_getI C 2 rfl (T := TX1) rfl inB1 (by decide) (by decide) rfl tw_327 dX1_remember_8 (fun x14 => ?_)
    refine v_bipush C dX1_remember_11 (by decide) ?_
    refine v_icmp_lt (tgt := 21) C dX1_remember_13 rfl ?_ ?_
    · skip
      exact hk21 s
    · skip
      exact hk16
-- ForesightHub$Hub.sendOn
theorem hX2_sendOn : yX2_sendOn.cls ≠ "java/lang/invoke/MethodHandle" ∧ yX2_sendOn.cls ≠ "java/lang/invoke/VarHandle" ∧ (parseMethodDescriptor yX2_sendOn.desc).map (fun d => d.parameters.length) = some 1 := by decide +kernel
set_option maxRecDepth 100000 in
theorem kX2_sendOn (l : Launch) (w : Wd) (P : Shp) (n : Nat) {s : St} {a0 : Int} {a1 : Int} {res : St} (h : fX2_sendOn P s a0 a1 = some res) : Ct l w yX2_sendOn cX2_sendOn 4 (Option.none : Option FieldType) rX2_sendOn P n [A w a0, I a1] s (QV w P n res) :=
  Ct.of h (by decide) (Nat.le_of_ble_eq_true rfl) (lv := [(0, A w a0), (1, I a1)]) rfl fun X hl hRm C hO => by
  subst hl
  unfold fX2_sendOn
  refine v_aload_n C dX2_sendOn_0 rfl (j := 0) rfl ?_
  refine v_getR C 1 rfl (T := TX2) rfl inB2 (by decide) (by decide) rfl tw_308 dX2_sendOn_1 (fun x1 => ?_)
  refine v_getR C 6 rfl (T := TX6) rfl inB6 (by decide) (by decide) rfl tw_276 dX2_sendOn_4 (fun x2 => ?_)
  refine v_iload_n C dX2_sendOn_7 rfl (j := 1) rfl ?_
  refine v_iald C dX2_sendOn_8 (fun x3 => ?_)
  refine v_aload_n C dX2_sendOn_9 rfl (j := 0) rfl ?_
  refine v_getR C 0 rfl (T := TX2) rfl inB2 (by decide) (by decide) rfl tw_306 dX2_sendOn_10 (fun x4 => ?_)
  refine v_getR C 14 rfl (T := TX4) rfl inB4 (by decide) (by decide) rfl tw_103 dX2_sendOn_13 (fun x5 => ?_)
  refine v_iload_n C dX2_sendOn_16 rfl (j := 1) rfl ?_
  refine v_iald C dX2_sendOn_17 (fun x6 => ?_)
  refine v_iadd C dX2_sendOn_18 ?_
  refine v_bdI (fun x7 => ?_)
  refine v_istore_n C [(2, I x7), (0, A w a0), (1, I a1)] dX2_sendOn_19 rfl (by decide) rfl ?_
  refine v_aload_n C dX2_sendOn_20 rfl (j := 1) rfl ?_
  refine v_getR C 0 rfl (T := TX2) rfl inB2 (by decide) (by decide) rfl tw_306 dX2_sendOn_21 (fun x8 => ?_)
  refine v_getR C 15 rfl (T := TX4) rfl inB4 (by decide) (by decide) rfl tw_107 dX2_sendOn_24 (fun x9 => ?_)
  refine v_iload_n C dX2_sendOn_27 rfl (j := 2) rfl ?_
  refine v_iald C dX2_sendOn_28 (fun x10 => ?_)
  refine v_istore_n C [(3, I x10), (2, I x7), (0, A w a0), (1, I a1)] dX2_sendOn_29 rfl (by decide) rfl ?_
  refine v_iload_n C dX2_sendOn_30 rfl (j := 0) rfl ?_
  refine v_if_le (tgt := 62) C dX2_sendOn_31 rfl ?_ ?_
  · skip
    exact v_vret C rfl hO (fun h => Option.some.inj h) dX2_sendOn_62
  · skip
    refine v_aload_n C dX2_sendOn_34 rfl (j := 2) rfl ?_
    refine v_getR C 1 rfl (T := TX2) rfl inB2 (by decide) (by decide) rfl tw_308 dX2_sendOn_35 (fun x11 => ?_)
    refine v_getR C 7 rfl (T := TX6) rfl inB6 (by decide) (by decide) rfl tw_278 dX2_sendOn_38 (fun x12 => ?_)
    refine v_iload_n C dX2_sendOn_41 rfl (j := 3) rfl ?_
    refine v_dup2 C dX2_sendOn_42 rfl rfl ?_
    refine v_lald C dX2_sendOn_43 (fun x13 => ?_)
    refine v_iload_n C dX2_sendOn_44 rfl (j := 1) rfl ?_
    refine v_iload_n C dX2_sendOn_45 rfl (j := 0) rfl ?_
    refine v_idiv C dX2_sendOn_46 (fun x14 => ?_)
    refine v_i2l C dX2_sendOn_47 (fun x15 => ?_)
    refine v_ladd C dX2_sendOn_48 ?_
    refine v_last C dX2_sendOn_49 (fun s16 => ?_)
    refine v_aload_n C dX2_sendOn_50 rfl (j := 2) rfl ?_
    refine v_getR C 1 rfl (T := TX2) rfl inB2 (by decide) (by decide) rfl tw_308 dX2_sendOn_51 (fun x17 => ?_)
    refine v_getR C 6 rfl (T := TX6) rfl inB6 (by decide) (by decide) rfl tw_276 dX2_sendOn_54 (fun x18 => ?_)
    refine v_iload_n C dX2_sendOn_57 rfl (j := 3) rfl ?_
    refine v_iload_n C dX2_sendOn_58 rfl (j := 1) rfl ?_
    refine v_iload_n C dX2_sendOn_59 rfl (j := 0) rfl ?_
    refine v_irem C dX2_sendOn_60 (fun x19 => ?_)
    refine v_iast C dX2_sendOn_61 (fun s20 => ?_)
    exact v_vret C rfl hO (fun h => Option.some.inj h) dX2_sendOn_62
-- ForesightHub$Hub.sendToPacketEnd
theorem hX2_sendToPacketEnd : yX2_sendToPacketEnd.cls ≠ "java/lang/invoke/MethodHandle" ∧ yX2_sendToPacketEnd.cls ≠ "java/lang/invoke/VarHandle" ∧ (parseMethodDescriptor yX2_sendToPacketEnd.desc).map (fun d => d.parameters.length) = some 1 := by decide +kernel
set_option maxRecDepth 100000 in
theorem kX2_sendToPacketEnd (l : Launch) (w : Wd) (P : Shp) (n : Nat) {s : St} {a0 : Int} {a1 : Int} {res : St} (h : fX2_sendToPacketEnd P s a0 a1 = some res) : Ct l w yX2_sendToPacketEnd cX2_sendToPacketEnd 3 (Option.none : Option FieldType) rX2_sendToPacketEnd P n [A w a0, I a1] s (QV w P n res) :=
  Ct.of h (by decide) (Nat.le_of_ble_eq_true rfl) (lv := [(0, A w a0), (1, I a1)]) rfl fun X hl hRm C hO => by
  subst hl
  unfold fX2_sendToPacketEnd
  refine v_aload_n C dX2_sendToPacketEnd_0 rfl (j := 0) rfl ?_
  refine v_getR C 1 rfl (T := TX2) rfl inB2 (by decide) (by decide) rfl tw_308 dX2_sendToPacketEnd_1 (fun x1 => ?_)
  refine v_getR C 6 rfl (T := TX6) rfl inB6 (by decide) (by decide) rfl tw_276 dX2_sendToPacketEnd_4 (fun x2 => ?_)
  refine v_iload_n C dX2_sendToPacketEnd_7 rfl (j := 1) rfl ?_
  refine v_iald C dX2_sendToPacketEnd_8 (fun x3 => ?_)
  refine v_aload_n C dX2_sendToPacketEnd_9 rfl (j := 0) rfl ?_
  refine v_getR C 0 rfl (T := TX2) rfl inB2 (by decide) (by decide) rfl tw_306 dX2_sendToPacketEnd_10 (fun x4 => ?_)
  refine v_getR C 14 rfl (T := TX4) rfl inB4 (by decide) (by decide) rfl tw_103 dX2_sendToPacketEnd_13 (fun x5 => ?_)
  refine v_iload_n C dX2_sendToPacketEnd_16 rfl (j := 1) rfl ?_
  refine v_iald C dX2_sendToPacketEnd_17 (fun x6 => ?_)
  refine v_iadd C dX2_sendToPacketEnd_18 ?_
  refine v_bdI (fun x7 => ?_)
  refine v_istore_n C [(2, I x7), (0, A w a0), (1, I a1)] dX2_sendToPacketEnd_19 rfl (by decide) rfl ?_
  refine v_iload_n C dX2_sendToPacketEnd_20 rfl (j := 0) rfl ?_
  refine v_aload_n C dX2_sendToPacketEnd_21 rfl (j := 1) rfl ?_
  refine v_getR C 0 rfl (T := TX2) rfl inB2 (by decide) (by decide) rfl tw_306 dX2_sendToPacketEnd_22 (fun x8 => ?_)
  refine v_getR C 15 rfl (T := TX4) rfl inB4 (by decide) (by decide) rfl tw_107 dX2_sendToPacketEnd_25 (fun x9 => ?_)
  refine v_iload_n C dX2_sendToPacketEnd_28 rfl (j := 2) rfl ?_
  refine v_iald C dX2_sendToPacketEnd_29 (fun x10 => ?_)
  refine v_jnt (fun (k48 : Int → St → Option (St)) => ∀ (x11 : Int) (s12 : St), V X w 3 P n 0 0 res (k48 x11 s12) s12 48 [(0, A w a0), (1, I a1), (2, I x11)] []) ?_ ?_
  · intro x11 s12
    refine v_aload_n C dX2_sendToPacketEnd_48 rfl (j := 0) rfl ?_
    refine v_getR C 1 rfl (T := TX2) rfl inB2 (by decide) (by decide) rfl tw_308 dX2_sendToPacketEnd_49 (fun x13 => ?_)
    refine v_getR C 6 rfl (T := TX6) rfl inB6 (by decide) (by decide) rfl tw_276 dX2_sendToPacketEnd_52 (fun x14 => ?_)
    refine v_iload_n C dX2_sendToPacketEnd_55 rfl (j := 1) rfl ?_
    refine v_iload_n C dX2_sendToPacketEnd_56 rfl (j := 2) rfl ?_
    refine v_iast C dX2_sendToPacketEnd_57 (fun s15 => ?_)
    exact v_vret C rfl hO (fun h => Option.some.inj h) dX2_sendToPacketEnd_58
  intro k48 hk48
  refine v_icmp_lt (tgt := 48) C dX2_sendToPacketEnd_30 rfl ?_ ?_
  · skip
    refine v_sub [(0, A w a0), (1, I a1), (2, I x7)] [1, 2, 0] rfl ?_
    exact hk48 x7 s
  · skip
    refine v_aload_n C dX2_sendToPacketEnd_33 rfl (j := 1) rfl ?_
    refine v_getR C 1 rfl (T := TX2) rfl inB2 (by decide) (by decide) rfl tw_308 dX2_sendToPacketEnd_34 (fun x16 => ?_)
    refine v_getR C 7 rfl (T := TX6) rfl inB6 (by decide) (by decide) rfl tw_278 dX2_sendToPacketEnd_37 (fun x17 => ?_)
    refine v_iload_n C dX2_sendToPacketEnd_40 rfl (j := 2) rfl ?_
    refine v_dup2 C dX2_sendToPacketEnd_41 rfl rfl ?_
    refine v_lald C dX2_sendToPacketEnd_42 (fun x18 => ?_)
    refine v_lconst (z := 1) C dX2_sendToPacketEnd_43 rfl ?_
    refine v_ladd C dX2_sendToPacketEnd_44 ?_
    refine v_last C dX2_sendToPacketEnd_45 (fun s19 => ?_)
    refine v_iconst C dX2_sendToPacketEnd_46 ?_
    refine v_istore_n C [(2, I 0), (0, A w a0), (1, I a1)] dX2_sendToPacketEnd_47 rfl (by decide) rfl ?_
    refine v_sub [(0, A w a0), (1, I a1), (2, I 0)] [1, 2, 0] rfl ?_
    exact hk48 0 s19
-- ForesightHub$Hub.isWrongAlarm
theorem hX2_isWrongAlarm : yX2_isWrongAlarm.cls ≠ "java/lang/invoke/MethodHandle" ∧ yX2_isWrongAlarm.cls ≠ "java/lang/invoke/VarHandle" ∧ (parseMethodDescriptor yX2_isWrongAlarm.desc).map (fun d => d.parameters.length) = some 1 := by decide +kernel
set_option maxRecDepth 100000 in
theorem kX2_isWrongAlarm (l : Launch) (w : Wd) (P : Shp) (n : Nat) {s : St} {a0 : Int} {a1 : Int} {res : Int} (h : fX2_isWrongAlarm P s a0 a1 = some res) : Ct l w yX2_isWrongAlarm cX2_isWrongAlarm 2 (some FieldType.boolean) rX2_isWrongAlarm P n [A w a0, I a1] s (QI w P n res s) :=
  Ct.of h (by decide) (Nat.le_of_ble_eq_true rfl) (lv := [(0, A w a0), (1, I a1)]) rfl fun X hl hRm C hO => by
  subst hl
  unfold fX2_isWrongAlarm
  refine v_aload_n C dX2_isWrongAlarm_0 rfl (j := 0) rfl ?_
  refine v_iload_n C dX2_isWrongAlarm_1 rfl (j := 1) rfl ?_
  refine v_callV_rI C [I a1] [] (Cee.of (rm := rX2_inAlarm) tw_460 tw_4 hX2_inAlarm rfl rfl hRm (Nat.le_of_ble_eq_true rfl) (Nat.le_of_ble_eq_true rfl)) (fun x h => kX2_inAlarm X.2.1 w _ _ h) tw_1035 tw_458 tw_459 rfl (ci := 2) rfl (by decide) rfl rfl (Nat.le_of_ble_eq_true rfl) ⟨Nat.zero_le _, Nat.zero_le _⟩ dX2_isWrongAlarm_2 (fun x1 => ?_)
  refine v_if_eq (tgt := 35) C dX2_isWrongAlarm_5 rfl ?_ ?_
  · skip
    refine v_iconst C dX2_isWrongAlarm_35 ?_
    exact v_zret C rfl hO pS dX2_isWrongAlarm_36
  · skip
    refine v_aload_n C dX2_isWrongAlarm_8 rfl (j := 0) rfl ?_
    refine v_getR C 1 rfl (T := TX2) rfl inB2 (by decide) (by decide) rfl tw_308 dX2_isWrongAlarm_9 (fun x2 => ?_)
    refine v_getI C 0 rfl (T := TX6) rfl inB6 (by decide) (by decide) rfl tw_259 dX2_isWrongAlarm_12 (fun x3 => ?_)
    refine v_aload_n C dX2_isWrongAlarm_15 rfl (j := 0) rfl ?_
    refine v_getR C 1 rfl (T := TX2) rfl inB2 (by decide) (by decide) rfl tw_308 dX2_isWrongAlarm_16 (fun x4 => ?_)
    refine v_getR C 3 rfl (T := TX6) rfl inB6 (by decide) (by decide) rfl tw_267 dX2_isWrongAlarm_19 (fun x5 => ?_)
    refine v_iload_n C dX2_isWrongAlarm_22 rfl (j := 1) rfl ?_
    refine v_iald C dX2_isWrongAlarm_23 (fun x6 => ?_)
    refine v_isub C dX2_isWrongAlarm_24 ?_
    refine v_aload_n C dX2_isWrongAlarm_25 rfl (j := 0) rfl ?_
    refine v_getR C 0 rfl (T := TX2) rfl inB2 (by decide) (by decide) rfl tw_306 dX2_isWrongAlarm_26 (fun x7 => ?_)
    refine v_getI C 3 rfl (T := TX4) rfl inB4 (by decide) (by decide) rfl tw_64 dX2_isWrongAlarm_29 (fun x8 => ?_)
    refine v_icmp_ge (tgt := 37) C dX2_isWrongAlarm_32 rfl ?_ ?_
    · skip
      refine v_aload_n C dX2_isWrongAlarm_37 rfl (j := 0) rfl ?_
      refine v_getR C 1 rfl (T := TX2) rfl inB2 (by decide) (by decide) rfl tw_308 dX2_isWrongAlarm_38 (fun x9 => ?_)
      refine v_getR C 8 rfl (T := TX6) rfl inB6 (by decide) (by decide) rfl tw_281 dX2_isWrongAlarm_41 (fun x10 => ?_)
      refine v_getR C 0 rfl (T := TX0) rfl inB0 (by decide) (by decide) rfl tw_211 dX2_isWrongAlarm_44 (fun x11 => ?_)
      refine v_iload_n C dX2_isWrongAlarm_47 rfl (j := 1) rfl ?_
      refine v_iald C dX2_isWrongAlarm_48 (fun x12 => ?_)
      refine v_if_eq (tgt := 82) C dX2_isWrongAlarm_49 rfl ?_ ?_
      · skip
        refine v_iconst C dX2_isWrongAlarm_82 ?_
        refine v_goto (tgt := 87) C dX2_isWrongAlarm_83 rfl ?_
        exact v_zret C rfl hO pS dX2_isWrongAlarm_87
      · skip
        refine v_aload_n C dX2_isWrongAlarm_52 rfl (j := 0) rfl ?_
        refine v_getR C 1 rfl (T := TX2) rfl inB2 (by decide) (by decide) rfl tw_308 dX2_isWrongAlarm_53 (fun x13 => ?_)
        refine v_getI C 0 rfl (T := TX6) rfl inB6 (by decide) (by decide) rfl tw_259 dX2_isWrongAlarm_56 (fun x14 => ?_)
        refine v_aload_n C dX2_isWrongAlarm_59 rfl (j := 0) rfl ?_
        refine v_getR C 1 rfl (T := TX2) rfl inB2 (by decide) (by decide) rfl tw_308 dX2_isWrongAlarm_60 (fun x15 => ?_)
        refine v_getR C 8 rfl (T := TX6) rfl inB6 (by decide) (by decide) rfl tw_281 dX2_isWrongAlarm_63 (fun x16 => ?_)
        refine v_iload_n C dX2_isWrongAlarm_66 rfl (j := 1) rfl ?_
        refine v_iconst C dX2_isWrongAlarm_67 ?_
        refine v_callV_rI C [I a1, I 0] [I x14] (Cee.of (rm := rX0_timeOf) tw_484 tw_6 hX0_timeOf rfl rfl hRm (Nat.le_of_ble_eq_true rfl) (Nat.le_of_ble_eq_true rfl)) (fun x h => kX0_timeOf X.2.1 w _ _ h) tw_481 tw_482 tw_483 rfl (ci := 0) rfl (by decide) rfl rfl (Nat.le_of_ble_eq_true rfl) ⟨Nat.zero_le _, Nat.zero_le _⟩ dX2_isWrongAlarm_68 (fun x17 => ?_)
        refine v_isub C dX2_isWrongAlarm_71 ?_
        refine v_aload_n C dX2_isWrongAlarm_72 rfl (j := 0) rfl ?_
        refine v_getR C 0 rfl (T := TX2) rfl inB2 (by decide) (by decide) rfl tw_306 dX2_isWrongAlarm_73 (fun x18 => ?_)
        refine v_getI C 3 rfl (T := TX4) rfl inB4 (by decide) (by decide) rfl tw_64 dX2_isWrongAlarm_76 (fun x19 => ?_)
        refine v_icmp_lt (tgt := 86) C dX2_isWrongAlarm_79 rfl ?_ ?_
        · skip
          refine v_iconst C dX2_isWrongAlarm_86 ?_
          exact v_zret C rfl hO pS dX2_isWrongAlarm_87
        · skip
          refine v_iconst C dX2_isWrongAlarm_82 ?_
          refine v_goto (tgt := 87) C dX2_isWrongAlarm_83 rfl ?_
          exact v_zret C rfl hO pS dX2_isWrongAlarm_87
    · skip
      refine v_iconst C dX2_isWrongAlarm_35 ?_
      exact v_zret C rfl hO pS dX2_isWrongAlarm_36
-- ForesightHub$ErrorBook.forget
theorem hX0_forget : yX0_forget.cls ≠ "java/lang/invoke/MethodHandle" ∧ yX0_forget.cls ≠ "java/lang/invoke/VarHandle" ∧ (parseMethodDescriptor yX0_forget.desc).map (fun d => d.parameters.length) = some 1 := by decide +kernel
set_option maxRecDepth 100000 in
theorem kX0_forget (l : Launch) (w : Wd) (P : Shp) (n : Nat) {s : St} {a0 : Int} {a1 : Int} {res : St} (h : fX0_forget P s a0 a1 = some res) : Ct l w yX0_forget cX0_forget 2 (Option.none : Option FieldType) rX0_forget P n [A w a0, I a1] s (QV w P n res) :=
  Ct.of h (by decide) (Nat.le_of_ble_eq_true rfl) (lv := [(0, A w a0), (1, I a1)]) rfl fun X hl hRm C hO => by
  subst hl
  unfold fX0_forget
  refine v_iload_n C dX0_forget_0 rfl (j := 1) rfl ?_
  refine v_if_lt (tgt := 17) C dX0_forget_1 rfl ?_ ?_
  · skip
    exact v_vret C rfl hO (fun h => Option.some.inj h) dX0_forget_17
  · skip
    refine v_iload_n C dX0_forget_4 rfl (j := 1) rfl ?_
    refine v_bipush C dX0_forget_5 (by decide) ?_
    refine v_icmp_ge (tgt := 17) C dX0_forget_7 rfl ?_ ?_
    · skip
      exact v_vret C rfl hO (fun h => Option.some.inj h) dX0_forget_17
    · skip
      refine v_aload_n C dX0_forget_10 rfl (j := 0) rfl ?_
      refine v_getR C 0 rfl (T := TX0) rfl inB0 (by decide) (by decide) rfl tw_209 dX0_forget_11 (fun x1 => ?_)
      refine v_iload_n C dX0_forget_14 rfl (j := 1) rfl ?_
      refine v_iconst C dX0_forget_15 ?_
      refine v_iast C dX0_forget_16 (fun s2 => ?_)
      exact v_vret C rfl hO (fun h => Option.some.inj h) dX0_forget_17
-- ForesightHub$Hub.endWrongAlarm
theorem hX2_endWrongAlarm : yX2_endWrongAlarm.cls ≠ "java/lang/invoke/MethodHandle" ∧ yX2_endWrongAlarm.cls ≠ "java/lang/invoke/VarHandle" ∧ (parseMethodDescriptor yX2_endWrongAlarm.desc).map (fun d => d.parameters.length) = some 1 := by decide +kernel
set_option maxRecDepth 100000 in
theorem kX2_endWrongAlarm (l : Launch) (w : Wd) (P : Shp) (n : Nat) {s : St} {a0 : Int} {a1 : Int} {res : St} (h : fX2_endWrongAlarm P s a0 a1 = some res) : Ct l w yX2_endWrongAlarm cX2_endWrongAlarm 2 (Option.none : Option FieldType) rX2_endWrongAlarm P n [A w a0, I a1] s (QV w P n res) :=
  Ct.of h (by decide) (Nat.le_of_ble_eq_true rfl) (lv := [(0, A w a0), (1, I a1)]) rfl fun X hl hRm C hO => by
  subst hl
  unfold fX2_endWrongAlarm
  refine v_aload_n C dX2_endWrongAlarm_0 rfl (j := 0) rfl ?_
  refine v_iload_n C dX2_endWrongAlarm_1 rfl (j := 1) rfl ?_
  refine v_callV_rI C [I a1] [] (Cee.of (rm := rX2_isDevice) tw_440 tw_4 hX2_isDevice rfl rfl hRm (Nat.le_of_ble_eq_true rfl) (Nat.le_of_ble_eq_true rfl)) (fun x h => kX2_isDevice X.2.1 w _ _ h) tw_461 tw_438 tw_439 rfl (ci := 2) rfl (by decide) rfl rfl (Nat.le_of_ble_eq_true rfl) ⟨Nat.zero_le _, Nat.zero_le _⟩ dX2_endWrongAlarm_2 (fun x1 => ?_)
  refine v_if_eq (tgt := 48) C dX2_endWrongAlarm_5 rfl ?_ ?_
  · skip
    exact v_vret C rfl hO (fun h => Option.some.inj h) dX2_endWrongAlarm_48
  · skip
    refine v_aload_n C dX2_endWrongAlarm_8 rfl (j := 0) rfl ?_
    refine v_getR C 1 rfl (T := TX2) rfl inB2 (by decide) (by decide) rfl tw_308 dX2_endWrongAlarm_9 (fun x2 => ?_)
    refine v_getR C 3 rfl (T := TX6) rfl inB6 (by decide) (by decide) rfl tw_267 dX2_endWrongAlarm_12 (fun x3 => ?_)
    refine v_iload_n C dX2_endWrongAlarm_15 rfl (j := 1) rfl ?_
    refine v_iconst C dX2_endWrongAlarm_16 ?_
    refine v_iast C dX2_endWrongAlarm_17 (fun s4 => ?_)
    refine v_aload_n C dX2_endWrongAlarm_18 rfl (j := 0) rfl ?_
    refine v_getR C 1 rfl (T := TX2) rfl inB2 (by decide) (by decide) rfl tw_308 dX2_endWrongAlarm_19 (fun x5 => ?_)
    refine v_getR C 8 rfl (T := TX6) rfl inB6 (by decide) (by decide) rfl tw_281 dX2_endWrongAlarm_22 (fun x6 => ?_)
    refine v_iload_n C dX2_endWrongAlarm_25 rfl (j := 1) rfl ?_
    refine v_callV_wV C [I a1] [] (Cee.of (rm := rX0_forget) tw_1077 tw_6 hX0_forget rfl rfl hRm (Nat.le_of_ble_eq_true rfl) (Nat.le_of_ble_eq_true rfl)) (fun x h => kX0_forget X.2.1 w _ _ h) tw_1074 tw_1075 tw_1076 rfl (ci := 0) rfl (by decide) rfl rfl (Nat.le_of_ble_eq_true rfl) ⟨Nat.zero_le _, Nat.zero_le _⟩ dX2_endWrongAlarm_26 (fun s7 => ?_)
    refine v_aload_n C dX2_endWrongAlarm_29 rfl (j := 0) rfl ?_
    refine v_getR C 1 rfl (T := TX2) rfl inB2 (by decide) (by decide) rfl tw_308 dX2_endWrongAlarm_30 (fun x8 => ?_)
    refine v_getR C 9 rfl (T := TX6) rfl inB6 (by decide) (by decide) rfl tw_284 dX2_endWrongAlarm_33 (fun x9 => ?_)
    refine v_iconst C dX2_endWrongAlarm_36 ?_
    refine v_iload_n C dX2_endWrongAlarm_37 rfl (j := 1) rfl ?_
    refine v_aload_n C dX2_endWrongAlarm_38 rfl (j := 0) rfl ?_
    refine v_getR C 1 rfl (T := TX2) rfl inB2 (by decide) (by decide) rfl tw_308 dX2_endWrongAlarm_39 (fun x10 => ?_)
    refine v_getI C 0 rfl (T := TX6) rfl inB6 (by decide) (by decide) rfl tw_259 dX2_endWrongAlarm_42 (fun x11 => ?_)
    refine v_callV_wV C [I 1, I a1, I x11] [] (Cee.of (rm := rX3_add) tw_978 tw_7 hX3_add rfl rfl hRm (Nat.le_of_ble_eq_true rfl) (Nat.le_of_ble_eq_true rfl)) (fun x h => kX3_add X.2.1 w _ _ h) tw_975 tw_976 tw_977 rfl (ci := 3) rfl (by decide) rfl rfl (Nat.le_of_ble_eq_true rfl) ⟨Nat.zero_le _, Nat.zero_le _⟩ dX2_endWrongAlarm_45 (fun s12 => ?_)
    exact v_vret C rfl hO (fun h => Option.some.inj h) dX2_endWrongAlarm_48
-- ForesightHub$Hub.passFrame
set_option maxRecDepth 100000 in
theorem vX2_passFrame_L15 {X : Cxt} {w : Wd} {P : Shp} {n : Nat} (res : St) (hRm : X.2.2.2.1 = rX2_passFrame) (C : Cok X w cX2_passFrame 2 RX2 (Option.none : Option FieldType)) (hO : Own X w 0 0 (QV w P n res))  (c0 : Int) (kE71 : St → Option (St)) (hE71 : ∀ (se : St), V X w 2 P n 0 0 res (kE71 se) se 71 [(0, A w c0)] []) : ∀ (fuel : Nat) (p1 : Int) (s : St), V X w 2 P n 0 0 res (fX2_passFrame_L15 P c0 kE71 fuel p1 s) s 15 [(0, A w c0), (1, I p1)] [] := by
  intro fuel
  induction fuel with
  | zero => intro p1 s; exact v_none
  | succ m ih =>
    intro p1 s
    rw [fX2_passFrame_L15]
    refine v_iload_n C dX2_passFrame_15 rfl (j := 1) rfl ?_
    refine v_aload_n C dX2_passFrame_16 rfl (j := 0) rfl ?_
    refine v_getR C 0 rfl (T := TX2) rfl inB2 (by decide) (by decide) rfl tw_306 dX2_passFrame_17 (fun x4 => ?_)
    refine v_getI C 6 rfl (T := TX4) rfl inB4 (by decide) (by decide) rfl tw_76 dX2_passFrame_20 (fun x5 => ?_)
    refine v_icmp_ge (tgt := 71) C dX2_passFrame_23 rfl ?_ ?_
    · skip
      refine v_sub [(0, A w c0)] [0] rfl ?_
      exact hE71 s
    · skip
      refine v_aload_n C dX2_passFrame_26 rfl (j := 0) rfl ?_
      refine v_getR C 1 rfl (T := TX2) rfl inB2 (by decide) (by decide) rfl tw_308 dX2_passFrame_27 (fun x6 => ?_)
      refine v_getR C 5 rfl (T := TX6) rfl inB6 (by decide) (by decide) rfl tw_273 dX2_passFrame_30 (fun x7 => ?_)
      refine v_iload_n C dX2_passFrame_33 rfl (j := 1) rfl ?_
      refine v_iald C dX2_passFrame_34 (fun x8 => ?_)
      refine v_iconst C dX2_passFrame_35 ?_
      refine v_jnt (fun (k65 : St → Option (St)) => ∀ (s9 : St), V X w 2 P n 0 0 res (k65 s9) s9 65 [(0, A w c0), (1, I p1)] []) ?_ ?_
      · intro s9
        refine v_iinc C (j := 1) [(0, A w c0)] dX2_passFrame_65 (by decide) rfl (fun _ => rfl) (fun x10 => ?_)
        refine v_goto (tgt := 15) C dX2_passFrame_68 rfl ?_
        refine v_sub [(0, A w c0), (1, I x10)] [1, 0] rfl ?_
        exact ih x10 s9
      intro k65 hk65
      refine v_icmp_ne (tgt := 47) C dX2_passFrame_36 rfl ?_ ?_
      · skip
        refine v_aload_n C dX2_passFrame_47 rfl (j := 0) rfl ?_
        refine v_getR C 1 rfl (T := TX2) rfl inB2 (by decide) (by decide) rfl tw_308 dX2_passFrame_48 (fun x11 => ?_)
        refine v_getR C 5 rfl (T := TX6) rfl inB6 (by decide) (by decide) rfl tw_273 dX2_passFrame_51 (fun x12 => ?_)
        refine v_iload_n C dX2_passFrame_54 rfl (j := 1) rfl ?_
        refine v_iald C dX2_passFrame_55 (fun x13 => ?_)
        refine v_iconst C dX2_passFrame_56 ?_
        refine v_icmp_ne (tgt := 65) C dX2_passFrame_57 rfl ?_ ?_
        · skip
          exact hk65 s
        · skip
          refine v_aload_n C dX2_passFrame_60 rfl (j := 0) rfl ?_
          refine v_iload_n C dX2_passFrame_61 rfl (j := 1) rfl ?_
          refine v_callV_wV C [I p1] [] (Cee.of (rm := rX2_sendToPacketEnd) tw_1095 tw_4 hX2_sendToPacketEnd rfl rfl hRm (Nat.le_of_ble_eq_true rfl) (Nat.le_of_ble_eq_true rfl)) (fun x h => kX2_sendToPacketEnd X.2.1 w _ _ h) tw_1092 tw_1094 ts_31 rfl (ci := 2) rfl (by decide) rfl rfl (Nat.le_of_ble_eq_true rfl) ⟨Nat.zero_le _, Nat.zero_le _⟩ dX2_passFrame_62 (fun s14 => ?_)
          exact hk65 s14
      · skip
        refine v_aload_n C dX2_passFrame_39 rfl (j := 0) rfl ?_
        refine v_iload_n C dX2_passFrame_40 rfl (j := 1) rfl ?_
        refine v_callV_wV C [I p1] [] (Cee.of (rm := rX2_sendOn) tw_1091 tw_4 hX2_sendOn rfl rfl hRm (Nat.le_of_ble_eq_true rfl) (Nat.le_of_ble_eq_true rfl)) (fun x h => kX2_sendOn X.2.1 w _ _ h) tw_1088 tw_1090 ts_30 rfl (ci := 2) rfl (by decide) rfl rfl (Nat.le_of_ble_eq_true rfl) ⟨Nat.zero_le _, Nat.zero_le _⟩ dX2_passFrame_41 (fun s15 => ?_)
        refine v_goto (tgt := 65) C dX2_passFrame_44 rfl ?_
        exact hk65 s15
set_option maxRecDepth 100000 in
theorem vX2_passFrame_L73 {X : Cxt} {w : Wd} {P : Shp} {n : Nat} (res : St) (hRm : X.2.2.2.1 = rX2_passFrame) (C : Cok X w cX2_passFrame 2 RX2 (Option.none : Option FieldType)) (hO : Own X w 0 0 (QV w P n res))  (c0 : Int) (kE103 : St → Option (St)) (hE103 : ∀ (se : St), V X w 2 P n 0 0 res (kE103 se) se 103 [(0, A w c0)] []) : ∀ (fuel : Nat) (p1 : Int) (s : St), V X w 2 P n 0 0 res (fX2_passFrame_L73 P c0 kE103 fuel p1 s) s 73 [(0, A w c0), (1, I p1)] [] := by
  intro fuel
  induction fuel with
  | zero => intro p1 s; exact v_none
  | succ m ih =>
    intro p1 s
    rw [fX2_passFrame_L73]
    refine v_iload_n C dX2_passFrame_73 rfl (j := 1) rfl ?_
    refine v_aload_n C dX2_passFrame_74 rfl (j := 0) rfl ?_
    refine v_getR C 0 rfl (T := TX2) rfl inB2 (by decide) (by decide) rfl tw_306 dX2_passFrame_75 (fun x17 => ?_)
    refine v_getI C 5 rfl (T := TX4) rfl inB4 (by decide) (by decide) rfl tw_71 dX2_passFrame_78 (fun x18 => ?_)
    refine v_icmp_ge (tgt := 103) C dX2_passFrame_81 rfl ?_ ?_
    · skip
      refine v_sub [(0, A w c0)] [0] rfl ?_
      exact hE103 s
    · skip
      refine v_aload_n C dX2_passFrame_84 rfl (j := 0) rfl ?_
      refine v_iload_n C dX2_passFrame_85 rfl (j := 1) rfl ?_
      refine v_callV_rI C [I p1] [] (Cee.of (rm := rX2_isWrongAlarm) tw_1099 tw_4 hX2_isWrongAlarm rfl rfl hRm (Nat.le_of_ble_eq_true rfl) (Nat.le_of_ble_eq_true rfl)) (fun x h => kX2_isWrongAlarm X.2.1 w _ _ h) tw_1096 tw_1098 ts_32 rfl (ci := 2) rfl (by decide) rfl rfl (Nat.le_of_ble_eq_true rfl) ⟨Nat.zero_le _, Nat.zero_le _⟩ dX2_passFrame_86 (fun x19 => ?_)
      refine v_jnt (fun (k97 : St → Option (St)) => ∀ (s20 : St), V X w 2 P n 0 0 res (k97 s20) s20 97 [(0, A w c0), (1, I p1)] []) ?_ ?_
      · intro s20
        refine v_iinc C (j := 1) [(0, A w c0)] dX2_passFrame_97 (by decide) rfl (fun _ => rfl) (fun x21 => ?_)
        refine v_goto (tgt := 73) C dX2_passFrame_100 rfl ?_
        refine v_sub [(0, A w c0), (1, I x21)] [1, 0] rfl ?_
        exact ih x21 s20
      intro k97 hk97
      refine v_if_eq (tgt := 97) C dX2_passFrame_89 rfl ?_ ?_
      · skip
        exact hk97 s
      · skip
        refine v_aload_n C dX2_passFrame_92 rfl (j := 0) rfl ?_
        refine v_iload_n C dX2_passFrame_93 rfl (j := 1) rfl ?_
        refine v_callV_wV C [I p1] [] (Cee.of (rm := rX2_endWrongAlarm) tw_1073 tw_4 hX2_endWrongAlarm rfl rfl hRm (Nat.le_of_ble_eq_true rfl) (Nat.le_of_ble_eq_true rfl)) (fun x h => kX2_endWrongAlarm X.2.1 w _ _ h) tw_1100 tw_1071 tw_1072 rfl (ci := 2) rfl (by decide) rfl rfl (Nat.le_of_ble_eq_true rfl) ⟨Nat.zero_le _, Nat.zero_le _⟩ dX2_passFrame_94 (fun s22 => ?_)
        exact hk97 s22
theorem hX2_passFrame : yX2_passFrame.cls ≠ "java/lang/invoke/MethodHandle" ∧ yX2_passFrame.cls ≠ "java/lang/invoke/VarHandle" ∧ (parseMethodDescriptor yX2_passFrame.desc).map (fun d => d.parameters.length) = some 0 := by decide +kernel
set_option maxRecDepth 100000 in
theorem kX2_passFrame (l : Launch) (w : Wd) (P : Shp) (n : Nat) {s : St} {a0 : Int} {res : St} (h : fX2_passFrame P s a0 = some res) : Ct l w yX2_passFrame cX2_passFrame 2 (Option.none : Option FieldType) rX2_passFrame P n [A w a0] s (QV w P n res) :=
  Ct.of h (by decide) (Nat.le_of_ble_eq_true rfl) (lv := [(0, A w a0)]) rfl fun X hl hRm C hO => by
  subst hl
  unfold fX2_passFrame
  refine v_aload_n C dX2_passFrame_0 rfl (j := 0) rfl ?_
  refine v_getR C 1 rfl (T := TX2) rfl inB2 (by decide) (by decide) rfl tw_308 dX2_passFrame_1 (fun x1 => ?_)
  refine v_dup C dX2_passFrame_4 rfl ?_
  refine v_getI C 0 rfl (T := TX6) rfl inB6 (by decide) (by decide) rfl tw_259 dX2_passFrame_5 (fun x2 => ?_)
  refine v_iconst C dX2_passFrame_8 ?_
  refine v_iadd C dX2_passFrame_9 ?_
  refine v_putI C 0 rfl (T := TX6) rfl inB6 (by decide) tyX6_ok nmX6 (by decide) rfl rfl tw_259 dX2_passFrame_10 rfl (fun s3 => ?_)
  refine v_iconst C dX2_passFrame_13 ?_
  refine v_istore_n C [(1, I 0), (0, A w a0)] dX2_passFrame_14 rfl (by decide) rfl ?_
  refine v_sub [(0, A w a0), (1, I 0)] [1, 0] rfl ?_
  refine vX2_passFrame_L15 res hRm C hO a0 _ ?_ 1000 0 s3
  · intro s16
    refine v_iconst C dX2_passFrame_71 ?_
    refine v_istore_n C [(1, I 0), (0, A w a0)] dX2_passFrame_72 rfl (by decide) rfl ?_
    refine v_sub [(0, A w a0), (1, I 0)] [1, 0] rfl ?_
    refine vX2_passFrame_L73 res hRm C hO a0 _ ?_ 1000 0 s16
    · intro s23
      refine v_aload_n C dX2_passFrame_103 rfl (j := 0) rfl ?_
      refine v_callV_wV C [] [] (Cee.of (rm := rX2_settle) tw_958 tw_4 hX2_settle rfl rfl hRm (Nat.le_of_ble_eq_true rfl) (Nat.le_of_ble_eq_true rfl)) (fun x h => kX2_settle X.2.1 w _ _ h) tw_955 tw_956 tw_957 rfl (ci := 2) rfl (by decide) rfl rfl (Nat.le_of_ble_eq_true rfl) ⟨Nat.zero_le _, Nat.zero_le _⟩ dX2_passFrame_104 (fun s24 => ?_)
      exact v_vret C rfl hO (fun h => Option.some.inj h) dX2_passFrame_107
-- ForesightHub.frames
set_option maxRecDepth 100000 in
theorem vX7_frames_L38 {X : Cxt} {w : Wd} {P : Shp} {n : Nat} (res : Int × St) (hRm : X.2.2.2.1 = rX7_frames) (C : Cok X w cX7_frames 3 RX7 (some FieldType.int)) (hO : Own X w 0 0 (QI w P n res.1 res.2))  (c0 : Int) (c1 : Int) (kE56 : St → Option (Int × St)) (hE56 : ∀ (se : St), V X w 3 P n 0 0 res (kE56 se) se 56 [(0, A w c0)] []) : ∀ (fuel : Nat) (p2 : Int) (s : St), V X w 3 P n 0 0 res (fX7_frames_L38 P c0 c1 kE56 fuel p2 s) s 38 [(0, A w c0), (1, I c1), (2, I p2)] [] := by
  intro fuel
  induction fuel with
  | zero => intro p2 s; exact v_none
  | succ m ih =>
    intro p2 s
    rw [fX7_frames_L38]
    refine v_iload_n C dX7_frames_38 rfl (j := 2) rfl ?_
    refine v_iload_n C dX7_frames_39 rfl (j := 1) rfl ?_
    refine v_icmp_ge (tgt := 56) C dX7_frames_40 rfl ?_ ?_
    · skip
      refine v_sub [(0, A w c0)] [0] rfl ?_
      exact hE56 s
    · skip
      refine v_aload_n C dX7_frames_43 rfl (j := 0) rfl ?_
      refine v_getR C 1 rfl (T := TX7) rfl inB7 (by decide) (by decide) rfl tw_338 dX7_frames_44 (fun x5 => ?_)
      refine v_callV_wV C [] [] (Cee.of (rm := rX2_passFrame) tw_1087 tw_4 hX2_passFrame rfl rfl hRm (Nat.le_of_ble_eq_true rfl) (Nat.le_of_ble_eq_true rfl)) (fun x h => kX2_passFrame X.2.1 w _ _ h) tw_1084 tw_1085 tw_1086 rfl (ci := 2) rfl (by decide) rfl rfl (Nat.le_of_ble_eq_true rfl) ⟨Nat.zero_le _, Nat.zero_le _⟩ dX7_frames_47 (fun s6 => ?_)
      refine v_iinc C (j := 2) [(0, A w c0), (1, I c1)] dX7_frames_50 (by decide) rfl (fun _ => rfl) (fun x7 => ?_)
      refine v_goto (tgt := 38) C dX7_frames_53 rfl ?_
      refine v_sub [(0, A w c0), (1, I c1), (2, I x7)] [1, 2, 0] rfl ?_
      exact ih x7 s6
theorem hX7_frames : yX7_frames.cls ≠ "java/lang/invoke/MethodHandle" ∧ yX7_frames.cls ≠ "java/lang/invoke/VarHandle" ∧ (parseMethodDescriptor yX7_frames.desc).map (fun d => d.parameters.length) = some 1 := by decide +kernel
set_option maxRecDepth 100000 in
theorem kX7_frames (l : Launch) (w : Wd) (P : Shp) (n : Nat) {s : St} {a0 : Int} {a1 : Int} {res : Int × St} (h : fX7_frames P s a0 a1 = some res) : Ct l w yX7_frames cX7_frames 3 (some FieldType.int) rX7_frames P n [A w a0, I a1] s (QI w P n res.1 res.2) :=
  Ct.of h (by decide) (Nat.le_of_ble_eq_true rfl) (lv := [(0, A w a0), (1, I a1)]) rfl fun X hl hRm C hO => by
  subst hl
  unfold fX7_frames
  refine v_iload_n C dX7_frames_0 rfl (j := 1) rfl ?_
  refine v_iconst C dX7_frames_1 ?_
  refine v_jnt (fun (k12 : Option (Int × St)) => V X w 3 P n 0 0 res (k12) s 12 [] []) ?_ ?_
  · skip
    exact v_none
  intro k12 hk12
  refine v_icmp_lt (tgt := 12) C dX7_frames_2 rfl ?_ ?_
  · skip
    refine v_sub [] [] rfl ?_
    exact hk12
  · skip
    refine v_iload_n C dX7_frames_5 rfl (j := 1) rfl ?_
    refine v_sipush C dX7_frames_6 (by decide) ?_
    refine v_icmp_le (tgt := 22) C dX7_frames_9 rfl ?_ ?_
    · skip
      refine v_aload_n C dX7_frames_22 rfl (j := 0) rfl ?_
      refine v_getR C 2 rfl (T := TX7) rfl inB7 (by decide) (by decide) rfl tw_339 dX7_frames_23 (fun x1 => ?_)
      refine v_aload_n C dX7_frames_26 rfl (j := 0) rfl ?_
      refine v_getR C 1 rfl (T := TX7) rfl inB7 (by decide) (by decide) rfl tw_338 dX7_frames_27 (fun x2 => ?_)
      refine v_getR C 1 rfl (T := TX2) rfl inB2 (by decide) (by decide) rfl tw_309 dX7_frames_30 (fun x3 => ?_)
      refine v_callV_wV C [A w x3] [] (Cee.of (rm := rX1_remember) tw_1017 tw_8 hX1_remember rfl rfl hRm (Nat.le_of_ble_eq_true rfl) (Nat.le_of_ble_eq_true rfl)) (fun x h => kX1_remember X.2.1 w _ _ h) tw_1014 tw_1015 tw_1016 rfl (ci := 1) rfl (by decide) rfl rfl (Nat.le_of_ble_eq_true rfl) ⟨Nat.zero_le _, Nat.zero_le _⟩ dX7_frames_33 (fun s4 => ?_)
      refine v_iconst C dX7_frames_36 ?_
      refine v_istore_n C [(2, I 0), (0, A w a0), (1, I a1)] dX7_frames_37 rfl (by decide) rfl ?_
      refine v_sub [(0, A w a0), (1, I a1), (2, I 0)] [1, 2, 0] rfl ?_
      refine vX7_frames_L38 res hRm C hO a0 a1 _ ?_ 1000 0 s4
      · intro s8
        refine v_aload_n C dX7_frames_56 rfl (j := 0) rfl ?_
        refine v_getR C 1 rfl (T := TX7) rfl inB7 (by decide) (by decide) rfl tw_338 dX7_frames_57 (fun x9 => ?_)
        refine v_callV_rI C [] [] (Cee.of (rm := rX2_reserved) tw_361 tw_4 hX2_reserved rfl rfl hRm (Nat.le_of_ble_eq_true rfl) (Nat.le_of_ble_eq_true rfl)) (fun x h => kX2_reserved X.2.1 w _ _ h) tw_358 tw_359 tw_360 rfl (ci := 2) rfl (by decide) rfl rfl (Nat.le_of_ble_eq_true rfl) ⟨Nat.zero_le _, Nat.zero_le _⟩ dX7_frames_60 (fun x10 => ?_)
        exact v_iret C rfl hO pI dX7_frames_63
    · skip
      refine v_sub [] [] rfl ?_
      exact hk12
-- ForesightHub.requireKind
theorem hX7_requireKind : yX7_requireKind.cls ≠ "java/lang/invoke/MethodHandle" ∧ yX7_requireKind.cls ≠ "java/lang/invoke/VarHandle" ∧ (parseMethodDescriptor yX7_requireKind.desc).map (fun d => d.parameters.length) = some 1 := by decide +kernel
set_option maxRecDepth 100000 in
theorem kX7_requireKind (l : Launch) (w : Wd) (P : Shp) (n : Nat) {s : St} {a0 : Int} {a1 : Int} {res : Unit} (h : fX7_requireKind P s a0 a1 = some res) : Ct l w yX7_requireKind cX7_requireKind 2 (Option.none : Option FieldType) rX7_requireKind P n [A w a0, I a1] s (QV w P n s) :=
  Ct.of h (by decide) (Nat.le_of_ble_eq_true rfl) (lv := [(0, A w a0), (1, I a1)]) rfl fun X hl hRm C hO => by
  subst hl
  unfold fX7_requireKind
  refine v_iload_n C dX7_requireKind_0 rfl (j := 1) rfl ?_
  refine v_jnt (fun (k9 : Option (Unit)) => V X w 2 P n 0 0 res (k9) s 9 [] []) ?_ ?_
  · skip
    exact v_none
  intro k9 hk9
  refine v_if_lt (tgt := 9) C dX7_requireKind_1 rfl ?_ ?_
  · skip
    refine v_sub [] [] rfl ?_
    exact hk9
  · skip
    refine v_iload_n C dX7_requireKind_4 rfl (j := 1) rfl ?_
    refine v_iconst C dX7_requireKind_5 ?_
    refine v_icmp_lt (tgt := 20) C dX7_requireKind_6 rfl ?_ ?_
    · skip
      exact v_vret C rfl hO (fun h => rfl) dX7_requireKind_20
    · skip
      refine v_sub [] [] rfl ?_
      exact hk9
-- ForesightHub.requirePluggedIn
theorem hX7_requirePluggedIn : yX7_requirePluggedIn.cls ≠ "java/lang/invoke/MethodHandle" ∧ yX7_requirePluggedIn.cls ≠ "java/lang/invoke/VarHandle" ∧ (parseMethodDescriptor yX7_requirePluggedIn.desc).map (fun d => d.parameters.length) = some 1 := by decide +kernel
set_option maxRecDepth 100000 in
theorem kX7_requirePluggedIn (l : Launch) (w : Wd) (P : Shp) (n : Nat) {s : St} {a0 : Int} {a1 : Int} {res : Unit} (h : fX7_requirePluggedIn P s a0 a1 = some res) : Ct l w yX7_requirePluggedIn cX7_requirePluggedIn 2 (Option.none : Option FieldType) rX7_requirePluggedIn P n [A w a0, I a1] s (QV w P n s) :=
  Ct.of h (by decide) (Nat.le_of_ble_eq_true rfl) (lv := [(0, A w a0), (1, I a1)]) rfl fun X hl hRm C hO => by
  subst hl
  unfold fX7_requirePluggedIn
  refine v_aload_n C dX7_requirePluggedIn_0 rfl (j := 0) rfl ?_
  refine v_getR C 1 rfl (T := TX7) rfl inB7 (by decide) (by decide) rfl tw_338 dX7_requirePluggedIn_1 (fun x1 => ?_)
  refine v_iload_n C dX7_requirePluggedIn_4 rfl (j := 1) rfl ?_
  refine v_callV_rI C [I a1] [] (Cee.of (rm := rX2_isPluggedIn) tw_518 tw_4 hX2_isPluggedIn rfl rfl hRm (Nat.le_of_ble_eq_true rfl) (Nat.le_of_ble_eq_true rfl)) (fun x h => kX2_isPluggedIn X.2.1 w _ _ h) tw_997 tw_516 tw_517 rfl (ci := 2) rfl (by decide) rfl rfl (Nat.le_of_ble_eq_true rfl) ⟨Nat.zero_le _, Nat.zero_le _⟩ dX7_requirePluggedIn_5 (fun x2 => ?_)
  refine v_if_ne (tgt := 22) C dX7_requirePluggedIn_8 rfl ?_ ?_
  · skip
    exact v_vret C rfl hO (fun h => rfl) dX7_requirePluggedIn_22
  · skip
    exact v_none
-- ForesightHub$ErrorBook.dropOldest
set_option maxRecDepth 100000 in
theorem vX0_dropOldest_L7 {X : Cxt} {w : Wd} {P : Shp} {n : Nat} (res : St) (hRm : X.2.2.2.1 = rX0_dropOldest) (C : Cok X w cX0_dropOldest 4 RX0 (Option.none : Option FieldType)) (hO : Own X w 0 0 (QV w P n res))  (c0 : Int) (c1 : Int) (c2 : Int) (kE51 : St → Option (St)) (hE51 : ∀ (se : St), V X w 4 P n 0 0 res (kE51 se) se 51 [(0, A w c0), (1, I c1)] []) : ∀ (fuel : Nat) (p3 : Int) (s : St), V X w 4 P n 0 0 res (fX0_dropOldest_L7 P c0 c1 c2 kE51 fuel p3 s) s 7 [(0, A w c0), (1, I c1), (2, I c2), (3, I p3)] [] := by
  intro fuel
  induction fuel with
  | zero => intro p3 s; exact v_none
  | succ m ih =>
    intro p3 s
    rw [fX0_dropOldest_L7]
    refine v_iload_n C dX0_dropOldest_7 rfl (j := 3) rfl ?_
    refine v_iload_n C dX0_dropOldest_8 rfl (j := 2) rfl ?_
    refine v_bipush C dX0_dropOldest_9 (by decide) ?_
    refine v_iadd C dX0_dropOldest_11 ?_
    refine v_iconst C dX0_dropOldest_12 ?_
    refine v_isub C dX0_dropOldest_13 ?_
    refine v_icmp_ge (tgt := 51) C dX0_dropOldest_14 rfl ?_ ?_
    · skip
      refine v_sub [(0, A w c0), (1, I c1)] [0, 1] rfl ?_
      exact hE51 s
    · skip
      refine v_aload_n C dX0_dropOldest_17 rfl (j := 0) rfl ?_
      refine v_getR C 1 rfl (T := TX0) rfl inB0 (by decide) (by decide) rfl tw_212 dX0_dropOldest_18 (fun x2 => ?_)
      refine v_iload_n C dX0_dropOldest_21 rfl (j := 3) rfl ?_
      refine v_aload_n C dX0_dropOldest_22 rfl (j := 0) rfl ?_
      refine v_getR C 1 rfl (T := TX0) rfl inB0 (by decide) (by decide) rfl tw_212 dX0_dropOldest_23 (fun x3 => ?_)
      refine v_iload_n C dX0_dropOldest_26 rfl (j := 3) rfl ?_
      refine v_iconst C dX0_dropOldest_27 ?_
      refine v_iadd C dX0_dropOldest_28 ?_
      refine v_iald C dX0_dropOldest_29 (fun x4 => ?_)
      refine v_iast C dX0_dropOldest_30 (fun s5 => ?_)
      refine v_aload_n C dX0_dropOldest_31 rfl (j := 0) rfl ?_
      refine v_getR C 2 rfl (T := TX0) rfl inB0 (by decide) (by decide) rfl tw_213 dX0_dropOldest_32 (fun x6 => ?_)
      refine v_iload_n C dX0_dropOldest_35 rfl (j := 3) rfl ?_
      refine v_aload_n C dX0_dropOldest_36 rfl (j := 0) rfl ?_
      refine v_getR C 2 rfl (T := TX0) rfl inB0 (by decide) (by decide) rfl tw_213 dX0_dropOldest_37 (fun x7 => ?_)
      refine v_iload_n C dX0_dropOldest_40 rfl (j := 3) rfl ?_
      refine v_iconst C dX0_dropOldest_41 ?_
      refine v_iadd C dX0_dropOldest_42 ?_
      refine v_iald C dX0_dropOldest_43 (fun x8 => ?_)
      refine v_iast C dX0_dropOldest_44 (fun s9 => ?_)
      refine v_iinc C (j := 3) [(0, A w c0), (1, I c1), (2, I c2)] dX0_dropOldest_45 (by decide) rfl (fun _ => rfl) (fun x10 => ?_)
      refine v_goto (tgt := 7) C dX0_dropOldest_48 rfl ?_
      refine v_sub [(0, A w c0), (1, I c1), (2, I c2), (3, I x10)] [1, 2, 3, 0] rfl ?_
      exact ih x10 s9
theorem hX0_dropOldest : yX0_dropOldest.cls ≠ "java/lang/invoke/MethodHandle" ∧ yX0_dropOldest.cls ≠ "java/lang/invoke/VarHandle" ∧ (parseMethodDescriptor yX0_dropOldest.desc).map (fun d => d.parameters.length) = some 1 := by decide +kernel
set_option maxRecDepth 100000 in
theorem kX0_dropOldest (l : Launch) (w : Wd) (P : Shp) (n : Nat) {s : St} {a0 : Int} {a1 : Int} {res : St} (h : fX0_dropOldest P s a0 a1 = some res) : Ct l w yX0_dropOldest cX0_dropOldest 4 (Option.none : Option FieldType) rX0_dropOldest P n [A w a0, I a1] s (QV w P n res) :=
  Ct.of h (by decide) (Nat.le_of_ble_eq_true rfl) (lv := [(0, A w a0), (1, I a1)]) rfl fun X hl hRm C hO => by
  subst hl
  unfold fX0_dropOldest
  refine v_iload_n C dX0_dropOldest_0 rfl (j := 1) rfl ?_
  refine v_bipush C dX0_dropOldest_1 (by decide) ?_
  refine v_imul C dX0_dropOldest_3 ?_
  refine v_bdI (fun x1 => ?_)
  refine v_istore_n C [(2, I x1), (0, A w a0), (1, I a1)] dX0_dropOldest_4 rfl (by decide) rfl ?_
  refine v_iload_n C dX0_dropOldest_5 rfl (j := 0) rfl ?_
  refine v_istore_n C [(3, I x1), (2, I x1), (0, A w a0), (1, I a1)] dX0_dropOldest_6 rfl (by decide) rfl ?_
  refine v_sub [(0, A w a0), (1, I a1), (2, I x1), (3, I x1)] [2, 3, 1, 0] rfl ?_
  refine vX0_dropOldest_L7 res hRm C hO a0 a1 x1 _ ?_ 1000 x1 s
  · intro s11
    refine v_aload_n C dX0_dropOldest_51 rfl (j := 0) rfl ?_
    refine v_getR C 0 rfl (T := TX0) rfl inB0 (by decide) (by decide) rfl tw_209 dX0_dropOldest_52 (fun x12 => ?_)
    refine v_iload_n C dX0_dropOldest_55 rfl (j := 1) rfl ?_
    refine v_bipush C dX0_dropOldest_56 (by decide) ?_
    refine v_iast C dX0_dropOldest_58 (fun s13 => ?_)
    exact v_vret C rfl hO (fun h => Option.some.inj h) dX0_dropOldest_59
-- ForesightHub$ErrorBook.countCause
theorem hX0_countCause : yX0_countCause.cls ≠ "java/lang/invoke/MethodHandle" ∧ yX0_countCause.cls ≠ "java/lang/invoke/VarHandle" ∧ (parseMethodDescriptor yX0_countCause.desc).map (fun d => d.parameters.length) = some 1 := by decide +kernel
set_option maxRecDepth 100000 in
theorem kX0_countCause (l : Launch) (w : Wd) (P : Shp) (n : Nat) {s : St} {a0 : Int} {a1 : Int} {res : St} (h : fX0_countCause P s a0 a1 = some res) : Ct l w yX0_countCause cX0_countCause 2 (Option.none : Option FieldType) rX0_countCause P n [A w a0, I a1] s (QV w P n res) :=
  Ct.of h (by decide) (Nat.le_of_ble_eq_true rfl) (lv := [(0, A w a0), (1, I a1)]) rfl fun X hl hRm C hO => by
  subst hl
  unfold fX0_countCause
  refine v_iload_n C dX0_countCause_0 rfl (j := 1) rfl ?_
  refine v_if_lt (tgt := 10) C dX0_countCause_1 rfl ?_ ?_
  · skip
    exact v_vret C rfl hO (fun h => Option.some.inj h) dX0_countCause_10
  · skip
    refine v_iload_n C dX0_countCause_4 rfl (j := 1) rfl ?_
    refine v_bipush C dX0_countCause_5 (by decide) ?_
    refine v_icmp_lt (tgt := 11) C dX0_countCause_7 rfl ?_ ?_
    · skip
      refine v_aload_n C dX0_countCause_11 rfl (j := 0) rfl ?_
      refine v_getR C 5 rfl (T := TX0) rfl inB0 (by decide) (by decide) rfl tw_216 dX0_countCause_12 (fun x1 => ?_)
      refine v_iload_n C dX0_countCause_15 rfl (j := 1) rfl ?_
      refine v_iald C dX0_countCause_16 (fun x2 => ?_)
      refine v_jnt (fun (k49 : St → Option (St)) => ∀ (s3 : St), V X w 2 P n 0 0 res (k49 s3) s3 49 [(0, A w a0), (1, I a1)] []) ?_ ?_
      · intro s3
        refine v_aload_n C dX0_countCause_49 rfl (j := 0) rfl ?_
        refine v_getR C 5 rfl (T := TX0) rfl inB0 (by decide) (by decide) rfl tw_216 dX0_countCause_50 (fun x4 => ?_)
        refine v_iload_n C dX0_countCause_53 rfl (j := 1) rfl ?_
        refine v_dup2 C dX0_countCause_54 rfl rfl ?_
        refine v_iald C dX0_countCause_55 (fun x5 => ?_)
        refine v_iconst C dX0_countCause_56 ?_
        refine v_iadd C dX0_countCause_57 ?_
        refine v_iast C dX0_countCause_58 (fun s6 => ?_)
        exact v_vret C rfl hO (fun h => Option.some.inj h) dX0_countCause_59
      intro k49 hk49
      refine v_if_ne (tgt := 49) C dX0_countCause_17 rfl ?_ ?_
      · skip
        exact hk49 s
      · skip
        refine v_aload_n C dX0_countCause_20 rfl (j := 0) rfl ?_
        refine v_getI C 3 rfl (T := TX0) rfl inB0 (by decide) (by decide) rfl tw_214 dX0_countCause_21 (fun x7 => ?_)
        refine v_bipush C dX0_countCause_24 (by decide) ?_
        refine v_icmp_ge (tgt := 49) C dX0_countCause_26 rfl ?_ ?_
        · skip
          exact hk49 s
        · skip
          refine v_aload_n C dX0_countCause_29 rfl (j := 0) rfl ?_
          refine v_getR C 4 rfl (T := TX0) rfl inB0 (by decide) (by decide) rfl tw_215 dX0_countCause_30 (fun x8 => ?_)
          refine v_aload_n C dX0_countCause_33 rfl (j := 0) rfl ?_
          refine v_getI C 3 rfl (T := TX0) rfl inB0 (by decide) (by decide) rfl tw_214 dX0_countCause_34 (fun x9 => ?_)
          refine v_iload_n C dX0_countCause_37 rfl (j := 1) rfl ?_
          refine v_iast C dX0_countCause_38 (fun s10 => ?_)
          refine v_aload_n C dX0_countCause_39 rfl (j := 0) rfl ?_
          refine v_dup C dX0_countCause_40 rfl ?_
          refine v_getI C 3 rfl (T := TX0) rfl inB0 (by decide) (by decide) rfl tw_214 dX0_countCause_41 (fun x11 => ?_)
          refine v_iconst C dX0_countCause_44 ?_
          refine v_iadd C dX0_countCause_45 ?_
          refine v_putI C 3 rfl (T := TX0) rfl inB0 (by decide) tyX0_ok nmX0 (by decide) rfl rfl tw_214 dX0_countCause_46 rfl (fun s12 => ?_)
          exact hk49 s12
    · skip
      exact v_vret C rfl hO (fun h => Option.some.inj h) dX0_countCause_10
-- ForesightHub$ErrorBook.add
theorem hX0_add : yX0_add.cls ≠ "java/lang/invoke/MethodHandle" ∧ yX0_add.cls ≠ "java/lang/invoke/VarHandle" ∧ (parseMethodDescriptor yX0_add.desc).map (fun d => d.parameters.length) = some 3 := by decide +kernel
set_option maxRecDepth 100000 in
theorem kX0_add (l : Launch) (w : Wd) (P : Shp) (n : Nat) {s : St} {a0 : Int} {a1 : Int} {a2 : Int} {a3 : Int} {res : St} (h : fX0_add P s a0 a1 a2 a3 = some res) : Ct l w yX0_add cX0_add 5 (Option.none : Option FieldType) rX0_add P n [A w a0, I a1, I a2, I a3] s (QV w P n res) :=
  Ct.of h (by decide) (Nat.le_of_ble_eq_true rfl) (lv := [(0, A w a0), (1, I a1), (2, I a2), (3, I a3)]) rfl fun X hl hRm C hO => by
  subst hl
  unfold fX0_add
  refine v_iload_n C dX0_add_0 rfl (j := 1) rfl ?_
  refine v_if_lt (tgt := 19) C dX0_add_1 rfl ?_ ?_
  · skip
    exact v_vret C rfl hO (fun h => Option.some.inj h) dX0_add_19
  · skip
    refine v_iload_n C dX0_add_4 rfl (j := 1) rfl ?_
    refine v_bipush C dX0_add_5 (by decide) ?_
    refine v_icmp_ge (tgt := 19) C dX0_add_7 rfl ?_ ?_
    · skip
      exact v_vret C rfl hO (fun h => Option.some.inj h) dX0_add_19
    · skip
      refine v_iload_n C dX0_add_10 rfl (j := 2) rfl ?_
      refine v_if_lt (tgt := 19) C dX0_add_11 rfl ?_ ?_
      · skip
        exact v_vret C rfl hO (fun h => Option.some.inj h) dX0_add_19
      · skip
        refine v_iload_n C dX0_add_14 rfl (j := 2) rfl ?_
        refine v_iconst C dX0_add_15 ?_
        refine v_icmp_lt (tgt := 20) C dX0_add_16 rfl ?_ ?_
        · skip
          refine v_aload_n C dX0_add_20 rfl (j := 0) rfl ?_
          refine v_getR C 0 rfl (T := TX0) rfl inB0 (by decide) (by decide) rfl tw_209 dX0_add_21 (fun x1 => ?_)
          refine v_iload_n C dX0_add_24 rfl (j := 1) rfl ?_
          refine v_iald C dX0_add_25 (fun x2 => ?_)
          refine v_bipush C dX0_add_26 (by decide) ?_
          refine v_jnt (fun (k36 : St → Option (St)) => ∀ (s3 : St), V X w 5 P n 0 0 res (k36 s3) s3 36 [(0, A w a0), (1, I a1), (2, I a2), (3, I a3)] []) ?_ ?_
          · intro s3
            refine v_iload_n C dX0_add_36 rfl (j := 1) rfl ?_
            refine v_bipush C dX0_add_37 (by decide) ?_
            refine v_imul C dX0_add_39 ?_
            refine v_aload_n C dX0_add_40 rfl (j := 0) rfl ?_
            refine v_getR C 0 rfl (T := TX0) rfl inB0 (by decide) (by decide) rfl tw_209 dX0_add_41 (fun x4 => ?_)
            refine v_iload_n C dX0_add_44 rfl (j := 1) rfl ?_
            refine v_iald C dX0_add_45 (fun x5 => ?_)
            refine v_iadd C dX0_add_46 ?_
            refine v_bdI (fun x6 => ?_)
            refine v_istore C [(4, I x6), (0, A w a0), (1, I a1), (2, I a2), (3, I a3)] dX0_add_47 (by decide) rfl ?_
            refine v_iload C dX0_add_49 (j := 0) rfl ?_
            refine v_jnt (fun (k90 : St → Option (St)) => ∀ (s7 : St), V X w 5 P n 0 0 res (k90 s7) s7 90 [(0, A w a0), (1, I a1), (2, I a2)] []) ?_ ?_
            · intro s7
              refine v_aload_n C dX0_add_90 rfl (j := 0) rfl ?_
              refine v_iload_n C dX0_add_91 rfl (j := 1) rfl ?_
              refine v_iconst C dX0_add_92 ?_
              refine v_imul C dX0_add_93 ?_
              refine v_iload_n C dX0_add_94 rfl (j := 2) rfl ?_
              refine v_iadd C dX0_add_95 ?_
              refine v_callV_wV C [I ((a1 * 4) + a2)] [] (Cee.of (rm := rX0_countCause) tw_1034 tw_6 hX0_countCause rfl rfl hRm (Nat.le_of_ble_eq_true rfl) (Nat.le_of_ble_eq_true rfl)) (fun x h => kX0_countCause X.2.1 w _ _ h) tw_1031 tw_1033 ts_28 rfl (ci := 0) rfl (by decide) rfl rfl (Nat.le_of_ble_eq_true rfl) ⟨Nat.zero_le _, Nat.zero_le _⟩ dX0_add_96 (fun s8 => ?_)
              exact v_vret C rfl hO (fun h => Option.some.inj h) dX0_add_99
            intro k90 hk90
            refine v_if_lt (tgt := 90) C dX0_add_51 rfl ?_ ?_
            · skip
              refine v_sub [(0, A w a0), (1, I a1), (2, I a2)] [1, 2, 3] rfl ?_
              exact hk90 s3
            · skip
              refine v_iload C dX0_add_54 (j := 0) rfl ?_
              refine v_aload_n C dX0_add_56 rfl (j := 1) rfl ?_
              refine v_getR C 1 rfl (T := TX0) rfl inB0 (by decide) (by decide) rfl tw_212 dX0_add_57 (fun x9 => ?_)
              refine v_alen10 C dX0_add_60 (fun x10 => ?_)
              refine v_icmp_ge (tgt := 90) C dX0_add_61 rfl ?_ ?_
              · skip
                refine v_sub [(0, A w a0), (1, I a1), (2, I a2)] [1, 2, 3] rfl ?_
                exact hk90 s3
              · skip
                refine v_aload_n C dX0_add_64 rfl (j := 1) rfl ?_
                refine v_getR C 1 rfl (T := TX0) rfl inB0 (by decide) (by decide) rfl tw_212 dX0_add_65 (fun x11 => ?_)
                refine v_iload C dX0_add_68 (j := 0) rfl ?_
                refine v_iload_n C dX0_add_70 rfl (j := 3) rfl ?_
                refine v_iast C dX0_add_71 (fun s12 => ?_)
                refine v_aload_n C dX0_add_72 rfl (j := 1) rfl ?_
                refine v_getR C 2 rfl (T := TX0) rfl inB0 (by decide) (by decide) rfl tw_213 dX0_add_73 (fun x13 => ?_)
                refine v_iload C dX0_add_76 (j := 0) rfl ?_
                refine v_iload_n C dX0_add_78 rfl (j := 4) rfl ?_
                refine v_iast C dX0_add_79 (fun s14 => ?_)
                refine v_aload_n C dX0_add_80 rfl (j := 1) rfl ?_
                refine v_getR C 0 rfl (T := TX0) rfl inB0 (by decide) (by decide) rfl tw_209 dX0_add_81 (fun x15 => ?_)
                refine v_iload_n C dX0_add_84 rfl (j := 2) rfl ?_
                refine v_dup2 C dX0_add_85 rfl rfl ?_
                refine v_iald C dX0_add_86 (fun x16 => ?_)
                refine v_iconst C dX0_add_87 ?_
                refine v_iadd C dX0_add_88 ?_
                refine v_iast C dX0_add_89 (fun s17 => ?_)
                refine v_sub [(0, A w a0), (1, I a1), (2, I a2)] [1, 2, 3] rfl ?_
                exact hk90 s17
          intro k36 hk36
          refine v_icmp_lt (tgt := 36) C dX0_add_28 rfl ?_ ?_
          · skip
            exact hk36 s
          · skip
            refine v_aload_n C dX0_add_31 rfl (j := 0) rfl ?_
            refine v_iload_n C dX0_add_32 rfl (j := 1) rfl ?_
            refine v_callV_wV C [I a1] [] (Cee.of (rm := rX0_dropOldest) tw_1030 tw_6 hX0_dropOldest rfl rfl hRm (Nat.le_of_ble_eq_true rfl) (Nat.le_of_ble_eq_true rfl)) (fun x h => kX0_dropOldest X.2.1 w _ _ h) tw_1027 tw_1029 ts_27 rfl (ci := 0) rfl (by decide) rfl rfl (Nat.le_of_ble_eq_true rfl) ⟨Nat.zero_le _, Nat.zero_le _⟩ dX0_add_33 (fun s18 => ?_)
            exact hk36 s18
        · skip
          exact v_vret C rfl hO (fun h => Option.some.inj h) dX0_add_19
-- ForesightHub$Hub.beginAlarm
theorem hX2_beginAlarm : yX2_beginAlarm.cls ≠ "java/lang/invoke/MethodHandle" ∧ yX2_beginAlarm.cls ≠ "java/lang/invoke/VarHandle" ∧ (parseMethodDescriptor yX2_beginAlarm.desc).map (fun d => d.parameters.length) = some 1 := by decide +kernel
set_option maxRecDepth 100000 in
theorem kX2_beginAlarm (l : Launch) (w : Wd) (P : Shp) (n : Nat) {s : St} {a0 : Int} {a1 : Int} {res : St} (h : fX2_beginAlarm P s a0 a1 = some res) : Ct l w yX2_beginAlarm cX2_beginAlarm 2 (Option.none : Option FieldType) rX2_beginAlarm P n [A w a0, I a1] s (QV w P n res) :=
  Ct.of h (by decide) (Nat.le_of_ble_eq_true rfl) (lv := [(0, A w a0), (1, I a1)]) rfl fun X hl hRm C hO => by
  subst hl
  unfold fX2_beginAlarm
  refine v_aload_n C dX2_beginAlarm_0 rfl (j := 0) rfl ?_
  refine v_iload_n C dX2_beginAlarm_1 rfl (j := 1) rfl ?_
  refine v_callV_rI C [I a1] [] (Cee.of (rm := rX2_isDevice) tw_440 tw_4 hX2_isDevice rfl rfl hRm (Nat.le_of_ble_eq_true rfl) (Nat.le_of_ble_eq_true rfl)) (fun x h => kX2_isDevice X.2.1 w _ _ h) tw_461 tw_438 tw_439 rfl (ci := 2) rfl (by decide) rfl rfl (Nat.le_of_ble_eq_true rfl) ⟨Nat.zero_le _, Nat.zero_le _⟩ dX2_beginAlarm_2 (fun x1 => ?_)
  refine v_if_eq (tgt := 43) C dX2_beginAlarm_5 rfl ?_ ?_
  · skip
    exact v_vret C rfl hO (fun h => Option.some.inj h) dX2_beginAlarm_43
  · skip
    refine v_aload_n C dX2_beginAlarm_8 rfl (j := 0) rfl ?_
    refine v_getR C 1 rfl (T := TX2) rfl inB2 (by decide) (by decide) rfl tw_308 dX2_beginAlarm_9 (fun x2 => ?_)
    refine v_getR C 3 rfl (T := TX6) rfl inB6 (by decide) (by decide) rfl tw_267 dX2_beginAlarm_12 (fun x3 => ?_)
    refine v_iload_n C dX2_beginAlarm_15 rfl (j := 1) rfl ?_
    refine v_aload_n C dX2_beginAlarm_16 rfl (j := 0) rfl ?_
    refine v_getR C 1 rfl (T := TX2) rfl inB2 (by decide) (by decide) rfl tw_308 dX2_beginAlarm_17 (fun x4 => ?_)
    refine v_getI C 0 rfl (T := TX6) rfl inB6 (by decide) (by decide) rfl tw_259 dX2_beginAlarm_20 (fun x5 => ?_)
    refine v_iast C dX2_beginAlarm_23 (fun s6 => ?_)
    refine v_aload_n C dX2_beginAlarm_24 rfl (j := 0) rfl ?_
    refine v_getR C 1 rfl (T := TX2) rfl inB2 (by decide) (by decide) rfl tw_308 dX2_beginAlarm_25 (fun x7 => ?_)
    refine v_getR C 9 rfl (T := TX6) rfl inB6 (by decide) (by decide) rfl tw_284 dX2_beginAlarm_28 (fun x8 => ?_)
    refine v_iconst C dX2_beginAlarm_31 ?_
    refine v_iload_n C dX2_beginAlarm_32 rfl (j := 1) rfl ?_
    refine v_aload_n C dX2_beginAlarm_33 rfl (j := 0) rfl ?_
    refine v_getR C 1 rfl (T := TX2) rfl inB2 (by decide) (by decide) rfl tw_308 dX2_beginAlarm_34 (fun x9 => ?_)
    refine v_getI C 0 rfl (T := TX6) rfl inB6 (by decide) (by decide) rfl tw_259 dX2_beginAlarm_37 (fun x10 => ?_)
    refine v_callV_wV C [I 0, I a1, I x10] [] (Cee.of (rm := rX3_add) tw_978 tw_7 hX3_add rfl rfl hRm (Nat.le_of_ble_eq_true rfl) (Nat.le_of_ble_eq_true rfl)) (fun x h => kX3_add X.2.1 w _ _ h) tw_975 tw_976 tw_977 rfl (ci := 3) rfl (by decide) rfl rfl (Nat.le_of_ble_eq_true rfl) ⟨Nat.zero_le _, Nat.zero_le _⟩ dX2_beginAlarm_40 (fun s11 => ?_)
    exact v_vret C rfl hO (fun h => Option.some.inj h) dX2_beginAlarm_43
-- ForesightHub$Hub.takeError
theorem hX2_takeError : yX2_takeError.cls ≠ "java/lang/invoke/MethodHandle" ∧ yX2_takeError.cls ≠ "java/lang/invoke/VarHandle" ∧ (parseMethodDescriptor yX2_takeError.desc).map (fun d => d.parameters.length) = some 2 := by decide +kernel
set_option maxRecDepth 100000 in
theorem kX2_takeError (l : Launch) (w : Wd) (P : Shp) (n : Nat) {s : St} {a0 : Int} {a1 : Int} {a2 : Int} {res : St} (h : fX2_takeError P s a0 a1 a2 = some res) : Ct l w yX2_takeError cX2_takeError 3 (Option.none : Option FieldType) rX2_takeError P n [A w a0, I a1, I a2] s (QV w P n res) :=
  Ct.of h (by decide) (Nat.le_of_ble_eq_true rfl) (lv := [(0, A w a0), (1, I a1), (2, I a2)]) rfl fun X hl hRm C hO => by
  subst hl
  unfold fX2_takeError
  refine v_aload_n C dX2_takeError_0 rfl (j := 0) rfl ?_
  refine v_getR C 1 rfl (T := TX2) rfl inB2 (by decide) (by decide) rfl tw_308 dX2_takeError_1 (fun x1 => ?_)
  refine v_getR C 8 rfl (T := TX6) rfl inB6 (by decide) (by decide) rfl tw_281 dX2_takeError_4 (fun x2 => ?_)
  refine v_iload_n C dX2_takeError_7 rfl (j := 1) rfl ?_
  refine v_iload_n C dX2_takeError_8 rfl (j := 2) rfl ?_
  refine v_aload_n C dX2_takeError_9 rfl (j := 0) rfl ?_
  refine v_getR C 1 rfl (T := TX2) rfl inB2 (by decide) (by decide) rfl tw_308 dX2_takeError_10 (fun x3 => ?_)
  refine v_getI C 0 rfl (T := TX6) rfl inB6 (by decide) (by decide) rfl tw_259 dX2_takeError_13 (fun x4 => ?_)
  refine v_callV_wV C [I a1, I a2, I x4] [] (Cee.of (rm := rX0_add) tw_1026 tw_6 hX0_add rfl rfl hRm (Nat.le_of_ble_eq_true rfl) (Nat.le_of_ble_eq_true rfl)) (fun x h => kX0_add X.2.1 w _ _ h) tw_1023 tw_1024 tw_1025 rfl (ci := 0) rfl (by decide) rfl rfl (Nat.le_of_ble_eq_true rfl) ⟨Nat.zero_le _, Nat.zero_le _⟩ dX2_takeError_16 (fun s5 => ?_)
  refine v_aload_n C dX2_takeError_19 rfl (j := 0) rfl ?_
  refine v_getR C 1 rfl (T := TX2) rfl inB2 (by decide) (by decide) rfl tw_308 dX2_takeError_20 (fun x6 => ?_)
  refine v_getR C 9 rfl (T := TX6) rfl inB6 (by decide) (by decide) rfl tw_284 dX2_takeError_23 (fun x7 => ?_)
  refine v_getR C 5 rfl (T := TX3) rfl inB3 (by decide) (by decide) rfl tw_243 dX2_takeError_26 (fun x8 => ?_)
  refine v_bipush C dX2_takeError_29 (by decide) ?_
  refine v_dup2 C dX2_takeError_31 rfl rfl ?_
  refine v_iald C dX2_takeError_32 (fun x9 => ?_)
  refine v_iconst C dX2_takeError_33 ?_
  refine v_iadd C dX2_takeError_34 ?_
  refine v_iast C dX2_takeError_35 (fun s10 => ?_)
  refine v_aload_n C dX2_takeError_36 rfl (j := 0) rfl ?_
  refine v_iload_n C dX2_takeError_37 rfl (j := 1) rfl ?_
  refine v_callV_rI C [I a1] [] (Cee.of (rm := rX2_inAlarm) tw_460 tw_4 hX2_inAlarm rfl rfl hRm (Nat.le_of_ble_eq_true rfl) (Nat.le_of_ble_eq_true rfl)) (fun x h => kX2_inAlarm X.2.1 w _ _ h) tw_1035 tw_458 tw_459 rfl (ci := 2) rfl (by decide) rfl rfl (Nat.le_of_ble_eq_true rfl) ⟨Nat.zero_le _, Nat.zero_le _⟩ dX2_takeError_38 (fun x11 => ?_)
  refine v_if_ne (tgt := 69) C dX2_takeError_41 rfl ?_ ?_
  · skip
    exact v_vret C rfl hO (fun h => Option.some.inj h) dX2_takeError_69
  · skip
    refine v_aload_n C dX2_takeError_44 rfl (j := 0) rfl ?_
    refine v_iload_n C dX2_takeError_45 rfl (j := 1) rfl ?_
    refine v_iconst C dX2_takeError_46 ?_
    refine v_callV_rI C [I a1, I ((-1))] [] (Cee.of (rm := rX2_scoreOf) tw_465 tw_4 hX2_scoreOf rfl rfl hRm (Nat.le_of_ble_eq_true rfl) (Nat.le_of_ble_eq_true rfl)) (fun x h => kX2_scoreOf X.2.1 w _ _ h) tw_519 tw_463 tw_464 rfl (ci := 2) rfl (by decide) rfl rfl (Nat.le_of_ble_eq_true rfl) ⟨Nat.zero_le _, Nat.zero_le _⟩ dX2_takeError_47 (fun x12 => ?_)
    refine v_aload_n C dX2_takeError_50 rfl (j := 0) rfl ?_
    refine v_getR C 1 rfl (T := TX2) rfl inB2 (by decide) (by decide) rfl tw_308 dX2_takeError_51 (fun x13 => ?_)
    refine v_getI C 1 rfl (T := TX6) rfl inB6 (by decide) (by decide) rfl tw_260 dX2_takeError_54 (fun x14 => ?_)
    refine v_icmp_lt (tgt := 69) C dX2_takeError_57 rfl ?_ ?_
    · skip
      exact v_vret C rfl hO (fun h => Option.some.inj h) dX2_takeError_69
    · skip
      refine v_aload_n C dX2_takeError_60 rfl (j := 0) rfl ?_
      refine v_iload_n C dX2_takeError_61 rfl (j := 1) rfl ?_
      refine v_callV_wV C [I a1] [] (Cee.of (rm := rX2_beginAlarm) tw_1039 tw_4 hX2_beginAlarm rfl rfl hRm (Nat.le_of_ble_eq_true rfl) (Nat.le_of_ble_eq_true rfl)) (fun x h => kX2_beginAlarm X.2.1 w _ _ h) tw_1036 tw_1037 tw_1038 rfl (ci := 2) rfl (by decide) rfl rfl (Nat.le_of_ble_eq_true rfl) ⟨Nat.zero_le _, Nat.zero_le _⟩ dX2_takeError_62 (fun s15 => ?_)
      refine v_aload_n C dX2_takeError_65 rfl (j := 0) rfl ?_
      refine v_callV_wV C [] [] (Cee.of (rm := rX2_settle) tw_958 tw_4 hX2_settle rfl rfl hRm (Nat.le_of_ble_eq_true rfl) (Nat.le_of_ble_eq_true rfl)) (fun x h => kX2_settle X.2.1 w _ _ h) tw_955 tw_956 tw_957 rfl (ci := 2) rfl (by decide) rfl rfl (Nat.le_of_ble_eq_true rfl) ⟨Nat.zero_le _, Nat.zero_le _⟩ dX2_takeError_66 (fun s16 => ?_)
      exact v_vret C rfl hO (fun h => Option.some.inj h) dX2_takeError_69
