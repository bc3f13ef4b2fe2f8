/-! CONTRACTS (laid by wip/p31/gen/wmake.py) -/
-- ForesightHub.fail
theorem hX7_fail : yX7_fail.cls ≠ "java/lang/invoke/MethodHandle" ∧ yX7_fail.cls ≠ "java/lang/invoke/VarHandle" ∧ (parseMethodDescriptor yX7_fail.desc).map (fun d => d.parameters.length) = some 2 := by decide +kernel
set_option maxRecDepth 100000 in
theorem kX7_fail (l : Launch) (w : Wd) (P : Shp) (n : Nat) {s : St} {a0 : Int} {a1 : Int} {a2 : Int} {res : Int × St} (h : fX7_fail P s a0 a1 a2 = some res) : Ct l w yX7_fail cX7_fail 3 (some FieldType.int) rX7_fail P n [A w a0, I a1, I a2] s (QI w P n res.1 res.2) :=
  Ct.of h (by decide) (Nat.le_of_ble_eq_true rfl) (lv := [(0, A w a0), (1, I a1), (2, I a2)]) rfl fun X hl hRm C hO => by
  subst hl
  unfold fX7_fail
  refine v_aload_n C dX7_fail_0 rfl (j := 0) rfl ?_
  refine v_iload_n C dX7_fail_1 rfl (j := 1) rfl ?_
  refine v_callV_rV C [I a1] [] (Cee.of (rm := rX7_requireDevice) tw_436 tw_1 hX7_requireDevice rfl rfl hRm (Nat.le_of_ble_eq_true rfl) (Nat.le_of_ble_eq_true rfl)) (fun x h => kX7_requireDevice X.2.1 w _ _ h) tw_433 tw_435 ts_1 rfl (ci := 7) rfl (by decide) rfl rfl (Nat.le_of_ble_eq_true rfl) ⟨Nat.zero_le _, Nat.zero_le _⟩ dX7_fail_2 (fun x1 => ?_)
  refine v_aload_n C dX7_fail_5 rfl (j := 0) rfl ?_
  refine v_iload_n C dX7_fail_6 rfl (j := 2) rfl ?_
  refine v_callV_rV C [I a2] [] (Cee.of (rm := rX7_requireKind) tw_991 tw_1 hX7_requireKind rfl rfl hRm (Nat.le_of_ble_eq_true rfl) (Nat.le_of_ble_eq_true rfl)) (fun x h => kX7_requireKind X.2.1 w _ _ h) tw_988 tw_990 ts_25 rfl (ci := 7) rfl (by decide) rfl rfl (Nat.le_of_ble_eq_true rfl) ⟨Nat.zero_le _, Nat.zero_le _⟩ dX7_fail_7 (fun x2 => ?_)
  refine v_aload_n C dX7_fail_10 rfl (j := 0) rfl ?_
  refine v_iload_n C dX7_fail_11 rfl (j := 1) rfl ?_
  refine v_callV_rV C [I a1] [] (Cee.of (rm := rX7_requirePluggedIn) tw_996 tw_1 hX7_requirePluggedIn rfl rfl hRm (Nat.le_of_ble_eq_true rfl) (Nat.le_of_ble_eq_true rfl)) (fun x h => kX7_requirePluggedIn X.2.1 w _ _ h) tw_993 tw_995 ts_26 rfl (ci := 7) rfl (by decide) rfl rfl (Nat.le_of_ble_eq_true rfl) ⟨Nat.zero_le _, Nat.zero_le _⟩ dX7_fail_12 (fun x3 => ?_)
  refine v_aload_n C dX7_fail_15 rfl (j := 0) rfl ?_
  refine v_getR C 2 rfl (T := TX7) rfl inB7 (by decide) (by decide) rfl tw_339 dX7_fail_16 (fun x4 => ?_)
  refine v_aload_n C dX7_fail_19 rfl (j := 0) rfl ?_
  refine v_getR C 1 rfl (T := TX7) rfl inB7 (by decide) (by decide) rfl tw_338 dX7_fail_20 (fun x5 => ?_)
  refine v_getR C 1 rfl (T := TX2) rfl inB2 (by decide) (by decide) rfl tw_309 dX7_fail_23 (fun x6 => ?_)
  refine v_callV_wV C [A w x6] [] (Cee.of (rm := rX1_remember) tw_1017 tw_8 hX1_remember rfl rfl hRm (Nat.le_of_ble_eq_true rfl) (Nat.le_of_ble_eq_true rfl)) (fun x h => kX1_remember X.2.1 w _ _ h) tw_1014 tw_1015 tw_1016 rfl (ci := 1) rfl (by decide) rfl rfl (Nat.le_of_ble_eq_true rfl) ⟨Nat.zero_le _, Nat.zero_le _⟩ dX7_fail_26 (fun s7 => ?_)
  refine v_aload_n C dX7_fail_29 rfl (j := 0) rfl ?_
  refine v_getR C 1 rfl (T := TX7) rfl inB7 (by decide) (by decide) rfl tw_338 dX7_fail_30 (fun x8 => ?_)
  refine v_iload_n C dX7_fail_33 rfl (j := 1) rfl ?_
  refine v_iload_n C dX7_fail_34 rfl (j := 2) rfl ?_
  refine v_callV_wV C [I a1, I a2] [] (Cee.of (rm := rX2_takeError) tw_1022 tw_4 hX2_takeError rfl rfl hRm (Nat.le_of_ble_eq_true rfl) (Nat.le_of_ble_eq_true rfl)) (fun x h => kX2_takeError X.2.1 w _ _ h) tw_1019 tw_1020 tw_1021 rfl (ci := 2) rfl (by decide) rfl rfl (Nat.le_of_ble_eq_true rfl) ⟨Nat.zero_le _, Nat.zero_le _⟩ dX7_fail_35 (fun s9 => ?_)
  refine v_aload_n C dX7_fail_38 rfl (j := 0) rfl ?_
  refine v_getR C 1 rfl (T := TX7) rfl inB7 (by decide) (by decide) rfl tw_338 dX7_fail_39 (fun x10 => ?_)
  refine v_iload_n C dX7_fail_42 rfl (j := 1) rfl ?_
  refine v_iconst C dX7_fail_43 ?_
  refine v_callV_rI C [I a1, I ((-1))] [] (Cee.of (rm := rX2_scoreOf) tw_465 tw_4 hX2_scoreOf rfl rfl hRm (Nat.le_of_ble_eq_true rfl) (Nat.le_of_ble_eq_true rfl)) (fun x h => kX2_scoreOf X.2.1 w _ _ h) tw_462 tw_463 tw_464 rfl (ci := 2) rfl (by decide) rfl rfl (Nat.le_of_ble_eq_true rfl) ⟨Nat.zero_le _, Nat.zero_le _⟩ dX7_fail_44 (fun x11 => ?_)
  exact v_iret C rfl hO pI dX7_fail_47
-- ForesightHub.warn
theorem hX7_warn : yX7_warn.cls ≠ "java/lang/invoke/MethodHandle" ∧ yX7_warn.cls ≠ "java/lang/invoke/VarHandle" ∧ (parseMethodDescriptor yX7_warn.desc).map (fun d => d.parameters.length) = some 1 := by decide +kernel
set_option maxRecDepth 100000 in
theorem kX7_warn (l : Launch) (w : Wd) (P : Shp) (n : Nat) {s : St} {a0 : Int} {a1 : Int} {res : Int × St} (h : fX7_warn P s a0 a1 = some res) : Ct l w yX7_warn cX7_warn 3 (some FieldType.int) rX7_warn P n [A w a0, I a1] s (QI w P n res.1 res.2) :=
  Ct.of h (by decide) (Nat.le_of_ble_eq_true rfl) (lv := [(0, A w a0), (1, I a1)]) rfl fun X hl hRm C hO => by
  subst hl
  unfold fX7_warn
  refine v_aload_n C dX7_warn_0 rfl (j := 0) rfl ?_
  refine v_iload_n C dX7_warn_1 rfl (j := 1) rfl ?_
  refine v_callV_rV C [I a1] [] (Cee.of (rm := rX7_requireDevice) tw_436 tw_1 hX7_requireDevice rfl rfl hRm (Nat.le_of_ble_eq_true rfl) (Nat.le_of_ble_eq_true rfl)) (fun x h => kX7_requireDevice X.2.1 w _ _ h) tw_433 tw_435 ts_1 rfl (ci := 7) rfl (by decide) rfl rfl (Nat.le_of_ble_eq_true rfl) ⟨Nat.zero_le _, Nat.zero_le _⟩ dX7_warn_2 (fun x1 => ?_)
  refine v_aload_n C dX7_warn_5 rfl (j := 0) rfl ?_
  refine v_iload_n C dX7_warn_6 rfl (j := 1) rfl ?_
  refine v_callV_rV C [I a1] [] (Cee.of (rm := rX7_requirePluggedIn) tw_996 tw_1 hX7_requirePluggedIn rfl rfl hRm (Nat.le_of_ble_eq_true rfl) (Nat.le_of_ble_eq_true rfl)) (fun x h => kX7_requirePluggedIn X.2.1 w _ _ h) tw_993 tw_995 ts_26 rfl (ci := 7) rfl (by decide) rfl rfl (Nat.le_of_ble_eq_true rfl) ⟨Nat.zero_le _, Nat.zero_le _⟩ dX7_warn_7 (fun x2 => ?_)
  refine v_aload_n C dX7_warn_10 rfl (j := 0) rfl ?_
  refine v_getR C 1 rfl (T := TX7) rfl inB7 (by decide) (by decide) rfl tw_338 dX7_warn_11 (fun x3 => ?_)
  refine v_iload_n C dX7_warn_14 rfl (j := 1) rfl ?_
  refine v_callV_rI C [I a1] [] (Cee.of (rm := rX2_inAlarm) tw_460 tw_4 hX2_inAlarm rfl rfl hRm (Nat.le_of_ble_eq_true rfl) (Nat.le_of_ble_eq_true rfl)) (fun x h => kX2_inAlarm X.2.1 w _ _ h) tw_457 tw_458 tw_459 rfl (ci := 2) rfl (by decide) rfl rfl (Nat.le_of_ble_eq_true rfl) ⟨Nat.zero_le _, Nat.zero_le _⟩ dX7_warn_15 (fun x4 => ?_)
  refine v_if_eq (tgt := 32) C dX7_warn_18 rfl ?_ ?_
  · skip
    refine v_aload_n C dX7_warn_32 rfl (j := 0) rfl ?_
    refine v_getR C 2 rfl (T := TX7) rfl inB7 (by decide) (by decide) rfl tw_339 dX7_warn_33 (fun x5 => ?_)
    refine v_aload_n C dX7_warn_36 rfl (j := 0) rfl ?_
    refine v_getR C 1 rfl (T := TX7) rfl inB7 (by decide) (by decide) rfl tw_338 dX7_warn_37 (fun x6 => ?_)
    refine v_getR C 1 rfl (T := TX2) rfl inB2 (by decide) (by decide) rfl tw_309 dX7_warn_40 (fun x7 => ?_)
    refine v_callV_wV C [A w x7] [] (Cee.of (rm := rX1_remember) tw_1017 tw_8 hX1_remember rfl rfl hRm (Nat.le_of_ble_eq_true rfl) (Nat.le_of_ble_eq_true rfl)) (fun x h => kX1_remember X.2.1 w _ _ h) tw_1014 tw_1015 tw_1016 rfl (ci := 1) rfl (by decide) rfl rfl (Nat.le_of_ble_eq_true rfl) ⟨Nat.zero_le _, Nat.zero_le _⟩ dX7_warn_43 (fun s8 => ?_)
    refine v_aload_n C dX7_warn_46 rfl (j := 0) rfl ?_
    refine v_getR C 1 rfl (T := TX7) rfl inB7 (by decide) (by decide) rfl tw_338 dX7_warn_47 (fun x9 => ?_)
    refine v_iload_n C dX7_warn_50 rfl (j := 1) rfl ?_
    refine v_callV_rI C [I a1] [] (Cee.of (rm := rX2_clearingFrames) tw_1125 tw_4 hX2_clearingFrames rfl rfl hRm (Nat.le_of_ble_eq_true rfl) (Nat.le_of_ble_eq_true rfl)) (fun x h => kX2_clearingFrames X.2.1 w _ _ h) tw_1122 tw_1123 tw_1124 rfl (ci := 2) rfl (by decide) rfl rfl (Nat.le_of_ble_eq_true rfl) ⟨Nat.zero_le _, Nat.zero_le _⟩ dX7_warn_51 (fun x10 => ?_)
    refine v_istore_n C [(2, I x10), (0, A w a0), (1, I a1)] dX7_warn_54 rfl (by decide) rfl ?_
    refine v_aload_n C dX7_warn_55 rfl (j := 1) rfl ?_
    refine v_getR C 1 rfl (T := TX7) rfl inB7 (by decide) (by decide) rfl tw_338 dX7_warn_56 (fun x11 => ?_)
    refine v_iload_n C dX7_warn_59 rfl (j := 2) rfl ?_
    refine v_callV_wV C [I a1] [] (Cee.of (rm := rX2_beginAlarm) tw_1039 tw_4 hX2_beginAlarm rfl rfl hRm (Nat.le_of_ble_eq_true rfl) (Nat.le_of_ble_eq_true rfl)) (fun x h => kX2_beginAlarm X.2.1 w _ _ h) tw_1141 tw_1037 tw_1038 rfl (ci := 2) rfl (by decide) rfl rfl (Nat.le_of_ble_eq_true rfl) ⟨Nat.zero_le _, Nat.zero_le _⟩ dX7_warn_60 (fun s12 => ?_)
    refine v_aload_n C dX7_warn_63 rfl (j := 1) rfl ?_
    refine v_getR C 1 rfl (T := TX7) rfl inB7 (by decide) (by decide) rfl tw_338 dX7_warn_64 (fun x13 => ?_)
    refine v_callV_wV C [] [] (Cee.of (rm := rX2_settle) tw_958 tw_4 hX2_settle rfl rfl hRm (Nat.le_of_ble_eq_true rfl) (Nat.le_of_ble_eq_true rfl)) (fun x h => kX2_settle X.2.1 w _ _ h) tw_1078 tw_956 tw_957 rfl (ci := 2) rfl (by decide) rfl rfl (Nat.le_of_ble_eq_true rfl) ⟨Nat.zero_le _, Nat.zero_le _⟩ dX7_warn_67 (fun s14 => ?_)
    refine v_iload_n C dX7_warn_70 rfl (j := 0) rfl ?_
    exact v_iret C rfl hO pI dX7_warn_71
  · skip
    exact v_none
-- java/lang/Integer.bitCount
theorem hJ6_bitCount_0f7a4 : yJ6_bitCount_0f7a4.cls ≠ "java/lang/invoke/MethodHandle" ∧ yJ6_bitCount_0f7a4.cls ≠ "java/lang/invoke/VarHandle" ∧ (parseMethodDescriptor yJ6_bitCount_0f7a4.desc).map (fun d => d.parameters.length) = some 1 := by decide +kernel
set_option maxRecDepth 100000 in
theorem kJ6_bitCount_0f7a4 (l : Launch) (w : Wd) (P : Shp) (n : Nat) {s : St} {a0 : Int} {res : Int} (h : fJ6_bitCount_0f7a4 P s a0 = some res) : Ct l w yJ6_bitCount_0f7a4 cJ6_bitCount_0f7a4 1 (some FieldType.int) rJ6_bitCount_0f7a4 P n [I a0] s (QI w P n res s) :=
  Ct.ofF h (by decide +kernel) (Nat.le_of_ble_eq_true rfl) (lv := [(0, I a0)]) rfl fun X hl hRm C hO => by
  subst hl
  unfold fJ6_bitCount_0f7a4
  refine v_iload_n C dJ6_bitCount_0f7a4_0 rfl (j := 0) rfl ?_
  refine v_iload_n C dJ6_bitCount_0f7a4_1 rfl (j := 0) rfl ?_
  refine v_iconst C dJ6_bitCount_0f7a4_2 ?_
  refine v_iushr C dJ6_bitCount_0f7a4_3 ?_
  refine v_ldc_w (z := 1431655765) C tw_1062 dJ6_bitCount_0f7a4_4 rfl ?_
  refine v_iand C dJ6_bitCount_0f7a4_7 ?_
  refine v_isub C dJ6_bitCount_0f7a4_8 ?_
  refine v_bdI (fun x1 => ?_)
  refine v_istore_n C [(0, I x1)] dJ6_bitCount_0f7a4_9 rfl (by decide) rfl ?_
  refine v_iload_n C dJ6_bitCount_0f7a4_10 rfl (j := 0) rfl ?_
  refine v_ldc_w (z := 858993459) C tw_1063 dJ6_bitCount_0f7a4_11 rfl ?_
  refine v_iand C dJ6_bitCount_0f7a4_14 ?_
  refine v_iload_n C dJ6_bitCount_0f7a4_15 rfl (j := 0) rfl ?_
  refine v_iconst C dJ6_bitCount_0f7a4_16 ?_
  refine v_iushr C dJ6_bitCount_0f7a4_17 ?_
  refine v_ldc_w (z := 858993459) C tw_1063 dJ6_bitCount_0f7a4_18 rfl ?_
  refine v_iand C dJ6_bitCount_0f7a4_21 ?_
  refine v_iadd C dJ6_bitCount_0f7a4_22 ?_
  refine v_bdI (fun x2 => ?_)
  refine v_istore_n C [(0, I x2)] dJ6_bitCount_0f7a4_23 rfl (by decide) rfl ?_
  refine v_iload_n C dJ6_bitCount_0f7a4_24 rfl (j := 0) rfl ?_
  refine v_iload_n C dJ6_bitCount_0f7a4_25 rfl (j := 0) rfl ?_
  refine v_iconst C dJ6_bitCount_0f7a4_26 ?_
  refine v_iushr C dJ6_bitCount_0f7a4_27 ?_
  refine v_iadd C dJ6_bitCount_0f7a4_28 ?_
  refine v_ldc_w (z := 252645135) C tw_1064 dJ6_bitCount_0f7a4_29 rfl ?_
  refine v_iand C dJ6_bitCount_0f7a4_32 ?_
  refine v_bdI (fun x3 => ?_)
  refine v_istore_n C [(0, I x3)] dJ6_bitCount_0f7a4_33 rfl (by decide) rfl ?_
  refine v_iload_n C dJ6_bitCount_0f7a4_34 rfl (j := 0) rfl ?_
  refine v_iload_n C dJ6_bitCount_0f7a4_35 rfl (j := 0) rfl ?_
  refine v_bipush C dJ6_bitCount_0f7a4_36 (by decide) ?_
  refine v_iushr C dJ6_bitCount_0f7a4_38 ?_
  refine v_iadd C dJ6_bitCount_0f7a4_39 ?_
  refine v_bdI (fun x4 => ?_)
  refine v_istore_n C [(0, I x4)] dJ6_bitCount_0f7a4_40 rfl (by decide) rfl ?_
  refine v_iload_n C dJ6_bitCount_0f7a4_41 rfl (j := 0) rfl ?_
  refine v_iload_n C dJ6_bitCount_0f7a4_42 rfl (j := 0) rfl ?_
  refine v_bipush C dJ6_bitCount_0f7a4_43 (by decide) ?_
  refine v_iushr C dJ6_bitCount_0f7a4_45 ?_
  refine v_iadd C dJ6_bitCount_0f7a4_46 ?_
  refine v_bdI (fun x5 => ?_)
  refine v_istore_n C [(0, I x5)] dJ6_bitCount_0f7a4_47 rfl (by decide) rfl ?_
  refine v_iload_n C dJ6_bitCount_0f7a4_48 rfl (j := 0) rfl ?_
  refine v_bipush C dJ6_bitCount_0f7a4_49 (by decide) ?_
  refine v_iand C dJ6_bitCount_0f7a4_51 ?_
  exact v_iret C rfl hO pS dJ6_bitCount_0f7a4_52
-- ForesightHub.callOff
theorem hX7_callOff : yX7_callOff.cls ≠ "java/lang/invoke/MethodHandle" ∧ yX7_callOff.cls ≠ "java/lang/invoke/VarHandle" ∧ (parseMethodDescriptor yX7_callOff.desc).map (fun d => d.parameters.length) = some 1 := by decide +kernel
set_option maxRecDepth 100000 in
theorem kX7_callOff (l : Launch) (w : Wd) (P : Shp) (n : Nat) {s : St} {a0 : Int} {a1 : Int} {res : Int × St} (h : fX7_callOff P s a0 a1 = some res) : Ct l w yX7_callOff cX7_callOff 2 (some FieldType.int) rX7_callOff P n [A w a0, I a1] s (QI w P n res.1 res.2) :=
  Ct.of h (by decide) (Nat.le_of_ble_eq_true rfl) (lv := [(0, A w a0), (1, I a1)]) rfl fun X hl hRm C hO => by
  subst hl
  unfold fX7_callOff
  refine v_aload_n C dX7_callOff_0 rfl (j := 0) rfl ?_
  refine v_iload_n C dX7_callOff_1 rfl (j := 1) rfl ?_
  refine v_callV_rV C [I a1] [] (Cee.of (rm := rX7_requireDevice) tw_436 tw_1 hX7_requireDevice rfl rfl hRm (Nat.le_of_ble_eq_true rfl) (Nat.le_of_ble_eq_true rfl)) (fun x h => kX7_requireDevice X.2.1 w _ _ h) tw_433 tw_435 ts_1 rfl (ci := 7) rfl (by decide) rfl rfl (Nat.le_of_ble_eq_true rfl) ⟨Nat.zero_le _, Nat.zero_le _⟩ dX7_callOff_2 (fun x1 => ?_)
  refine v_aload_n C dX7_callOff_5 rfl (j := 0) rfl ?_
  refine v_getR C 1 rfl (T := TX7) rfl inB7 (by decide) (by decide) rfl tw_338 dX7_callOff_6 (fun x2 => ?_)
  refine v_iload_n C dX7_callOff_9 rfl (j := 1) rfl ?_
  refine v_callV_rI C [I a1] [] (Cee.of (rm := rX2_inAlarm) tw_460 tw_4 hX2_inAlarm rfl rfl hRm (Nat.le_of_ble_eq_true rfl) (Nat.le_of_ble_eq_true rfl)) (fun x h => kX2_inAlarm X.2.1 w _ _ h) tw_457 tw_458 tw_459 rfl (ci := 2) rfl (by decide) rfl rfl (Nat.le_of_ble_eq_true rfl) ⟨Nat.zero_le _, Nat.zero_le _⟩ dX7_callOff_10 (fun x3 => ?_)
  refine v_if_ne (tgt := 27) C dX7_callOff_13 rfl ?_ ?_
  · skip
    refine v_aload_n C dX7_callOff_27 rfl (j := 0) rfl ?_
    refine v_getR C 2 rfl (T := TX7) rfl inB7 (by decide) (by decide) rfl tw_339 dX7_callOff_28 (fun x4 => ?_)
    refine v_aload_n C dX7_callOff_31 rfl (j := 0) rfl ?_
    refine v_getR C 1 rfl (T := TX7) rfl inB7 (by decide) (by decide) rfl tw_338 dX7_callOff_32 (fun x5 => ?_)
    refine v_getR C 1 rfl (T := TX2) rfl inB2 (by decide) (by decide) rfl tw_309 dX7_callOff_35 (fun x6 => ?_)
    refine v_callV_wV C [A w x6] [] (Cee.of (rm := rX1_remember) tw_1017 tw_8 hX1_remember rfl rfl hRm (Nat.le_of_ble_eq_true rfl) (Nat.le_of_ble_eq_true rfl)) (fun x h => kX1_remember X.2.1 w _ _ h) tw_1014 tw_1015 tw_1016 rfl (ci := 1) rfl (by decide) rfl rfl (Nat.le_of_ble_eq_true rfl) ⟨Nat.zero_le _, Nat.zero_le _⟩ dX7_callOff_38 (fun s7 => ?_)
    refine v_aload_n C dX7_callOff_41 rfl (j := 0) rfl ?_
    refine v_getR C 1 rfl (T := TX7) rfl inB7 (by decide) (by decide) rfl tw_338 dX7_callOff_42 (fun x8 => ?_)
    refine v_iload_n C dX7_callOff_45 rfl (j := 1) rfl ?_
    refine v_callV_wV C [I a1] [] (Cee.of (rm := rX2_endWrongAlarm) tw_1073 tw_4 hX2_endWrongAlarm rfl rfl hRm (Nat.le_of_ble_eq_true rfl) (Nat.le_of_ble_eq_true rfl)) (fun x h => kX2_endWrongAlarm X.2.1 w _ _ h) tw_1070 tw_1071 tw_1072 rfl (ci := 2) rfl (by decide) rfl rfl (Nat.le_of_ble_eq_true rfl) ⟨Nat.zero_le _, Nat.zero_le _⟩ dX7_callOff_46 (fun s9 => ?_)
    refine v_aload_n C dX7_callOff_49 rfl (j := 0) rfl ?_
    refine v_getR C 1 rfl (T := TX7) rfl inB7 (by decide) (by decide) rfl tw_338 dX7_callOff_50 (fun x10 => ?_)
    refine v_callV_wV C [] [] (Cee.of (rm := rX2_settle) tw_958 tw_4 hX2_settle rfl rfl hRm (Nat.le_of_ble_eq_true rfl) (Nat.le_of_ble_eq_true rfl)) (fun x h => kX2_settle X.2.1 w _ _ h) tw_1078 tw_956 tw_957 rfl (ci := 2) rfl (by decide) rfl rfl (Nat.le_of_ble_eq_true rfl) ⟨Nat.zero_le _, Nat.zero_le _⟩ dX7_callOff_53 (fun s11 => ?_)
    refine v_aload_n C dX7_callOff_56 rfl (j := 0) rfl ?_
    refine v_getR C 1 rfl (T := TX7) rfl inB7 (by decide) (by decide) rfl tw_338 dX7_callOff_57 (fun x12 => ?_)
    refine v_iload_n C dX7_callOff_60 rfl (j := 1) rfl ?_
    refine v_callV_rI C [I a1] [] (Cee.of (rm := rX2_heldBits) tw_501 tw_4 hX2_heldBits rfl rfl hRm (Nat.le_of_ble_eq_true rfl) (Nat.le_of_ble_eq_true rfl)) (fun x h => kX2_heldBits X.2.1 w _ _ h) tw_498 tw_499 tw_500 rfl (ci := 2) rfl (by decide) rfl rfl (Nat.le_of_ble_eq_true rfl) ⟨Nat.zero_le _, Nat.zero_le _⟩ dX7_callOff_61 (fun x13 => ?_)
    refine v_callS_rI C [I x13] [] (Cee.of (rm := rJ6_bitCount_0f7a4) tw_1061 tw_23 hJ6_bitCount_0f7a4 rfl rfl hRm (Nat.le_of_ble_eq_true rfl) (Nat.le_of_ble_eq_true rfl)) (fun x h => kJ6_bitCount_0f7a4 X.2.1 w _ _ h) tw_1059 tw_1060 rfl rfl (Nat.le_of_ble_eq_true rfl) ⟨Nat.zero_le _, Nat.zero_le _⟩ dX7_callOff_64 (fun x14 => ?_)
    exact v_iret C rfl hO pI dX7_callOff_67
  · skip
    exact v_none
-- ForesightHub$Hub.dropStream
theorem hX2_dropStream : yX2_dropStream.cls ≠ "java/lang/invoke/MethodHandle" ∧ yX2_dropStream.cls ≠ "java/lang/invoke/VarHandle" ∧ (parseMethodDescriptor yX2_dropStream.desc).map (fun d => d.parameters.length) = some 1 := by decide +kernel
set_option maxRecDepth 100000 in
theorem kX2_dropStream (l : Launch) (w : Wd) (P : Shp) (n : Nat) {s : St} {a0 : Int} {a1 : Int} {res : Int × St} (h : fX2_dropStream P s a0 a1 = some res) : Ct l w yX2_dropStream cX2_dropStream 3 (some FieldType.int) rX2_dropStream P n [A w a0, I a1] s (QI w P n res.1 res.2) :=
  Ct.of h (by decide) (Nat.le_of_ble_eq_true rfl) (lv := [(0, A w a0), (1, I a1)]) rfl fun X hl hRm C hO => by
  subst hl
  unfold fX2_dropStream
  refine v_aload_n C dX2_dropStream_0 rfl (j := 0) rfl ?_
  refine v_getR C 1 rfl (T := TX2) rfl inB2 (by decide) (by decide) rfl tw_308 dX2_dropStream_1 (fun x1 => ?_)
  refine v_getR C 6 rfl (T := TX6) rfl inB6 (by decide) (by decide) rfl tw_276 dX2_dropStream_4 (fun x2 => ?_)
  refine v_iload_n C dX2_dropStream_7 rfl (j := 1) rfl ?_
  refine v_iald C dX2_dropStream_8 (fun x3 => ?_)
  refine v_istore_n C [(2, I x3), (0, A w a0), (1, I a1)] dX2_dropStream_9 rfl (by decide) rfl ?_
  refine v_iload_n C dX2_dropStream_10 rfl (j := 0) rfl ?_
  refine v_jnt (fun (k34 : St → Option (Int × St)) => ∀ (s4 : St), V X w 3 P n 0 0 res (k34 s4) s4 34 [(0, A w a0), (1, I a1), (2, I x3)] []) ?_ ?_
  · intro s4
    refine v_aload_n C dX2_dropStream_34 rfl (j := 0) rfl ?_
    refine v_getR C 1 rfl (T := TX2) rfl inB2 (by decide) (by decide) rfl tw_308 dX2_dropStream_35 (fun x5 => ?_)
    refine v_getR C 6 rfl (T := TX6) rfl inB6 (by decide) (by decide) rfl tw_276 dX2_dropStream_38 (fun x6 => ?_)
    refine v_iload_n C dX2_dropStream_41 rfl (j := 1) rfl ?_
    refine v_iconst C dX2_dropStream_42 ?_
    refine v_iast C dX2_dropStream_43 (fun s7 => ?_)
    refine v_aload_n C dX2_dropStream_44 rfl (j := 0) rfl ?_
    refine v_getR C 1 rfl (T := TX2) rfl inB2 (by decide) (by decide) rfl tw_308 dX2_dropStream_45 (fun x8 => ?_)
    refine v_getR C 4 rfl (T := TX6) rfl inB6 (by decide) (by decide) rfl tw_270 dX2_dropStream_48 (fun x9 => ?_)
    refine v_iload_n C dX2_dropStream_51 rfl (j := 1) rfl ?_
    refine v_iconst C dX2_dropStream_52 ?_
    refine v_iast C dX2_dropStream_53 (fun s10 => ?_)
    refine v_aload_n C dX2_dropStream_54 rfl (j := 0) rfl ?_
    refine v_getR C 1 rfl (T := TX2) rfl inB2 (by decide) (by decide) rfl tw_308 dX2_dropStream_55 (fun x11 => ?_)
    refine v_getR C 5 rfl (T := TX6) rfl inB6 (by decide) (by decide) rfl tw_273 dX2_dropStream_58 (fun x12 => ?_)
    refine v_iload_n C dX2_dropStream_61 rfl (j := 1) rfl ?_
    refine v_iconst C dX2_dropStream_62 ?_
    refine v_iast C dX2_dropStream_63 (fun s13 => ?_)
    refine v_iload_n C dX2_dropStream_64 rfl (j := 2) rfl ?_
    exact v_iret C rfl hO pI dX2_dropStream_65
  intro k34 hk34
  refine v_if_le (tgt := 34) C dX2_dropStream_11 rfl ?_ ?_
  · skip
    refine v_sub [(0, A w a0), (1, I a1), (2, I x3)] [1, 2, 0] rfl ?_
    exact hk34 s
  · skip
    refine v_aload_n C dX2_dropStream_14 rfl (j := 1) rfl ?_
    refine v_getR C 1 rfl (T := TX2) rfl inB2 (by decide) (by decide) rfl tw_308 dX2_dropStream_15 (fun x14 => ?_)
    refine v_getR C 9 rfl (T := TX6) rfl inB6 (by decide) (by decide) rfl tw_284 dX2_dropStream_18 (fun x15 => ?_)
    refine v_bipush C dX2_dropStream_21 (by decide) ?_
    refine v_iload_n C dX2_dropStream_23 rfl (j := 2) rfl ?_
    refine v_aload_n C dX2_dropStream_24 rfl (j := 1) rfl ?_
    refine v_getR C 1 rfl (T := TX2) rfl inB2 (by decide) (by decide) rfl tw_308 dX2_dropStream_25 (fun x16 => ?_)
    refine v_getI C 0 rfl (T := TX6) rfl inB6 (by decide) (by decide) rfl tw_259 dX2_dropStream_28 (fun x17 => ?_)
    refine v_callV_wV C [I 7, I a1, I x17] [] (Cee.of (rm := rX3_add) tw_978 tw_7 hX3_add rfl rfl hRm (Nat.le_of_ble_eq_true rfl) (Nat.le_of_ble_eq_true rfl)) (fun x h => kX3_add X.2.1 w _ _ h) tw_975 tw_976 tw_977 rfl (ci := 3) rfl (by decide) rfl rfl (Nat.le_of_ble_eq_true rfl) ⟨Nat.zero_le _, Nat.zero_le _⟩ dX2_dropStream_31 (fun s18 => ?_)
    refine v_sub [(0, A w a0), (1, I a1), (2, I x3)] [1, 2, 0] rfl ?_
    exact hk34 s18
-- ForesightHub$Hub.pullOut
set_option maxRecDepth 100000 in
theorem vX2_pullOut_L76 {X : Cxt} {w : Wd} {P : Shp} {n : Nat} (res : Int × St) (hRm : X.2.2.2.1 = rX2_pullOut) (C : Cok X w cX2_pullOut 4 RX2 (some FieldType.int)) (hO : Own X w 0 0 (QI w P n res.1 res.2))  (c0 : Int) (c1 : Int) (kE114 : Int → St → Option (Int × St)) (hE114 : ∀ (p2e : Int) (se : St), V X w 4 P n 0 0 res (kE114 p2e se) se 114 [(0, A w c0), (2, I p2e)] []) : ∀ (fuel : Nat) (p2 p3 : Int) (s : St), V X w 4 P n 0 0 res (fX2_pullOut_L76 P c0 c1 kE114 fuel p2 p3 s) s 76 [(0, A w c0), (1, I c1), (2, I p2), (3, I p3)] [] := by
  intro fuel
  induction fuel with
  | zero => intro p2 p3 s; exact v_none
  | succ m ih =>
    intro p2 p3 s
    rw [fX2_pullOut_L76]
    refine v_iload_n C dX2_pullOut_76 rfl (j := 3) rfl ?_
    refine v_aload_n C dX2_pullOut_77 rfl (j := 0) rfl ?_
    refine v_getR C 0 rfl (T := TX2) rfl inB2 (by decide) (by decide) rfl tw_306 dX2_pullOut_78 (fun x18 => ?_)
    refine v_getI C 6 rfl (T := TX4) rfl inB4 (by decide) (by decide) rfl tw_76 dX2_pullOut_81 (fun x19 => ?_)
    refine v_icmp_ge (tgt := 114) C dX2_pullOut_84 rfl ?_ ?_
    · skip
      refine v_sub [(0, A w c0), (2, I p2)] [0, 2] rfl ?_
      exact hE114 p2 s
    · skip
      refine v_aload_n C dX2_pullOut_87 rfl (j := 0) rfl ?_
      refine v_getR C 1 rfl (T := TX2) rfl inB2 (by decide) (by decide) rfl tw_308 dX2_pullOut_88 (fun x20 => ?_)
      refine v_getR C 4 rfl (T := TX6) rfl inB6 (by decide) (by decide) rfl tw_270 dX2_pullOut_91 (fun x21 => ?_)
      refine v_iload_n C dX2_pullOut_94 rfl (j := 3) rfl ?_
      refine v_iald C dX2_pullOut_95 (fun x22 => ?_)
      refine v_iload_n C dX2_pullOut_96 rfl (j := 1) rfl ?_
      refine v_jnt (fun (k108 : Int → St → Option (Int × St)) => ∀ (x23 : Int) (s24 : St), V X w 4 P n 0 0 res (k108 x23 s24) s24 108 [(0, A w c0), (1, I c1), (2, I x23), (3, I p3)] []) ?_ ?_
      · intro x23 s24
        refine v_iinc C (j := 3) [(0, A w c0), (1, I c1), (2, I x23)] dX2_pullOut_108 (by decide) rfl (fun _ => rfl) (fun x25 => ?_)
        refine v_goto (tgt := 76) C dX2_pullOut_111 rfl ?_
        refine v_sub [(0, A w c0), (1, I c1), (2, I x23), (3, I x25)] [1, 2, 3, 0] rfl ?_
        exact ih x23 x25 s24
      intro k108 hk108
      refine v_icmp_ne (tgt := 108) C dX2_pullOut_97 rfl ?_ ?_
      · skip
        exact hk108 p2 s
      · skip
        refine v_iload_n C dX2_pullOut_100 rfl (j := 2) rfl ?_
        refine v_aload_n C dX2_pullOut_101 rfl (j := 0) rfl ?_
        refine v_iload_n C dX2_pullOut_102 rfl (j := 3) rfl ?_
        refine v_callV_wI C [I p3] [I p2] (Cee.of (rm := rX2_dropStream) tw_1161 tw_4 hX2_dropStream rfl rfl hRm (Nat.le_of_ble_eq_true rfl) (Nat.le_of_ble_eq_true rfl)) (fun x h => kX2_dropStream X.2.1 w _ _ h) tw_1158 tw_1160 ts_35 rfl (ci := 2) rfl (by decide) rfl rfl (Nat.le_of_ble_eq_true rfl) ⟨Nat.zero_le _, Nat.zero_le _⟩ dX2_pullOut_103 (fun q26 => ?_)
        obtain ⟨x27, s28⟩ := q26
        refine v_iadd C dX2_pullOut_106 ?_
        refine v_bdI (fun x29 => ?_)
        refine v_istore_n C [(2, I x29), (0, A w c0), (1, I c1), (3, I p3)] dX2_pullOut_107 rfl (by decide) rfl ?_
        refine v_sub [(0, A w c0), (1, I c1), (2, I x29), (3, I p3)] [1, 2, 0, 3] rfl ?_
        exact hk108 x29 s28
theorem hX2_pullOut : yX2_pullOut.cls ≠ "java/lang/invoke/MethodHandle" ∧ yX2_pullOut.cls ≠ "java/lang/invoke/VarHandle" ∧ (parseMethodDescriptor yX2_pullOut.desc).map (fun d => d.parameters.length) = some 1 := by decide +kernel
set_option maxRecDepth 100000 in
theorem kX2_pullOut (l : Launch) (w : Wd) (P : Shp) (n : Nat) {s : St} {a0 : Int} {a1 : Int} {res : Int × St} (h : fX2_pullOut P s a0 a1 = some res) : Ct l w yX2_pullOut cX2_pullOut 4 (some FieldType.int) rX2_pullOut P n [A w a0, I a1] s (QI w P n res.1 res.2) :=
  Ct.of h (by decide) (Nat.le_of_ble_eq_true rfl) (lv := [(0, A w a0), (1, I a1)]) rfl fun X hl hRm C hO => by
  subst hl
  unfold fX2_pullOut
  refine v_aload_n C dX2_pullOut_0 rfl (j := 0) rfl ?_
  refine v_iload_n C dX2_pullOut_1 rfl (j := 1) rfl ?_
  refine v_callV_rI C [I a1] [] (Cee.of (rm := rX2_isDevice) tw_440 tw_4 hX2_isDevice rfl rfl hRm (Nat.le_of_ble_eq_true rfl) (Nat.le_of_ble_eq_true rfl)) (fun x h => kX2_isDevice X.2.1 w _ _ h) tw_461 tw_438 tw_439 rfl (ci := 2) rfl (by decide) rfl rfl (Nat.le_of_ble_eq_true rfl) ⟨Nat.zero_le _, Nat.zero_le _⟩ dX2_pullOut_2 (fun x1 => ?_)
  refine v_if_ne (tgt := 10) C dX2_pullOut_5 rfl ?_ ?_
  · skip
    refine v_aload_n C dX2_pullOut_10 rfl (j := 0) rfl ?_
    refine v_getR C 1 rfl (T := TX2) rfl inB2 (by decide) (by decide) rfl tw_308 dX2_pullOut_11 (fun x2 => ?_)
    refine v_getR C 9 rfl (T := TX6) rfl inB6 (by decide) (by decide) rfl tw_284 dX2_pullOut_14 (fun x3 => ?_)
    refine v_aload_n C dX2_pullOut_17 rfl (j := 0) rfl ?_
    refine v_iload_n C dX2_pullOut_18 rfl (j := 1) rfl ?_
    refine v_callV_rI C [I a1] [A w x3] (Cee.of (rm := rX2_inAlarm) tw_460 tw_4 hX2_inAlarm rfl rfl hRm (Nat.le_of_ble_eq_true rfl) (Nat.le_of_ble_eq_true rfl)) (fun x h => kX2_inAlarm X.2.1 w _ _ h) tw_1035 tw_458 tw_459 rfl (ci := 2) rfl (by decide) rfl rfl (Nat.le_of_ble_eq_true rfl) ⟨Nat.zero_le _, Nat.zero_le _⟩ dX2_pullOut_19 (fun x4 => ?_)
    refine v_jnt (fun (k30 : Int → Option (Int × St)) => ∀ (x5 : Int), V X w 4 P n 0 0 res (k30 x5) s 30 [(0, A w a0), (1, I a1)] [I x5, A w x3]) ?_ ?_
    · intro x5
      refine v_iload_n C dX2_pullOut_30 rfl (j := 1) rfl ?_
      refine v_aload_n C dX2_pullOut_31 rfl (j := 0) rfl ?_
      refine v_getR C 1 rfl (T := TX2) rfl inB2 (by decide) (by decide) rfl tw_308 dX2_pullOut_32 (fun x6 => ?_)
      refine v_getI C 0 rfl (T := TX6) rfl inB6 (by decide) (by decide) rfl tw_259 dX2_pullOut_35 (fun x7 => ?_)
      refine v_callV_wV C [I x5, I a1, I x7] [] (Cee.of (rm := rX3_add) tw_978 tw_7 hX3_add rfl rfl hRm (Nat.le_of_ble_eq_true rfl) (Nat.le_of_ble_eq_true rfl)) (fun x h => kX3_add X.2.1 w _ _ h) tw_975 tw_976 tw_977 rfl (ci := 3) rfl (by decide) rfl rfl (Nat.le_of_ble_eq_true rfl) ⟨Nat.zero_le _, Nat.zero_le _⟩ dX2_pullOut_38 (fun s8 => ?_)
      refine v_aload_n C dX2_pullOut_41 rfl (j := 0) rfl ?_
      refine v_getR C 1 rfl (T := TX2) rfl inB2 (by decide) (by decide) rfl tw_308 dX2_pullOut_42 (fun x9 => ?_)
      refine v_getR C 2 rfl (T := TX6) rfl inB6 (by decide) (by decide) rfl tw_264 dX2_pullOut_45 (fun x10 => ?_)
      refine v_iload_n C dX2_pullOut_48 rfl (j := 1) rfl ?_
      refine v_iconst C dX2_pullOut_49 ?_
      refine v_iast C dX2_pullOut_50 (fun s11 => ?_)
      refine v_aload_n C dX2_pullOut_51 rfl (j := 0) rfl ?_
      refine v_getR C 1 rfl (T := TX2) rfl inB2 (by decide) (by decide) rfl tw_308 dX2_pullOut_52 (fun x12 => ?_)
      refine v_getR C 3 rfl (T := TX6) rfl inB6 (by decide) (by decide) rfl tw_267 dX2_pullOut_55 (fun x13 => ?_)
      refine v_iload_n C dX2_pullOut_58 rfl (j := 1) rfl ?_
      refine v_iconst C dX2_pullOut_59 ?_
      refine v_iast C dX2_pullOut_60 (fun s14 => ?_)
      refine v_aload_n C dX2_pullOut_61 rfl (j := 0) rfl ?_
      refine v_getR C 1 rfl (T := TX2) rfl inB2 (by decide) (by decide) rfl tw_308 dX2_pullOut_62 (fun x15 => ?_)
      refine v_getR C 8 rfl (T := TX6) rfl inB6 (by decide) (by decide) rfl tw_281 dX2_pullOut_65 (fun x16 => ?_)
      refine v_iload_n C dX2_pullOut_68 rfl (j := 1) rfl ?_
      refine v_callV_wV C [I a1] [] (Cee.of (rm := rX0_forget) tw_1077 tw_6 hX0_forget rfl rfl hRm (Nat.le_of_ble_eq_true rfl) (Nat.le_of_ble_eq_true rfl)) (fun x h => kX0_forget X.2.1 w _ _ h) tw_1074 tw_1075 tw_1076 rfl (ci := 0) rfl (by decide) rfl rfl (Nat.le_of_ble_eq_true rfl) ⟨Nat.zero_le _, Nat.zero_le _⟩ dX2_pullOut_69 (fun s17 => ?_)
      refine v_iconst C dX2_pullOut_72 ?_
      refine v_istore_n C [(2, I 0), (0, A w a0), (1, I a1)] dX2_pullOut_73 rfl (by decide) rfl ?_
      refine v_iconst C dX2_pullOut_74 ?_
      refine v_istore_n C [(3, I 0), (2, I 0), (0, A w a0), (1, I a1)] dX2_pullOut_75 rfl (by decide) rfl ?_
      refine v_sub [(0, A w a0), (1, I a1), (2, I 0), (3, I 0)] [2, 3, 1, 0] rfl ?_
      refine vX2_pullOut_L76 res hRm C hO a0 a1 _ ?_ 1000 0 0 s17
      · intro x30 s31
        refine v_aload_n C dX2_pullOut_114 rfl (j := 0) rfl ?_
        refine v_getR C 1 rfl (T := TX2) rfl inB2 (by decide) (by decide) rfl tw_308 dX2_pullOut_115 (fun x32 => ?_)
        refine v_getR C 9 rfl (T := TX6) rfl inB6 (by decide) (by decide) rfl tw_284 dX2_pullOut_118 (fun x33 => ?_)
        refine v_getR C 5 rfl (T := TX3) rfl inB3 (by decide) (by decide) rfl tw_243 dX2_pullOut_121 (fun x34 => ?_)
        refine v_bipush C dX2_pullOut_124 (by decide) ?_
        refine v_dup2 C dX2_pullOut_126 rfl rfl ?_
        refine v_iald C dX2_pullOut_127 (fun x35 => ?_)
        refine v_iload_n C dX2_pullOut_128 rfl (j := 1) rfl ?_
        refine v_iadd C dX2_pullOut_129 ?_
        refine v_iast C dX2_pullOut_130 (fun s36 => ?_)
        refine v_aload_n C dX2_pullOut_131 rfl (j := 0) rfl ?_
        refine v_callV_wV C [] [] (Cee.of (rm := rX2_settle) tw_958 tw_4 hX2_settle rfl rfl hRm (Nat.le_of_ble_eq_true rfl) (Nat.le_of_ble_eq_true rfl)) (fun x h => kX2_settle X.2.1 w _ _ h) tw_955 tw_956 tw_957 rfl (ci := 2) rfl (by decide) rfl rfl (Nat.le_of_ble_eq_true rfl) ⟨Nat.zero_le _, Nat.zero_le _⟩ dX2_pullOut_132 (fun s37 => ?_)
        refine v_iload_n C dX2_pullOut_135 rfl (j := 1) rfl ?_
        exact v_iret C rfl hO pI dX2_pullOut_136
    intro k30 hk30
    refine v_if_eq (tgt := 29) C dX2_pullOut_22 rfl ?_ ?_
    · skip
      refine v_iconst C dX2_pullOut_29 ?_
      exact hk30 3
    · skip
      refine v_iconst C dX2_pullOut_25 ?_
      refine v_goto (tgt := 30) C dX2_pullOut_26 rfl ?_
      exact hk30 2
  · skip
    refine v_iconst C dX2_pullOut_8 ?_
    exact v_iret C rfl hO pI dX2_pullOut_9
-- ForesightHub.unplug
theorem hX7_unplug : yX7_unplug.cls ≠ "java/lang/invoke/MethodHandle" ∧ yX7_unplug.cls ≠ "java/lang/invoke/VarHandle" ∧ (parseMethodDescriptor yX7_unplug.desc).map (fun d => d.parameters.length) = some 1 := by decide +kernel
set_option maxRecDepth 100000 in
theorem kX7_unplug (l : Launch) (w : Wd) (P : Shp) (n : Nat) {s : St} {a0 : Int} {a1 : Int} {res : Int × St} (h : fX7_unplug P s a0 a1 = some res) : Ct l w yX7_unplug cX7_unplug 2 (some FieldType.int) rX7_unplug P n [A w a0, I a1] s (QI w P n res.1 res.2) :=
  Ct.of h (by decide) (Nat.le_of_ble_eq_true rfl) (lv := [(0, A w a0), (1, I a1)]) rfl fun X hl hRm C hO => by
  subst hl
  unfold fX7_unplug
  refine v_aload_n C dX7_unplug_0 rfl (j := 0) rfl ?_
  refine v_iload_n C dX7_unplug_1 rfl (j := 1) rfl ?_
  refine v_callV_rV C [I a1] [] (Cee.of (rm := rX7_requireDevice) tw_436 tw_1 hX7_requireDevice rfl rfl hRm (Nat.le_of_ble_eq_true rfl) (Nat.le_of_ble_eq_true rfl)) (fun x h => kX7_requireDevice X.2.1 w _ _ h) tw_433 tw_435 ts_1 rfl (ci := 7) rfl (by decide) rfl rfl (Nat.le_of_ble_eq_true rfl) ⟨Nat.zero_le _, Nat.zero_le _⟩ dX7_unplug_2 (fun x1 => ?_)
  refine v_aload_n C dX7_unplug_5 rfl (j := 0) rfl ?_
  refine v_iload_n C dX7_unplug_6 rfl (j := 1) rfl ?_
  refine v_callV_rV C [I a1] [] (Cee.of (rm := rX7_requirePluggedIn) tw_996 tw_1 hX7_requirePluggedIn rfl rfl hRm (Nat.le_of_ble_eq_true rfl) (Nat.le_of_ble_eq_true rfl)) (fun x h => kX7_requirePluggedIn X.2.1 w _ _ h) tw_993 tw_995 ts_26 rfl (ci := 7) rfl (by decide) rfl rfl (Nat.le_of_ble_eq_true rfl) ⟨Nat.zero_le _, Nat.zero_le _⟩ dX7_unplug_7 (fun x2 => ?_)
  refine v_aload_n C dX7_unplug_10 rfl (j := 0) rfl ?_
  refine v_getR C 2 rfl (T := TX7) rfl inB7 (by decide) (by decide) rfl tw_339 dX7_unplug_11 (fun x3 => ?_)
  refine v_aload_n C dX7_unplug_14 rfl (j := 0) rfl ?_
  refine v_getR C 1 rfl (T := TX7) rfl inB7 (by decide) (by decide) rfl tw_338 dX7_unplug_15 (fun x4 => ?_)
  refine v_getR C 1 rfl (T := TX2) rfl inB2 (by decide) (by decide) rfl tw_309 dX7_unplug_18 (fun x5 => ?_)
  refine v_callV_wV C [A w x5] [] (Cee.of (rm := rX1_remember) tw_1017 tw_8 hX1_remember rfl rfl hRm (Nat.le_of_ble_eq_true rfl) (Nat.le_of_ble_eq_true rfl)) (fun x h => kX1_remember X.2.1 w _ _ h) tw_1014 tw_1015 tw_1016 rfl (ci := 1) rfl (by decide) rfl rfl (Nat.le_of_ble_eq_true rfl) ⟨Nat.zero_le _, Nat.zero_le _⟩ dX7_unplug_21 (fun s6 => ?_)
  refine v_aload_n C dX7_unplug_24 rfl (j := 0) rfl ?_
  refine v_getR C 1 rfl (T := TX7) rfl inB7 (by decide) (by decide) rfl tw_338 dX7_unplug_25 (fun x7 => ?_)
  refine v_iload_n C dX7_unplug_28 rfl (j := 1) rfl ?_
  refine v_callV_wI C [I a1] [] (Cee.of (rm := rX2_pullOut) tw_1157 tw_4 hX2_pullOut rfl rfl hRm (Nat.le_of_ble_eq_true rfl) (Nat.le_of_ble_eq_true rfl)) (fun x h => kX2_pullOut X.2.1 w _ _ h) tw_1154 tw_1155 tw_1156 rfl (ci := 2) rfl (by decide) rfl rfl (Nat.le_of_ble_eq_true rfl) ⟨Nat.zero_le _, Nat.zero_le _⟩ dX7_unplug_29 (fun q8 => ?_)
  obtain ⟨x9, s10⟩ := q8
  exact v_iret C rfl hO pI dX7_unplug_32
-- ForesightHub.requirePort
theorem hX7_requirePort : yX7_requirePort.cls ≠ "java/lang/invoke/MethodHandle" ∧ yX7_requirePort.cls ≠ "java/lang/invoke/VarHandle" ∧ (parseMethodDescriptor yX7_requirePort.desc).map (fun d => d.parameters.length) = some 1 := by decide +kernel
set_option maxRecDepth 100000 in
theorem kX7_requirePort (l : Launch) (w : Wd) (P : Shp) (n : Nat) {s : St} {a0 : Int} {a1 : Int} {res : Unit} (h : fX7_requirePort P s a0 a1 = some res) : Ct l w yX7_requirePort cX7_requirePort 2 (Option.none : Option FieldType) rX7_requirePort P n [A w a0, I a1] s (QV w P n s) :=
  Ct.of h (by decide) (Nat.le_of_ble_eq_true rfl) (lv := [(0, A w a0), (1, I a1)]) rfl fun X hl hRm C hO => by
  subst hl
  unfold fX7_requirePort
  refine v_iload_n C dX7_requirePort_0 rfl (j := 1) rfl ?_
  refine v_jnt (fun (k18 : Option (Unit)) => V X w 2 P n 0 0 res (k18) s 18 [] []) ?_ ?_
  · skip
    exact v_none
  intro k18 hk18
  refine v_if_lt (tgt := 18) C dX7_requirePort_1 rfl ?_ ?_
  · skip
    refine v_sub [] [] rfl ?_
    exact hk18
  · skip
    refine v_iload_n C dX7_requirePort_4 rfl (j := 1) rfl ?_
    refine v_aload_n C dX7_requirePort_5 rfl (j := 0) rfl ?_
    refine v_getR C 1 rfl (T := TX7) rfl inB7 (by decide) (by decide) rfl tw_338 dX7_requirePort_6 (fun x1 => ?_)
    refine v_getR C 0 rfl (T := TX2) rfl inB2 (by decide) (by decide) rfl tw_307 dX7_requirePort_9 (fun x2 => ?_)
    refine v_getI C 1 rfl (T := TX4) rfl inB4 (by decide) (by decide) rfl tw_55 dX7_requirePort_12 (fun x3 => ?_)
    refine v_icmp_lt (tgt := 29) C dX7_requirePort_15 rfl ?_ ?_
    · skip
      exact v_vret C rfl hO (fun h => rfl) dX7_requirePort_29
    · skip
      refine v_sub [] [] rfl ?_
      exact hk18
-- ForesightHub$Hub.pluggedInAt
set_option maxRecDepth 100000 in
theorem vX2_pluggedInAt_L2 {X : Cxt} {w : Wd} {P : Shp} {n : Nat} {s : St} (res : Int) (hRm : X.2.2.2.1 = rX2_pluggedInAt) (C : Cok X w cX2_pluggedInAt 3 RX2 (some FieldType.int)) (hO : Own X w 0 0 (QI w P n res s))  (c0 : Int) (c1 : Int) (kE34 : Option (Int)) (kE26 : Int → Option (Int)) (hE34 : V X w 3 P n 0 0 res (kE34) s 34 [] []) (hE26 : ∀ (p2e : Int), V X w 3 P n 0 0 res (kE26 p2e) s 26 [(2, I p2e)] []) : ∀ (fuel : Nat) (p2 : Int), V X w 3 P n 0 0 res (fX2_pluggedInAt_L2 P s c0 c1 kE34 kE26 fuel p2) s 2 [(0, A w c0), (1, I c1), (2, I p2)] [] := by
  intro fuel
  induction fuel with
  | zero => intro p2; exact v_none
  | succ m ih =>
    intro p2
    rw [fX2_pluggedInAt_L2]
    refine v_iload_n C dX2_pluggedInAt_2 rfl (j := 2) rfl ?_
    refine v_aload_n C dX2_pluggedInAt_3 rfl (j := 0) rfl ?_
    refine v_getR C 0 rfl (T := TX2) rfl inB2 (by decide) (by decide) rfl tw_306 dX2_pluggedInAt_4 (fun x1 => ?_)
    refine v_getI C 5 rfl (T := TX4) rfl inB4 (by decide) (by decide) rfl tw_71 dX2_pluggedInAt_7 (fun x2 => ?_)
    refine v_icmp_ge (tgt := 34) C dX2_pluggedInAt_10 rfl ?_ ?_
    · skip
      refine v_sub [] [] rfl ?_
      exact hE34
    · skip
      refine v_aload_n C dX2_pluggedInAt_13 rfl (j := 0) rfl ?_
      refine v_getR C 1 rfl (T := TX2) rfl inB2 (by decide) (by decide) rfl tw_308 dX2_pluggedInAt_14 (fun x3 => ?_)
      refine v_getR C 2 rfl (T := TX6) rfl inB6 (by decide) (by decide) rfl tw_264 dX2_pluggedInAt_17 (fun x4 => ?_)
      refine v_iload_n C dX2_pluggedInAt_20 rfl (j := 2) rfl ?_
      refine v_iald C dX2_pluggedInAt_21 (fun x5 => ?_)
      refine v_iload_n C dX2_pluggedInAt_22 rfl (j := 1) rfl ?_
      refine v_icmp_ne (tgt := 28) C dX2_pluggedInAt_23 rfl ?_ ?_
      · skip
        refine v_iinc C (j := 2) [(0, A w c0), (1, I c1)] dX2_pluggedInAt_28 (by decide) rfl (fun _ => rfl) (fun x6 => ?_)
        refine v_goto (tgt := 2) C dX2_pluggedInAt_31 rfl ?_
        refine v_sub [(0, A w c0), (1, I c1), (2, I x6)] [1, 2, 0] rfl ?_
        exact ih x6
      · skip
        refine v_sub [(2, I p2)] [2] rfl ?_
        exact hE26 p2
theorem hX2_pluggedInAt : yX2_pluggedInAt.cls ≠ "java/lang/invoke/MethodHandle" ∧ yX2_pluggedInAt.cls ≠ "java/lang/invoke/VarHandle" ∧ (parseMethodDescriptor yX2_pluggedInAt.desc).map (fun d => d.parameters.length) = some 1 := by decide +kernel
set_option maxRecDepth 100000 in
theorem kX2_pluggedInAt (l : Launch) (w : Wd) (P : Shp) (n : Nat) {s : St} {a0 : Int} {a1 : Int} {res : Int} (h : fX2_pluggedInAt P s a0 a1 = some res) : Ct l w yX2_pluggedInAt cX2_pluggedInAt 3 (some FieldType.int) rX2_pluggedInAt P n [A w a0, I a1] s (QI w P n res s) :=
  Ct.of h (by decide) (Nat.le_of_ble_eq_true rfl) (lv := [(0, A w a0), (1, I a1)]) rfl fun X hl hRm C hO => by
  subst hl
  unfold fX2_pluggedInAt
  refine v_iconst C dX2_pluggedInAt_0 ?_
  refine v_istore_n C [(2, I 0), (0, A w a0), (1, I a1)] dX2_pluggedInAt_1 rfl (by decide) rfl ?_
  refine v_sub [(0, A w a0), (1, I a1), (2, I 0)] [1, 2, 0] rfl ?_
  refine vX2_pluggedInAt_L2 res hRm C hO a0 a1 _ _ ?_ ?_ 1000 0
  · skip
    refine v_iconst C dX2_pluggedInAt_34 ?_
    exact v_iret C rfl hO pS dX2_pluggedInAt_35
  · intro x7
    refine v_iload_n C dX2_pluggedInAt_26 rfl (j := 0) rfl ?_
    exact v_iret C rfl hO pS dX2_pluggedInAt_27
-- ForesightHub$Hub.putIn
theorem hX2_putIn : yX2_putIn.cls ≠ "java/lang/invoke/MethodHandle" ∧ yX2_putIn.cls ≠ "java/lang/invoke/VarHandle" ∧ (parseMethodDescriptor yX2_putIn.desc).map (fun d => d.parameters.length) = some 2 := by decide +kernel
set_option maxRecDepth 100000 in
theorem kX2_putIn (l : Launch) (w : Wd) (P : Shp) (n : Nat) {s : St} {a0 : Int} {a1 : Int} {a2 : Int} {res : St} (h : fX2_putIn P s a0 a1 a2 = some res) : Ct l w yX2_putIn cX2_putIn 3 (Option.none : Option FieldType) rX2_putIn P n [A w a0, I a1, I a2] s (QV w P n res) :=
  Ct.of h (by decide) (Nat.le_of_ble_eq_true rfl) (lv := [(0, A w a0), (1, I a1), (2, I a2)]) rfl fun X hl hRm C hO => by
  subst hl
  unfold fX2_putIn
  refine v_aload_n C dX2_putIn_0 rfl (j := 0) rfl ?_
  refine v_iload_n C dX2_putIn_1 rfl (j := 1) rfl ?_
  refine v_callV_rI C [I a1] [] (Cee.of (rm := rX2_isDevice) tw_440 tw_4 hX2_isDevice rfl rfl hRm (Nat.le_of_ble_eq_true rfl) (Nat.le_of_ble_eq_true rfl)) (fun x h => kX2_isDevice X.2.1 w _ _ h) tw_461 tw_438 tw_439 rfl (ci := 2) rfl (by decide) rfl rfl (Nat.le_of_ble_eq_true rfl) ⟨Nat.zero_le _, Nat.zero_le _⟩ dX2_putIn_2 (fun x1 => ?_)
  refine v_if_eq (tgt := 32) C dX2_putIn_5 rfl ?_ ?_
  · skip
    exact v_vret C rfl hO (fun h => Option.some.inj h) dX2_putIn_32
  · skip
    refine v_aload_n C dX2_putIn_8 rfl (j := 0) rfl ?_
    refine v_getR C 1 rfl (T := TX2) rfl inB2 (by decide) (by decide) rfl tw_308 dX2_putIn_9 (fun x2 => ?_)
    refine v_getR C 2 rfl (T := TX6) rfl inB6 (by decide) (by decide) rfl tw_264 dX2_putIn_12 (fun x3 => ?_)
    refine v_iload_n C dX2_putIn_15 rfl (j := 1) rfl ?_
    refine v_iload_n C dX2_putIn_16 rfl (j := 2) rfl ?_
    refine v_iast C dX2_putIn_17 (fun s4 => ?_)
    refine v_aload_n C dX2_putIn_18 rfl (j := 0) rfl ?_
    refine v_getR C 1 rfl (T := TX2) rfl inB2 (by decide) (by decide) rfl tw_308 dX2_putIn_19 (fun x5 => ?_)
    refine v_getR C 3 rfl (T := TX6) rfl inB6 (by decide) (by decide) rfl tw_267 dX2_putIn_22 (fun x6 => ?_)
    refine v_iload_n C dX2_putIn_25 rfl (j := 1) rfl ?_
    refine v_iconst C dX2_putIn_26 ?_
    refine v_iast C dX2_putIn_27 (fun s7 => ?_)
    refine v_aload_n C dX2_putIn_28 rfl (j := 0) rfl ?_
    refine v_callV_wV C [] [] (Cee.of (rm := rX2_settle) tw_958 tw_4 hX2_settle rfl rfl hRm (Nat.le_of_ble_eq_true rfl) (Nat.le_of_ble_eq_true rfl)) (fun x h => kX2_settle X.2.1 w _ _ h) tw_955 tw_956 tw_957 rfl (ci := 2) rfl (by decide) rfl rfl (Nat.le_of_ble_eq_true rfl) ⟨Nat.zero_le _, Nat.zero_le _⟩ dX2_putIn_29 (fun s8 => ?_)
    exact v_vret C rfl hO (fun h => Option.some.inj h) dX2_putIn_32
-- ForesightHub.plug
theorem hX7_plug : yX7_plug.cls ≠ "java/lang/invoke/MethodHandle" ∧ yX7_plug.cls ≠ "java/lang/invoke/VarHandle" ∧ (parseMethodDescriptor yX7_plug.desc).map (fun d => d.parameters.length) = some 2 := by decide +kernel
set_option maxRecDepth 100000 in
theorem kX7_plug (l : Launch) (w : Wd) (P : Shp) (n : Nat) {s : St} {a0 : Int} {a1 : Int} {a2 : Int} {res : Int × St} (h : fX7_plug P s a0 a1 a2 = some res) : Ct l w yX7_plug cX7_plug 3 (some FieldType.int) rX7_plug P n [A w a0, I a1, I a2] s (QI w P n res.1 res.2) :=
  Ct.of h (by decide) (Nat.le_of_ble_eq_true rfl) (lv := [(0, A w a0), (1, I a1), (2, I a2)]) rfl fun X hl hRm C hO => by
  subst hl
  unfold fX7_plug
  refine v_aload_n C dX7_plug_0 rfl (j := 0) rfl ?_
  refine v_iload_n C dX7_plug_1 rfl (j := 1) rfl ?_
  refine v_callV_rV C [I a1] [] (Cee.of (rm := rX7_requireDevice) tw_436 tw_1 hX7_requireDevice rfl rfl hRm (Nat.le_of_ble_eq_true rfl) (Nat.le_of_ble_eq_true rfl)) (fun x h => kX7_requireDevice X.2.1 w _ _ h) tw_433 tw_435 ts_1 rfl (ci := 7) rfl (by decide) rfl rfl (Nat.le_of_ble_eq_true rfl) ⟨Nat.zero_le _, Nat.zero_le _⟩ dX7_plug_2 (fun x1 => ?_)
  refine v_aload_n C dX7_plug_5 rfl (j := 0) rfl ?_
  refine v_iload_n C dX7_plug_6 rfl (j := 2) rfl ?_
  refine v_callV_rV C [I a2] [] (Cee.of (rm := rX7_requirePort) tw_1047 tw_1 hX7_requirePort rfl rfl hRm (Nat.le_of_ble_eq_true rfl) (Nat.le_of_ble_eq_true rfl)) (fun x h => kX7_requirePort X.2.1 w _ _ h) tw_1044 tw_1046 ts_29 rfl (ci := 7) rfl (by decide) rfl rfl (Nat.le_of_ble_eq_true rfl) ⟨Nat.zero_le _, Nat.zero_le _⟩ dX7_plug_7 (fun x2 => ?_)
  refine v_aload_n C dX7_plug_10 rfl (j := 0) rfl ?_
  refine v_getR C 1 rfl (T := TX7) rfl inB7 (by decide) (by decide) rfl tw_338 dX7_plug_11 (fun x3 => ?_)
  refine v_iload_n C dX7_plug_14 rfl (j := 1) rfl ?_
  refine v_callV_rI C [I a1] [] (Cee.of (rm := rX2_isPluggedIn) tw_518 tw_4 hX2_isPluggedIn rfl rfl hRm (Nat.le_of_ble_eq_true rfl) (Nat.le_of_ble_eq_true rfl)) (fun x h => kX2_isPluggedIn X.2.1 w _ _ h) tw_997 tw_516 tw_517 rfl (ci := 2) rfl (by decide) rfl rfl (Nat.le_of_ble_eq_true rfl) ⟨Nat.zero_le _, Nat.zero_le _⟩ dX7_plug_15 (fun x4 => ?_)
  refine v_if_eq (tgt := 32) C dX7_plug_18 rfl ?_ ?_
  · skip
    refine v_aload_n C dX7_plug_32 rfl (j := 0) rfl ?_
    refine v_getR C 1 rfl (T := TX7) rfl inB7 (by decide) (by decide) rfl tw_338 dX7_plug_33 (fun x5 => ?_)
    refine v_iload_n C dX7_plug_36 rfl (j := 2) rfl ?_
    refine v_callV_rI C [I a2] [] (Cee.of (rm := rX2_pluggedInAt) tw_1053 tw_4 hX2_pluggedInAt rfl rfl hRm (Nat.le_of_ble_eq_true rfl) (Nat.le_of_ble_eq_true rfl)) (fun x h => kX2_pluggedInAt X.2.1 w _ _ h) tw_1050 tw_1051 tw_1052 rfl (ci := 2) rfl (by decide) rfl rfl (Nat.le_of_ble_eq_true rfl) ⟨Nat.zero_le _, Nat.zero_le _⟩ dX7_plug_37 (fun x6 => ?_)
    refine v_iconst C dX7_plug_40 ?_
    refine v_icmp_eq (tgt := 55) C dX7_plug_41 rfl ?_ ?_
    · skip
      refine v_aload_n C dX7_plug_55 rfl (j := 0) rfl ?_
      refine v_getR C 2 rfl (T := TX7) rfl inB7 (by decide) (by decide) rfl tw_339 dX7_plug_56 (fun x7 => ?_)
      refine v_aload_n C dX7_plug_59 rfl (j := 0) rfl ?_
      refine v_getR C 1 rfl (T := TX7) rfl inB7 (by decide) (by decide) rfl tw_338 dX7_plug_60 (fun x8 => ?_)
      refine v_getR C 1 rfl (T := TX2) rfl inB2 (by decide) (by decide) rfl tw_309 dX7_plug_63 (fun x9 => ?_)
      refine v_callV_wV C [A w x9] [] (Cee.of (rm := rX1_remember) tw_1017 tw_8 hX1_remember rfl rfl hRm (Nat.le_of_ble_eq_true rfl) (Nat.le_of_ble_eq_true rfl)) (fun x h => kX1_remember X.2.1 w _ _ h) tw_1014 tw_1015 tw_1016 rfl (ci := 1) rfl (by decide) rfl rfl (Nat.le_of_ble_eq_true rfl) ⟨Nat.zero_le _, Nat.zero_le _⟩ dX7_plug_66 (fun s10 => ?_)
      refine v_aload_n C dX7_plug_69 rfl (j := 0) rfl ?_
      refine v_getR C 1 rfl (T := TX7) rfl inB7 (by decide) (by decide) rfl tw_338 dX7_plug_70 (fun x11 => ?_)
      refine v_iload_n C dX7_plug_73 rfl (j := 1) rfl ?_
      refine v_iload_n C dX7_plug_74 rfl (j := 2) rfl ?_
      refine v_callV_wV C [I a1, I a2] [] (Cee.of (rm := rX2_putIn) tw_1058 tw_4 hX2_putIn rfl rfl hRm (Nat.le_of_ble_eq_true rfl) (Nat.le_of_ble_eq_true rfl)) (fun x h => kX2_putIn X.2.1 w _ _ h) tw_1055 tw_1056 tw_1057 rfl (ci := 2) rfl (by decide) rfl rfl (Nat.le_of_ble_eq_true rfl) ⟨Nat.zero_le _, Nat.zero_le _⟩ dX7_plug_75 (fun s12 => ?_)
      refine v_aload_n C dX7_plug_78 rfl (j := 0) rfl ?_
      refine v_getR C 1 rfl (T := TX7) rfl inB7 (by decide) (by decide) rfl tw_338 dX7_plug_79 (fun x13 => ?_)
      refine v_iload_n C dX7_plug_82 rfl (j := 1) rfl ?_
      refine v_callV_rI C [I a1] [] (Cee.of (rm := rX2_heldBits) tw_501 tw_4 hX2_heldBits rfl rfl hRm (Nat.le_of_ble_eq_true rfl) (Nat.le_of_ble_eq_true rfl)) (fun x h => kX2_heldBits X.2.1 w _ _ h) tw_498 tw_499 tw_500 rfl (ci := 2) rfl (by decide) rfl rfl (Nat.le_of_ble_eq_true rfl) ⟨Nat.zero_le _, Nat.zero_le _⟩ dX7_plug_83 (fun x14 => ?_)
      refine v_callS_rI C [I x14] [] (Cee.of (rm := rJ6_bitCount_0f7a4) tw_1061 tw_23 hJ6_bitCount_0f7a4 rfl rfl hRm (Nat.le_of_ble_eq_true rfl) (Nat.le_of_ble_eq_true rfl)) (fun x h => kJ6_bitCount_0f7a4 X.2.1 w _ _ h) tw_1059 tw_1060 rfl rfl (Nat.le_of_ble_eq_true rfl) ⟨Nat.zero_le _, Nat.zero_le _⟩ dX7_plug_86 (fun x15 => ?_)
      exact v_iret C rfl hO pI dX7_plug_89
    · skip
      exact v_none
  · skip
    exact v_none
-- java/lang/Math.floorMod
theorem hJ9_floorMod_7cf53 : yJ9_floorMod_7cf53.cls ≠ "java/lang/invoke/MethodHandle" ∧ yJ9_floorMod_7cf53.cls ≠ "java/lang/invoke/VarHandle" ∧ (parseMethodDescriptor yJ9_floorMod_7cf53.desc).map (fun d => d.parameters.length) = some 2 := by decide +kernel
set_option maxRecDepth 100000 in
theorem kJ9_floorMod_7cf53 (l : Launch) (w : Wd) (P : Shp) (n : Nat) {s : St} {a0 : Int} {a1 : Int} {res : Int} (h : fJ9_floorMod_7cf53 P s a0 a1 = some res) : Ct l w yJ9_floorMod_7cf53 cJ9_floorMod_7cf53 3 (some FieldType.int) rJ9_floorMod_7cf53 P n [I a0, I a1] s (QI w P n res s) :=
  Ct.ofF h (by decide +kernel) (Nat.le_of_ble_eq_true rfl) (lv := [(0, I a0), (1, I a1)]) rfl fun X hl hRm C hO => by
  subst hl
  unfold fJ9_floorMod_7cf53
  refine v_iload_n C dJ9_floorMod_7cf53_0 rfl (j := 0) rfl ?_
  refine v_iload_n C dJ9_floorMod_7cf53_1 rfl (j := 1) rfl ?_
  refine v_irem C dJ9_floorMod_7cf53_2 (fun x1 => ?_)
  refine v_istore_n C [(2, I x1), (0, I a0), (1, I a1)] dJ9_floorMod_7cf53_3 rfl (by decide) rfl ?_
  refine v_iload_n C dJ9_floorMod_7cf53_4 rfl (j := 1) rfl ?_
  refine v_iload_n C dJ9_floorMod_7cf53_5 rfl (j := 2) rfl ?_
  refine v_ixor C dJ9_floorMod_7cf53_6 ?_
  refine v_if_ge (tgt := 18) C dJ9_floorMod_7cf53_7 rfl ?_ ?_
  · skip
    refine v_iload_n C dJ9_floorMod_7cf53_18 rfl (j := 0) rfl ?_
    exact v_iret C rfl hO pS dJ9_floorMod_7cf53_19
  · skip
    refine v_iload_n C dJ9_floorMod_7cf53_10 rfl (j := 0) rfl ?_
    refine v_if_eq (tgt := 18) C dJ9_floorMod_7cf53_11 rfl ?_ ?_
    · skip
      refine v_iload_n C dJ9_floorMod_7cf53_18 rfl (j := 0) rfl ?_
      exact v_iret C rfl hO pS dJ9_floorMod_7cf53_19
    · skip
      refine v_iload_n C dJ9_floorMod_7cf53_14 rfl (j := 0) rfl ?_
      refine v_iload_n C dJ9_floorMod_7cf53_15 rfl (j := 2) rfl ?_
      refine v_iadd C dJ9_floorMod_7cf53_16 ?_
      exact v_iret C rfl hO pS dJ9_floorMod_7cf53_17
-- ForesightHub$History.takeBack
theorem hX1_takeBack : yX1_takeBack.cls ≠ "java/lang/invoke/MethodHandle" ∧ yX1_takeBack.cls ≠ "java/lang/invoke/VarHandle" ∧ (parseMethodDescriptor yX1_takeBack.desc).map (fun d => d.parameters.length) = some 1 := by decide +kernel
set_option maxRecDepth 100000 in
theorem kX1_takeBack (l : Launch) (w : Wd) (P : Shp) (n : Nat) {s : St} {a0 : Int} {a1 : Int} {res : Int × St} (h : fX1_takeBack P s a0 a1 = some res) : Ct l w yX1_takeBack cX1_takeBack 2 (some FieldType.boolean) rX1_takeBack P n [A w a0, A w a1] s (QI w P n res.1 res.2) :=
  Ct.of h (by decide) (Nat.le_of_ble_eq_true rfl) (lv := [(0, A w a0), (1, A w a1)]) rfl fun X hl hRm C hO => by
  subst hl
  unfold fX1_takeBack
  refine v_aload_n C dX1_takeBack_0 rfl (j := 0) rfl ?_
  refine v_getI C 1 rfl (T := TX1) rfl inB1 (by decide) (by decide) rfl tw_325 dX1_takeBack_1 (fun x1 => ?_)
  refine v_if_gt (tgt := 9) C dX1_takeBack_4 rfl ?_ ?_
  · skip
    refine v_aload_n C dX1_takeBack_9 rfl (j := 0) rfl ?_
    refine v_aload_n C dX1_takeBack_10 rfl (j := 0) rfl ?_
    refine v_getI C 2 rfl (T := TX1) rfl inB1 (by decide) (by decide) rfl tw_327 dX1_takeBack_11 (fun x2 => ?_)
    refine v_iconst C dX1_takeBack_14 ?_
    refine v_isub C dX1_takeBack_15 ?_
    refine v_bipush C dX1_takeBack_16 (by decide) ?_
    refine v_callS_rI C [I (x2 - 1), I 10] [A w a0] (Cee.of (rm := rJ9_floorMod_7cf53) tw_530 tw_13 hJ9_floorMod_7cf53 rfl rfl hRm (Nat.le_of_ble_eq_true rfl) (Nat.le_of_ble_eq_true rfl)) (fun x h => kJ9_floorMod_7cf53 X.2.1 w _ _ h) tw_528 tw_529 rfl rfl (Nat.le_of_ble_eq_true rfl) ⟨Nat.zero_le _, Nat.zero_le _⟩ dX1_takeBack_18 (fun x3 => ?_)
    refine v_putI C 2 rfl (T := TX1) rfl inB1 (by decide) tyX1_ok nmX1 (by decide) rfl rfl tw_327 dX1_takeBack_21 rfl (fun s4 => ?_)
    refine v_aload_n C dX1_takeBack_24 rfl (j := 1) rfl ?_
    refine v_aload_n C dX1_takeBack_25 rfl (j := 0) rfl ?_
    refine v_getR C 0 rfl (T := TX1) rfl inB1 (by decide) (by decide) rfl tw_324 dX1_takeBack_26 (fun x5 => ?_)
    refine v_aload_n C dX1_takeBack_29 rfl (j := 0) rfl ?_
    refine v_getI C 2 rfl (T := TX1) rfl inB1 (by decide) (by decide) rfl tw_327 dX1_takeBack_30 (fun x6 => ?_)
    refine v_aald C dX1_takeBack_33 (fun x7 => ?_)
    refine v_callV_wV C [A w x7] [] (Cee.of (rm := rX6_copyFrom) tw_534 tw_5 hX6_copyFrom rfl rfl hRm (Nat.le_of_ble_eq_true rfl) (Nat.le_of_ble_eq_true rfl)) (fun x h => kX6_copyFrom X.2.1 w _ _ h) tw_531 tw_532 tw_533 rfl (ci := 6) rfl (by decide) rfl rfl (Nat.le_of_ble_eq_true rfl) ⟨Nat.zero_le _, Nat.zero_le _⟩ dX1_takeBack_34 (fun s8 => ?_)
    refine v_aload_n C dX1_takeBack_37 rfl (j := 0) rfl ?_
    refine v_dup C dX1_takeBack_38 rfl ?_
    refine v_getI C 1 rfl (T := TX1) rfl inB1 (by decide) (by decide) rfl tw_325 dX1_takeBack_39 (fun x9 => ?_)
    refine v_iconst C dX1_takeBack_42 ?_
    refine v_isub C dX1_takeBack_43 ?_
    refine v_putI C 1 rfl (T := TX1) rfl inB1 (by decide) tyX1_ok nmX1 (by decide) rfl rfl tw_325 dX1_takeBack_44 rfl (fun s10 => ?_)
    refine v_iconst C dX1_takeBack_47 ?_
    exact v_zret C rfl hO pI dX1_takeBack_48
  · skip
    refine v_iconst C dX1_takeBack_7 ?_
    exact v_zret C rfl hO pI dX1_takeBack_8
-- ForesightHub.undo
theorem hX7_undo : yX7_undo.cls ≠ "java/lang/invoke/MethodHandle" ∧ yX7_undo.cls ≠ "java/lang/invoke/VarHandle" ∧ (parseMethodDescriptor yX7_undo.desc).map (fun d => d.parameters.length) = some 0 := by decide +kernel
set_option maxRecDepth 100000 in
theorem kX7_undo (l : Launch) (w : Wd) (P : Shp) (n : Nat) {s : St} {a0 : Int} {res : Int × St} (h : fX7_undo P s a0 = some res) : Ct l w yX7_undo cX7_undo 1 (some FieldType.int) rX7_undo P n [A w a0] s (QI w P n res.1 res.2) :=
  Ct.of h (by decide) (Nat.le_of_ble_eq_true rfl) (lv := [(0, A w a0)]) rfl fun X hl hRm C hO => by
  subst hl
  unfold fX7_undo
  refine v_aload_n C dX7_undo_0 rfl (j := 0) rfl ?_
  refine v_getR C 2 rfl (T := TX7) rfl inB7 (by decide) (by decide) rfl tw_339 dX7_undo_1 (fun x1 => ?_)
  refine v_aload_n C dX7_undo_4 rfl (j := 0) rfl ?_
  refine v_getR C 1 rfl (T := TX7) rfl inB7 (by decide) (by decide) rfl tw_338 dX7_undo_5 (fun x2 => ?_)
  refine v_getR C 1 rfl (T := TX2) rfl inB2 (by decide) (by decide) rfl tw_309 dX7_undo_8 (fun x3 => ?_)
  refine v_callV_wI C [A w x3] [] (Cee.of (rm := rX1_takeBack) tw_527 tw_8 hX1_takeBack rfl rfl hRm (Nat.le_of_ble_eq_true rfl) (Nat.le_of_ble_eq_true rfl)) (fun x h => kX1_takeBack X.2.1 w _ _ h) tw_524 tw_525 tw_526 rfl (ci := 1) rfl (by decide) rfl rfl (Nat.le_of_ble_eq_true rfl) ⟨Nat.zero_le _, Nat.zero_le _⟩ dX7_undo_11 (fun q4 => ?_)
  obtain ⟨x5, s6⟩ := q4
  refine v_if_eq (tgt := 27) C dX7_undo_14 rfl ?_ ?_
  · skip
    refine v_iconst C dX7_undo_27 ?_
    exact v_iret C rfl hO pI dX7_undo_28
  · skip
    refine v_aload_n C dX7_undo_17 rfl (j := 0) rfl ?_
    refine v_getR C 2 rfl (T := TX7) rfl inB7 (by decide) (by decide) rfl tw_339 dX7_undo_18 (fun x7 => ?_)
    refine v_getI C 1 rfl (T := TX1) rfl inB1 (by decide) (by decide) rfl tw_326 dX7_undo_21 (fun x8 => ?_)
    refine v_goto (tgt := 28) C dX7_undo_24 rfl ?_
    exact v_iret C rfl hO pI dX7_undo_28
-- ForesightHub.saveSnapshot
theorem hX7_saveSnapshot : yX7_saveSnapshot.cls ≠ "java/lang/invoke/MethodHandle" ∧ yX7_saveSnapshot.cls ≠ "java/lang/invoke/VarHandle" ∧ (parseMethodDescriptor yX7_saveSnapshot.desc).map (fun d => d.parameters.length) = some 1 := by decide +kernel
set_option maxRecDepth 100000 in
theorem kX7_saveSnapshot (l : Launch) (w : Wd) (P : Shp) (n : Nat) {s : St} {a0 : Int} {a1 : Int} {res : Int × St} (h : fX7_saveSnapshot P s a0 a1 = some res) : Ct l w yX7_saveSnapshot cX7_saveSnapshot 2 (some FieldType.boolean) rX7_saveSnapshot P n [A w a0, I a1] s (QI w P n res.1 res.2) :=
  Ct.of h (by decide) (Nat.le_of_ble_eq_true rfl) (lv := [(0, A w a0), (1, I a1)]) rfl fun X hl hRm C hO => by
  subst hl
  unfold fX7_saveSnapshot
  refine v_iload_n C dX7_saveSnapshot_0 rfl (j := 1) rfl ?_
  refine v_if_lt (tgt := 9) C dX7_saveSnapshot_1 rfl ?_ ?_
  · skip
    refine v_iconst C dX7_saveSnapshot_9 ?_
    exact v_zret C rfl hO pI dX7_saveSnapshot_10
  · skip
    refine v_iload_n C dX7_saveSnapshot_4 rfl (j := 1) rfl ?_
    refine v_iconst C dX7_saveSnapshot_5 ?_
    refine v_icmp_lt (tgt := 11) C dX7_saveSnapshot_6 rfl ?_ ?_
    · skip
      refine v_aload_n C dX7_saveSnapshot_11 rfl (j := 0) rfl ?_
      refine v_getR C 3 rfl (T := TX7) rfl inB7 (by decide) (by decide) rfl tw_340 dX7_saveSnapshot_12 (fun x1 => ?_)
      refine v_iload_n C dX7_saveSnapshot_15 rfl (j := 1) rfl ?_
      refine v_aald C dX7_saveSnapshot_16 (fun x2 => ?_)
      refine v_aload_n C dX7_saveSnapshot_17 rfl (j := 0) rfl ?_
      refine v_getR C 1 rfl (T := TX7) rfl inB7 (by decide) (by decide) rfl tw_338 dX7_saveSnapshot_18 (fun x3 => ?_)
      refine v_getR C 1 rfl (T := TX2) rfl inB2 (by decide) (by decide) rfl tw_309 dX7_saveSnapshot_21 (fun x4 => ?_)
      refine v_callV_wV C [A w x4] [] (Cee.of (rm := rX6_copyFrom) tw_534 tw_5 hX6_copyFrom rfl rfl hRm (Nat.le_of_ble_eq_true rfl) (Nat.le_of_ble_eq_true rfl)) (fun x h => kX6_copyFrom X.2.1 w _ _ h) tw_552 tw_532 tw_533 rfl (ci := 6) rfl (by decide) rfl rfl (Nat.le_of_ble_eq_true rfl) ⟨Nat.zero_le _, Nat.zero_le _⟩ dX7_saveSnapshot_24 (fun s5 => ?_)
      refine v_aload_n C dX7_saveSnapshot_27 rfl (j := 0) rfl ?_
      refine v_getR C 4 rfl (T := TX7) rfl inB7 (by decide) (by decide) rfl tw_341 dX7_saveSnapshot_28 (fun x6 => ?_)
      refine v_iload_n C dX7_saveSnapshot_31 rfl (j := 1) rfl ?_
      refine v_iconst C dX7_saveSnapshot_32 ?_
      refine v_zast C dX7_saveSnapshot_33 (fun s7 => ?_)
      refine v_iconst C dX7_saveSnapshot_34 ?_
      exact v_zret C rfl hO pI dX7_saveSnapshot_35
    · skip
      refine v_iconst C dX7_saveSnapshot_9 ?_
      exact v_zret C rfl hO pI dX7_saveSnapshot_10
-- ForesightHub.restoreSnapshot
theorem hX7_restoreSnapshot : yX7_restoreSnapshot.cls ≠ "java/lang/invoke/MethodHandle" ∧ yX7_restoreSnapshot.cls ≠ "java/lang/invoke/VarHandle" ∧ (parseMethodDescriptor yX7_restoreSnapshot.desc).map (fun d => d.parameters.length) = some 1 := by decide +kernel
set_option maxRecDepth 100000 in
theorem kX7_restoreSnapshot (l : Launch) (w : Wd) (P : Shp) (n : Nat) {s : St} {a0 : Int} {a1 : Int} {res : Int × St} (h : fX7_restoreSnapshot P s a0 a1 = some res) : Ct l w yX7_restoreSnapshot cX7_restoreSnapshot 2 (some FieldType.boolean) rX7_restoreSnapshot P n [A w a0, I a1] s (QI w P n res.1 res.2) :=
  Ct.of h (by decide) (Nat.le_of_ble_eq_true rfl) (lv := [(0, A w a0), (1, I a1)]) rfl fun X hl hRm C hO => by
  subst hl
  unfold fX7_restoreSnapshot
  refine v_iload_n C dX7_restoreSnapshot_0 rfl (j := 1) rfl ?_
  refine v_if_lt (tgt := 18) C dX7_restoreSnapshot_1 rfl ?_ ?_
  · skip
    refine v_iconst C dX7_restoreSnapshot_18 ?_
    exact v_zret C rfl hO pI dX7_restoreSnapshot_19
  · skip
    refine v_iload_n C dX7_restoreSnapshot_4 rfl (j := 1) rfl ?_
    refine v_iconst C dX7_restoreSnapshot_5 ?_
    refine v_icmp_ge (tgt := 18) C dX7_restoreSnapshot_6 rfl ?_ ?_
    · skip
      refine v_iconst C dX7_restoreSnapshot_18 ?_
      exact v_zret C rfl hO pI dX7_restoreSnapshot_19
    · skip
      refine v_aload_n C dX7_restoreSnapshot_9 rfl (j := 0) rfl ?_
      refine v_getR C 4 rfl (T := TX7) rfl inB7 (by decide) (by decide) rfl tw_341 dX7_restoreSnapshot_10 (fun x1 => ?_)
      refine v_iload_n C dX7_restoreSnapshot_13 rfl (j := 1) rfl ?_
      refine v_zald C dX7_restoreSnapshot_14 (fun x2 => ?_)
      refine v_if_ne (tgt := 20) C dX7_restoreSnapshot_15 rfl ?_ ?_
      · skip
        refine v_aload_n C dX7_restoreSnapshot_20 rfl (j := 0) rfl ?_
        refine v_getR C 1 rfl (T := TX7) rfl inB7 (by decide) (by decide) rfl tw_338 dX7_restoreSnapshot_21 (fun x3 => ?_)
        refine v_getR C 1 rfl (T := TX2) rfl inB2 (by decide) (by decide) rfl tw_309 dX7_restoreSnapshot_24 (fun x4 => ?_)
        refine v_aload_n C dX7_restoreSnapshot_27 rfl (j := 0) rfl ?_
        refine v_getR C 3 rfl (T := TX7) rfl inB7 (by decide) (by decide) rfl tw_340 dX7_restoreSnapshot_28 (fun x5 => ?_)
        refine v_iload_n C dX7_restoreSnapshot_31 rfl (j := 1) rfl ?_
        refine v_aald C dX7_restoreSnapshot_32 (fun x6 => ?_)
        refine v_callV_wV C [A w x6] [] (Cee.of (rm := rX6_copyFrom) tw_534 tw_5 hX6_copyFrom rfl rfl hRm (Nat.le_of_ble_eq_true rfl) (Nat.le_of_ble_eq_true rfl)) (fun x h => kX6_copyFrom X.2.1 w _ _ h) tw_552 tw_532 tw_533 rfl (ci := 6) rfl (by decide) rfl rfl (Nat.le_of_ble_eq_true rfl) ⟨Nat.zero_le _, Nat.zero_le _⟩ dX7_restoreSnapshot_33 (fun s7 => ?_)
        refine v_aload_n C dX7_restoreSnapshot_36 rfl (j := 0) rfl ?_
        refine v_getR C 2 rfl (T := TX7) rfl inB7 (by decide) (by decide) rfl tw_339 dX7_restoreSnapshot_37 (fun x8 => ?_)
        refine v_callV_wV C [] [] (Cee.of (rm := rX1_clear) tw_560 tw_8 hX1_clear rfl rfl hRm (Nat.le_of_ble_eq_true rfl) (Nat.le_of_ble_eq_true rfl)) (fun x h => kX1_clear X.2.1 w _ _ h) tw_557 tw_558 tw_559 rfl (ci := 1) rfl (by decide) rfl rfl (Nat.le_of_ble_eq_true rfl) ⟨Nat.zero_le _, Nat.zero_le _⟩ dX7_restoreSnapshot_40 (fun s9 => ?_)
        refine v_iconst C dX7_restoreSnapshot_43 ?_
        exact v_zret C rfl hO pI dX7_restoreSnapshot_44
      · skip
        refine v_iconst C dX7_restoreSnapshot_18 ?_
        exact v_zret C rfl hO pI dX7_restoreSnapshot_19
