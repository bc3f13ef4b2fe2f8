/-! CONTRACTS (laid by wip/whole/gen/write.py) -/
-- ForesightHubModel.alarms
theorem hX8_alarms : yX8_alarms.cls ≠ "java/lang/invoke/MethodHandle" ∧ yX8_alarms.cls ≠ "java/lang/invoke/VarHandle" ∧ (parseMethodDescriptor yX8_alarms.desc).map (fun d => d.parameters.length) = some 1 := by decide +kernel
set_option maxRecDepth 100000 in
theorem kX8_alarms (l : Launch) (w : Wd) (P : Shp) (n : Nat) {s : St} {a0 : Int} {a1 : Int} {res : St} (h : fX8_alarms P s a0 a1 = some res) : Ct l w yX8_alarms cX8_alarms 2 (Option.none : Option FieldType) rX8_alarms P n [A w a0, I a1] s (QV w P n res) :=
  Ct.of h (by decide) (Nat.le_of_ble_eq_true rfl) (lv := [(0, A w a0), (1, I a1)]) rfl fun X hl hRm C hO => by
  subst hl
  unfold fX8_alarms
  refine v_aload_n C dX8_alarms_0 rfl (j := 0) rfl ?_
  refine v_getR C 14 rfl (T := TX8) rfl inB8 (by decide) (by decide) rfl tw_1154 dX8_alarms_1 (fun x1 => ?_)
  refine v_iload_n C dX8_alarms_4 rfl (j := 1) rfl ?_
  refine v_callS_rI C [I a1] [A w x1] (Cee.of (rm := rX8_at) tw_1088 tw_9 hX8_at rfl rfl hRm (Nat.le_of_ble_eq_true rfl) (Nat.le_of_ble_eq_true rfl)) (fun x h => kX8_at X.2.1 w P n h) tw_1086 tw_1087 rfl rfl (Nat.le_of_ble_eq_true rfl) ⟨Nat.zero_le _, Nat.zero_le _⟩ dX8_alarms_5 (fun x2 => ?_)
  refine v_iconst C dX8_alarms_8 ?_
  refine v_iadd C dX8_alarms_9 ?_
  refine v_iconst C dX8_alarms_10 ?_
  refine v_iast C dX8_alarms_11 (fun s3 => ?_)
  refine v_aload_n C dX8_alarms_12 rfl (j := 0) rfl ?_
  refine v_getR C 14 rfl (T := TX8) rfl inB8 (by decide) (by decide) rfl tw_1154 dX8_alarms_13 (fun x4 => ?_)
  refine v_iload_n C dX8_alarms_16 rfl (j := 1) rfl ?_
  refine v_callS_rI C [I a1] [A w x4] (Cee.of (rm := rX8_at) tw_1088 tw_9 hX8_at rfl rfl hRm (Nat.le_of_ble_eq_true rfl) (Nat.le_of_ble_eq_true rfl)) (fun x h => kX8_at X.2.1 w P n h) tw_1086 tw_1087 rfl rfl (Nat.le_of_ble_eq_true rfl) ⟨Nat.zero_le _, Nat.zero_le _⟩ dX8_alarms_17 (fun x5 => ?_)
  refine v_iconst C dX8_alarms_20 ?_
  refine v_iadd C dX8_alarms_21 ?_
  refine v_aload_n C dX8_alarms_22 rfl (j := 0) rfl ?_
  refine v_getR C 14 rfl (T := TX8) rfl inB8 (by decide) (by decide) rfl tw_1154 dX8_alarms_23 (fun x6 => ?_)
  refine v_iconst C dX8_alarms_26 ?_
  refine v_iald C dX8_alarms_27 (fun x7 => ?_)
  refine v_iast C dX8_alarms_28 (fun s8 => ?_)
  refine v_aload_n C dX8_alarms_29 rfl (j := 0) rfl ?_
  refine v_iconst C dX8_alarms_30 ?_
  refine v_iload_n C dX8_alarms_31 rfl (j := 1) rfl ?_
  refine v_callV_wV C [I 0, I a1] [] (Cee.of (rm := rX8_happens) tw_1131 tw_9 hX8_happens rfl rfl hRm (Nat.le_of_ble_eq_true rfl) (Nat.le_of_ble_eq_true rfl)) (fun x h => kX8_happens X.2.1 w P n h) tw_1128 tw_1130 ts_48 rfl (ci := 8) rfl (by decide) rfl rfl (Nat.le_of_ble_eq_true rfl) ⟨Nat.zero_le _, Nat.zero_le _⟩ dX8_alarms_32 (fun s9 => ?_)
  refine v_aload_n C dX8_alarms_35 rfl (j := 0) rfl ?_
  refine v_callV_wV C [] [] (Cee.of (rm := rX8_settles) tw_1099 tw_9 hX8_settles rfl rfl hRm (Nat.le_of_ble_eq_true rfl) (Nat.le_of_ble_eq_true rfl)) (fun x h => kX8_settles X.2.1 w P n h) tw_1096 tw_1098 ts_40 rfl (ci := 8) rfl (by decide) rfl rfl (Nat.le_of_ble_eq_true rfl) ⟨Nat.zero_le _, Nat.zero_le _⟩ dX8_alarms_36 (fun s10 => ?_)
  exact v_vret C rfl hO (fun h => Option.some.inj h) dX8_alarms_39
-- ForesightHubModel.fail
theorem hX8_fail : yX8_fail.cls ≠ "java/lang/invoke/MethodHandle" ∧ yX8_fail.cls ≠ "java/lang/invoke/VarHandle" ∧ (parseMethodDescriptor yX8_fail.desc).map (fun d => d.parameters.length) = some 2 := by decide +kernel
set_option maxRecDepth 100000 in
theorem kX8_fail (l : Launch) (w : Wd) (P : Shp) (n : Nat) {s : St} {a0 : Int} {a1 : Int} {a2 : Int} {res : Int × St} (h : fX8_fail P s a0 a1 a2 = some res) : Ct l w yX8_fail cX8_fail 3 (some FieldType.int) rX8_fail P n [A w a0, I a1, I a2] s (QI w P n res.1 res.2) :=
  Ct.of h (by decide) (Nat.le_of_ble_eq_true rfl) (lv := [(0, A w a0), (1, I a1), (2, I a2)]) rfl fun X hl hRm C hO => by
  subst hl
  unfold fX8_fail
  refine v_aload_n C dX8_fail_0 rfl (j := 0) rfl ?_
  refine v_aload_n C dX8_fail_1 rfl (j := 0) rfl ?_
  refine v_iload_n C dX8_fail_2 rfl (j := 1) rfl ?_
  refine v_callV_rI C [I a1] [A w a0] (Cee.of (rm := rX8_isDevice) tw_1331 tw_9 hX8_isDevice rfl rfl hRm (Nat.le_of_ble_eq_true rfl) (Nat.le_of_ble_eq_true rfl)) (fun x h => kX8_isDevice X.2.1 w P n h) tw_1328 tw_1330 ts_70 rfl (ci := 8) rfl (by decide) rfl rfl (Nat.le_of_ble_eq_true rfl) ⟨Nat.zero_le _, Nat.zero_le _⟩ dX8_fail_3 (fun x1 => ?_)
  refine v_jnt (fun (k39 : Int → Option (Int × St)) => ∀ (x2 : Int), V X w 3 P n 0 0 res (k39 x2) s 39 [(0, A w a0), (1, I a1), (2, I a2)] [I x2, A w a0]) ?_ ?_
  · intro x2
    refine v_putI C 0 rfl (T := TX8) rfl inB8 (by decide) tyX8_ok nmX8 (by decide) rfl rfl tw_1140 dX8_fail_39 rfl (fun s3 => ?_)
    refine v_aload_n C dX8_fail_42 rfl (j := 0) rfl ?_
    refine v_getI C 0 rfl (T := TX8) rfl inB8 (by decide) (by decide) rfl tw_1140 dX8_fail_43 (fun x4 => ?_)
    refine v_if_le (tgt := 51) C dX8_fail_46 rfl ?_ ?_
    · skip
      refine v_aload_n C dX8_fail_51 rfl (j := 0) rfl ?_
      refine v_callV_wV C [] [] (Cee.of (rm := rX8_keep) tw_1439 tw_9 hX8_keep rfl rfl hRm (Nat.le_of_ble_eq_true rfl) (Nat.le_of_ble_eq_true rfl)) (fun x h => kX8_keep X.2.1 w P n h) tw_1436 tw_1438 ts_83 rfl (ci := 8) rfl (by decide) rfl rfl (Nat.le_of_ble_eq_true rfl) ⟨Nat.zero_le _, Nat.zero_le _⟩ dX8_fail_52 (fun s5 => ?_)
      refine v_aload_n C dX8_fail_55 rfl (j := 0) rfl ?_
      refine v_iload_n C dX8_fail_56 rfl (j := 1) rfl ?_
      refine v_iload_n C dX8_fail_57 rfl (j := 2) rfl ?_
      refine v_callV_wV C [I a1, I a2] [] (Cee.of (rm := rX8_keepsError) tw_1391 tw_9 hX8_keepsError rfl rfl hRm (Nat.le_of_ble_eq_true rfl) (Nat.le_of_ble_eq_true rfl)) (fun x h => kX8_keepsError X.2.1 w P n h) tw_1388 tw_1390 ts_80 rfl (ci := 8) rfl (by decide) rfl rfl (Nat.le_of_ble_eq_true rfl) ⟨Nat.zero_le _, Nat.zero_le _⟩ dX8_fail_58 (fun s6 => ?_)
      refine v_aload_n C dX8_fail_61 rfl (j := 0) rfl ?_
      refine v_iload_n C dX8_fail_62 rfl (j := 1) rfl ?_
      refine v_iload_n C dX8_fail_63 rfl (j := 2) rfl ?_
      refine v_callV_wV C [I a1, I a2] [] (Cee.of (rm := rX8_counts) tw_1466 tw_9 hX8_counts rfl rfl hRm (Nat.le_of_ble_eq_true rfl) (Nat.le_of_ble_eq_true rfl)) (fun x h => kX8_counts X.2.1 w P n h) tw_1463 tw_1465 ts_88 rfl (ci := 8) rfl (by decide) rfl rfl (Nat.le_of_ble_eq_true rfl) ⟨Nat.zero_le _, Nat.zero_le _⟩ dX8_fail_64 (fun s7 => ?_)
      refine v_aload_n C dX8_fail_67 rfl (j := 0) rfl ?_
      refine v_iload_n C dX8_fail_68 rfl (j := 1) rfl ?_
      refine v_callV_rI C [I a1] [] (Cee.of (rm := rX8_isAlarmed) tw_1123 tw_9 hX8_isAlarmed rfl rfl hRm (Nat.le_of_ble_eq_true rfl) (Nat.le_of_ble_eq_true rfl)) (fun x h => kX8_isAlarmed X.2.1 w P n h) tw_1120 tw_1122 ts_46 rfl (ci := 8) rfl (by decide) rfl rfl (Nat.le_of_ble_eq_true rfl) ⟨Nat.zero_le _, Nat.zero_le _⟩ dX8_fail_69 (fun x8 => ?_)
      refine v_jnt (fun (k94 : St → Option (Int × St)) => ∀ (s9 : St), V X w 3 P n 0 0 res (k94 s9) s9 94 [(0, A w a0), (1, I a1)] []) ?_ ?_
      · intro s9
        refine v_aload_n C dX8_fail_94 rfl (j := 0) rfl ?_
        refine v_iload_n C dX8_fail_95 rfl (j := 1) rfl ?_
        refine v_callV_rI C [I a1] [] (Cee.of (rm := rX8_scoreOf) tw_1335 tw_9 hX8_scoreOf rfl rfl hRm (Nat.le_of_ble_eq_true rfl) (Nat.le_of_ble_eq_true rfl)) (fun x h => kX8_scoreOf X.2.1 w P n h) tw_1332 tw_1334 ts_71 rfl (ci := 8) rfl (by decide) rfl rfl (Nat.le_of_ble_eq_true rfl) ⟨Nat.zero_le _, Nat.zero_le _⟩ dX8_fail_96 (fun x10 => ?_)
        exact v_iret C rfl hO pI dX8_fail_99
      intro k94 hk94
      refine v_if_ne (tgt := 94) C dX8_fail_72 rfl ?_ ?_
      · skip
        refine v_sub [(0, A w a0), (1, I a1)] [0, 1] rfl ?_
        exact hk94 s7
      · skip
        refine v_aload_n C dX8_fail_75 rfl (j := 0) rfl ?_
        refine v_iload_n C dX8_fail_76 rfl (j := 1) rfl ?_
        refine v_callV_rI C [I a1] [] (Cee.of (rm := rX8_scoreOf) tw_1335 tw_9 hX8_scoreOf rfl rfl hRm (Nat.le_of_ble_eq_true rfl) (Nat.le_of_ble_eq_true rfl)) (fun x h => kX8_scoreOf X.2.1 w P n h) tw_1332 tw_1334 ts_71 rfl (ci := 8) rfl (by decide) rfl rfl (Nat.le_of_ble_eq_true rfl) ⟨Nat.zero_le _, Nat.zero_le _⟩ dX8_fail_77 (fun x11 => ?_)
        refine v_aload_n C dX8_fail_80 rfl (j := 0) rfl ?_
        refine v_getR C 14 rfl (T := TX8) rfl inB8 (by decide) (by decide) rfl tw_1154 dX8_fail_81 (fun x12 => ?_)
        refine v_iconst C dX8_fail_84 ?_
        refine v_iald C dX8_fail_85 (fun x13 => ?_)
        refine v_icmp_lt (tgt := 94) C dX8_fail_86 rfl ?_ ?_
        · skip
          refine v_sub [(0, A w a0), (1, I a1)] [0, 1] rfl ?_
          exact hk94 s7
        · skip
          refine v_aload_n C dX8_fail_89 rfl (j := 0) rfl ?_
          refine v_iload_n C dX8_fail_90 rfl (j := 1) rfl ?_
          refine v_callV_wV C [I a1] [] (Cee.of (rm := rX8_alarms) tw_1470 tw_9 hX8_alarms rfl rfl hRm (Nat.le_of_ble_eq_true rfl) (Nat.le_of_ble_eq_true rfl)) (fun x h => kX8_alarms X.2.1 w P n h) tw_1467 tw_1469 ts_89 rfl (ci := 8) rfl (by decide) rfl rfl (Nat.le_of_ble_eq_true rfl) ⟨Nat.zero_le _, Nat.zero_le _⟩ dX8_fail_91 (fun s14 => ?_)
          refine v_sub [(0, A w a0), (1, I a1)] [0, 1] rfl ?_
          exact hk94 s14
    · skip
      refine v_iconst C dX8_fail_49 ?_
      exact v_iret C rfl hO pI dX8_fail_50
  intro k39 hk39
  refine v_if_ne (tgt := 13) C dX8_fail_6 rfl ?_ ?_
  · skip
    refine v_iload_n C dX8_fail_13 rfl (j := 2) rfl ?_
    refine v_iconst C dX8_fail_14 ?_
    refine v_iconst C dX8_fail_15 ?_
    refine v_callS_rI C [I a2, I 0, I 3] [A w a0] (Cee.of (rm := rX8_within) tw_1228 tw_9 hX8_within rfl rfl hRm (Nat.le_of_ble_eq_true rfl) (Nat.le_of_ble_eq_true rfl)) (fun x h => kX8_within X.2.1 w P n h) tw_1226 tw_1227 rfl rfl (Nat.le_of_ble_eq_true rfl) ⟨Nat.zero_le _, Nat.zero_le _⟩ dX8_fail_16 (fun x15 => ?_)
    refine v_if_ne (tgt := 26) C dX8_fail_19 rfl ?_ ?_
    · skip
      refine v_aload_n C dX8_fail_26 rfl (j := 0) rfl ?_
      refine v_iload_n C dX8_fail_27 rfl (j := 1) rfl ?_
      refine v_callV_rI C [I a1] [A w a0] (Cee.of (rm := rX8_isPlugged) tw_1119 tw_9 hX8_isPlugged rfl rfl hRm (Nat.le_of_ble_eq_true rfl) (Nat.le_of_ble_eq_true rfl)) (fun x h => kX8_isPlugged X.2.1 w P n h) tw_1116 tw_1118 ts_45 rfl (ci := 8) rfl (by decide) rfl rfl (Nat.le_of_ble_eq_true rfl) ⟨Nat.zero_le _, Nat.zero_le _⟩ dX8_fail_28 (fun x16 => ?_)
      refine v_if_ne (tgt := 38) C dX8_fail_31 rfl ?_ ?_
      · skip
        refine v_iconst C dX8_fail_38 ?_
        exact hk39 0
      · skip
        refine v_iconst C dX8_fail_34 ?_
        refine v_goto (tgt := 39) C dX8_fail_35 rfl ?_
        exact hk39 3
    · skip
      refine v_iconst C dX8_fail_22 ?_
      refine v_goto (tgt := 39) C dX8_fail_23 rfl ?_
      exact hk39 2
  · skip
    refine v_iconst C dX8_fail_9 ?_
    refine v_goto (tgt := 39) C dX8_fail_10 rfl ?_
    exact hk39 1
-- ForesightHubModel.warn
theorem hX8_warn : yX8_warn.cls ≠ "java/lang/invoke/MethodHandle" ∧ yX8_warn.cls ≠ "java/lang/invoke/VarHandle" ∧ (parseMethodDescriptor yX8_warn.desc).map (fun d => d.parameters.length) = some 1 := by decide +kernel
set_option maxRecDepth 100000 in
theorem kX8_warn (l : Launch) (w : Wd) (P : Shp) (n : Nat) {s : St} {a0 : Int} {a1 : Int} {res : Int × St} (h : fX8_warn P s a0 a1 = some res) : Ct l w yX8_warn cX8_warn 3 (some FieldType.int) rX8_warn P n [A w a0, I a1] s (QI w P n res.1 res.2) :=
  Ct.of h (by decide) (Nat.le_of_ble_eq_true rfl) (lv := [(0, A w a0), (1, I a1)]) rfl fun X hl hRm C hO => by
  subst hl
  unfold fX8_warn
  refine v_aload_n C dX8_warn_0 rfl (j := 0) rfl ?_
  refine v_aload_n C dX8_warn_1 rfl (j := 0) rfl ?_
  refine v_iload_n C dX8_warn_2 rfl (j := 1) rfl ?_
  refine v_callV_rI C [I a1] [A w a0] (Cee.of (rm := rX8_isDevice) tw_1331 tw_9 hX8_isDevice rfl rfl hRm (Nat.le_of_ble_eq_true rfl) (Nat.le_of_ble_eq_true rfl)) (fun x h => kX8_isDevice X.2.1 w P n h) tw_1328 tw_1330 ts_70 rfl (ci := 8) rfl (by decide) rfl rfl (Nat.le_of_ble_eq_true rfl) ⟨Nat.zero_le _, Nat.zero_le _⟩ dX8_warn_3 (fun x1 => ?_)
  refine v_jnt (fun (k26 : Int → Option (Int × St)) => ∀ (x2 : Int), V X w 3 P n 0 0 res (k26 x2) s 26 [(0, A w a0), (1, I a1)] [I x2, A w a0]) ?_ ?_
  · intro x2
    refine v_putI C 0 rfl (T := TX8) rfl inB8 (by decide) tyX8_ok nmX8 (by decide) rfl rfl tw_1140 dX8_warn_26 rfl (fun s3 => ?_)
    refine v_aload_n C dX8_warn_29 rfl (j := 0) rfl ?_
    refine v_getI C 0 rfl (T := TX8) rfl inB8 (by decide) (by decide) rfl tw_1140 dX8_warn_30 (fun x4 => ?_)
    refine v_if_le (tgt := 38) C dX8_warn_33 rfl ?_ ?_
    · skip
      refine v_aload_n C dX8_warn_38 rfl (j := 0) rfl ?_
      refine v_callV_wV C [] [] (Cee.of (rm := rX8_keep) tw_1439 tw_9 hX8_keep rfl rfl hRm (Nat.le_of_ble_eq_true rfl) (Nat.le_of_ble_eq_true rfl)) (fun x h => kX8_keep X.2.1 w P n h) tw_1436 tw_1438 ts_83 rfl (ci := 8) rfl (by decide) rfl rfl (Nat.le_of_ble_eq_true rfl) ⟨Nat.zero_le _, Nat.zero_le _⟩ dX8_warn_39 (fun s5 => ?_)
      refine v_aload_n C dX8_warn_42 rfl (j := 0) rfl ?_
      refine v_iload_n C dX8_warn_43 rfl (j := 1) rfl ?_
      refine v_callV_rI C [I a1] [] (Cee.of (rm := rX8_clearing) tw_1403 tw_9 hX8_clearing rfl rfl hRm (Nat.le_of_ble_eq_true rfl) (Nat.le_of_ble_eq_true rfl)) (fun x h => kX8_clearing X.2.1 w P n h) tw_1400 tw_1402 ts_81 rfl (ci := 8) rfl (by decide) rfl rfl (Nat.le_of_ble_eq_true rfl) ⟨Nat.zero_le _, Nat.zero_le _⟩ dX8_warn_44 (fun x6 => ?_)
      refine v_istore_n C [(2, I x6), (0, A w a0), (1, I a1)] dX8_warn_47 rfl (by decide) rfl ?_
      refine v_aload_n C dX8_warn_48 rfl (j := 1) rfl ?_
      refine v_iload_n C dX8_warn_49 rfl (j := 2) rfl ?_
      refine v_callV_wV C [I a1] [] (Cee.of (rm := rX8_alarms) tw_1470 tw_9 hX8_alarms rfl rfl hRm (Nat.le_of_ble_eq_true rfl) (Nat.le_of_ble_eq_true rfl)) (fun x h => kX8_alarms X.2.1 w P n h) tw_1467 tw_1469 ts_89 rfl (ci := 8) rfl (by decide) rfl rfl (Nat.le_of_ble_eq_true rfl) ⟨Nat.zero_le _, Nat.zero_le _⟩ dX8_warn_50 (fun s7 => ?_)
      refine v_iload_n C dX8_warn_53 rfl (j := 0) rfl ?_
      exact v_iret C rfl hO pI dX8_warn_54
    · skip
      refine v_iconst C dX8_warn_36 ?_
      exact v_iret C rfl hO pI dX8_warn_37
  intro k26 hk26
  refine v_if_ne (tgt := 13) C dX8_warn_6 rfl ?_ ?_
  · skip
    refine v_aload_n C dX8_warn_13 rfl (j := 0) rfl ?_
    refine v_iload_n C dX8_warn_14 rfl (j := 1) rfl ?_
    refine v_callV_rI C [I a1] [A w a0] (Cee.of (rm := rX8_isGood) tw_1115 tw_9 hX8_isGood rfl rfl hRm (Nat.le_of_ble_eq_true rfl) (Nat.le_of_ble_eq_true rfl)) (fun x h => kX8_isGood X.2.1 w P n h) tw_1112 tw_1114 ts_44 rfl (ci := 8) rfl (by decide) rfl rfl (Nat.le_of_ble_eq_true rfl) ⟨Nat.zero_le _, Nat.zero_le _⟩ dX8_warn_15 (fun x8 => ?_)
    refine v_if_ne (tgt := 25) C dX8_warn_18 rfl ?_ ?_
    · skip
      refine v_iconst C dX8_warn_25 ?_
      exact hk26 0
    · skip
      refine v_iconst C dX8_warn_21 ?_
      refine v_goto (tgt := 26) C dX8_warn_22 rfl ?_
      exact hk26 2
  · skip
    refine v_iconst C dX8_warn_9 ?_
    refine v_goto (tgt := 26) C dX8_warn_10 rfl ?_
    exact hk26 1
-- ForesightHubModel.callOff
theorem hX8_callOff : yX8_callOff.cls ≠ "java/lang/invoke/MethodHandle" ∧ yX8_callOff.cls ≠ "java/lang/invoke/VarHandle" ∧ (parseMethodDescriptor yX8_callOff.desc).map (fun d => d.parameters.length) = some 1 := by decide +kernel
set_option maxRecDepth 100000 in
theorem kX8_callOff (l : Launch) (w : Wd) (P : Shp) (n : Nat) {s : St} {a0 : Int} {a1 : Int} {res : Int × St} (h : fX8_callOff P s a0 a1 = some res) : Ct l w yX8_callOff cX8_callOff 2 (some FieldType.int) rX8_callOff P n [A w a0, I a1] s (QI w P n res.1 res.2) :=
  Ct.of h (by decide) (Nat.le_of_ble_eq_true rfl) (lv := [(0, A w a0), (1, I a1)]) rfl fun X hl hRm C hO => by
  subst hl
  unfold fX8_callOff
  refine v_aload_n C dX8_callOff_0 rfl (j := 0) rfl ?_
  refine v_aload_n C dX8_callOff_1 rfl (j := 0) rfl ?_
  refine v_iload_n C dX8_callOff_2 rfl (j := 1) rfl ?_
  refine v_callV_rI C [I a1] [A w a0] (Cee.of (rm := rX8_isDevice) tw_1331 tw_9 hX8_isDevice rfl rfl hRm (Nat.le_of_ble_eq_true rfl) (Nat.le_of_ble_eq_true rfl)) (fun x h => kX8_isDevice X.2.1 w P n h) tw_1328 tw_1330 ts_70 rfl (ci := 8) rfl (by decide) rfl rfl (Nat.le_of_ble_eq_true rfl) ⟨Nat.zero_le _, Nat.zero_le _⟩ dX8_callOff_3 (fun x1 => ?_)
  refine v_jnt (fun (k26 : Int → Option (Int × St)) => ∀ (x2 : Int), V X w 2 P n 0 0 res (k26 x2) s 26 [(0, A w a0), (1, I a1)] [I x2, A w a0]) ?_ ?_
  · intro x2
    refine v_putI C 0 rfl (T := TX8) rfl inB8 (by decide) tyX8_ok nmX8 (by decide) rfl rfl tw_1140 dX8_callOff_26 rfl (fun s3 => ?_)
    refine v_aload_n C dX8_callOff_29 rfl (j := 0) rfl ?_
    refine v_getI C 0 rfl (T := TX8) rfl inB8 (by decide) (by decide) rfl tw_1140 dX8_callOff_30 (fun x4 => ?_)
    refine v_if_le (tgt := 38) C dX8_callOff_33 rfl ?_ ?_
    · skip
      refine v_aload_n C dX8_callOff_38 rfl (j := 0) rfl ?_
      refine v_callV_wV C [] [] (Cee.of (rm := rX8_keep) tw_1439 tw_9 hX8_keep rfl rfl hRm (Nat.le_of_ble_eq_true rfl) (Nat.le_of_ble_eq_true rfl)) (fun x h => kX8_keep X.2.1 w P n h) tw_1436 tw_1438 ts_83 rfl (ci := 8) rfl (by decide) rfl rfl (Nat.le_of_ble_eq_true rfl) ⟨Nat.zero_le _, Nat.zero_le _⟩ dX8_callOff_39 (fun s5 => ?_)
      refine v_aload_n C dX8_callOff_42 rfl (j := 0) rfl ?_
      refine v_iload_n C dX8_callOff_43 rfl (j := 1) rfl ?_
      refine v_callV_wV C [I a1] [] (Cee.of (rm := rX8_calms) tw_1458 tw_9 hX8_calms rfl rfl hRm (Nat.le_of_ble_eq_true rfl) (Nat.le_of_ble_eq_true rfl)) (fun x h => kX8_calms X.2.1 w P n h) tw_1455 tw_1457 ts_87 rfl (ci := 8) rfl (by decide) rfl rfl (Nat.le_of_ble_eq_true rfl) ⟨Nat.zero_le _, Nat.zero_le _⟩ dX8_callOff_44 (fun s6 => ?_)
      refine v_aload_n C dX8_callOff_47 rfl (j := 0) rfl ?_
      refine v_callV_wV C [] [] (Cee.of (rm := rX8_settles) tw_1099 tw_9 hX8_settles rfl rfl hRm (Nat.le_of_ble_eq_true rfl) (Nat.le_of_ble_eq_true rfl)) (fun x h => kX8_settles X.2.1 w P n h) tw_1096 tw_1098 ts_40 rfl (ci := 8) rfl (by decide) rfl rfl (Nat.le_of_ble_eq_true rfl) ⟨Nat.zero_le _, Nat.zero_le _⟩ dX8_callOff_48 (fun s7 => ?_)
      refine v_aload_n C dX8_callOff_51 rfl (j := 0) rfl ?_
      refine v_iload_n C dX8_callOff_52 rfl (j := 1) rfl ?_
      refine v_callV_rI C [I a1] [] (Cee.of (rm := rX8_holdMany) tw_1482 tw_9 hX8_holdMany rfl rfl hRm (Nat.le_of_ble_eq_true rfl) (Nat.le_of_ble_eq_true rfl)) (fun x h => kX8_holdMany X.2.1 w P n h) tw_1479 tw_1481 ts_90 rfl (ci := 8) rfl (by decide) rfl rfl (Nat.le_of_ble_eq_true rfl) ⟨Nat.zero_le _, Nat.zero_le _⟩ dX8_callOff_53 (fun x8 => ?_)
      exact v_iret C rfl hO pI dX8_callOff_56
    · skip
      refine v_iconst C dX8_callOff_36 ?_
      exact v_iret C rfl hO pI dX8_callOff_37
  intro k26 hk26
  refine v_if_ne (tgt := 13) C dX8_callOff_6 rfl ?_ ?_
  · skip
    refine v_aload_n C dX8_callOff_13 rfl (j := 0) rfl ?_
    refine v_iload_n C dX8_callOff_14 rfl (j := 1) rfl ?_
    refine v_callV_rI C [I a1] [A w a0] (Cee.of (rm := rX8_isAlarmed) tw_1123 tw_9 hX8_isAlarmed rfl rfl hRm (Nat.le_of_ble_eq_true rfl) (Nat.le_of_ble_eq_true rfl)) (fun x h => kX8_isAlarmed X.2.1 w P n h) tw_1120 tw_1122 ts_46 rfl (ci := 8) rfl (by decide) rfl rfl (Nat.le_of_ble_eq_true rfl) ⟨Nat.zero_le _, Nat.zero_le _⟩ dX8_callOff_15 (fun x9 => ?_)
    refine v_if_ne (tgt := 25) C dX8_callOff_18 rfl ?_ ?_
    · skip
      refine v_iconst C dX8_callOff_25 ?_
      exact hk26 0
    · skip
      refine v_iconst C dX8_callOff_21 ?_
      refine v_goto (tgt := 26) C dX8_callOff_22 rfl ?_
      exact hk26 2
  · skip
    refine v_iconst C dX8_callOff_9 ?_
    refine v_goto (tgt := 26) C dX8_callOff_10 rfl ?_
    exact hk26 1
-- ForesightHubModel.unplug
set_option maxRecDepth 100000 in
theorem vX8_unplug_L104 {X : Cxt} {w : Wd} {P : Shp} {n : Nat} (res : Int × St) (hRm : X.2.2.2.1 = rX8_unplug) (C : Cok X w cX8_unplug 4 RX8 (some FieldType.int)) (hO : Own X w 0 0 (QI w P n res.1 res.2))  (c0 : Int) (c1 : Int) (c2 : Int) (kE170 : St → Option (Int × St)) (hE170 : ∀ (se : St), V X w 4 P n 0 0 res (kE170 se) se 170 [(0, A w c0), (2, I c2)] []) : ∀ (fuel : Nat) (p3 : Int) (s : St), V X w 4 P n 0 0 res (fX8_unplug_L104 P c0 c1 c2 kE170 fuel p3 s) s 104 [(0, A w c0), (1, I c1), (2, I c2), (3, I p3)] [] := by
  intro fuel
  induction fuel with
  | zero => intro p3 s; exact v_none
  | succ m ih =>
    intro p3 s
    rw [fX8_unplug_L104]
    refine v_iload_n C dX8_unplug_104 rfl (j := 3) rfl ?_
    refine v_aload_n C dX8_unplug_105 rfl (j := 0) rfl ?_
    refine v_callV_rI C [] [I p3] (Cee.of (rm := rX8_streams) tw_1092 tw_9 hX8_streams rfl rfl hRm (Nat.le_of_ble_eq_true rfl) (Nat.le_of_ble_eq_true rfl)) (fun x h => kX8_streams X.2.1 w P n h) tw_1089 tw_1091 ts_39 rfl (ci := 8) rfl (by decide) rfl rfl (Nat.le_of_ble_eq_true rfl) ⟨Nat.zero_le _, Nat.zero_le _⟩ dX8_unplug_106 (fun x19 => ?_)
    refine v_icmp_ge (tgt := 170) C dX8_unplug_109 rfl ?_ ?_
    · skip
      refine v_sub [(0, A w c0), (2, I c2)] [0, 2] rfl ?_
      exact hE170 s
    · skip
      refine v_aload_n C dX8_unplug_112 rfl (j := 0) rfl ?_
      refine v_iload_n C dX8_unplug_113 rfl (j := 3) rfl ?_
      refine v_iload_n C dX8_unplug_114 rfl (j := 1) rfl ?_
      refine v_callV_rI C [I p3, I c1] [] (Cee.of (rm := rX8_isHeldBy) tw_1351 tw_9 hX8_isHeldBy rfl rfl hRm (Nat.le_of_ble_eq_true rfl) (Nat.le_of_ble_eq_true rfl)) (fun x h => kX8_isHeldBy X.2.1 w P n h) tw_1348 tw_1350 ts_75 rfl (ci := 8) rfl (by decide) rfl rfl (Nat.le_of_ble_eq_true rfl) ⟨Nat.zero_le _, Nat.zero_le _⟩ dX8_unplug_115 (fun x20 => ?_)
      refine v_jnt (fun (k164 : St → Option (Int × St)) => ∀ (s21 : St), V X w 4 P n 0 0 res (k164 s21) s21 164 [(0, A w c0), (1, I c1), (2, I c2), (3, I p3)] []) ?_ ?_
      · intro s21
        refine v_iinc C (j := 3) [(0, A w c0), (1, I c1), (2, I c2)] dX8_unplug_164 (by decide) rfl (fun _ => rfl) (fun x22 => ?_)
        refine v_goto (tgt := 104) C dX8_unplug_167 rfl ?_
        refine v_sub [(0, A w c0), (1, I c1), (2, I c2), (3, I x22)] [1, 2, 3, 0] rfl ?_
        exact ih x22 s21
      intro k164 hk164
      refine v_if_ne (tgt := 124) C dX8_unplug_118 rfl ?_ ?_
      · skip
        refine v_aload_n C dX8_unplug_124 rfl (j := 0) rfl ?_
        refine v_iload_n C dX8_unplug_125 rfl (j := 3) rfl ?_
        refine v_iconst C dX8_unplug_126 ?_
        refine v_iconst C dX8_unplug_127 ?_
        refine v_callV_wV C [I p3, I 0, I ((-1))] [] (Cee.of (rm := rX8_becomes) tw_1127 tw_9 hX8_becomes rfl rfl hRm (Nat.le_of_ble_eq_true rfl) (Nat.le_of_ble_eq_true rfl)) (fun x h => kX8_becomes X.2.1 w P n h) tw_1124 tw_1126 ts_47 rfl (ci := 8) rfl (by decide) rfl rfl (Nat.le_of_ble_eq_true rfl) ⟨Nat.zero_le _, Nat.zero_le _⟩ dX8_unplug_128 (fun s23 => ?_)
        refine v_aload_n C dX8_unplug_131 rfl (j := 0) rfl ?_
        refine v_getR C 14 rfl (T := TX8) rfl inB8 (by decide) (by decide) rfl tw_1154 dX8_unplug_132 (fun x24 => ?_)
        refine v_iload_n C dX8_unplug_135 rfl (j := 3) rfl ?_
        refine v_callS_rI C [I p3] [A w x24] (Cee.of (rm := rX8_in) tw_1095 tw_9 hX8_in rfl rfl hRm (Nat.le_of_ble_eq_true rfl) (Nat.le_of_ble_eq_true rfl)) (fun x h => kX8_in X.2.1 w P n h) tw_1093 tw_1094 rfl rfl (Nat.le_of_ble_eq_true rfl) ⟨Nat.zero_le _, Nat.zero_le _⟩ dX8_unplug_136 (fun x25 => ?_)
        refine v_iconst C dX8_unplug_139 ?_
        refine v_iadd C dX8_unplug_140 ?_
        refine v_iald C dX8_unplug_141 (fun x26 => ?_)
        refine v_jnt (fun (k152 : St → Option (Int × St)) => ∀ (s27 : St), V X w 4 P n 0 0 res (k152 s27) s27 152 [(0, A w c0), (1, I c1), (2, I c2), (3, I p3)] []) ?_ ?_
        · intro s27
          refine v_aload_n C dX8_unplug_152 rfl (j := 0) rfl ?_
          refine v_getR C 14 rfl (T := TX8) rfl inB8 (by decide) (by decide) rfl tw_1154 dX8_unplug_153 (fun x28 => ?_)
          refine v_iload_n C dX8_unplug_156 rfl (j := 3) rfl ?_
          refine v_callS_rI C [I p3] [A w x28] (Cee.of (rm := rX8_in) tw_1095 tw_9 hX8_in rfl rfl hRm (Nat.le_of_ble_eq_true rfl) (Nat.le_of_ble_eq_true rfl)) (fun x h => kX8_in X.2.1 w P n h) tw_1093 tw_1094 rfl rfl (Nat.le_of_ble_eq_true rfl) ⟨Nat.zero_le _, Nat.zero_le _⟩ dX8_unplug_157 (fun x29 => ?_)
          refine v_iconst C dX8_unplug_160 ?_
          refine v_iadd C dX8_unplug_161 ?_
          refine v_iconst C dX8_unplug_162 ?_
          refine v_iast C dX8_unplug_163 (fun s30 => ?_)
          exact hk164 s30
        intro k152 hk152
        refine v_if_le (tgt := 152) C dX8_unplug_142 rfl ?_ ?_
        · skip
          exact hk152 s23
        · skip
          refine v_aload_n C dX8_unplug_145 rfl (j := 0) rfl ?_
          refine v_bipush C dX8_unplug_146 (by decide) ?_
          refine v_iload_n C dX8_unplug_148 rfl (j := 3) rfl ?_
          refine v_callV_wV C [I 7, I p3] [] (Cee.of (rm := rX8_happens) tw_1131 tw_9 hX8_happens rfl rfl hRm (Nat.le_of_ble_eq_true rfl) (Nat.le_of_ble_eq_true rfl)) (fun x h => kX8_happens X.2.1 w P n h) tw_1128 tw_1130 ts_48 rfl (ci := 8) rfl (by decide) rfl rfl (Nat.le_of_ble_eq_true rfl) ⟨Nat.zero_le _, Nat.zero_le _⟩ dX8_unplug_149 (fun s31 => ?_)
          exact hk152 s31
      · skip
        refine v_goto (tgt := 164) C dX8_unplug_121 rfl ?_
        exact hk164 s
theorem hX8_unplug : yX8_unplug.cls ≠ "java/lang/invoke/MethodHandle" ∧ yX8_unplug.cls ≠ "java/lang/invoke/VarHandle" ∧ (parseMethodDescriptor yX8_unplug.desc).map (fun d => d.parameters.length) = some 1 := by decide +kernel
set_option maxRecDepth 100000 in
theorem kX8_unplug (l : Launch) (w : Wd) (P : Shp) (n : Nat) {s : St} {a0 : Int} {a1 : Int} {res : Int × St} (h : fX8_unplug P s a0 a1 = some res) : Ct l w yX8_unplug cX8_unplug 4 (some FieldType.int) rX8_unplug P n [A w a0, I a1] s (QI w P n res.1 res.2) :=
  Ct.of h (by decide) (Nat.le_of_ble_eq_true rfl) (lv := [(0, A w a0), (1, I a1)]) rfl fun X hl hRm C hO => by
  subst hl
  unfold fX8_unplug
  refine v_aload_n C dX8_unplug_0 rfl (j := 0) rfl ?_
  refine v_aload_n C dX8_unplug_1 rfl (j := 0) rfl ?_
  refine v_iload_n C dX8_unplug_2 rfl (j := 1) rfl ?_
  refine v_callV_rI C [I a1] [A w a0] (Cee.of (rm := rX8_isDevice) tw_1331 tw_9 hX8_isDevice rfl rfl hRm (Nat.le_of_ble_eq_true rfl) (Nat.le_of_ble_eq_true rfl)) (fun x h => kX8_isDevice X.2.1 w P n h) tw_1328 tw_1330 ts_70 rfl (ci := 8) rfl (by decide) rfl rfl (Nat.le_of_ble_eq_true rfl) ⟨Nat.zero_le _, Nat.zero_le _⟩ dX8_unplug_3 (fun x1 => ?_)
  refine v_jnt (fun (k26 : Int → Option (Int × St)) => ∀ (x2 : Int), V X w 4 P n 0 0 res (k26 x2) s 26 [(0, A w a0), (1, I a1)] [I x2, A w a0]) ?_ ?_
  · intro x2
    refine v_putI C 0 rfl (T := TX8) rfl inB8 (by decide) tyX8_ok nmX8 (by decide) rfl rfl tw_1140 dX8_unplug_26 rfl (fun s3 => ?_)
    refine v_aload_n C dX8_unplug_29 rfl (j := 0) rfl ?_
    refine v_getI C 0 rfl (T := TX8) rfl inB8 (by decide) (by decide) rfl tw_1140 dX8_unplug_30 (fun x4 => ?_)
    refine v_if_le (tgt := 38) C dX8_unplug_33 rfl ?_ ?_
    · skip
      refine v_aload_n C dX8_unplug_38 rfl (j := 0) rfl ?_
      refine v_callV_wV C [] [] (Cee.of (rm := rX8_keep) tw_1439 tw_9 hX8_keep rfl rfl hRm (Nat.le_of_ble_eq_true rfl) (Nat.le_of_ble_eq_true rfl)) (fun x h => kX8_keep X.2.1 w P n h) tw_1436 tw_1438 ts_83 rfl (ci := 8) rfl (by decide) rfl rfl (Nat.le_of_ble_eq_true rfl) ⟨Nat.zero_le _, Nat.zero_le _⟩ dX8_unplug_39 (fun s5 => ?_)
      refine v_aload_n C dX8_unplug_42 rfl (j := 0) rfl ?_
      refine v_iload_n C dX8_unplug_43 rfl (j := 1) rfl ?_
      refine v_callV_rI C [I a1] [] (Cee.of (rm := rX8_stake) tw_1411 tw_9 hX8_stake rfl rfl hRm (Nat.le_of_ble_eq_true rfl) (Nat.le_of_ble_eq_true rfl)) (fun x h => kX8_stake X.2.1 w P n h) tw_1408 tw_1410 ts_82 rfl (ci := 8) rfl (by decide) rfl rfl (Nat.le_of_ble_eq_true rfl) ⟨Nat.zero_le _, Nat.zero_le _⟩ dX8_unplug_44 (fun x6 => ?_)
      refine v_istore_n C [(2, I x6), (0, A w a0), (1, I a1)] dX8_unplug_47 rfl (by decide) rfl ?_
      refine v_aload_n C dX8_unplug_48 rfl (j := 1) rfl ?_
      refine v_aload_n C dX8_unplug_49 rfl (j := 1) rfl ?_
      refine v_iload_n C dX8_unplug_50 rfl (j := 2) rfl ?_
      refine v_callV_rI C [I a1] [A w a0] (Cee.of (rm := rX8_isAlarmed) tw_1123 tw_9 hX8_isAlarmed rfl rfl hRm (Nat.le_of_ble_eq_true rfl) (Nat.le_of_ble_eq_true rfl)) (fun x h => kX8_isAlarmed X.2.1 w P n h) tw_1120 tw_1122 ts_46 rfl (ci := 8) rfl (by decide) rfl rfl (Nat.le_of_ble_eq_true rfl) ⟨Nat.zero_le _, Nat.zero_le _⟩ dX8_unplug_51 (fun x7 => ?_)
      refine v_jnt (fun (k62 : Int → Option (Int × St)) => ∀ (x8 : Int), V X w 4 P n 0 0 res (k62 x8) s5 62 [(0, A w a0), (1, I a1), (2, I x6)] [I x8, A w a0]) ?_ ?_
      · intro x8
        refine v_iload_n C dX8_unplug_62 rfl (j := 1) rfl ?_
        refine v_callV_wV C [I x8, I a1] [] (Cee.of (rm := rX8_happens) tw_1131 tw_9 hX8_happens rfl rfl hRm (Nat.le_of_ble_eq_true rfl) (Nat.le_of_ble_eq_true rfl)) (fun x h => kX8_happens X.2.1 w P n h) tw_1128 tw_1130 ts_48 rfl (ci := 8) rfl (by decide) rfl rfl (Nat.le_of_ble_eq_true rfl) ⟨Nat.zero_le _, Nat.zero_le _⟩ dX8_unplug_63 (fun s9 => ?_)
        refine v_aload_n C dX8_unplug_66 rfl (j := 0) rfl ?_
        refine v_getR C 14 rfl (T := TX8) rfl inB8 (by decide) (by decide) rfl tw_1154 dX8_unplug_67 (fun x10 => ?_)
        refine v_iload_n C dX8_unplug_70 rfl (j := 1) rfl ?_
        refine v_callS_rI C [I a1] [A w x10] (Cee.of (rm := rX8_at) tw_1088 tw_9 hX8_at rfl rfl hRm (Nat.le_of_ble_eq_true rfl) (Nat.le_of_ble_eq_true rfl)) (fun x h => kX8_at X.2.1 w P n h) tw_1086 tw_1087 rfl rfl (Nat.le_of_ble_eq_true rfl) ⟨Nat.zero_le _, Nat.zero_le _⟩ dX8_unplug_71 (fun x11 => ?_)
        refine v_iconst C dX8_unplug_74 ?_
        refine v_iadd C dX8_unplug_75 ?_
        refine v_iconst C dX8_unplug_76 ?_
        refine v_iast C dX8_unplug_77 (fun s12 => ?_)
        refine v_aload_n C dX8_unplug_78 rfl (j := 0) rfl ?_
        refine v_getR C 14 rfl (T := TX8) rfl inB8 (by decide) (by decide) rfl tw_1154 dX8_unplug_79 (fun x13 => ?_)
        refine v_iload_n C dX8_unplug_82 rfl (j := 1) rfl ?_
        refine v_callS_rI C [I a1] [A w x13] (Cee.of (rm := rX8_at) tw_1088 tw_9 hX8_at rfl rfl hRm (Nat.le_of_ble_eq_true rfl) (Nat.le_of_ble_eq_true rfl)) (fun x h => kX8_at X.2.1 w P n h) tw_1086 tw_1087 rfl rfl (Nat.le_of_ble_eq_true rfl) ⟨Nat.zero_le _, Nat.zero_le _⟩ dX8_unplug_83 (fun x14 => ?_)
        refine v_iconst C dX8_unplug_86 ?_
        refine v_iadd C dX8_unplug_87 ?_
        refine v_iconst C dX8_unplug_88 ?_
        refine v_iast C dX8_unplug_89 (fun s15 => ?_)
        refine v_aload_n C dX8_unplug_90 rfl (j := 0) rfl ?_
        refine v_getR C 14 rfl (T := TX8) rfl inB8 (by decide) (by decide) rfl tw_1154 dX8_unplug_91 (fun x16 => ?_)
        refine v_iload_n C dX8_unplug_94 rfl (j := 1) rfl ?_
        refine v_callS_rI C [I a1] [A w x16] (Cee.of (rm := rX8_at) tw_1088 tw_9 hX8_at rfl rfl hRm (Nat.le_of_ble_eq_true rfl) (Nat.le_of_ble_eq_true rfl)) (fun x h => kX8_at X.2.1 w P n h) tw_1086 tw_1087 rfl rfl (Nat.le_of_ble_eq_true rfl) ⟨Nat.zero_le _, Nat.zero_le _⟩ dX8_unplug_95 (fun x17 => ?_)
        refine v_iconst C dX8_unplug_98 ?_
        refine v_iadd C dX8_unplug_99 ?_
        refine v_iconst C dX8_unplug_100 ?_
        refine v_iast C dX8_unplug_101 (fun s18 => ?_)
        refine v_iconst C dX8_unplug_102 ?_
        refine v_istore_n C [(3, I 0), (0, A w a0), (1, I a1), (2, I x6)] dX8_unplug_103 rfl (by decide) rfl ?_
        refine v_sub [(0, A w a0), (1, I a1), (2, I x6), (3, I 0)] [1, 2, 3, 0] rfl ?_
        refine vX8_unplug_L104 res hRm C hO a0 a1 x6 _ ?_ 1000 0 s18
        · intro s32
          refine v_aload_n C dX8_unplug_170 rfl (j := 0) rfl ?_
          refine v_getR C 14 rfl (T := TX8) rfl inB8 (by decide) (by decide) rfl tw_1154 dX8_unplug_171 (fun x33 => ?_)
          refine v_bipush C dX8_unplug_174 (by decide) ?_
          refine v_dup2 C dX8_unplug_176 rfl rfl ?_
          refine v_iald C dX8_unplug_177 (fun x34 => ?_)
          refine v_iload_n C dX8_unplug_178 rfl (j := 1) rfl ?_
          refine v_iadd C dX8_unplug_179 ?_
          refine v_iast C dX8_unplug_180 (fun s35 => ?_)
          refine v_aload_n C dX8_unplug_181 rfl (j := 0) rfl ?_
          refine v_callV_wV C [] [] (Cee.of (rm := rX8_settles) tw_1099 tw_9 hX8_settles rfl rfl hRm (Nat.le_of_ble_eq_true rfl) (Nat.le_of_ble_eq_true rfl)) (fun x h => kX8_settles X.2.1 w P n h) tw_1096 tw_1098 ts_40 rfl (ci := 8) rfl (by decide) rfl rfl (Nat.le_of_ble_eq_true rfl) ⟨Nat.zero_le _, Nat.zero_le _⟩ dX8_unplug_182 (fun s36 => ?_)
          refine v_iload_n C dX8_unplug_185 rfl (j := 1) rfl ?_
          exact v_iret C rfl hO pI dX8_unplug_186
      intro k62 hk62
      refine v_if_eq (tgt := 61) C dX8_unplug_54 rfl ?_ ?_
      · skip
        refine v_iconst C dX8_unplug_61 ?_
        refine v_sub [(0, A w a0), (1, I a1), (2, I x6)] [1, 2, 0] rfl ?_
        exact hk62 3
      · skip
        refine v_iconst C dX8_unplug_57 ?_
        refine v_goto (tgt := 62) C dX8_unplug_58 rfl ?_
        refine v_sub [(0, A w a0), (1, I a1), (2, I x6)] [1, 2, 0] rfl ?_
        exact hk62 2
    · skip
      refine v_iconst C dX8_unplug_36 ?_
      exact v_iret C rfl hO pI dX8_unplug_37
  intro k26 hk26
  refine v_if_ne (tgt := 13) C dX8_unplug_6 rfl ?_ ?_
  · skip
    refine v_aload_n C dX8_unplug_13 rfl (j := 0) rfl ?_
    refine v_iload_n C dX8_unplug_14 rfl (j := 1) rfl ?_
    refine v_callV_rI C [I a1] [A w a0] (Cee.of (rm := rX8_isPlugged) tw_1119 tw_9 hX8_isPlugged rfl rfl hRm (Nat.le_of_ble_eq_true rfl) (Nat.le_of_ble_eq_true rfl)) (fun x h => kX8_isPlugged X.2.1 w P n h) tw_1116 tw_1118 ts_45 rfl (ci := 8) rfl (by decide) rfl rfl (Nat.le_of_ble_eq_true rfl) ⟨Nat.zero_le _, Nat.zero_le _⟩ dX8_unplug_15 (fun x37 => ?_)
    refine v_if_ne (tgt := 25) C dX8_unplug_18 rfl ?_ ?_
    · skip
      refine v_iconst C dX8_unplug_25 ?_
      exact hk26 0
    · skip
      refine v_iconst C dX8_unplug_21 ?_
      refine v_goto (tgt := 26) C dX8_unplug_22 rfl ?_
      exact hk26 2
  · skip
    refine v_iconst C dX8_unplug_9 ?_
    refine v_goto (tgt := 26) C dX8_unplug_10 rfl ?_
    exact hk26 1
-- ForesightHubModel.plug
theorem hX8_plug : yX8_plug.cls ≠ "java/lang/invoke/MethodHandle" ∧ yX8_plug.cls ≠ "java/lang/invoke/VarHandle" ∧ (parseMethodDescriptor yX8_plug.desc).map (fun d => d.parameters.length) = some 2 := by decide +kernel
set_option maxRecDepth 100000 in
theorem kX8_plug (l : Launch) (w : Wd) (P : Shp) (n : Nat) {s : St} {a0 : Int} {a1 : Int} {a2 : Int} {res : Int × St} (h : fX8_plug P s a0 a1 a2 = some res) : Ct l w yX8_plug cX8_plug 3 (some FieldType.int) rX8_plug P n [A w a0, I a1, I a2] s (QI w P n res.1 res.2) :=
  Ct.of h (by decide) (Nat.le_of_ble_eq_true rfl) (lv := [(0, A w a0), (1, I a1), (2, I a2)]) rfl fun X hl hRm C hO => by
  subst hl
  unfold fX8_plug
  refine v_aload_n C dX8_plug_0 rfl (j := 0) rfl ?_
  refine v_aload_n C dX8_plug_1 rfl (j := 0) rfl ?_
  refine v_iload_n C dX8_plug_2 rfl (j := 1) rfl ?_
  refine v_callV_rI C [I a1] [A w a0] (Cee.of (rm := rX8_isDevice) tw_1331 tw_9 hX8_isDevice rfl rfl hRm (Nat.le_of_ble_eq_true rfl) (Nat.le_of_ble_eq_true rfl)) (fun x h => kX8_isDevice X.2.1 w P n h) tw_1328 tw_1330 ts_70 rfl (ci := 8) rfl (by decide) rfl rfl (Nat.le_of_ble_eq_true rfl) ⟨Nat.zero_le _, Nat.zero_le _⟩ dX8_plug_3 (fun x1 => ?_)
  refine v_jnt (fun (k51 : Int → Option (Int × St)) => ∀ (x2 : Int), V X w 3 P n 0 0 res (k51 x2) s 51 [(0, A w a0), (1, I a1), (2, I a2)] [I x2, A w a0]) ?_ ?_
  · intro x2
    refine v_putI C 0 rfl (T := TX8) rfl inB8 (by decide) tyX8_ok nmX8 (by decide) rfl rfl tw_1140 dX8_plug_51 rfl (fun s3 => ?_)
    refine v_aload_n C dX8_plug_54 rfl (j := 0) rfl ?_
    refine v_getI C 0 rfl (T := TX8) rfl inB8 (by decide) (by decide) rfl tw_1140 dX8_plug_55 (fun x4 => ?_)
    refine v_if_le (tgt := 63) C dX8_plug_58 rfl ?_ ?_
    · skip
      refine v_aload_n C dX8_plug_63 rfl (j := 0) rfl ?_
      refine v_callV_wV C [] [] (Cee.of (rm := rX8_keep) tw_1439 tw_9 hX8_keep rfl rfl hRm (Nat.le_of_ble_eq_true rfl) (Nat.le_of_ble_eq_true rfl)) (fun x h => kX8_keep X.2.1 w P n h) tw_1436 tw_1438 ts_83 rfl (ci := 8) rfl (by decide) rfl rfl (Nat.le_of_ble_eq_true rfl) ⟨Nat.zero_le _, Nat.zero_le _⟩ dX8_plug_64 (fun s5 => ?_)
      refine v_aload_n C dX8_plug_67 rfl (j := 0) rfl ?_
      refine v_getR C 14 rfl (T := TX8) rfl inB8 (by decide) (by decide) rfl tw_1154 dX8_plug_68 (fun x6 => ?_)
      refine v_iload_n C dX8_plug_71 rfl (j := 1) rfl ?_
      refine v_callS_rI C [I a1] [A w x6] (Cee.of (rm := rX8_at) tw_1088 tw_9 hX8_at rfl rfl hRm (Nat.le_of_ble_eq_true rfl) (Nat.le_of_ble_eq_true rfl)) (fun x h => kX8_at X.2.1 w P n h) tw_1086 tw_1087 rfl rfl (Nat.le_of_ble_eq_true rfl) ⟨Nat.zero_le _, Nat.zero_le _⟩ dX8_plug_72 (fun x7 => ?_)
      refine v_iconst C dX8_plug_75 ?_
      refine v_iadd C dX8_plug_76 ?_
      refine v_iload_n C dX8_plug_77 rfl (j := 2) rfl ?_
      refine v_iast C dX8_plug_78 (fun s8 => ?_)
      refine v_aload_n C dX8_plug_79 rfl (j := 0) rfl ?_
      refine v_getR C 14 rfl (T := TX8) rfl inB8 (by decide) (by decide) rfl tw_1154 dX8_plug_80 (fun x9 => ?_)
      refine v_iload_n C dX8_plug_83 rfl (j := 1) rfl ?_
      refine v_callS_rI C [I a1] [A w x9] (Cee.of (rm := rX8_at) tw_1088 tw_9 hX8_at rfl rfl hRm (Nat.le_of_ble_eq_true rfl) (Nat.le_of_ble_eq_true rfl)) (fun x h => kX8_at X.2.1 w P n h) tw_1086 tw_1087 rfl rfl (Nat.le_of_ble_eq_true rfl) ⟨Nat.zero_le _, Nat.zero_le _⟩ dX8_plug_84 (fun x10 => ?_)
      refine v_iconst C dX8_plug_87 ?_
      refine v_iadd C dX8_plug_88 ?_
      refine v_iconst C dX8_plug_89 ?_
      refine v_iast C dX8_plug_90 (fun s11 => ?_)
      refine v_aload_n C dX8_plug_91 rfl (j := 0) rfl ?_
      refine v_callV_wV C [] [] (Cee.of (rm := rX8_settles) tw_1099 tw_9 hX8_settles rfl rfl hRm (Nat.le_of_ble_eq_true rfl) (Nat.le_of_ble_eq_true rfl)) (fun x h => kX8_settles X.2.1 w P n h) tw_1096 tw_1098 ts_40 rfl (ci := 8) rfl (by decide) rfl rfl (Nat.le_of_ble_eq_true rfl) ⟨Nat.zero_le _, Nat.zero_le _⟩ dX8_plug_92 (fun s12 => ?_)
      refine v_aload_n C dX8_plug_95 rfl (j := 0) rfl ?_
      refine v_iload_n C dX8_plug_96 rfl (j := 1) rfl ?_
      refine v_callV_rI C [I a1] [] (Cee.of (rm := rX8_holdMany) tw_1482 tw_9 hX8_holdMany rfl rfl hRm (Nat.le_of_ble_eq_true rfl) (Nat.le_of_ble_eq_true rfl)) (fun x h => kX8_holdMany X.2.1 w P n h) tw_1479 tw_1481 ts_90 rfl (ci := 8) rfl (by decide) rfl rfl (Nat.le_of_ble_eq_true rfl) ⟨Nat.zero_le _, Nat.zero_le _⟩ dX8_plug_97 (fun x13 => ?_)
      exact v_iret C rfl hO pI dX8_plug_100
    · skip
      refine v_iconst C dX8_plug_61 ?_
      exact v_iret C rfl hO pI dX8_plug_62
  intro k51 hk51
  refine v_jnt (fun (k25 : Option (Int × St)) => V X w 3 P n 0 0 res (k25) s 25 [(0, A w a0), (1, I a1), (2, I a2)] [A w a0]) ?_ ?_
  · skip
    refine v_iconst C dX8_plug_25 ?_
    refine v_goto (tgt := 51) C dX8_plug_26 rfl ?_
    exact hk51 1
  intro k25 hk25
  refine v_if_eq (tgt := 25) C dX8_plug_6 rfl ?_ ?_
  · skip
    exact hk25
  · skip
    refine v_iload_n C dX8_plug_9 rfl (j := 2) rfl ?_
    refine v_iconst C dX8_plug_10 ?_
    refine v_aload_n C dX8_plug_11 rfl (j := 0) rfl ?_
    refine v_getR C 11 rfl (T := TX8) rfl inB8 (by decide) (by decide) rfl tw_1151 dX8_plug_12 (fun x14 => ?_)
    refine v_iconst C dX8_plug_15 ?_
    refine v_iald C dX8_plug_16 (fun x15 => ?_)
    refine v_iconst C dX8_plug_17 ?_
    refine v_isub C dX8_plug_18 ?_
    refine v_callS_rI C [I a2, I 0, I (x15 - 1)] [A w a0] (Cee.of (rm := rX8_within) tw_1228 tw_9 hX8_within rfl rfl hRm (Nat.le_of_ble_eq_true rfl) (Nat.le_of_ble_eq_true rfl)) (fun x h => kX8_within X.2.1 w P n h) tw_1226 tw_1227 rfl rfl (Nat.le_of_ble_eq_true rfl) ⟨Nat.zero_le _, Nat.zero_le _⟩ dX8_plug_19 (fun x16 => ?_)
    refine v_if_ne (tgt := 29) C dX8_plug_22 rfl ?_ ?_
    · skip
      refine v_aload_n C dX8_plug_29 rfl (j := 0) rfl ?_
      refine v_iload_n C dX8_plug_30 rfl (j := 1) rfl ?_
      refine v_callV_rI C [I a1] [A w a0] (Cee.of (rm := rX8_isPlugged) tw_1119 tw_9 hX8_isPlugged rfl rfl hRm (Nat.le_of_ble_eq_true rfl) (Nat.le_of_ble_eq_true rfl)) (fun x h => kX8_isPlugged X.2.1 w P n h) tw_1116 tw_1118 ts_45 rfl (ci := 8) rfl (by decide) rfl rfl (Nat.le_of_ble_eq_true rfl) ⟨Nat.zero_le _, Nat.zero_le _⟩ dX8_plug_31 (fun x17 => ?_)
      refine v_jnt (fun (k46 : Option (Int × St)) => V X w 3 P n 0 0 res (k46) s 46 [(0, A w a0), (1, I a1), (2, I a2)] [A w a0]) ?_ ?_
      · skip
        refine v_iconst C dX8_plug_46 ?_
        refine v_goto (tgt := 51) C dX8_plug_47 rfl ?_
        exact hk51 2
      intro k46 hk46
      refine v_if_ne (tgt := 46) C dX8_plug_34 rfl ?_ ?_
      · skip
        exact hk46
      · skip
        refine v_aload_n C dX8_plug_37 rfl (j := 0) rfl ?_
        refine v_iload_n C dX8_plug_38 rfl (j := 2) rfl ?_
        refine v_callV_rI C [I a2] [A w a0] (Cee.of (rm := rX8_atPort) tw_1323 tw_9 hX8_atPort rfl rfl hRm (Nat.le_of_ble_eq_true rfl) (Nat.le_of_ble_eq_true rfl)) (fun x h => kX8_atPort X.2.1 w P n h) tw_1320 tw_1322 ts_69 rfl (ci := 8) rfl (by decide) rfl rfl (Nat.le_of_ble_eq_true rfl) ⟨Nat.zero_le _, Nat.zero_le _⟩ dX8_plug_39 (fun x18 => ?_)
        refine v_iconst C dX8_plug_42 ?_
        refine v_icmp_eq (tgt := 50) C dX8_plug_43 rfl ?_ ?_
        · skip
          refine v_iconst C dX8_plug_50 ?_
          exact hk51 0
        · skip
          exact hk46
    · skip
      exact hk25
-- ForesightHubModel.setScore
theorem hX8_setScore : yX8_setScore.cls ≠ "java/lang/invoke/MethodHandle" ∧ yX8_setScore.cls ≠ "java/lang/invoke/VarHandle" ∧ (parseMethodDescriptor yX8_setScore.desc).map (fun d => d.parameters.length) = some 1 := by decide +kernel
set_option maxRecDepth 100000 in
theorem kX8_setScore (l : Launch) (w : Wd) (P : Shp) (n : Nat) {s : St} {a0 : Int} {a1 : Int} {res : Int × St} (h : fX8_setScore P s a0 a1 = some res) : Ct l w yX8_setScore cX8_setScore 3 (some FieldType.int) rX8_setScore P n [A w a0, I a1] s (QI w P n res.1 res.2) :=
  Ct.of h (by decide) (Nat.le_of_ble_eq_true rfl) (lv := [(0, A w a0), (1, I a1)]) rfl fun X hl hRm C hO => by
  subst hl
  unfold fX8_setScore
  refine v_aload_n C dX8_setScore_0 rfl (j := 0) rfl ?_
  refine v_iload_n C dX8_setScore_1 rfl (j := 1) rfl ?_
  refine v_iconst C dX8_setScore_2 ?_
  refine v_sipush C dX8_setScore_3 (by decide) ?_
  refine v_callS_rI C [I a1, I 1, I 999] [A w a0] (Cee.of (rm := rX8_within) tw_1228 tw_9 hX8_within rfl rfl hRm (Nat.le_of_ble_eq_true rfl) (Nat.le_of_ble_eq_true rfl)) (fun x h => kX8_within X.2.1 w P n h) tw_1226 tw_1227 rfl rfl (Nat.le_of_ble_eq_true rfl) ⟨Nat.zero_le _, Nat.zero_le _⟩ dX8_setScore_6 (fun x1 => ?_)
  refine v_jnt (fun (k17 : Int → Option (Int × St)) => ∀ (x2 : Int), V X w 3 P n 0 0 res (k17 x2) s 17 [(0, A w a0), (1, I a1)] [I x2, A w a0]) ?_ ?_
  · intro x2
    refine v_putI C 0 rfl (T := TX8) rfl inB8 (by decide) tyX8_ok nmX8 (by decide) rfl rfl tw_1140 dX8_setScore_17 rfl (fun s3 => ?_)
    refine v_aload_n C dX8_setScore_20 rfl (j := 0) rfl ?_
    refine v_getI C 0 rfl (T := TX8) rfl inB8 (by decide) (by decide) rfl tw_1140 dX8_setScore_21 (fun x4 => ?_)
    refine v_if_le (tgt := 29) C dX8_setScore_24 rfl ?_ ?_
    · skip
      refine v_aload_n C dX8_setScore_29 rfl (j := 0) rfl ?_
      refine v_callV_wV C [] [] (Cee.of (rm := rX8_keep) tw_1439 tw_9 hX8_keep rfl rfl hRm (Nat.le_of_ble_eq_true rfl) (Nat.le_of_ble_eq_true rfl)) (fun x h => kX8_keep X.2.1 w P n h) tw_1436 tw_1438 ts_83 rfl (ci := 8) rfl (by decide) rfl rfl (Nat.le_of_ble_eq_true rfl) ⟨Nat.zero_le _, Nat.zero_le _⟩ dX8_setScore_30 (fun s5 => ?_)
      refine v_aload_n C dX8_setScore_33 rfl (j := 0) rfl ?_
      refine v_getR C 14 rfl (T := TX8) rfl inB8 (by decide) (by decide) rfl tw_1154 dX8_setScore_34 (fun x6 => ?_)
      refine v_iconst C dX8_setScore_37 ?_
      refine v_iald C dX8_setScore_38 (fun x7 => ?_)
      refine v_istore_n C [(2, I x7), (0, A w a0), (1, I a1)] dX8_setScore_39 rfl (by decide) rfl ?_
      refine v_aload_n C dX8_setScore_40 rfl (j := 1) rfl ?_
      refine v_getR C 14 rfl (T := TX8) rfl inB8 (by decide) (by decide) rfl tw_1154 dX8_setScore_41 (fun x8 => ?_)
      refine v_iconst C dX8_setScore_44 ?_
      refine v_iload_n C dX8_setScore_45 rfl (j := 2) rfl ?_
      refine v_iast C dX8_setScore_46 (fun s9 => ?_)
      refine v_iload_n C dX8_setScore_47 rfl (j := 0) rfl ?_
      exact v_iret C rfl hO pI dX8_setScore_48
    · skip
      refine v_iconst C dX8_setScore_27 ?_
      exact v_iret C rfl hO pI dX8_setScore_28
  intro k17 hk17
  refine v_if_eq (tgt := 16) C dX8_setScore_9 rfl ?_ ?_
  · skip
    refine v_iconst C dX8_setScore_16 ?_
    exact hk17 1
  · skip
    refine v_iconst C dX8_setScore_12 ?_
    refine v_goto (tgt := 17) C dX8_setScore_13 rfl ?_
    exact hk17 0
-- ForesightHubModel.undo
theorem hX8_undo : yX8_undo.cls ≠ "java/lang/invoke/MethodHandle" ∧ yX8_undo.cls ≠ "java/lang/invoke/VarHandle" ∧ (parseMethodDescriptor yX8_undo.desc).map (fun d => d.parameters.length) = some 0 := by decide +kernel
set_option maxRecDepth 100000 in
theorem kX8_undo (l : Launch) (w : Wd) (P : Shp) (n : Nat) {s : St} {a0 : Int} {res : Int × St} (h : fX8_undo P s a0 = some res) : Ct l w yX8_undo cX8_undo 1 (some FieldType.int) rX8_undo P n [A w a0] s (QI w P n res.1 res.2) :=
  Ct.of h (by decide) (Nat.le_of_ble_eq_true rfl) (lv := [(0, A w a0)]) rfl fun X hl hRm C hO => by
  subst hl
  unfold fX8_undo
  refine v_aload_n C dX8_undo_0 rfl (j := 0) rfl ?_
  refine v_iconst C dX8_undo_1 ?_
  refine v_putI C 0 rfl (T := TX8) rfl inB8 (by decide) tyX8_ok nmX8 (by decide) rfl rfl tw_1140 dX8_undo_2 rfl (fun s1 => ?_)
  refine v_aload_n C dX8_undo_5 rfl (j := 0) rfl ?_
  refine v_getI C 18 rfl (T := TX8) rfl inB8 (by decide) (by decide) rfl tw_1158 dX8_undo_6 (fun x2 => ?_)
  refine v_if_ne (tgt := 14) C dX8_undo_9 rfl ?_ ?_
  · skip
    refine v_aload_n C dX8_undo_14 rfl (j := 0) rfl ?_
    refine v_dup C dX8_undo_15 rfl ?_
    refine v_getI C 18 rfl (T := TX8) rfl inB8 (by decide) (by decide) rfl tw_1158 dX8_undo_16 (fun x3 => ?_)
    refine v_iconst C dX8_undo_19 ?_
    refine v_isub C dX8_undo_20 ?_
    refine v_putI C 18 rfl (T := TX8) rfl inB8 (by decide) tyX8_ok nmX8 (by decide) rfl rfl tw_1158 dX8_undo_21 rfl (fun s4 => ?_)
    refine v_aload_n C dX8_undo_24 rfl (j := 0) rfl ?_
    refine v_getR C 16 rfl (T := TX8) rfl inB8 (by decide) (by decide) rfl tw_1156 dX8_undo_25 (fun x5 => ?_)
    refine v_aload_n C dX8_undo_28 rfl (j := 0) rfl ?_
    refine v_getR C 17 rfl (T := TX8) rfl inB8 (by decide) (by decide) rfl tw_1157 dX8_undo_29 (fun x6 => ?_)
    refine v_aload_n C dX8_undo_32 rfl (j := 0) rfl ?_
    refine v_getI C 18 rfl (T := TX8) rfl inB8 (by decide) (by decide) rfl tw_1158 dX8_undo_33 (fun x7 => ?_)
    refine v_aload_n C dX8_undo_36 rfl (j := 0) rfl ?_
    refine v_getR C 14 rfl (T := TX8) rfl inB8 (by decide) (by decide) rfl tw_1154 dX8_undo_37 (fun x8 => ?_)
    refine v_aload_n C dX8_undo_40 rfl (j := 0) rfl ?_
    refine v_getR C 15 rfl (T := TX8) rfl inB8 (by decide) (by decide) rfl tw_1155 dX8_undo_41 (fun x9 => ?_)
    refine v_iconst C dX8_undo_44 ?_
    refine v_callS_wV C [A w x5, A w x6, I x7, A w x8, A w x9, I 0] [] (Cee.of (rm := rX8_copy) tw_1442 tw_9 hX8_copy rfl rfl hRm (Nat.le_of_ble_eq_true rfl) (Nat.le_of_ble_eq_true rfl)) (fun x h => kX8_copy X.2.1 w P n h) tw_1440 tw_1441 rfl rfl (Nat.le_of_ble_eq_true rfl) ⟨Nat.zero_le _, Nat.zero_le _⟩ dX8_undo_45 (fun s10 => ?_)
    refine v_aload_n C dX8_undo_48 rfl (j := 0) rfl ?_
    refine v_getI C 18 rfl (T := TX8) rfl inB8 (by decide) (by decide) rfl tw_1158 dX8_undo_49 (fun x11 => ?_)
    exact v_iret C rfl hO pI dX8_undo_52
  · skip
    refine v_iconst C dX8_undo_12 ?_
    exact v_iret C rfl hO pI dX8_undo_13
-- ForesightHubModel.saveSnapshot
theorem hX8_saveSnapshot : yX8_saveSnapshot.cls ≠ "java/lang/invoke/MethodHandle" ∧ yX8_saveSnapshot.cls ≠ "java/lang/invoke/VarHandle" ∧ (parseMethodDescriptor yX8_saveSnapshot.desc).map (fun d => d.parameters.length) = some 1 := by decide +kernel
set_option maxRecDepth 100000 in
theorem kX8_saveSnapshot (l : Launch) (w : Wd) (P : Shp) (n : Nat) {s : St} {a0 : Int} {a1 : Int} {res : Int × St} (h : fX8_saveSnapshot P s a0 a1 = some res) : Ct l w yX8_saveSnapshot cX8_saveSnapshot 2 (some FieldType.boolean) rX8_saveSnapshot P n [A w a0, I a1] s (QI w P n res.1 res.2) :=
  Ct.of h (by decide) (Nat.le_of_ble_eq_true rfl) (lv := [(0, A w a0), (1, I a1)]) rfl fun X hl hRm C hO => by
  subst hl
  unfold fX8_saveSnapshot
  refine v_aload_n C dX8_saveSnapshot_0 rfl (j := 0) rfl ?_
  refine v_iconst C dX8_saveSnapshot_1 ?_
  refine v_putI C 0 rfl (T := TX8) rfl inB8 (by decide) tyX8_ok nmX8 (by decide) rfl rfl tw_1140 dX8_saveSnapshot_2 rfl (fun s1 => ?_)
  refine v_iload_n C dX8_saveSnapshot_5 rfl (j := 1) rfl ?_
  refine v_iconst C dX8_saveSnapshot_6 ?_
  refine v_iconst C dX8_saveSnapshot_7 ?_
  refine v_callS_rI C [I a1, I 0, I 1] [] (Cee.of (rm := rX8_within) tw_1228 tw_9 hX8_within rfl rfl hRm (Nat.le_of_ble_eq_true rfl) (Nat.le_of_ble_eq_true rfl)) (fun x h => kX8_within X.2.1 w P n h) tw_1226 tw_1227 rfl rfl (Nat.le_of_ble_eq_true rfl) ⟨Nat.zero_le _, Nat.zero_le _⟩ dX8_saveSnapshot_8 (fun x2 => ?_)
  refine v_if_ne (tgt := 16) C dX8_saveSnapshot_11 rfl ?_ ?_
  · skip
    refine v_aload_n C dX8_saveSnapshot_16 rfl (j := 0) rfl ?_
    refine v_getR C 14 rfl (T := TX8) rfl inB8 (by decide) (by decide) rfl tw_1154 dX8_saveSnapshot_17 (fun x3 => ?_)
    refine v_aload_n C dX8_saveSnapshot_20 rfl (j := 0) rfl ?_
    refine v_getR C 15 rfl (T := TX8) rfl inB8 (by decide) (by decide) rfl tw_1155 dX8_saveSnapshot_21 (fun x4 => ?_)
    refine v_iconst C dX8_saveSnapshot_24 ?_
    refine v_aload_n C dX8_saveSnapshot_25 rfl (j := 0) rfl ?_
    refine v_getR C 19 rfl (T := TX8) rfl inB8 (by decide) (by decide) rfl tw_1159 dX8_saveSnapshot_26 (fun x5 => ?_)
    refine v_aload_n C dX8_saveSnapshot_29 rfl (j := 0) rfl ?_
    refine v_getR C 20 rfl (T := TX8) rfl inB8 (by decide) (by decide) rfl tw_1160 dX8_saveSnapshot_30 (fun x6 => ?_)
    refine v_iload_n C dX8_saveSnapshot_33 rfl (j := 1) rfl ?_
    refine v_callS_wV C [A w x3, A w x4, I 0, A w x5, A w x6, I a1] [] (Cee.of (rm := rX8_copy) tw_1442 tw_9 hX8_copy rfl rfl hRm (Nat.le_of_ble_eq_true rfl) (Nat.le_of_ble_eq_true rfl)) (fun x h => kX8_copy X.2.1 w P n h) tw_1440 tw_1441 rfl rfl (Nat.le_of_ble_eq_true rfl) ⟨Nat.zero_le _, Nat.zero_le _⟩ dX8_saveSnapshot_34 (fun s7 => ?_)
    refine v_aload_n C dX8_saveSnapshot_37 rfl (j := 0) rfl ?_
    refine v_getR C 21 rfl (T := TX8) rfl inB8 (by decide) (by decide) rfl tw_1161 dX8_saveSnapshot_38 (fun x8 => ?_)
    refine v_iload_n C dX8_saveSnapshot_41 rfl (j := 1) rfl ?_
    refine v_iconst C dX8_saveSnapshot_42 ?_
    refine v_zast C dX8_saveSnapshot_43 (fun s9 => ?_)
    refine v_iconst C dX8_saveSnapshot_44 ?_
    exact v_zret C rfl hO pI dX8_saveSnapshot_45
  · skip
    refine v_iconst C dX8_saveSnapshot_14 ?_
    exact v_zret C rfl hO pI dX8_saveSnapshot_15
-- ForesightHubModel.restoreSnapshot
theorem hX8_restoreSnapshot : yX8_restoreSnapshot.cls ≠ "java/lang/invoke/MethodHandle" ∧ yX8_restoreSnapshot.cls ≠ "java/lang/invoke/VarHandle" ∧ (parseMethodDescriptor yX8_restoreSnapshot.desc).map (fun d => d.parameters.length) = some 1 := by decide +kernel
set_option maxRecDepth 100000 in
theorem kX8_restoreSnapshot (l : Launch) (w : Wd) (P : Shp) (n : Nat) {s : St} {a0 : Int} {a1 : Int} {res : Int × St} (h : fX8_restoreSnapshot P s a0 a1 = some res) : Ct l w yX8_restoreSnapshot cX8_restoreSnapshot 2 (some FieldType.boolean) rX8_restoreSnapshot P n [A w a0, I a1] s (QI w P n res.1 res.2) :=
  Ct.of h (by decide) (Nat.le_of_ble_eq_true rfl) (lv := [(0, A w a0), (1, I a1)]) rfl fun X hl hRm C hO => by
  subst hl
  unfold fX8_restoreSnapshot
  refine v_aload_n C dX8_restoreSnapshot_0 rfl (j := 0) rfl ?_
  refine v_iconst C dX8_restoreSnapshot_1 ?_
  refine v_putI C 0 rfl (T := TX8) rfl inB8 (by decide) tyX8_ok nmX8 (by decide) rfl rfl tw_1140 dX8_restoreSnapshot_2 rfl (fun s1 => ?_)
  refine v_iload_n C dX8_restoreSnapshot_5 rfl (j := 1) rfl ?_
  refine v_iconst C dX8_restoreSnapshot_6 ?_
  refine v_iconst C dX8_restoreSnapshot_7 ?_
  refine v_callS_rI C [I a1, I 0, I 1] [] (Cee.of (rm := rX8_within) tw_1228 tw_9 hX8_within rfl rfl hRm (Nat.le_of_ble_eq_true rfl) (Nat.le_of_ble_eq_true rfl)) (fun x h => kX8_within X.2.1 w P n h) tw_1226 tw_1227 rfl rfl (Nat.le_of_ble_eq_true rfl) ⟨Nat.zero_le _, Nat.zero_le _⟩ dX8_restoreSnapshot_8 (fun x2 => ?_)
  refine v_if_eq (tgt := 23) C dX8_restoreSnapshot_11 rfl ?_ ?_
  · skip
    refine v_iconst C dX8_restoreSnapshot_23 ?_
    exact v_zret C rfl hO pI dX8_restoreSnapshot_24
  · skip
    refine v_aload_n C dX8_restoreSnapshot_14 rfl (j := 0) rfl ?_
    refine v_getR C 21 rfl (T := TX8) rfl inB8 (by decide) (by decide) rfl tw_1161 dX8_restoreSnapshot_15 (fun x3 => ?_)
    refine v_iload_n C dX8_restoreSnapshot_18 rfl (j := 1) rfl ?_
    refine v_zald C dX8_restoreSnapshot_19 (fun x4 => ?_)
    refine v_if_ne (tgt := 25) C dX8_restoreSnapshot_20 rfl ?_ ?_
    · skip
      refine v_aload_n C dX8_restoreSnapshot_25 rfl (j := 0) rfl ?_
      refine v_getR C 19 rfl (T := TX8) rfl inB8 (by decide) (by decide) rfl tw_1159 dX8_restoreSnapshot_26 (fun x5 => ?_)
      refine v_aload_n C dX8_restoreSnapshot_29 rfl (j := 0) rfl ?_
      refine v_getR C 20 rfl (T := TX8) rfl inB8 (by decide) (by decide) rfl tw_1160 dX8_restoreSnapshot_30 (fun x6 => ?_)
      refine v_iload_n C dX8_restoreSnapshot_33 rfl (j := 1) rfl ?_
      refine v_aload_n C dX8_restoreSnapshot_34 rfl (j := 0) rfl ?_
      refine v_getR C 14 rfl (T := TX8) rfl inB8 (by decide) (by decide) rfl tw_1154 dX8_restoreSnapshot_35 (fun x7 => ?_)
      refine v_aload_n C dX8_restoreSnapshot_38 rfl (j := 0) rfl ?_
      refine v_getR C 15 rfl (T := TX8) rfl inB8 (by decide) (by decide) rfl tw_1155 dX8_restoreSnapshot_39 (fun x8 => ?_)
      refine v_iconst C dX8_restoreSnapshot_42 ?_
      refine v_callS_wV C [A w x5, A w x6, I a1, A w x7, A w x8, I 0] [] (Cee.of (rm := rX8_copy) tw_1442 tw_9 hX8_copy rfl rfl hRm (Nat.le_of_ble_eq_true rfl) (Nat.le_of_ble_eq_true rfl)) (fun x h => kX8_copy X.2.1 w P n h) tw_1440 tw_1441 rfl rfl (Nat.le_of_ble_eq_true rfl) ⟨Nat.zero_le _, Nat.zero_le _⟩ dX8_restoreSnapshot_43 (fun s9 => ?_)
      refine v_aload_n C dX8_restoreSnapshot_46 rfl (j := 0) rfl ?_
      refine v_iconst C dX8_restoreSnapshot_47 ?_
      refine v_putI C 18 rfl (T := TX8) rfl inB8 (by decide) tyX8_ok nmX8 (by decide) rfl rfl tw_1158 dX8_restoreSnapshot_48 rfl (fun s10 => ?_)
      refine v_iconst C dX8_restoreSnapshot_51 ?_
      exact v_zret C rfl hO pI dX8_restoreSnapshot_52
    · skip
      refine v_iconst C dX8_restoreSnapshot_23 ?_
      exact v_zret C rfl hO pI dX8_restoreSnapshot_24
-- ForesightHub$ErrorBook.clear
set_option maxRecDepth 100000 in
theorem vX0_clear_L7 {X : Cxt} {w : Wd} {P : Shp} {n : Nat} (res : St) (hRm : X.2.2.2.1 = rX0_clear) (C : Cok X w cX0_clear 2 RX0 (Option.none : Option FieldType)) (hO : Own X w 0 0 (QV w P n res))  (c0 : Int) (kE26 : St → Option (St)) (hE26 : ∀ (se : St), V X w 2 P n 0 0 res (kE26 se) se 26 [(0, A w c0)] []) : ∀ (fuel : Nat) (p1 : Int) (s : St), V X w 2 P n 0 0 res (fX0_clear_L7 P c0 kE26 fuel p1 s) s 7 [(0, A w c0), (1, I p1)] [] := by
  intro fuel
  induction fuel with
  | zero => intro p1 s; exact v_none
  | succ m ih =>
    intro p1 s
    rw [fX0_clear_L7]
    refine v_iload_n C dX0_clear_7 rfl (j := 1) rfl ?_
    refine v_bipush C dX0_clear_8 (by decide) ?_
    refine v_icmp_ge (tgt := 26) C dX0_clear_10 rfl ?_ ?_
    · skip
      refine v_sub [(0, A w c0)] [0] rfl ?_
      exact hE26 s
    · skip
      refine v_aload_n C dX0_clear_13 rfl (j := 0) rfl ?_
      refine v_getR C 5 rfl (T := TX0) rfl inB0 (by decide) (by decide) rfl tw_213 dX0_clear_14 (fun x2 => ?_)
      refine v_iload_n C dX0_clear_17 rfl (j := 1) rfl ?_
      refine v_iconst C dX0_clear_18 ?_
      refine v_iast C dX0_clear_19 (fun s3 => ?_)
      refine v_iinc C (j := 1) [(0, A w c0)] dX0_clear_20 (by decide) rfl (fun _ => rfl) (fun x4 => ?_)
      refine v_goto (tgt := 7) C dX0_clear_23 rfl ?_
      refine v_sub [(0, A w c0), (1, I x4)] [1, 0] rfl ?_
      exact ih x4 s3
set_option maxRecDepth 100000 in
theorem vX0_clear_L28 {X : Cxt} {w : Wd} {P : Shp} {n : Nat} (res : St) (hRm : X.2.2.2.1 = rX0_clear) (C : Cok X w cX0_clear 2 RX0 (Option.none : Option FieldType)) (hO : Own X w 0 0 (QV w P n res))  (c0 : Int) (kE47 : St → Option (St)) (hE47 : ∀ (se : St), V X w 2 P n 0 0 res (kE47 se) se 47 [] []) : ∀ (fuel : Nat) (p1 : Int) (s : St), V X w 2 P n 0 0 res (fX0_clear_L28 P c0 kE47 fuel p1 s) s 28 [(0, A w c0), (1, I p1)] [] := by
  intro fuel
  induction fuel with
  | zero => intro p1 s; exact v_none
  | succ m ih =>
    intro p1 s
    rw [fX0_clear_L28]
    refine v_iload_n C dX0_clear_28 rfl (j := 1) rfl ?_
    refine v_bipush C dX0_clear_29 (by decide) ?_
    refine v_icmp_ge (tgt := 47) C dX0_clear_31 rfl ?_ ?_
    · skip
      refine v_sub [] [] rfl ?_
      exact hE47 s
    · skip
      refine v_aload_n C dX0_clear_34 rfl (j := 0) rfl ?_
      refine v_getR C 0 rfl (T := TX0) rfl inB0 (by decide) (by decide) rfl tw_206 dX0_clear_35 (fun x6 => ?_)
      refine v_iload_n C dX0_clear_38 rfl (j := 1) rfl ?_
      refine v_iconst C dX0_clear_39 ?_
      refine v_iast C dX0_clear_40 (fun s7 => ?_)
      refine v_iinc C (j := 1) [(0, A w c0)] dX0_clear_41 (by decide) rfl (fun _ => rfl) (fun x8 => ?_)
      refine v_goto (tgt := 28) C dX0_clear_44 rfl ?_
      refine v_sub [(0, A w c0), (1, I x8)] [1, 0] rfl ?_
      exact ih x8 s7
theorem hX0_clear : yX0_clear.cls ≠ "java/lang/invoke/MethodHandle" ∧ yX0_clear.cls ≠ "java/lang/invoke/VarHandle" ∧ (parseMethodDescriptor yX0_clear.desc).map (fun d => d.parameters.length) = some 0 := by decide +kernel
set_option maxRecDepth 100000 in
theorem kX0_clear (l : Launch) (w : Wd) (P : Shp) (n : Nat) {s : St} {a0 : Int} {res : St} (h : fX0_clear P s a0 = some res) : Ct l w yX0_clear cX0_clear 2 (Option.none : Option FieldType) rX0_clear P n [A w a0] s (QV w P n res) :=
  Ct.of h (by decide) (Nat.le_of_ble_eq_true rfl) (lv := [(0, A w a0)]) rfl fun X hl hRm C hO => by
  subst hl
  unfold fX0_clear
  refine v_aload_n C dX0_clear_0 rfl (j := 0) rfl ?_
  refine v_iconst C dX0_clear_1 ?_
  refine v_putI C 3 rfl (T := TX0) rfl inB0 (by decide) tyX0_ok nmX0 (by decide) rfl rfl tw_211 dX0_clear_2 rfl (fun s1 => ?_)
  refine v_iconst C dX0_clear_5 ?_
  refine v_istore_n C [(1, I 0), (0, A w a0)] dX0_clear_6 rfl (by decide) rfl ?_
  refine v_sub [(0, A w a0), (1, I 0)] [1, 0] rfl ?_
  refine vX0_clear_L7 res hRm C hO a0 _ ?_ 1000 0 s1
  · intro s5
    refine v_iconst C dX0_clear_26 ?_
    refine v_istore_n C [(1, I 0), (0, A w a0)] dX0_clear_27 rfl (by decide) rfl ?_
    refine v_sub [(0, A w a0), (1, I 0)] [1, 0] rfl ?_
    refine vX0_clear_L28 res hRm C hO a0 _ ?_ 1000 0 s5
    · intro s9
      exact v_vret C rfl hO (fun h => Option.some.inj h) dX0_clear_47
-- ForesightHub$ErrorBook.dropOldest
set_option maxRecDepth 100000 in
theorem vX0_dropOldest_L7 {X : Cxt} {w : Wd} {P : Shp} {n : Nat} (res : St) (hRm : X.2.2.2.1 = rX0_dropOldest) (C : Cok X w cX0_dropOldest 4 RX0 (Option.none : Option FieldType)) (hO : Own X w 0 0 (QV w P n res))  (c0 : Int) (c1 : Int) (c2 : Int) (kE51 : St → Option (St)) (hE51 : ∀ (se : St), V X w 4 P n 0 0 res (kE51 se) se 51 [(0, A w c0), (1, I c1)] []) : ∀ (fuel : Nat) (p3 : Int) (s : St), V X w 4 P n 0 0 res (fX0_dropOldest_L7 P c0 c1 c2 kE51 fuel p3 s) s 7 [(0, A w c0), (1, I c1), (2, I c2), (3, I p3)] [] := by
  intro fuel
  induction fuel with
  | zero => intro p3 s; exact v_none
  | succ m ih =>
    intro p3 s
    rw [fX0_dropOldest_L7]
    refine v_iload_n C dX0_dropOldest_7 rfl (j := 3) rfl ?_
    refine v_iload_n C dX0_dropOldest_8 rfl (j := 2) rfl ?_
    refine v_bipush C dX0_dropOldest_9 (by decide) ?_
    refine v_iadd C dX0_dropOldest_11 ?_
    refine v_iconst C dX0_dropOldest_12 ?_
    refine v_isub C dX0_dropOldest_13 ?_
    refine v_icmp_ge (tgt := 51) C dX0_dropOldest_14 rfl ?_ ?_
    · skip
      refine v_sub [(0, A w c0), (1, I c1)] [0, 1] rfl ?_
      exact hE51 s
    · skip
      refine v_aload_n C dX0_dropOldest_17 rfl (j := 0) rfl ?_
      refine v_getR C 1 rfl (T := TX0) rfl inB0 (by decide) (by decide) rfl tw_209 dX0_dropOldest_18 (fun x2 => ?_)
      refine v_iload_n C dX0_dropOldest_21 rfl (j := 3) rfl ?_
      refine v_aload_n C dX0_dropOldest_22 rfl (j := 0) rfl ?_
      refine v_getR C 1 rfl (T := TX0) rfl inB0 (by decide) (by decide) rfl tw_209 dX0_dropOldest_23 (fun x3 => ?_)
      refine v_iload_n C dX0_dropOldest_26 rfl (j := 3) rfl ?_
      refine v_iconst C dX0_dropOldest_27 ?_
      refine v_iadd C dX0_dropOldest_28 ?_
      refine v_iald C dX0_dropOldest_29 (fun x4 => ?_)
      refine v_iast C dX0_dropOldest_30 (fun s5 => ?_)
      refine v_aload_n C dX0_dropOldest_31 rfl (j := 0) rfl ?_
      refine v_getR C 2 rfl (T := TX0) rfl inB0 (by decide) (by decide) rfl tw_210 dX0_dropOldest_32 (fun x6 => ?_)
      refine v_iload_n C dX0_dropOldest_35 rfl (j := 3) rfl ?_
      refine v_aload_n C dX0_dropOldest_36 rfl (j := 0) rfl ?_
      refine v_getR C 2 rfl (T := TX0) rfl inB0 (by decide) (by decide) rfl tw_210 dX0_dropOldest_37 (fun x7 => ?_)
      refine v_iload_n C dX0_dropOldest_40 rfl (j := 3) rfl ?_
      refine v_iconst C dX0_dropOldest_41 ?_
      refine v_iadd C dX0_dropOldest_42 ?_
      refine v_iald C dX0_dropOldest_43 (fun x8 => ?_)
      refine v_iast C dX0_dropOldest_44 (fun s9 => ?_)
      refine v_iinc C (j := 3) [(0, A w c0), (1, I c1), (2, I c2)] dX0_dropOldest_45 (by decide) rfl (fun _ => rfl) (fun x10 => ?_)
      refine v_goto (tgt := 7) C dX0_dropOldest_48 rfl ?_
      refine v_sub [(0, A w c0), (1, I c1), (2, I c2), (3, I x10)] [1, 2, 3, 0] rfl ?_
      exact ih x10 s9
theorem hX0_dropOldest : yX0_dropOldest.cls ≠ "java/lang/invoke/MethodHandle" ∧ yX0_dropOldest.cls ≠ "java/lang/invoke/VarHandle" ∧ (parseMethodDescriptor yX0_dropOldest.desc).map (fun d => d.parameters.length) = some 1 := by decide +kernel
set_option maxRecDepth 100000 in
theorem kX0_dropOldest (l : Launch) (w : Wd) (P : Shp) (n : Nat) {s : St} {a0 : Int} {a1 : Int} {res : St} (h : fX0_dropOldest P s a0 a1 = some res) : Ct l w yX0_dropOldest cX0_dropOldest 4 (Option.none : Option FieldType) rX0_dropOldest P n [A w a0, I a1] s (QV w P n res) :=
  Ct.of h (by decide) (Nat.le_of_ble_eq_true rfl) (lv := [(0, A w a0), (1, I a1)]) rfl fun X hl hRm C hO => by
  subst hl
  unfold fX0_dropOldest
  refine v_iload_n C dX0_dropOldest_0 rfl (j := 1) rfl ?_
  refine v_bipush C dX0_dropOldest_1 (by decide) ?_
  refine v_imul C dX0_dropOldest_3 ?_
  refine v_bdI (fun x1 => ?_)
  refine v_istore_n C [(2, I x1), (0, A w a0), (1, I a1)] dX0_dropOldest_4 rfl (by decide) rfl ?_
  refine v_iload_n C dX0_dropOldest_5 rfl (j := 0) rfl ?_
  refine v_istore_n C [(3, I x1), (2, I x1), (0, A w a0), (1, I a1)] dX0_dropOldest_6 rfl (by decide) rfl ?_
  refine v_sub [(0, A w a0), (1, I a1), (2, I x1), (3, I x1)] [2, 3, 1, 0] rfl ?_
  refine vX0_dropOldest_L7 res hRm C hO a0 a1 x1 _ ?_ 1000 x1 s
  · intro s11
    refine v_aload_n C dX0_dropOldest_51 rfl (j := 0) rfl ?_
    refine v_getR C 0 rfl (T := TX0) rfl inB0 (by decide) (by decide) rfl tw_206 dX0_dropOldest_52 (fun x12 => ?_)
    refine v_iload_n C dX0_dropOldest_55 rfl (j := 1) rfl ?_
    refine v_bipush C dX0_dropOldest_56 (by decide) ?_
    refine v_iast C dX0_dropOldest_58 (fun s13 => ?_)
    exact v_vret C rfl hO (fun h => Option.some.inj h) dX0_dropOldest_59
-- ForesightHub$ErrorBook.countCause
theorem hX0_countCause : yX0_countCause.cls ≠ "java/lang/invoke/MethodHandle" ∧ yX0_countCause.cls ≠ "java/lang/invoke/VarHandle" ∧ (parseMethodDescriptor yX0_countCause.desc).map (fun d => d.parameters.length) = some 1 := by decide +kernel
set_option maxRecDepth 100000 in
theorem kX0_countCause (l : Launch) (w : Wd) (P : Shp) (n : Nat) {s : St} {a0 : Int} {a1 : Int} {res : St} (h : fX0_countCause P s a0 a1 = some res) : Ct l w yX0_countCause cX0_countCause 2 (Option.none : Option FieldType) rX0_countCause P n [A w a0, I a1] s (QV w P n res) :=
  Ct.of h (by decide) (Nat.le_of_ble_eq_true rfl) (lv := [(0, A w a0), (1, I a1)]) rfl fun X hl hRm C hO => by
  subst hl
  unfold fX0_countCause
  refine v_iload_n C dX0_countCause_0 rfl (j := 1) rfl ?_
  refine v_if_lt (tgt := 10) C dX0_countCause_1 rfl ?_ ?_
  · skip
    exact v_vret C rfl hO (fun h => Option.some.inj h) dX0_countCause_10
  · skip
    refine v_iload_n C dX0_countCause_4 rfl (j := 1) rfl ?_
    refine v_bipush C dX0_countCause_5 (by decide) ?_
    refine v_icmp_lt (tgt := 11) C dX0_countCause_7 rfl ?_ ?_
    · skip
      refine v_aload_n C dX0_countCause_11 rfl (j := 0) rfl ?_
      refine v_getR C 5 rfl (T := TX0) rfl inB0 (by decide) (by decide) rfl tw_213 dX0_countCause_12 (fun x1 => ?_)
      refine v_iload_n C dX0_countCause_15 rfl (j := 1) rfl ?_
      refine v_iald C dX0_countCause_16 (fun x2 => ?_)
      refine v_jnt (fun (k49 : St → Option (St)) => ∀ (s3 : St), V X w 2 P n 0 0 res (k49 s3) s3 49 [(0, A w a0), (1, I a1)] []) ?_ ?_
      · intro s3
        refine v_aload_n C dX0_countCause_49 rfl (j := 0) rfl ?_
        refine v_getR C 5 rfl (T := TX0) rfl inB0 (by decide) (by decide) rfl tw_213 dX0_countCause_50 (fun x4 => ?_)
        refine v_iload_n C dX0_countCause_53 rfl (j := 1) rfl ?_
        refine v_dup2 C dX0_countCause_54 rfl rfl ?_
        refine v_iald C dX0_countCause_55 (fun x5 => ?_)
        refine v_iconst C dX0_countCause_56 ?_
        refine v_iadd C dX0_countCause_57 ?_
        refine v_iast C dX0_countCause_58 (fun s6 => ?_)
        exact v_vret C rfl hO (fun h => Option.some.inj h) dX0_countCause_59
      intro k49 hk49
      refine v_if_ne (tgt := 49) C dX0_countCause_17 rfl ?_ ?_
      · skip
        exact hk49 s
      · skip
        refine v_aload_n C dX0_countCause_20 rfl (j := 0) rfl ?_
        refine v_getI C 3 rfl (T := TX0) rfl inB0 (by decide) (by decide) rfl tw_211 dX0_countCause_21 (fun x7 => ?_)
        refine v_bipush C dX0_countCause_24 (by decide) ?_
        refine v_icmp_ge (tgt := 49) C dX0_countCause_26 rfl ?_ ?_
        · skip
          exact hk49 s
        · skip
          refine v_aload_n C dX0_countCause_29 rfl (j := 0) rfl ?_
          refine v_getR C 4 rfl (T := TX0) rfl inB0 (by decide) (by decide) rfl tw_212 dX0_countCause_30 (fun x8 => ?_)
          refine v_aload_n C dX0_countCause_33 rfl (j := 0) rfl ?_
          refine v_getI C 3 rfl (T := TX0) rfl inB0 (by decide) (by decide) rfl tw_211 dX0_countCause_34 (fun x9 => ?_)
          refine v_iload_n C dX0_countCause_37 rfl (j := 1) rfl ?_
          refine v_iast C dX0_countCause_38 (fun s10 => ?_)
          refine v_aload_n C dX0_countCause_39 rfl (j := 0) rfl ?_
          refine v_dup C dX0_countCause_40 rfl ?_
          refine v_getI C 3 rfl (T := TX0) rfl inB0 (by decide) (by decide) rfl tw_211 dX0_countCause_41 (fun x11 => ?_)
          refine v_iconst C dX0_countCause_44 ?_
          refine v_iadd C dX0_countCause_45 ?_
          refine v_putI C 3 rfl (T := TX0) rfl inB0 (by decide) tyX0_ok nmX0 (by decide) rfl rfl tw_211 dX0_countCause_46 rfl (fun s12 => ?_)
          exact hk49 s12
    · skip
      exact v_vret C rfl hO (fun h => Option.some.inj h) dX0_countCause_10
-- ForesightHub$ErrorBook.add
theorem hX0_add : yX0_add.cls ≠ "java/lang/invoke/MethodHandle" ∧ yX0_add.cls ≠ "java/lang/invoke/VarHandle" ∧ (parseMethodDescriptor yX0_add.desc).map (fun d => d.parameters.length) = some 3 := by decide +kernel
set_option maxRecDepth 100000 in
theorem kX0_add (l : Launch) (w : Wd) (P : Shp) (n : Nat) {s : St} {a0 : Int} {a1 : Int} {a2 : Int} {a3 : Int} {res : St} (h : fX0_add P s a0 a1 a2 a3 = some res) : Ct l w yX0_add cX0_add 5 (Option.none : Option FieldType) rX0_add P n [A w a0, I a1, I a2, I a3] s (QV w P n res) :=
  Ct.of h (by decide) (Nat.le_of_ble_eq_true rfl) (lv := [(0, A w a0), (1, I a1), (2, I a2), (3, I a3)]) rfl fun X hl hRm C hO => by
  subst hl
  unfold fX0_add
  refine v_iload_n C dX0_add_0 rfl (j := 1) rfl ?_
  refine v_if_lt (tgt := 19) C dX0_add_1 rfl ?_ ?_
  · skip
    exact v_vret C rfl hO (fun h => Option.some.inj h) dX0_add_19
  · skip
    refine v_iload_n C dX0_add_4 rfl (j := 1) rfl ?_
    refine v_bipush C dX0_add_5 (by decide) ?_
    refine v_icmp_ge (tgt := 19) C dX0_add_7 rfl ?_ ?_
    · skip
      exact v_vret C rfl hO (fun h => Option.some.inj h) dX0_add_19
    · skip
      refine v_iload_n C dX0_add_10 rfl (j := 2) rfl ?_
      refine v_if_lt (tgt := 19) C dX0_add_11 rfl ?_ ?_
      · skip
        exact v_vret C rfl hO (fun h => Option.some.inj h) dX0_add_19
      · skip
        refine v_iload_n C dX0_add_14 rfl (j := 2) rfl ?_
        refine v_iconst C dX0_add_15 ?_
        refine v_icmp_lt (tgt := 20) C dX0_add_16 rfl ?_ ?_
        · skip
          refine v_aload_n C dX0_add_20 rfl (j := 0) rfl ?_
          refine v_getR C 0 rfl (T := TX0) rfl inB0 (by decide) (by decide) rfl tw_206 dX0_add_21 (fun x1 => ?_)
          refine v_iload_n C dX0_add_24 rfl (j := 1) rfl ?_
          refine v_iald C dX0_add_25 (fun x2 => ?_)
          refine v_bipush C dX0_add_26 (by decide) ?_
          refine v_jnt (fun (k36 : St → Option (St)) => ∀ (s3 : St), V X w 5 P n 0 0 res (k36 s3) s3 36 [(0, A w a0), (1, I a1), (2, I a2), (3, I a3)] []) ?_ ?_
          · intro s3
            refine v_iload_n C dX0_add_36 rfl (j := 1) rfl ?_
            refine v_bipush C dX0_add_37 (by decide) ?_
            refine v_imul C dX0_add_39 ?_
            refine v_aload_n C dX0_add_40 rfl (j := 0) rfl ?_
            refine v_getR C 0 rfl (T := TX0) rfl inB0 (by decide) (by decide) rfl tw_206 dX0_add_41 (fun x4 => ?_)
            refine v_iload_n C dX0_add_44 rfl (j := 1) rfl ?_
            refine v_iald C dX0_add_45 (fun x5 => ?_)
            refine v_iadd C dX0_add_46 ?_
            refine v_bdI (fun x6 => ?_)
            refine v_istore C [(4, I x6), (0, A w a0), (1, I a1), (2, I a2), (3, I a3)] dX0_add_47 (by decide) rfl ?_
            refine v_iload C dX0_add_49 (j := 0) rfl ?_
            refine v_jnt (fun (k90 : St → Option (St)) => ∀ (s7 : St), V X w 5 P n 0 0 res (k90 s7) s7 90 [(0, A w a0), (1, I a1), (2, I a2)] []) ?_ ?_
            · intro s7
              refine v_aload_n C dX0_add_90 rfl (j := 0) rfl ?_
              refine v_iload_n C dX0_add_91 rfl (j := 1) rfl ?_
              refine v_iconst C dX0_add_92 ?_
              refine v_imul C dX0_add_93 ?_
              refine v_iload_n C dX0_add_94 rfl (j := 2) rfl ?_
              refine v_iadd C dX0_add_95 ?_
              refine v_callV_wV C [I ((a1 * 4) + a2)] [] (Cee.of (rm := rX0_countCause) tw_1002 tw_6 hX0_countCause rfl rfl hRm (Nat.le_of_ble_eq_true rfl) (Nat.le_of_ble_eq_true rfl)) (fun x h => kX0_countCause X.2.1 w P n h) tw_999 tw_1001 ts_34 rfl (ci := 0) rfl (by decide) rfl rfl (Nat.le_of_ble_eq_true rfl) ⟨Nat.zero_le _, Nat.zero_le _⟩ dX0_add_96 (fun s8 => ?_)
              exact v_vret C rfl hO (fun h => Option.some.inj h) dX0_add_99
            intro k90 hk90
            refine v_if_lt (tgt := 90) C dX0_add_51 rfl ?_ ?_
            · skip
              refine v_sub [(0, A w a0), (1, I a1), (2, I a2)] [1, 2, 3] rfl ?_
              exact hk90 s3
            · skip
              refine v_iload C dX0_add_54 (j := 0) rfl ?_
              refine v_aload_n C dX0_add_56 rfl (j := 1) rfl ?_
              refine v_getR C 1 rfl (T := TX0) rfl inB0 (by decide) (by decide) rfl tw_209 dX0_add_57 (fun x9 => ?_)
              refine v_alen10 C dX0_add_60 (fun x10 => ?_)
              refine v_icmp_ge (tgt := 90) C dX0_add_61 rfl ?_ ?_
              · skip
                refine v_sub [(0, A w a0), (1, I a1), (2, I a2)] [1, 2, 3] rfl ?_
                exact hk90 s3
              · skip
                refine v_aload_n C dX0_add_64 rfl (j := 1) rfl ?_
                refine v_getR C 1 rfl (T := TX0) rfl inB0 (by decide) (by decide) rfl tw_209 dX0_add_65 (fun x11 => ?_)
                refine v_iload C dX0_add_68 (j := 0) rfl ?_
                refine v_iload_n C dX0_add_70 rfl (j := 3) rfl ?_
                refine v_iast C dX0_add_71 (fun s12 => ?_)
                refine v_aload_n C dX0_add_72 rfl (j := 1) rfl ?_
                refine v_getR C 2 rfl (T := TX0) rfl inB0 (by decide) (by decide) rfl tw_210 dX0_add_73 (fun x13 => ?_)
                refine v_iload C dX0_add_76 (j := 0) rfl ?_
                refine v_iload_n C dX0_add_78 rfl (j := 4) rfl ?_
                refine v_iast C dX0_add_79 (fun s14 => ?_)
                refine v_aload_n C dX0_add_80 rfl (j := 1) rfl ?_
                refine v_getR C 0 rfl (T := TX0) rfl inB0 (by decide) (by decide) rfl tw_206 dX0_add_81 (fun x15 => ?_)
                refine v_iload_n C dX0_add_84 rfl (j := 2) rfl ?_
                refine v_dup2 C dX0_add_85 rfl rfl ?_
                refine v_iald C dX0_add_86 (fun x16 => ?_)
                refine v_iconst C dX0_add_87 ?_
                refine v_iadd C dX0_add_88 ?_
                refine v_iast C dX0_add_89 (fun s17 => ?_)
                refine v_sub [(0, A w a0), (1, I a1), (2, I a2)] [1, 2, 3] rfl ?_
                exact hk90 s17
          intro k36 hk36
          refine v_icmp_lt (tgt := 36) C dX0_add_28 rfl ?_ ?_
          · skip
            exact hk36 s
          · skip
            refine v_aload_n C dX0_add_31 rfl (j := 0) rfl ?_
            refine v_iload_n C dX0_add_32 rfl (j := 1) rfl ?_
            refine v_callV_wV C [I a1] [] (Cee.of (rm := rX0_dropOldest) tw_998 tw_6 hX0_dropOldest rfl rfl hRm (Nat.le_of_ble_eq_true rfl) (Nat.le_of_ble_eq_true rfl)) (fun x h => kX0_dropOldest X.2.1 w P n h) tw_995 tw_997 ts_33 rfl (ci := 0) rfl (by decide) rfl rfl (Nat.le_of_ble_eq_true rfl) ⟨Nat.zero_le _, Nat.zero_le _⟩ dX0_add_33 (fun s18 => ?_)
            exact hk36 s18
        · skip
          exact v_vret C rfl hO (fun h => Option.some.inj h) dX0_add_19
-- ForesightHub$ErrorBook.forget
theorem hX0_forget : yX0_forget.cls ≠ "java/lang/invoke/MethodHandle" ∧ yX0_forget.cls ≠ "java/lang/invoke/VarHandle" ∧ (parseMethodDescriptor yX0_forget.desc).map (fun d => d.parameters.length) = some 1 := by decide +kernel
set_option maxRecDepth 100000 in
theorem kX0_forget (l : Launch) (w : Wd) (P : Shp) (n : Nat) {s : St} {a0 : Int} {a1 : Int} {res : St} (h : fX0_forget P s a0 a1 = some res) : Ct l w yX0_forget cX0_forget 2 (Option.none : Option FieldType) rX0_forget P n [A w a0, I a1] s (QV w P n res) :=
  Ct.of h (by decide) (Nat.le_of_ble_eq_true rfl) (lv := [(0, A w a0), (1, I a1)]) rfl fun X hl hRm C hO => by
  subst hl
  unfold fX0_forget
  refine v_iload_n C dX0_forget_0 rfl (j := 1) rfl ?_
  refine v_if_lt (tgt := 17) C dX0_forget_1 rfl ?_ ?_
  · skip
    exact v_vret C rfl hO (fun h => Option.some.inj h) dX0_forget_17
  · skip
    refine v_iload_n C dX0_forget_4 rfl (j := 1) rfl ?_
    refine v_bipush C dX0_forget_5 (by decide) ?_
    refine v_icmp_ge (tgt := 17) C dX0_forget_7 rfl ?_ ?_
    · skip
      exact v_vret C rfl hO (fun h => Option.some.inj h) dX0_forget_17
    · skip
      refine v_aload_n C dX0_forget_10 rfl (j := 0) rfl ?_
      refine v_getR C 0 rfl (T := TX0) rfl inB0 (by decide) (by decide) rfl tw_206 dX0_forget_11 (fun x1 => ?_)
      refine v_iload_n C dX0_forget_14 rfl (j := 1) rfl ?_
      refine v_iconst C dX0_forget_15 ?_
      refine v_iast C dX0_forget_16 (fun s2 => ?_)
      exact v_vret C rfl hO (fun h => Option.some.inj h) dX0_forget_17
-- ForesightHub$ErrorBook.causePart
theorem hX0_causePart : yX0_causePart.cls ≠ "java/lang/invoke/MethodHandle" ∧ yX0_causePart.cls ≠ "java/lang/invoke/VarHandle" ∧ (parseMethodDescriptor yX0_causePart.desc).map (fun d => d.parameters.length) = some 2 := by decide +kernel
set_option maxRecDepth 100000 in
theorem kX0_causePart (l : Launch) (w : Wd) (P : Shp) (n : Nat) {s : St} {a0 : Int} {a1 : Int} {a2 : Int} {res : Int} (h : fX0_causePart P s a0 a1 a2 = some res) : Ct l w yX0_causePart cX0_causePart 4 (some FieldType.int) rX0_causePart P n [A w a0, I a1, I a2] s (QI w P n res s) :=
  Ct.of h (by decide) (Nat.le_of_ble_eq_true rfl) (lv := [(0, A w a0), (1, I a1), (2, I a2)]) rfl fun X hl hRm C hO => by
  subst hl
  unfold fX0_causePart
  refine v_iload_n C dX0_causePart_0 rfl (j := 1) rfl ?_
  refine v_if_lt (tgt := 18) C dX0_causePart_1 rfl ?_ ?_
  · skip
    refine v_iconst C dX0_causePart_18 ?_
    exact v_iret C rfl hO pS dX0_causePart_19
  · skip
    refine v_iload_n C dX0_causePart_4 rfl (j := 1) rfl ?_
    refine v_aload_n C dX0_causePart_5 rfl (j := 0) rfl ?_
    refine v_getI C 3 rfl (T := TX0) rfl inB0 (by decide) (by decide) rfl tw_211 dX0_causePart_6 (fun x1 => ?_)
    refine v_icmp_ge (tgt := 18) C dX0_causePart_9 rfl ?_ ?_
    · skip
      refine v_iconst C dX0_causePart_18 ?_
      exact v_iret C rfl hO pS dX0_causePart_19
    · skip
      refine v_iload_n C dX0_causePart_12 rfl (j := 1) rfl ?_
      refine v_bipush C dX0_causePart_13 (by decide) ?_
      refine v_icmp_lt (tgt := 20) C dX0_causePart_15 rfl ?_ ?_
      · skip
        refine v_aload_n C dX0_causePart_20 rfl (j := 0) rfl ?_
        refine v_getR C 4 rfl (T := TX0) rfl inB0 (by decide) (by decide) rfl tw_212 dX0_causePart_21 (fun x2 => ?_)
        refine v_iload_n C dX0_causePart_24 rfl (j := 1) rfl ?_
        refine v_iald C dX0_causePart_25 (fun x3 => ?_)
        refine v_istore_n C [(3, I x3), (0, A w a0), (1, I a1), (2, I a2)] dX0_causePart_26 rfl (by decide) rfl ?_
        refine v_iload_n C dX0_causePart_27 rfl (j := 3) rfl ?_
        refine v_lsw C (vals := [0, 1]) (tgts := [56, 60]) (dt := 64) dX0_causePart_28 rfl (by decide) rfl (by decide) ?_ ?_
        · skip
          refine v_sw_cons ?_ ?_
          · skip
            refine v_iload_n C dX0_causePart_56 rfl (j := 0) rfl ?_
            refine v_iconst C dX0_causePart_57 ?_
            refine v_idiv C dX0_causePart_58 (fun x4 => ?_)
            exact v_iret C rfl hO pS dX0_causePart_59
          refine v_sw_cons ?_ ?_
          · skip
            refine v_iload_n C dX0_causePart_60 rfl (j := 0) rfl ?_
            refine v_iconst C dX0_causePart_61 ?_
            refine v_irem C dX0_causePart_62 (fun x5 => ?_)
            exact v_iret C rfl hO pS dX0_causePart_63
          exact v_sw_nil
        · skip
          refine v_iload_n C dX0_causePart_64 rfl (j := 0) rfl ?_
          refine v_if_lt (tgt := 83) C dX0_causePart_65 rfl ?_ ?_
          · skip
            refine v_iconst C dX0_causePart_83 ?_
            exact v_iret C rfl hO pS dX0_causePart_84
          · skip
            refine v_iload_n C dX0_causePart_68 rfl (j := 0) rfl ?_
            refine v_bipush C dX0_causePart_69 (by decide) ?_
            refine v_icmp_ge (tgt := 83) C dX0_causePart_71 rfl ?_ ?_
            · skip
              refine v_iconst C dX0_causePart_83 ?_
              exact v_iret C rfl hO pS dX0_causePart_84
            · skip
              refine v_aload_n C dX0_causePart_74 rfl (j := 1) rfl ?_
              refine v_getR C 5 rfl (T := TX0) rfl inB0 (by decide) (by decide) rfl tw_213 dX0_causePart_75 (fun x6 => ?_)
              refine v_iload_n C dX0_causePart_78 rfl (j := 0) rfl ?_
              refine v_iald C dX0_causePart_79 (fun x7 => ?_)
              refine v_goto (tgt := 84) C dX0_causePart_80 rfl ?_
              exact v_iret C rfl hO pS dX0_causePart_84
      · skip
        refine v_iconst C dX0_causePart_18 ?_
        exact v_iret C rfl hO pS dX0_causePart_19
-- ForesightHub$History.remember
theorem hX1_remember : yX1_remember.cls ≠ "java/lang/invoke/MethodHandle" ∧ yX1_remember.cls ≠ "java/lang/invoke/VarHandle" ∧ (parseMethodDescriptor yX1_remember.desc).map (fun d => d.parameters.length) = some 1 := by decide +kernel
set_option maxRecDepth 100000 in
theorem kX1_remember (l : Launch) (w : Wd) (P : Shp) (n : Nat) {s : St} {a0 : Int} {a1 : Int} {res : St} (h : fX1_remember P s a0 a1 = some res) : Ct l w yX1_remember cX1_remember 2 (Option.none : Option FieldType) rX1_remember P n [A w a0, A w a1] s (QV w P n res) :=
  Ct.of h (by decide) (Nat.le_of_ble_eq_true rfl) (lv := [(0, A w a0), (1, A w a1)]) rfl fun X hl hRm C hO => by
  subst hl
  unfold fX1_remember
  refine v_aload_n C dX1_remember_0 rfl (j := 0) rfl ?_
  refine v_getI C 2 rfl (T := TX1) rfl inB1 (by decide) (by decide) rfl tw_325 dX1_remember_1 (fun x1 => ?_)
  refine v_jnt (fun (k21 : St → Option (St)) => ∀ (s2 : St), V X w 2 P n 0 0 res (k21 s2) s2 21 [(0, A w a0), (1, A w a1)] []) ?_ ?_
  · intro s2
    refine v_aload_n C dX1_remember_21 rfl (j := 0) rfl ?_
    refine v_getR C 0 rfl (T := TX1) rfl inB1 (by decide) (by decide) rfl tw_322 dX1_remember_22 (fun x3 => ?_)
    refine v_aload_n C dX1_remember_25 rfl (j := 0) rfl ?_
    refine v_getI C 2 rfl (T := TX1) rfl inB1 (by decide) (by decide) rfl tw_325 dX1_remember_26 (fun x4 => ?_)
    refine v_aald C dX1_remember_29 (fun x5 => ?_)
    refine v_aload_n C dX1_remember_30 rfl (j := 1) rfl ?_
    refine v_callV_wV C [A w a1] [] (Cee.of (rm := rX6_copyFrom) tw_433 tw_5 hX6_copyFrom rfl rfl hRm (Nat.le_of_ble_eq_true rfl) (Nat.le_of_ble_eq_true rfl)) (fun x h => kX6_copyFrom X.2.1 w P n h) tw_430 tw_431 tw_432 rfl (ci := 6) rfl (by decide) rfl rfl (Nat.le_of_ble_eq_true rfl) ⟨Nat.zero_le _, Nat.zero_le _⟩ dX1_remember_31 (fun s6 => ?_)
    refine v_aload_n C dX1_remember_34 rfl (j := 0) rfl ?_
    refine v_aload_n C dX1_remember_35 rfl (j := 0) rfl ?_
    refine v_getI C 2 rfl (T := TX1) rfl inB1 (by decide) (by decide) rfl tw_325 dX1_remember_36 (fun x7 => ?_)
    refine v_iconst C dX1_remember_39 ?_
    refine v_iadd C dX1_remember_40 ?_
    refine v_bipush C dX1_remember_41 (by decide) ?_
    refine v_irem C dX1_remember_43 (fun x8 => ?_)
    refine v_putI C 2 rfl (T := TX1) rfl inB1 (by decide) tyX1_ok nmX1 (by decide) rfl rfl tw_325 dX1_remember_44 rfl (fun s9 => ?_)
    refine v_aload_n C dX1_remember_47 rfl (j := 0) rfl ?_
    refine v_aload_n C dX1_remember_48 rfl (j := 0) rfl ?_
    refine v_getI C 1 rfl (T := TX1) rfl inB1 (by decide) (by decide) rfl tw_323 dX1_remember_49 (fun x10 => ?_)
    refine v_iconst C dX1_remember_52 ?_
    refine v_iadd C dX1_remember_53 ?_
    refine v_bipush C dX1_remember_54 (by decide) ?_
    refine v_mn C tw_933 tw_397 tw_14 tw_398 (by rw [hRm]; exact Nat.le_of_ble_eq_true rfl) (by rw [hRm]; exact Nat.le_of_ble_eq_true rfl) (Nat.le_of_ble_eq_true rfl) ⟨Nat.zero_le _, Nat.zero_le _⟩ dX1_remember_56 (fun x11 => ?_)
    refine v_putI C 1 rfl (T := TX1) rfl inB1 (by decide) tyX1_ok nmX1 (by decide) rfl rfl tw_323 dX1_remember_59 rfl (fun s12 => ?_)
    exact v_vret C rfl hO (fun h => Option.some.inj h) dX1_remember_62
  intro k21 hk21
  refine v_jnt (fun (k16 : Option (St)) => V X w 2 P n 0 0 res (k16) s 16 [(0, A w a0), (1, A w a1)] []) ?_ ?_
  · skip
    refine v_aload_n C dX1_remember_16 rfl (j := 0) rfl ?_
    refine v_iconst C dX1_remember_17 ?_
    refine v_putI C 2 rfl (T := TX1) rfl inB1 (by decide) tyX1_ok nmX1 (by decide) rfl rfl tw_325 dX1_remember_18 rfl (fun s13 => ?_)
    exact hk21 s13
  intro k16 hk16
  refine v_if_lt (tgt := 16) C dX1_remember_4 rfl ?_ ?_
  · skip
    exact hk16
  · skip
    refine v_aload_n C dX1_remember_7 rfl (j := 0) rfl ?_
    refine v_getI C 2 rfl (T := TX1) rfl inB1 (by decide) (by decide) rfl tw_325 dX1_remember_8 (fun x14 => ?_)
    refine v_bipush C dX1_remember_11 (by decide) ?_
    refine v_icmp_lt (tgt := 21) C dX1_remember_13 rfl ?_ ?_
    · skip
      exact hk21 s
    · skip
      exact hk16
-- ForesightHub$Log.clear
set_option maxRecDepth 100000 in
theorem vX3_clear_L12 {X : Cxt} {w : Wd} {P : Shp} {n : Nat} (res : St) (hRm : X.2.2.2.1 = rX3_clear) (C : Cok X w cX3_clear 2 RX3 (Option.none : Option FieldType)) (hO : Own X w 0 0 (QV w P n res))  (c0 : Int) (kE31 : St → Option (St)) (hE31 : ∀ (se : St), V X w 2 P n 0 0 res (kE31 se) se 31 [] []) : ∀ (fuel : Nat) (p1 : Int) (s : St), V X w 2 P n 0 0 res (fX3_clear_L12 P c0 kE31 fuel p1 s) s 12 [(0, A w c0), (1, I p1)] [] := by
  intro fuel
  induction fuel with
  | zero => intro p1 s; exact v_none
  | succ m ih =>
    intro p1 s
    rw [fX3_clear_L12]
    refine v_iload_n C dX3_clear_12 rfl (j := 1) rfl ?_
    refine v_bipush C dX3_clear_13 (by decide) ?_
    refine v_icmp_ge (tgt := 31) C dX3_clear_15 rfl ?_ ?_
    · skip
      refine v_sub [] [] rfl ?_
      exact hE31 s
    · skip
      refine v_aload_n C dX3_clear_18 rfl (j := 0) rfl ?_
      refine v_getR C 5 rfl (T := TX3) rfl inB3 (by decide) (by decide) rfl tw_238 dX3_clear_19 (fun x3 => ?_)
      refine v_iload_n C dX3_clear_22 rfl (j := 1) rfl ?_
      refine v_iconst C dX3_clear_23 ?_
      refine v_iast C dX3_clear_24 (fun s4 => ?_)
      refine v_iinc C (j := 1) [(0, A w c0)] dX3_clear_25 (by decide) rfl (fun _ => rfl) (fun x5 => ?_)
      refine v_goto (tgt := 12) C dX3_clear_28 rfl ?_
      refine v_sub [(0, A w c0), (1, I x5)] [1, 0] rfl ?_
      exact ih x5 s4
theorem hX3_clear : yX3_clear.cls ≠ "java/lang/invoke/MethodHandle" ∧ yX3_clear.cls ≠ "java/lang/invoke/VarHandle" ∧ (parseMethodDescriptor yX3_clear.desc).map (fun d => d.parameters.length) = some 0 := by decide +kernel
set_option maxRecDepth 100000 in
theorem kX3_clear (l : Launch) (w : Wd) (P : Shp) (n : Nat) {s : St} {a0 : Int} {res : St} (h : fX3_clear P s a0 = some res) : Ct l w yX3_clear cX3_clear 2 (Option.none : Option FieldType) rX3_clear P n [A w a0] s (QV w P n res) :=
  Ct.of h (by decide) (Nat.le_of_ble_eq_true rfl) (lv := [(0, A w a0)]) rfl fun X hl hRm C hO => by
  subst hl
  unfold fX3_clear
  refine v_aload_n C dX3_clear_0 rfl (j := 0) rfl ?_
  refine v_iconst C dX3_clear_1 ?_
  refine v_putI C 0 rfl (T := TX3) rfl inB3 (by decide) tyX3_ok nmX3 (by decide) rfl rfl tw_233 dX3_clear_2 rfl (fun s1 => ?_)
  refine v_aload_n C dX3_clear_5 rfl (j := 0) rfl ?_
  refine v_iconst C dX3_clear_6 ?_
  refine v_putI C 1 rfl (T := TX3) rfl inB3 (by decide) tyX3_ok nmX3 (by decide) rfl rfl tw_234 dX3_clear_7 rfl (fun s2 => ?_)
  refine v_iconst C dX3_clear_10 ?_
  refine v_istore_n C [(1, I 0), (0, A w a0)] dX3_clear_11 rfl (by decide) rfl ?_
  refine v_sub [(0, A w a0), (1, I 0)] [1, 0] rfl ?_
  refine vX3_clear_L12 res hRm C hO a0 _ ?_ 1000 0 s2
  · intro s6
    exact v_vret C rfl hO (fun h => Option.some.inj h) dX3_clear_31
-- ForesightHub$State.begin
set_option maxRecDepth 100000 in
theorem vX6_begin_L15 {X : Cxt} {w : Wd} {P : Shp} {n : Nat} (res : St) (hRm : X.2.2.2.1 = rX6_begin) (C : Cok X w cX6_begin 3 RX6 (Option.none : Option FieldType)) (hO : Own X w 0 0 (QV w P n res))  (c0 : Int) (c1 : Int) (kE58 : St → Option (St)) (hE58 : ∀ (se : St), V X w 3 P n 0 0 res (kE58 se) se 58 [(0, A w c0)] []) : ∀ (fuel : Nat) (p2 : Int) (s : St), V X w 3 P n 0 0 res (fX6_begin_L15 P c0 c1 kE58 fuel p2 s) s 15 [(0, A w c0), (1, A w c1), (2, I p2)] [] := by
  intro fuel
  induction fuel with
  | zero => intro p2 s; exact v_none
  | succ m ih =>
    intro p2 s
    rw [fX6_begin_L15]
    refine v_iload_n C dX6_begin_15 rfl (j := 2) rfl ?_
    refine v_bipush C dX6_begin_16 (by decide) ?_
    refine v_icmp_ge (tgt := 58) C dX6_begin_18 rfl ?_ ?_
    · skip
      refine v_sub [(0, A w c0)] [0] rfl ?_
      exact hE58 s
    · skip
      refine v_aload_n C dX6_begin_21 rfl (j := 0) rfl ?_
      refine v_getR C 2 rfl (T := TX6) rfl inB6 (by decide) (by decide) rfl tw_260 dX6_begin_22 (fun x4 => ?_)
      refine v_iload_n C dX6_begin_25 rfl (j := 2) rfl ?_
      refine v_iload_n C dX6_begin_26 rfl (j := 2) rfl ?_
      refine v_aload_n C dX6_begin_27 rfl (j := 1) rfl ?_
      refine v_getI C 5 rfl (T := TX4) rfl inB4 (by decide) (by decide) rfl tw_67 dX6_begin_28 (fun x5 => ?_)
      refine v_jnt (fun (k44 : Int → Option (St)) => ∀ (x6 : Int), V X w 3 P n 0 0 res (k44 x6) s 44 [(0, A w c0), (1, A w c1), (2, I p2)] [I x6, I p2, A w x4]) ?_ ?_
      · intro x6
        refine v_iast C dX6_begin_44 (fun s7 => ?_)
        refine v_aload_n C dX6_begin_45 rfl (j := 0) rfl ?_
        refine v_getR C 3 rfl (T := TX6) rfl inB6 (by decide) (by decide) rfl tw_263 dX6_begin_46 (fun x8 => ?_)
        refine v_iload_n C dX6_begin_49 rfl (j := 2) rfl ?_
        refine v_iconst C dX6_begin_50 ?_
        refine v_iast C dX6_begin_51 (fun s9 => ?_)
        refine v_iinc C (j := 2) [(0, A w c0), (1, A w c1)] dX6_begin_52 (by decide) rfl (fun _ => rfl) (fun x10 => ?_)
        refine v_goto (tgt := 15) C dX6_begin_55 rfl ?_
        refine v_sub [(0, A w c0), (1, A w c1), (2, I x10)] [1, 2, 0] rfl ?_
        exact ih x10 s9
      intro k44 hk44
      refine v_icmp_ge (tgt := 43) C dX6_begin_31 rfl ?_ ?_
      · skip
        refine v_iconst C dX6_begin_43 ?_
        exact hk44 ((-1))
      · skip
        refine v_aload_n C dX6_begin_34 rfl (j := 1) rfl ?_
        refine v_getR C 11 rfl (T := TX4) rfl inB4 (by decide) (by decide) rfl tw_88 dX6_begin_35 (fun x11 => ?_)
        refine v_iload_n C dX6_begin_38 rfl (j := 2) rfl ?_
        refine v_iald C dX6_begin_39 (fun x12 => ?_)
        refine v_goto (tgt := 44) C dX6_begin_40 rfl ?_
        exact hk44 x12
set_option maxRecDepth 100000 in
theorem vX6_begin_L60 {X : Cxt} {w : Wd} {P : Shp} {n : Nat} (res : St) (hRm : X.2.2.2.1 = rX6_begin) (C : Cok X w cX6_begin 3 RX6 (Option.none : Option FieldType)) (hO : Own X w 0 0 (QV w P n res))  (c0 : Int) (kE100 : St → Option (St)) (hE100 : ∀ (se : St), V X w 3 P n 0 0 res (kE100 se) se 100 [(0, A w c0)] []) : ∀ (fuel : Nat) (p2 : Int) (s : St), V X w 3 P n 0 0 res (fX6_begin_L60 P c0 kE100 fuel p2 s) s 60 [(0, A w c0), (2, I p2)] [] := by
  intro fuel
  induction fuel with
  | zero => intro p2 s; exact v_none
  | succ m ih =>
    intro p2 s
    rw [fX6_begin_L60]
    refine v_iload_n C dX6_begin_60 rfl (j := 1) rfl ?_
    refine v_bipush C dX6_begin_61 (by decide) ?_
    refine v_icmp_ge (tgt := 100) C dX6_begin_63 rfl ?_ ?_
    · skip
      refine v_sub [(0, A w c0)] [0] rfl ?_
      exact hE100 s
    · skip
      refine v_aload_n C dX6_begin_66 rfl (j := 0) rfl ?_
      refine v_getR C 4 rfl (T := TX6) rfl inB6 (by decide) (by decide) rfl tw_265 dX6_begin_67 (fun x14 => ?_)
      refine v_iload_n C dX6_begin_70 rfl (j := 1) rfl ?_
      refine v_iconst C dX6_begin_71 ?_
      refine v_iast C dX6_begin_72 (fun s15 => ?_)
      refine v_aload_n C dX6_begin_73 rfl (j := 0) rfl ?_
      refine v_getR C 5 rfl (T := TX6) rfl inB6 (by decide) (by decide) rfl tw_268 dX6_begin_74 (fun x16 => ?_)
      refine v_iload_n C dX6_begin_77 rfl (j := 1) rfl ?_
      refine v_iconst C dX6_begin_78 ?_
      refine v_iast C dX6_begin_79 (fun s17 => ?_)
      refine v_aload_n C dX6_begin_80 rfl (j := 0) rfl ?_
      refine v_getR C 6 rfl (T := TX6) rfl inB6 (by decide) (by decide) rfl tw_271 dX6_begin_81 (fun x18 => ?_)
      refine v_iload_n C dX6_begin_84 rfl (j := 1) rfl ?_
      refine v_iconst C dX6_begin_85 ?_
      refine v_iast C dX6_begin_86 (fun s19 => ?_)
      refine v_aload_n C dX6_begin_87 rfl (j := 0) rfl ?_
      refine v_getR C 7 rfl (T := TX6) rfl inB6 (by decide) (by decide) rfl tw_274 dX6_begin_88 (fun x20 => ?_)
      refine v_iload_n C dX6_begin_91 rfl (j := 1) rfl ?_
      refine v_lconst (z := 0) C dX6_begin_92 rfl ?_
      refine v_last C dX6_begin_93 (fun s21 => ?_)
      refine v_iinc C (j := 1) [(0, A w c0)] dX6_begin_94 (by decide) rfl (fun _ => rfl) (fun x22 => ?_)
      refine v_goto (tgt := 60) C dX6_begin_97 rfl ?_
      refine v_sub [(0, A w c0), (2, I x22)] [1, 0] rfl ?_
      exact ih x22 s21
theorem hX6_begin : yX6_begin.cls ≠ "java/lang/invoke/MethodHandle" ∧ yX6_begin.cls ≠ "java/lang/invoke/VarHandle" ∧ (parseMethodDescriptor yX6_begin.desc).map (fun d => d.parameters.length) = some 1 := by decide +kernel
set_option maxRecDepth 100000 in
theorem kX6_begin (l : Launch) (w : Wd) (P : Shp) (n : Nat) {s : St} {a0 : Int} {a1 : Int} {res : St} (h : fX6_begin P s a0 a1 = some res) : Ct l w yX6_begin cX6_begin 3 (Option.none : Option FieldType) rX6_begin P n [A w a0, A w a1] s (QV w P n res) :=
  Ct.of h (by decide) (Nat.le_of_ble_eq_true rfl) (lv := [(0, A w a0), (1, A w a1)]) rfl fun X hl hRm C hO => by
  subst hl
  unfold fX6_begin
  refine v_aload_n C dX6_begin_0 rfl (j := 0) rfl ?_
  refine v_iconst C dX6_begin_1 ?_
  refine v_putI C 0 rfl (T := TX6) rfl inB6 (by decide) tyX6_ok nmX6 (by decide) rfl rfl tw_254 dX6_begin_2 rfl (fun s1 => ?_)
  refine v_aload_n C dX6_begin_5 rfl (j := 0) rfl ?_
  refine v_aload_n C dX6_begin_6 rfl (j := 1) rfl ?_
  refine v_getI C 2 rfl (T := TX4) rfl inB4 (by decide) (by decide) rfl tw_55 dX6_begin_7 (fun x2 => ?_)
  refine v_putI C 1 rfl (T := TX6) rfl inB6 (by decide) tyX6_ok nmX6 (by decide) rfl rfl tw_258 dX6_begin_10 rfl (fun s3 => ?_)
  refine v_iconst C dX6_begin_13 ?_
  refine v_istore_n C [(2, I 0), (0, A w a0), (1, A w a1)] dX6_begin_14 rfl (by decide) rfl ?_
  refine v_sub [(0, A w a0), (1, A w a1), (2, I 0)] [1, 2, 0] rfl ?_
  refine vX6_begin_L15 res hRm C hO a0 a1 _ ?_ 1000 0 s3
  · intro s13
    refine v_iconst C dX6_begin_58 ?_
    refine v_istore_n C [(2, I 0), (0, A w a0)] dX6_begin_59 rfl (by decide) rfl ?_
    refine v_sub [(0, A w a0), (2, I 0)] [1, 0] rfl ?_
    refine vX6_begin_L60 res hRm C hO a0 _ ?_ 1000 0 s13
    · intro s23
      refine v_aload_n C dX6_begin_100 rfl (j := 0) rfl ?_
      refine v_getR C 8 rfl (T := TX6) rfl inB6 (by decide) (by decide) rfl tw_277 dX6_begin_101 (fun x24 => ?_)
      refine v_callV_wV C [] [] (Cee.of (rm := rX0_clear) tw_692 tw_6 hX0_clear rfl rfl hRm (Nat.le_of_ble_eq_true rfl) (Nat.le_of_ble_eq_true rfl)) (fun x h => kX0_clear X.2.1 w P n h) tw_689 tw_690 tw_691 rfl (ci := 0) rfl (by decide) rfl rfl (Nat.le_of_ble_eq_true rfl) ⟨Nat.zero_le _, Nat.zero_le _⟩ dX6_begin_104 (fun s25 => ?_)
      refine v_aload_n C dX6_begin_107 rfl (j := 0) rfl ?_
      refine v_getR C 9 rfl (T := TX6) rfl inB6 (by decide) (by decide) rfl tw_280 dX6_begin_108 (fun x26 => ?_)
      refine v_callV_wV C [] [] (Cee.of (rm := rX3_clear) tw_696 tw_7 hX3_clear rfl rfl hRm (Nat.le_of_ble_eq_true rfl) (Nat.le_of_ble_eq_true rfl)) (fun x h => kX3_clear X.2.1 w P n h) tw_693 tw_694 tw_695 rfl (ci := 3) rfl (by decide) rfl rfl (Nat.le_of_ble_eq_true rfl) ⟨Nat.zero_le _, Nat.zero_le _⟩ dX6_begin_111 (fun s27 => ?_)
      exact v_vret C rfl hO (fun h => Option.some.inj h) dX6_begin_114
-- ForesightHub$Hub.canHold
theorem hX2_canHold : yX2_canHold.cls ≠ "java/lang/invoke/MethodHandle" ∧ yX2_canHold.cls ≠ "java/lang/invoke/VarHandle" ∧ (parseMethodDescriptor yX2_canHold.desc).map (fun d => d.parameters.length) = some 1 := by decide +kernel
set_option maxRecDepth 100000 in
theorem kX2_canHold (l : Launch) (w : Wd) (P : Shp) (n : Nat) {s : St} {a0 : Int} {a1 : Int} {res : Int} (h : fX2_canHold P s a0 a1 = some res) : Ct l w yX2_canHold cX2_canHold 2 (some FieldType.boolean) rX2_canHold P n [A w a0, I a1] s (QI w P n res s) :=
  Ct.of h (by decide) (Nat.le_of_ble_eq_true rfl) (lv := [(0, A w a0), (1, I a1)]) rfl fun X hl hRm C hO => by
  subst hl
  unfold fX2_canHold
  refine v_aload_n C dX2_canHold_0 rfl (j := 0) rfl ?_
  refine v_iload_n C dX2_canHold_1 rfl (j := 1) rfl ?_
  refine v_callV_rI C [I a1] [] (Cee.of (rm := rX2_isDevice) tw_379 tw_4 hX2_isDevice rfl rfl hRm (Nat.le_of_ble_eq_true rfl) (Nat.le_of_ble_eq_true rfl)) (fun x h => kX2_isDevice X.2.1 w P n h) tw_376 tw_377 tw_378 rfl (ci := 2) rfl (by decide) rfl rfl (Nat.le_of_ble_eq_true rfl) ⟨Nat.zero_le _, Nat.zero_le _⟩ dX2_canHold_2 (fun x1 => ?_)
  refine v_if_eq (tgt := 38) C dX2_canHold_5 rfl ?_ ?_
  · skip
    refine v_iconst C dX2_canHold_38 ?_
    exact v_zret C rfl hO pS dX2_canHold_39
  · skip
    refine v_aload_n C dX2_canHold_8 rfl (j := 0) rfl ?_
    refine v_getR C 1 rfl (T := TX2) rfl inB2 (by decide) (by decide) rfl tw_306 dX2_canHold_9 (fun x2 => ?_)
    refine v_getR C 2 rfl (T := TX6) rfl inB6 (by decide) (by decide) rfl tw_261 dX2_canHold_12 (fun x3 => ?_)
    refine v_iload_n C dX2_canHold_15 rfl (j := 1) rfl ?_
    refine v_iald C dX2_canHold_16 (fun x4 => ?_)
    refine v_iconst C dX2_canHold_17 ?_
    refine v_icmp_eq (tgt := 38) C dX2_canHold_18 rfl ?_ ?_
    · skip
      refine v_iconst C dX2_canHold_38 ?_
      exact v_zret C rfl hO pS dX2_canHold_39
    · skip
      refine v_aload_n C dX2_canHold_21 rfl (j := 0) rfl ?_
      refine v_getR C 1 rfl (T := TX2) rfl inB2 (by decide) (by decide) rfl tw_306 dX2_canHold_22 (fun x5 => ?_)
      refine v_getR C 3 rfl (T := TX6) rfl inB6 (by decide) (by decide) rfl tw_264 dX2_canHold_25 (fun x6 => ?_)
      refine v_iload_n C dX2_canHold_28 rfl (j := 1) rfl ?_
      refine v_iald C dX2_canHold_29 (fun x7 => ?_)
      refine v_iconst C dX2_canHold_30 ?_
      refine v_icmp_ne (tgt := 38) C dX2_canHold_31 rfl ?_ ?_
      · skip
        refine v_iconst C dX2_canHold_38 ?_
        exact v_zret C rfl hO pS dX2_canHold_39
      · skip
        refine v_iconst C dX2_canHold_34 ?_
        refine v_goto (tgt := 39) C dX2_canHold_35 rfl ?_
        exact v_zret C rfl hO pS dX2_canHold_39
-- ForesightHub$Hub.heirOfHome
theorem hX2_heirOfHome : yX2_heirOfHome.cls ≠ "java/lang/invoke/MethodHandle" ∧ yX2_heirOfHome.cls ≠ "java/lang/invoke/VarHandle" ∧ (parseMethodDescriptor yX2_heirOfHome.desc).map (fun d => d.parameters.length) = some 1 := by decide +kernel
set_option maxRecDepth 100000 in
theorem kX2_heirOfHome (l : Launch) (w : Wd) (P : Shp) (n : Nat) {s : St} {a0 : Int} {a1 : Int} {res : Int} (h : fX2_heirOfHome P s a0 a1 = some res) : Ct l w yX2_heirOfHome cX2_heirOfHome 3 (some FieldType.int) rX2_heirOfHome P n [A w a0, I a1] s (QI w P n res s) :=
  Ct.of h (by decide) (Nat.le_of_ble_eq_true rfl) (lv := [(0, A w a0), (1, I a1)]) rfl fun X hl hRm C hO => by
  subst hl
  unfold fX2_heirOfHome
  refine v_aload_n C dX2_heirOfHome_0 rfl (j := 0) rfl ?_
  refine v_getR C 0 rfl (T := TX2) rfl inB2 (by decide) (by decide) rfl tw_304 dX2_heirOfHome_1 (fun x1 => ?_)
  refine v_getR C 13 rfl (T := TX4) rfl inB4 (by decide) (by decide) rfl tw_97 dX2_heirOfHome_4 (fun x2 => ?_)
  refine v_iload_n C dX2_heirOfHome_7 rfl (j := 1) rfl ?_
  refine v_iald C dX2_heirOfHome_8 (fun x3 => ?_)
  refine v_istore_n C [(2, I x3), (0, A w a0), (1, I a1)] dX2_heirOfHome_9 rfl (by decide) rfl ?_
  refine v_aload_n C dX2_heirOfHome_10 rfl (j := 1) rfl ?_
  refine v_iload_n C dX2_heirOfHome_11 rfl (j := 0) rfl ?_
  refine v_callV_rI C [I x3] [] (Cee.of (rm := rX2_isDevice) tw_379 tw_4 hX2_isDevice rfl rfl hRm (Nat.le_of_ble_eq_true rfl) (Nat.le_of_ble_eq_true rfl)) (fun x h => kX2_isDevice X.2.1 w P n h) tw_376 tw_377 tw_378 rfl (ci := 2) rfl (by decide) rfl rfl (Nat.le_of_ble_eq_true rfl) ⟨Nat.zero_le _, Nat.zero_le _⟩ dX2_heirOfHome_12 (fun x4 => ?_)
  refine v_if_eq (tgt := 30) C dX2_heirOfHome_15 rfl ?_ ?_
  · skip
    refine v_iconst C dX2_heirOfHome_30 ?_
    exact v_iret C rfl hO pS dX2_heirOfHome_31
  · skip
    refine v_aload_n C dX2_heirOfHome_18 rfl (j := 1) rfl ?_
    refine v_getR C 0 rfl (T := TX2) rfl inB2 (by decide) (by decide) rfl tw_304 dX2_heirOfHome_19 (fun x5 => ?_)
    refine v_getR C 12 rfl (T := TX4) rfl inB4 (by decide) (by decide) rfl tw_93 dX2_heirOfHome_22 (fun x6 => ?_)
    refine v_iload_n C dX2_heirOfHome_25 rfl (j := 0) rfl ?_
    refine v_iald C dX2_heirOfHome_26 (fun x7 => ?_)
    refine v_goto (tgt := 31) C dX2_heirOfHome_27 rfl ?_
    exact v_iret C rfl hO pS dX2_heirOfHome_31
-- ForesightHub$Hub.wantedHolder
theorem hX2_wantedHolder : yX2_wantedHolder.cls ≠ "java/lang/invoke/MethodHandle" ∧ yX2_wantedHolder.cls ≠ "java/lang/invoke/VarHandle" ∧ (parseMethodDescriptor yX2_wantedHolder.desc).map (fun d => d.parameters.length) = some 1 := by decide +kernel
set_option maxRecDepth 100000 in
theorem kX2_wantedHolder (l : Launch) (w : Wd) (P : Shp) (n : Nat) {s : St} {a0 : Int} {a1 : Int} {res : Int} (h : fX2_wantedHolder P s a0 a1 = some res) : Ct l w yX2_wantedHolder cX2_wantedHolder 4 (some FieldType.int) rX2_wantedHolder P n [A w a0, I a1] s (QI w P n res s) :=
  Ct.of h (by decide) (Nat.le_of_ble_eq_true rfl) (lv := [(0, A w a0), (1, I a1)]) rfl fun X hl hRm C hO => by
  subst hl
  unfold fX2_wantedHolder
  refine v_aload_n C dX2_wantedHolder_0 rfl (j := 0) rfl ?_
  refine v_getR C 0 rfl (T := TX2) rfl inB2 (by decide) (by decide) rfl tw_304 dX2_wantedHolder_1 (fun x1 => ?_)
  refine v_getR C 13 rfl (T := TX4) rfl inB4 (by decide) (by decide) rfl tw_97 dX2_wantedHolder_4 (fun x2 => ?_)
  refine v_iload_n C dX2_wantedHolder_7 rfl (j := 1) rfl ?_
  refine v_iald C dX2_wantedHolder_8 (fun x3 => ?_)
  refine v_istore_n C [(2, I x3), (0, A w a0), (1, I a1)] dX2_wantedHolder_9 rfl (by decide) rfl ?_
  refine v_aload_n C dX2_wantedHolder_10 rfl (j := 1) rfl ?_
  refine v_iload_n C dX2_wantedHolder_11 rfl (j := 0) rfl ?_
  refine v_callV_rI C [I x3] [] (Cee.of (rm := rX2_canHold) tw_712 tw_4 hX2_canHold rfl rfl hRm (Nat.le_of_ble_eq_true rfl) (Nat.le_of_ble_eq_true rfl)) (fun x h => kX2_canHold X.2.1 w P n h) tw_709 tw_711 ts_22 rfl (ci := 2) rfl (by decide) rfl rfl (Nat.le_of_ble_eq_true rfl) ⟨Nat.zero_le _, Nat.zero_le _⟩ dX2_wantedHolder_12 (fun x4 => ?_)
  refine v_if_eq (tgt := 20) C dX2_wantedHolder_15 rfl ?_ ?_
  · skip
    refine v_aload_n C dX2_wantedHolder_20 rfl (j := 1) rfl ?_
    refine v_iload_n C dX2_wantedHolder_21 rfl (j := 2) rfl ?_
    refine v_callV_rI C [I a1] [] (Cee.of (rm := rX2_heirOfHome) tw_716 tw_4 hX2_heirOfHome rfl rfl hRm (Nat.le_of_ble_eq_true rfl) (Nat.le_of_ble_eq_true rfl)) (fun x h => kX2_heirOfHome X.2.1 w P n h) tw_713 tw_715 ts_23 rfl (ci := 2) rfl (by decide) rfl rfl (Nat.le_of_ble_eq_true rfl) ⟨Nat.zero_le _, Nat.zero_le _⟩ dX2_wantedHolder_22 (fun x5 => ?_)
    refine v_istore_n C [(3, I x5), (2, I x3), (0, A w a0), (1, I a1)] dX2_wantedHolder_25 rfl (by decide) rfl ?_
    refine v_aload_n C dX2_wantedHolder_26 rfl (j := 2) rfl ?_
    refine v_iload_n C dX2_wantedHolder_27 rfl (j := 0) rfl ?_
    refine v_callV_rI C [I x5] [] (Cee.of (rm := rX2_canHold) tw_712 tw_4 hX2_canHold rfl rfl hRm (Nat.le_of_ble_eq_true rfl) (Nat.le_of_ble_eq_true rfl)) (fun x h => kX2_canHold X.2.1 w P n h) tw_709 tw_711 ts_22 rfl (ci := 2) rfl (by decide) rfl rfl (Nat.le_of_ble_eq_true rfl) ⟨Nat.zero_le _, Nat.zero_le _⟩ dX2_wantedHolder_28 (fun x6 => ?_)
    refine v_if_eq (tgt := 38) C dX2_wantedHolder_31 rfl ?_ ?_
    · skip
      refine v_iconst C dX2_wantedHolder_38 ?_
      exact v_iret C rfl hO pS dX2_wantedHolder_39
    · skip
      refine v_iload_n C dX2_wantedHolder_34 rfl (j := 0) rfl ?_
      refine v_goto (tgt := 39) C dX2_wantedHolder_35 rfl ?_
      exact v_iret C rfl hO pS dX2_wantedHolder_39
  · skip
    refine v_iload_n C dX2_wantedHolder_18 rfl (j := 0) rfl ?_
    exact v_iret C rfl hO pS dX2_wantedHolder_19
-- ForesightHub$Log.add
theorem hX3_add : yX3_add.cls ≠ "java/lang/invoke/MethodHandle" ∧ yX3_add.cls ≠ "java/lang/invoke/VarHandle" ∧ (parseMethodDescriptor yX3_add.desc).map (fun d => d.parameters.length) = some 3 := by decide +kernel
set_option maxRecDepth 100000 in
theorem kX3_add (l : Launch) (w : Wd) (P : Shp) (n : Nat) {s : St} {a0 : Int} {a1 : Int} {a2 : Int} {a3 : Int} {res : St} (h : fX3_add P s a0 a1 a2 a3 = some res) : Ct l w yX3_add cX3_add 4 (Option.none : Option FieldType) rX3_add P n [A w a0, I a1, I a2, I a3] s (QV w P n res) :=
  Ct.of h (by decide) (Nat.le_of_ble_eq_true rfl) (lv := [(0, A w a0), (1, I a1), (2, I a2), (3, I a3)]) rfl fun X hl hRm C hO => by
  subst hl
  unfold fX3_add
  refine v_iload_n C dX3_add_0 rfl (j := 1) rfl ?_
  refine v_jnt (fun (k20 : St → Option (St)) => ∀ (s1 : St), V X w 4 P n 0 0 res (k20 s1) s1 20 [(0, A w a0), (1, I a1), (2, I a2), (3, I a3)] []) ?_ ?_
  · intro s1
    refine v_aload_n C dX3_add_20 rfl (j := 0) rfl ?_
    refine v_getI C 1 rfl (T := TX3) rfl inB3 (by decide) (by decide) rfl tw_234 dX3_add_21 (fun x2 => ?_)
    refine v_jnt (fun (k41 : St → Option (St)) => ∀ (s3 : St), V X w 4 P n 0 0 res (k41 s3) s3 41 [(0, A w a0), (1, I a1), (2, I a2), (3, I a3)] []) ?_ ?_
    · intro s3
      refine v_aload_n C dX3_add_41 rfl (j := 0) rfl ?_
      refine v_getR C 2 rfl (T := TX3) rfl inB3 (by decide) (by decide) rfl tw_235 dX3_add_42 (fun x4 => ?_)
      refine v_aload_n C dX3_add_45 rfl (j := 0) rfl ?_
      refine v_getI C 1 rfl (T := TX3) rfl inB3 (by decide) (by decide) rfl tw_234 dX3_add_46 (fun x5 => ?_)
      refine v_iload_n C dX3_add_49 rfl (j := 1) rfl ?_
      refine v_iast C dX3_add_50 (fun s6 => ?_)
      refine v_aload_n C dX3_add_51 rfl (j := 0) rfl ?_
      refine v_getR C 3 rfl (T := TX3) rfl inB3 (by decide) (by decide) rfl tw_236 dX3_add_52 (fun x7 => ?_)
      refine v_aload_n C dX3_add_55 rfl (j := 0) rfl ?_
      refine v_getI C 1 rfl (T := TX3) rfl inB3 (by decide) (by decide) rfl tw_234 dX3_add_56 (fun x8 => ?_)
      refine v_iload_n C dX3_add_59 rfl (j := 2) rfl ?_
      refine v_iast C dX3_add_60 (fun s9 => ?_)
      refine v_aload_n C dX3_add_61 rfl (j := 0) rfl ?_
      refine v_getR C 4 rfl (T := TX3) rfl inB3 (by decide) (by decide) rfl tw_237 dX3_add_62 (fun x10 => ?_)
      refine v_aload_n C dX3_add_65 rfl (j := 0) rfl ?_
      refine v_getI C 1 rfl (T := TX3) rfl inB3 (by decide) (by decide) rfl tw_234 dX3_add_66 (fun x11 => ?_)
      refine v_iload_n C dX3_add_69 rfl (j := 3) rfl ?_
      refine v_iast C dX3_add_70 (fun s12 => ?_)
      refine v_aload_n C dX3_add_71 rfl (j := 0) rfl ?_
      refine v_dup C dX3_add_72 rfl ?_
      refine v_getI C 1 rfl (T := TX3) rfl inB3 (by decide) (by decide) rfl tw_234 dX3_add_73 (fun x13 => ?_)
      refine v_iconst C dX3_add_76 ?_
      refine v_iadd C dX3_add_77 ?_
      refine v_putI C 1 rfl (T := TX3) rfl inB3 (by decide) tyX3_ok nmX3 (by decide) rfl rfl tw_234 dX3_add_78 rfl (fun s14 => ?_)
      refine v_aload_n C dX3_add_81 rfl (j := 0) rfl ?_
      refine v_aload_n C dX3_add_82 rfl (j := 0) rfl ?_
      refine v_getI C 0 rfl (T := TX3) rfl inB3 (by decide) (by decide) rfl tw_233 dX3_add_83 (fun x15 => ?_)
      refine v_iconst C dX3_add_86 ?_
      refine v_iadd C dX3_add_87 ?_
      refine v_bipush C dX3_add_88 (by decide) ?_
      refine v_mn C tw_721 tw_397 tw_14 tw_398 (by rw [hRm]; exact Nat.le_of_ble_eq_true rfl) (by rw [hRm]; exact Nat.le_of_ble_eq_true rfl) (Nat.le_of_ble_eq_true rfl) ⟨Nat.zero_le _, Nat.zero_le _⟩ dX3_add_90 (fun x16 => ?_)
      refine v_putI C 0 rfl (T := TX3) rfl inB3 (by decide) tyX3_ok nmX3 (by decide) rfl rfl tw_233 dX3_add_93 rfl (fun s17 => ?_)
      exact v_vret C rfl hO (fun h => Option.some.inj h) dX3_add_96
    intro k41 hk41
    refine v_jnt (fun (k36 : Option (St)) => V X w 4 P n 0 0 res (k36) s1 36 [(0, A w a0), (1, I a1), (2, I a2), (3, I a3)] []) ?_ ?_
    · skip
      refine v_aload_n C dX3_add_36 rfl (j := 0) rfl ?_
      refine v_iconst C dX3_add_37 ?_
      refine v_putI C 1 rfl (T := TX3) rfl inB3 (by decide) tyX3_ok nmX3 (by decide) rfl rfl tw_234 dX3_add_38 rfl (fun s18 => ?_)
      exact hk41 s18
    intro k36 hk36
    refine v_if_lt (tgt := 36) C dX3_add_24 rfl ?_ ?_
    · skip
      exact hk36
    · skip
      refine v_aload_n C dX3_add_27 rfl (j := 0) rfl ?_
      refine v_getI C 1 rfl (T := TX3) rfl inB3 (by decide) (by decide) rfl tw_234 dX3_add_28 (fun x19 => ?_)
      refine v_bipush C dX3_add_31 (by decide) ?_
      refine v_icmp_lt (tgt := 41) C dX3_add_33 rfl ?_ ?_
      · skip
        exact hk41 s1
      · skip
        exact hk36
  intro k20 hk20
  refine v_if_lt (tgt := 20) C dX3_add_1 rfl ?_ ?_
  · skip
    exact hk20 s
  · skip
    refine v_iload_n C dX3_add_4 rfl (j := 1) rfl ?_
    refine v_bipush C dX3_add_5 (by decide) ?_
    refine v_icmp_ge (tgt := 20) C dX3_add_7 rfl ?_ ?_
    · skip
      exact hk20 s
    · skip
      refine v_aload_n C dX3_add_10 rfl (j := 0) rfl ?_
      refine v_getR C 5 rfl (T := TX3) rfl inB3 (by decide) (by decide) rfl tw_238 dX3_add_11 (fun x20 => ?_)
      refine v_iload_n C dX3_add_14 rfl (j := 1) rfl ?_
      refine v_dup2 C dX3_add_15 rfl rfl ?_
      refine v_iald C dX3_add_16 (fun x21 => ?_)
      refine v_iconst C dX3_add_17 ?_
      refine v_iadd C dX3_add_18 ?_
      refine v_iast C dX3_add_19 (fun s22 => ?_)
      exact hk20 s22
-- ForesightHub$Hub.settleHeld
theorem hX2_settleHeld : yX2_settleHeld.cls ≠ "java/lang/invoke/MethodHandle" ∧ yX2_settleHeld.cls ≠ "java/lang/invoke/VarHandle" ∧ (parseMethodDescriptor yX2_settleHeld.desc).map (fun d => d.parameters.length) = some 1 := by decide +kernel
set_option maxRecDepth 100000 in
theorem kX2_settleHeld (l : Launch) (w : Wd) (P : Shp) (n : Nat) {s : St} {a0 : Int} {a1 : Int} {res : St} (h : fX2_settleHeld P s a0 a1 = some res) : Ct l w yX2_settleHeld cX2_settleHeld 3 (Option.none : Option FieldType) rX2_settleHeld P n [A w a0, I a1] s (QV w P n res) :=
  Ct.of h (by decide) (Nat.le_of_ble_eq_true rfl) (lv := [(0, A w a0), (1, I a1)]) rfl fun X hl hRm C hO => by
  subst hl
  unfold fX2_settleHeld
  refine v_aload_n C dX2_settleHeld_0 rfl (j := 0) rfl ?_
  refine v_iload_n C dX2_settleHeld_1 rfl (j := 1) rfl ?_
  refine v_callV_rI C [I a1] [] (Cee.of (rm := rX2_wantedHolder) tw_708 tw_4 hX2_wantedHolder rfl rfl hRm (Nat.le_of_ble_eq_true rfl) (Nat.le_of_ble_eq_true rfl)) (fun x h => kX2_wantedHolder X.2.1 w P n h) tw_705 tw_706 tw_707 rfl (ci := 2) rfl (by decide) rfl rfl (Nat.le_of_ble_eq_true rfl) ⟨Nat.zero_le _, Nat.zero_le _⟩ dX2_settleHeld_2 (fun x1 => ?_)
  refine v_istore_n C [(2, I x1), (0, A w a0), (1, I a1)] dX2_settleHeld_5 rfl (by decide) rfl ?_
  refine v_aload_n C dX2_settleHeld_6 rfl (j := 1) rfl ?_
  refine v_getR C 1 rfl (T := TX2) rfl inB2 (by decide) (by decide) rfl tw_306 dX2_settleHeld_7 (fun x2 => ?_)
  refine v_getR C 4 rfl (T := TX6) rfl inB6 (by decide) (by decide) rfl tw_267 dX2_settleHeld_10 (fun x3 => ?_)
  refine v_iload_n C dX2_settleHeld_13 rfl (j := 2) rfl ?_
  refine v_iald C dX2_settleHeld_14 (fun x4 => ?_)
  refine v_iload_n C dX2_settleHeld_15 rfl (j := 0) rfl ?_
  refine v_icmp_ne (tgt := 32) C dX2_settleHeld_16 rfl ?_ ?_
  · skip
    refine v_aload_n C dX2_settleHeld_32 rfl (j := 1) rfl ?_
    refine v_getR C 1 rfl (T := TX2) rfl inB2 (by decide) (by decide) rfl tw_306 dX2_settleHeld_33 (fun x5 => ?_)
    refine v_getR C 6 rfl (T := TX6) rfl inB6 (by decide) (by decide) rfl tw_273 dX2_settleHeld_36 (fun x6 => ?_)
    refine v_iload_n C dX2_settleHeld_39 rfl (j := 2) rfl ?_
    refine v_iald C dX2_settleHeld_40 (fun x7 => ?_)
    refine v_if_le (tgt := 57) C dX2_settleHeld_41 rfl ?_ ?_
    · skip
      refine v_aload_n C dX2_settleHeld_57 rfl (j := 1) rfl ?_
      refine v_getR C 1 rfl (T := TX2) rfl inB2 (by decide) (by decide) rfl tw_306 dX2_settleHeld_58 (fun x8 => ?_)
      refine v_getR C 4 rfl (T := TX6) rfl inB6 (by decide) (by decide) rfl tw_267 dX2_settleHeld_61 (fun x9 => ?_)
      refine v_iload_n C dX2_settleHeld_64 rfl (j := 2) rfl ?_
      refine v_iload_n C dX2_settleHeld_65 rfl (j := 0) rfl ?_
      refine v_iast C dX2_settleHeld_66 (fun s10 => ?_)
      refine v_aload_n C dX2_settleHeld_67 rfl (j := 1) rfl ?_
      refine v_getR C 1 rfl (T := TX2) rfl inB2 (by decide) (by decide) rfl tw_306 dX2_settleHeld_68 (fun x11 => ?_)
      refine v_getR C 5 rfl (T := TX6) rfl inB6 (by decide) (by decide) rfl tw_270 dX2_settleHeld_71 (fun x12 => ?_)
      refine v_iload_n C dX2_settleHeld_74 rfl (j := 2) rfl ?_
      refine v_iload_n C dX2_settleHeld_75 rfl (j := 0) rfl ?_
      refine v_iconst C dX2_settleHeld_76 ?_
      refine v_jnt (fun (k85 : Int → Option (St)) => ∀ (x13 : Int), V X w 3 P n 0 0 res (k85 x13) s10 85 [(0, A w a0), (1, I a1), (2, I x1)] [I x13, I a1, A w x12]) ?_ ?_
      · intro x13
        refine v_iast C dX2_settleHeld_85 (fun s14 => ?_)
        refine v_aload_n C dX2_settleHeld_86 rfl (j := 0) rfl ?_
        refine v_getR C 1 rfl (T := TX2) rfl inB2 (by decide) (by decide) rfl tw_306 dX2_settleHeld_87 (fun x15 => ?_)
        refine v_getR C 9 rfl (T := TX6) rfl inB6 (by decide) (by decide) rfl tw_282 dX2_settleHeld_90 (fun x16 => ?_)
        refine v_iload_n C dX2_settleHeld_93 rfl (j := 2) rfl ?_
        refine v_iconst C dX2_settleHeld_94 ?_
        refine v_jnt (fun (k103 : Int → Option (St)) => ∀ (x17 : Int), V X w 3 P n 0 0 res (k103 x17) s14 103 [(0, A w a0), (1, I a1)] [I x17, A w x16]) ?_ ?_
        · intro x17
          refine v_iload_n C dX2_settleHeld_103 rfl (j := 1) rfl ?_
          refine v_aload_n C dX2_settleHeld_104 rfl (j := 0) rfl ?_
          refine v_getR C 1 rfl (T := TX2) rfl inB2 (by decide) (by decide) rfl tw_306 dX2_settleHeld_105 (fun x18 => ?_)
          refine v_getI C 0 rfl (T := TX6) rfl inB6 (by decide) (by decide) rfl tw_256 dX2_settleHeld_108 (fun x19 => ?_)
          refine v_callV_wV C [I x17, I a1, I x19] [] (Cee.of (rm := rX3_add) tw_720 tw_7 hX3_add rfl rfl hRm (Nat.le_of_ble_eq_true rfl) (Nat.le_of_ble_eq_true rfl)) (fun x h => kX3_add X.2.1 w P n h) tw_717 tw_718 tw_719 rfl (ci := 3) rfl (by decide) rfl rfl (Nat.le_of_ble_eq_true rfl) ⟨Nat.zero_le _, Nat.zero_le _⟩ dX2_settleHeld_111 (fun s20 => ?_)
          exact v_vret C rfl hO (fun h => Option.some.inj h) dX2_settleHeld_114
        intro k103 hk103
        refine v_icmp_ne (tgt := 102) C dX2_settleHeld_95 rfl ?_ ?_
        · skip
          refine v_iconst C dX2_settleHeld_102 ?_
          refine v_sub [(0, A w a0), (1, I a1)] [0, 1] rfl ?_
          exact hk103 4
        · skip
          refine v_iconst C dX2_settleHeld_98 ?_
          refine v_goto (tgt := 103) C dX2_settleHeld_99 rfl ?_
          refine v_sub [(0, A w a0), (1, I a1)] [0, 1] rfl ?_
          exact hk103 5
      intro k85 hk85
      refine v_icmp_ne (tgt := 84) C dX2_settleHeld_77 rfl ?_ ?_
      · skip
        refine v_iconst C dX2_settleHeld_84 ?_
        refine v_sub [(0, A w a0), (1, I a1), (2, I x1)] [1, 2, 0] rfl ?_
        exact hk85 1
      · skip
        refine v_iconst C dX2_settleHeld_80 ?_
        refine v_goto (tgt := 85) C dX2_settleHeld_81 rfl ?_
        refine v_sub [(0, A w a0), (1, I a1), (2, I x1)] [1, 2, 0] rfl ?_
        exact hk85 0
    · skip
      refine v_aload_n C dX2_settleHeld_44 rfl (j := 1) rfl ?_
      refine v_getR C 1 rfl (T := TX2) rfl inB2 (by decide) (by decide) rfl tw_306 dX2_settleHeld_45 (fun x21 => ?_)
      refine v_getR C 5 rfl (T := TX6) rfl inB6 (by decide) (by decide) rfl tw_270 dX2_settleHeld_48 (fun x22 => ?_)
      refine v_iload_n C dX2_settleHeld_51 rfl (j := 2) rfl ?_
      refine v_iconst C dX2_settleHeld_52 ?_
      refine v_iast C dX2_settleHeld_53 (fun s23 => ?_)
      refine v_goto (tgt := 114) C dX2_settleHeld_54 rfl ?_
      exact v_vret C rfl hO (fun h => Option.some.inj h) dX2_settleHeld_114
  · skip
    refine v_aload_n C dX2_settleHeld_19 rfl (j := 1) rfl ?_
    refine v_getR C 1 rfl (T := TX2) rfl inB2 (by decide) (by decide) rfl tw_306 dX2_settleHeld_20 (fun x24 => ?_)
    refine v_getR C 5 rfl (T := TX6) rfl inB6 (by decide) (by decide) rfl tw_270 dX2_settleHeld_23 (fun x25 => ?_)
    refine v_iload_n C dX2_settleHeld_26 rfl (j := 2) rfl ?_
    refine v_iconst C dX2_settleHeld_27 ?_
    refine v_iast C dX2_settleHeld_28 (fun s26 => ?_)
    refine v_goto (tgt := 114) C dX2_settleHeld_29 rfl ?_
    exact v_vret C rfl hO (fun h => Option.some.inj h) dX2_settleHeld_114
