/-! CONTRACTS (laid by wip/whole/gen/write.py) -/
-- ForesightHubModel.device
theorem hX8_device : yX8_device.cls ≠ "java/lang/invoke/MethodHandle" ∧ yX8_device.cls ≠ "java/lang/invoke/VarHandle" ∧ (parseMethodDescriptor yX8_device.desc).map (fun d => d.parameters.length) = some 2 := by decide +kernel
set_option maxRecDepth 100000 in
theorem kX8_device (l : Launch) (w : Wd) (P : Shp) (n : Nat) {s : St} {a0 : Int} {a1 : Int} {a2 : Int} {res : Int × St} (h : fX8_device P s a0 a1 a2 = some res) : Ct l w yX8_device cX8_device 3 (some FieldType.int) rX8_device P n [A w a0, I a1, I a2] s (QI w P n res.1 res.2) :=
  Ct.of h (by decide) (Nat.le_of_ble_eq_true rfl) (lv := [(0, A w a0), (1, I a1), (2, I a2)]) rfl fun X hl hRm C hO => by
  subst hl
  unfold fX8_device
  refine v_aload_n C dX8_device_0 rfl (j := 0) rfl ?_
  refine v_aload_n C dX8_device_1 rfl (j := 0) rfl ?_
  refine v_iload_n C dX8_device_2 rfl (j := 1) rfl ?_
  refine v_callV_rI C [I a1] [A w a0] (Cee.of (rm := rX8_isDevice) tw_1331 tw_9 hX8_isDevice rfl rfl hRm (Nat.le_of_ble_eq_true rfl) (Nat.le_of_ble_eq_true rfl)) (fun x h => kX8_isDevice X.2.1 w P n h) tw_1328 tw_1330 ts_70 rfl (ci := 8) rfl (by decide) rfl rfl (Nat.le_of_ble_eq_true rfl) ⟨Nat.zero_le _, Nat.zero_le _⟩ dX8_device_3 (fun x1 => ?_)
  refine v_jnt (fun (k28 : Int → Option (Int × St)) => ∀ (x2 : Int), V X w 3 P n 0 0 res (k28 x2) s 28 [(0, A w a0), (1, I a1), (2, I a2)] [I x2, A w a0]) ?_ ?_
  · intro x2
    refine v_putI C 0 rfl (T := TX8) rfl inB8 (by decide) tyX8_ok nmX8 (by decide) rfl rfl tw_1140 dX8_device_28 rfl (fun s3 => ?_)
    refine v_aload_n C dX8_device_31 rfl (j := 0) rfl ?_
    refine v_getI C 0 rfl (T := TX8) rfl inB8 (by decide) (by decide) rfl tw_1140 dX8_device_32 (fun x4 => ?_)
    refine v_if_le (tgt := 40) C dX8_device_35 rfl ?_ ?_
    · skip
      refine v_iload_n C dX8_device_40 rfl (j := 2) rfl ?_
      refine v_tsw C (vals := [0, 1, 2, 3, 4, 5, 6]) (tgts := [84, 96, 106, 118, 124, 130, 142]) (dt := 148) dX8_device_41 rfl rfl (by decide) ?_ ?_
      · skip
        refine v_sw_cons ?_ ?_
        · skip
          refine v_aload_n C dX8_device_84 rfl (j := 0) rfl ?_
          refine v_getR C 14 rfl (T := TX8) rfl inB8 (by decide) (by decide) rfl tw_1154 dX8_device_85 (fun x5 => ?_)
          refine v_iload_n C dX8_device_88 rfl (j := 1) rfl ?_
          refine v_callS_rI C [I a1] [A w x5] (Cee.of (rm := rX8_at) tw_1088 tw_9 hX8_at rfl rfl hRm (Nat.le_of_ble_eq_true rfl) (Nat.le_of_ble_eq_true rfl)) (fun x h => kX8_at X.2.1 w P n h) tw_1086 tw_1087 rfl rfl (Nat.le_of_ble_eq_true rfl) ⟨Nat.zero_le _, Nat.zero_le _⟩ dX8_device_89 (fun x6 => ?_)
          refine v_iconst C dX8_device_92 ?_
          refine v_iadd C dX8_device_93 ?_
          refine v_iald C dX8_device_94 (fun x7 => ?_)
          exact v_iret C rfl hO pI dX8_device_95
        refine v_sw_cons ?_ ?_
        · skip
          refine v_aload_n C dX8_device_96 rfl (j := 0) rfl ?_
          refine v_getR C 11 rfl (T := TX8) rfl inB8 (by decide) (by decide) rfl tw_1151 dX8_device_97 (fun x8 => ?_)
          refine v_bipush C dX8_device_100 (by decide) ?_
          refine v_iload_n C dX8_device_102 rfl (j := 1) rfl ?_
          refine v_iadd C dX8_device_103 ?_
          refine v_iald C dX8_device_104 (fun x9 => ?_)
          exact v_iret C rfl hO pI dX8_device_105
        refine v_sw_cons ?_ ?_
        · skip
          refine v_aload_n C dX8_device_106 rfl (j := 0) rfl ?_
          refine v_getR C 14 rfl (T := TX8) rfl inB8 (by decide) (by decide) rfl tw_1154 dX8_device_107 (fun x10 => ?_)
          refine v_iload_n C dX8_device_110 rfl (j := 1) rfl ?_
          refine v_callS_rI C [I a1] [A w x10] (Cee.of (rm := rX8_at) tw_1088 tw_9 hX8_at rfl rfl hRm (Nat.le_of_ble_eq_true rfl) (Nat.le_of_ble_eq_true rfl)) (fun x h => kX8_at X.2.1 w P n h) tw_1086 tw_1087 rfl rfl (Nat.le_of_ble_eq_true rfl) ⟨Nat.zero_le _, Nat.zero_le _⟩ dX8_device_111 (fun x11 => ?_)
          refine v_iconst C dX8_device_114 ?_
          refine v_iadd C dX8_device_115 ?_
          refine v_iald C dX8_device_116 (fun x12 => ?_)
          exact v_iret C rfl hO pI dX8_device_117
        refine v_sw_cons ?_ ?_
        · skip
          refine v_aload_n C dX8_device_118 rfl (j := 0) rfl ?_
          refine v_iload_n C dX8_device_119 rfl (j := 1) rfl ?_
          refine v_callV_rI C [I a1] [] (Cee.of (rm := rX8_scoreOf) tw_1335 tw_9 hX8_scoreOf rfl rfl hRm (Nat.le_of_ble_eq_true rfl) (Nat.le_of_ble_eq_true rfl)) (fun x h => kX8_scoreOf X.2.1 w P n h) tw_1332 tw_1334 ts_71 rfl (ci := 8) rfl (by decide) rfl rfl (Nat.le_of_ble_eq_true rfl) ⟨Nat.zero_le _, Nat.zero_le _⟩ dX8_device_120 (fun x13 => ?_)
          exact v_iret C rfl hO pI dX8_device_123
        refine v_sw_cons ?_ ?_
        · skip
          refine v_aload_n C dX8_device_124 rfl (j := 0) rfl ?_
          refine v_iload_n C dX8_device_125 rfl (j := 1) rfl ?_
          refine v_callV_rI C [I a1] [] (Cee.of (rm := rX8_matching) tw_1343 tw_9 hX8_matching rfl rfl hRm (Nat.le_of_ble_eq_true rfl) (Nat.le_of_ble_eq_true rfl)) (fun x h => kX8_matching X.2.1 w P n h) tw_1340 tw_1342 ts_73 rfl (ci := 8) rfl (by decide) rfl rfl (Nat.le_of_ble_eq_true rfl) ⟨Nat.zero_le _, Nat.zero_le _⟩ dX8_device_126 (fun x14 => ?_)
          exact v_iret C rfl hO pI dX8_device_129
        refine v_sw_cons ?_ ?_
        · skip
          refine v_aload_n C dX8_device_130 rfl (j := 0) rfl ?_
          refine v_getR C 14 rfl (T := TX8) rfl inB8 (by decide) (by decide) rfl tw_1154 dX8_device_131 (fun x15 => ?_)
          refine v_iload_n C dX8_device_134 rfl (j := 1) rfl ?_
          refine v_callS_rI C [I a1] [A w x15] (Cee.of (rm := rX8_at) tw_1088 tw_9 hX8_at rfl rfl hRm (Nat.le_of_ble_eq_true rfl) (Nat.le_of_ble_eq_true rfl)) (fun x h => kX8_at X.2.1 w P n h) tw_1086 tw_1087 rfl rfl (Nat.le_of_ble_eq_true rfl) ⟨Nat.zero_le _, Nat.zero_le _⟩ dX8_device_135 (fun x16 => ?_)
          refine v_iconst C dX8_device_138 ?_
          refine v_iadd C dX8_device_139 ?_
          refine v_iald C dX8_device_140 (fun x17 => ?_)
          exact v_iret C rfl hO pI dX8_device_141
        refine v_sw_cons ?_ ?_
        · skip
          refine v_aload_n C dX8_device_142 rfl (j := 0) rfl ?_
          refine v_iload_n C dX8_device_143 rfl (j := 1) rfl ?_
          refine v_callV_rI C [I a1] [] (Cee.of (rm := rX8_holding) tw_1347 tw_9 hX8_holding rfl rfl hRm (Nat.le_of_ble_eq_true rfl) (Nat.le_of_ble_eq_true rfl)) (fun x h => kX8_holding X.2.1 w P n h) tw_1344 tw_1346 ts_74 rfl (ci := 8) rfl (by decide) rfl rfl (Nat.le_of_ble_eq_true rfl) ⟨Nat.zero_le _, Nat.zero_le _⟩ dX8_device_144 (fun x18 => ?_)
          exact v_iret C rfl hO pI dX8_device_147
        exact v_sw_nil
      · skip
        refine v_aload_n C dX8_device_148 rfl (j := 0) rfl ?_
        refine v_iload_n C dX8_device_149 rfl (j := 1) rfl ?_
        refine v_callV_rI C [I a1] [] (Cee.of (rm := rX8_holdRate) tw_1355 tw_9 hX8_holdRate rfl rfl hRm (Nat.le_of_ble_eq_true rfl) (Nat.le_of_ble_eq_true rfl)) (fun x h => kX8_holdRate X.2.1 w P n h) tw_1352 tw_1354 ts_76 rfl (ci := 8) rfl (by decide) rfl rfl (Nat.le_of_ble_eq_true rfl) ⟨Nat.zero_le _, Nat.zero_le _⟩ dX8_device_150 (fun x19 => ?_)
        exact v_iret C rfl hO pI dX8_device_153
    · skip
      refine v_iconst C dX8_device_38 ?_
      exact v_iret C rfl hO pI dX8_device_39
  intro k28 hk28
  refine v_if_ne (tgt := 13) C dX8_device_6 rfl ?_ ?_
  · skip
    refine v_iload_n C dX8_device_13 rfl (j := 2) rfl ?_
    refine v_iconst C dX8_device_14 ?_
    refine v_bipush C dX8_device_15 (by decide) ?_
    refine v_callS_rI C [I a2, I 0, I 7] [A w a0] (Cee.of (rm := rX8_within) tw_1228 tw_9 hX8_within rfl rfl hRm (Nat.le_of_ble_eq_true rfl) (Nat.le_of_ble_eq_true rfl)) (fun x h => kX8_within X.2.1 w P n h) tw_1226 tw_1227 rfl rfl (Nat.le_of_ble_eq_true rfl) ⟨Nat.zero_le _, Nat.zero_le _⟩ dX8_device_17 (fun x20 => ?_)
    refine v_if_ne (tgt := 27) C dX8_device_20 rfl ?_ ?_
    · skip
      refine v_iconst C dX8_device_27 ?_
      exact hk28 0
    · skip
      refine v_iconst C dX8_device_23 ?_
      refine v_goto (tgt := 28) C dX8_device_24 rfl ?_
      exact hk28 2
  · skip
    refine v_iconst C dX8_device_9 ?_
    refine v_goto (tgt := 28) C dX8_device_10 rfl ?_
    exact hk28 1
-- ForesightHubModel.stream
theorem hX8_stream : yX8_stream.cls ≠ "java/lang/invoke/MethodHandle" ∧ yX8_stream.cls ≠ "java/lang/invoke/VarHandle" ∧ (parseMethodDescriptor yX8_stream.desc).map (fun d => d.parameters.length) = some 2 := by decide +kernel
set_option maxRecDepth 100000 in
theorem kX8_stream (l : Launch) (w : Wd) (P : Shp) (n : Nat) {s : St} {a0 : Int} {a1 : Int} {a2 : Int} {res : Int × St} (h : fX8_stream P s a0 a1 a2 = some res) : Ct l w yX8_stream cX8_stream 3 (some FieldType.int) rX8_stream P n [A w a0, I a1, I a2] s (QI w P n res.1 res.2) :=
  Ct.of h (by decide) (Nat.le_of_ble_eq_true rfl) (lv := [(0, A w a0), (1, I a1), (2, I a2)]) rfl fun X hl hRm C hO => by
  subst hl
  unfold fX8_stream
  refine v_aload_n C dX8_stream_0 rfl (j := 0) rfl ?_
  refine v_aload_n C dX8_stream_1 rfl (j := 0) rfl ?_
  refine v_iload_n C dX8_stream_2 rfl (j := 1) rfl ?_
  refine v_callV_rI C [I a1] [A w a0] (Cee.of (rm := rX8_isStream) tw_1363 tw_9 hX8_isStream rfl rfl hRm (Nat.le_of_ble_eq_true rfl) (Nat.le_of_ble_eq_true rfl)) (fun x h => kX8_isStream X.2.1 w P n h) tw_1360 tw_1362 ts_77 rfl (ci := 8) rfl (by decide) rfl rfl (Nat.le_of_ble_eq_true rfl) ⟨Nat.zero_le _, Nat.zero_le _⟩ dX8_stream_3 (fun x1 => ?_)
  refine v_jnt (fun (k28 : Int → Option (Int × St)) => ∀ (x2 : Int), V X w 3 P n 0 0 res (k28 x2) s 28 [(0, A w a0), (1, I a1), (2, I a2)] [I x2, A w a0]) ?_ ?_
  · intro x2
    refine v_putI C 0 rfl (T := TX8) rfl inB8 (by decide) tyX8_ok nmX8 (by decide) rfl rfl tw_1140 dX8_stream_28 rfl (fun s3 => ?_)
    refine v_aload_n C dX8_stream_31 rfl (j := 0) rfl ?_
    refine v_getI C 0 rfl (T := TX8) rfl inB8 (by decide) (by decide) rfl tw_1140 dX8_stream_32 (fun x4 => ?_)
    refine v_if_le (tgt := 40) C dX8_stream_35 rfl ?_ ?_
    · skip
      refine v_iload_n C dX8_stream_40 rfl (j := 2) rfl ?_
      refine v_tsw C (vals := [0, 1, 2, 3, 4, 5]) (tgts := [80, 90, 102, 108, 114, 120]) (dt := 132) dX8_stream_41 rfl rfl (by decide) ?_ ?_
      · skip
        refine v_sw_cons ?_ ?_
        · skip
          refine v_aload_n C dX8_stream_80 rfl (j := 0) rfl ?_
          refine v_getR C 14 rfl (T := TX8) rfl inB8 (by decide) (by decide) rfl tw_1154 dX8_stream_81 (fun x5 => ?_)
          refine v_iload_n C dX8_stream_84 rfl (j := 1) rfl ?_
          refine v_callS_rI C [I a1] [A w x5] (Cee.of (rm := rX8_in) tw_1095 tw_9 hX8_in rfl rfl hRm (Nat.le_of_ble_eq_true rfl) (Nat.le_of_ble_eq_true rfl)) (fun x h => kX8_in X.2.1 w P n h) tw_1093 tw_1094 rfl rfl (Nat.le_of_ble_eq_true rfl) ⟨Nat.zero_le _, Nat.zero_le _⟩ dX8_stream_85 (fun x6 => ?_)
          refine v_iald C dX8_stream_88 (fun x7 => ?_)
          exact v_iret C rfl hO pI dX8_stream_89
        refine v_sw_cons ?_ ?_
        · skip
          refine v_aload_n C dX8_stream_90 rfl (j := 0) rfl ?_
          refine v_getR C 14 rfl (T := TX8) rfl inB8 (by decide) (by decide) rfl tw_1154 dX8_stream_91 (fun x8 => ?_)
          refine v_iload_n C dX8_stream_94 rfl (j := 1) rfl ?_
          refine v_callS_rI C [I a1] [A w x8] (Cee.of (rm := rX8_in) tw_1095 tw_9 hX8_in rfl rfl hRm (Nat.le_of_ble_eq_true rfl) (Nat.le_of_ble_eq_true rfl)) (fun x h => kX8_in X.2.1 w P n h) tw_1093 tw_1094 rfl rfl (Nat.le_of_ble_eq_true rfl) ⟨Nat.zero_le _, Nat.zero_le _⟩ dX8_stream_95 (fun x9 => ?_)
          refine v_iconst C dX8_stream_98 ?_
          refine v_iadd C dX8_stream_99 ?_
          refine v_iald C dX8_stream_100 (fun x10 => ?_)
          exact v_iret C rfl hO pI dX8_stream_101
        refine v_sw_cons ?_ ?_
        · skip
          refine v_aload_n C dX8_stream_102 rfl (j := 0) rfl ?_
          refine v_iload_n C dX8_stream_103 rfl (j := 1) rfl ?_
          refine v_callV_rI C [I a1] [] (Cee.of (rm := rX8_wanted) tw_1107 tw_9 hX8_wanted rfl rfl hRm (Nat.le_of_ble_eq_true rfl) (Nat.le_of_ble_eq_true rfl)) (fun x h => kX8_wanted X.2.1 w P n h) tw_1104 tw_1106 ts_42 rfl (ci := 8) rfl (by decide) rfl rfl (Nat.le_of_ble_eq_true rfl) ⟨Nat.zero_le _, Nat.zero_le _⟩ dX8_stream_104 (fun x11 => ?_)
          exact v_iret C rfl hO pI dX8_stream_107
        refine v_sw_cons ?_ ?_
        · skip
          refine v_aload_n C dX8_stream_108 rfl (j := 0) rfl ?_
          refine v_iload_n C dX8_stream_109 rfl (j := 1) rfl ?_
          refine v_callV_rI C [I a1] [] (Cee.of (rm := rX8_rateOf) tw_1135 tw_9 hX8_rateOf rfl rfl hRm (Nat.le_of_ble_eq_true rfl) (Nat.le_of_ble_eq_true rfl)) (fun x h => kX8_rateOf X.2.1 w P n h) tw_1132 tw_1134 ts_49 rfl (ci := 8) rfl (by decide) rfl rfl (Nat.le_of_ble_eq_true rfl) ⟨Nat.zero_le _, Nat.zero_le _⟩ dX8_stream_110 (fun x12 => ?_)
          exact v_iret C rfl hO pI dX8_stream_113
        refine v_sw_cons ?_ ?_
        · skip
          refine v_aload_n C dX8_stream_114 rfl (j := 0) rfl ?_
          refine v_iload_n C dX8_stream_115 rfl (j := 1) rfl ?_
          refine v_callV_rI C [I a1] [] (Cee.of (rm := rX8_packetOf) tw_1367 tw_9 hX8_packetOf rfl rfl hRm (Nat.le_of_ble_eq_true rfl) (Nat.le_of_ble_eq_true rfl)) (fun x h => kX8_packetOf X.2.1 w P n h) tw_1364 tw_1366 ts_78 rfl (ci := 8) rfl (by decide) rfl rfl (Nat.le_of_ble_eq_true rfl) ⟨Nat.zero_le _, Nat.zero_le _⟩ dX8_stream_116 (fun x13 => ?_)
          exact v_iret C rfl hO pI dX8_stream_119
        refine v_sw_cons ?_ ?_
        · skip
          refine v_aload_n C dX8_stream_120 rfl (j := 0) rfl ?_
          refine v_getR C 14 rfl (T := TX8) rfl inB8 (by decide) (by decide) rfl tw_1154 dX8_stream_121 (fun x14 => ?_)
          refine v_iload_n C dX8_stream_124 rfl (j := 1) rfl ?_
          refine v_callS_rI C [I a1] [A w x14] (Cee.of (rm := rX8_in) tw_1095 tw_9 hX8_in rfl rfl hRm (Nat.le_of_ble_eq_true rfl) (Nat.le_of_ble_eq_true rfl)) (fun x h => kX8_in X.2.1 w P n h) tw_1093 tw_1094 rfl rfl (Nat.le_of_ble_eq_true rfl) ⟨Nat.zero_le _, Nat.zero_le _⟩ dX8_stream_125 (fun x15 => ?_)
          refine v_iconst C dX8_stream_128 ?_
          refine v_iadd C dX8_stream_129 ?_
          refine v_iald C dX8_stream_130 (fun x16 => ?_)
          exact v_iret C rfl hO pI dX8_stream_131
        exact v_sw_nil
      · skip
        refine v_aload_n C dX8_stream_132 rfl (j := 0) rfl ?_
        refine v_iload_n C dX8_stream_133 rfl (j := 1) rfl ?_
        refine v_callV_rI C [I a1] [] (Cee.of (rm := rX8_homeOf) tw_1111 tw_9 hX8_homeOf rfl rfl hRm (Nat.le_of_ble_eq_true rfl) (Nat.le_of_ble_eq_true rfl)) (fun x h => kX8_homeOf X.2.1 w P n h) tw_1108 tw_1110 ts_43 rfl (ci := 8) rfl (by decide) rfl rfl (Nat.le_of_ble_eq_true rfl) ⟨Nat.zero_le _, Nat.zero_le _⟩ dX8_stream_134 (fun x17 => ?_)
        exact v_iret C rfl hO pI dX8_stream_137
    · skip
      refine v_iconst C dX8_stream_38 ?_
      exact v_iret C rfl hO pI dX8_stream_39
  intro k28 hk28
  refine v_if_ne (tgt := 13) C dX8_stream_6 rfl ?_ ?_
  · skip
    refine v_iload_n C dX8_stream_13 rfl (j := 2) rfl ?_
    refine v_iconst C dX8_stream_14 ?_
    refine v_bipush C dX8_stream_15 (by decide) ?_
    refine v_callS_rI C [I a2, I 0, I 6] [A w a0] (Cee.of (rm := rX8_within) tw_1228 tw_9 hX8_within rfl rfl hRm (Nat.le_of_ble_eq_true rfl) (Nat.le_of_ble_eq_true rfl)) (fun x h => kX8_within X.2.1 w P n h) tw_1226 tw_1227 rfl rfl (Nat.le_of_ble_eq_true rfl) ⟨Nat.zero_le _, Nat.zero_le _⟩ dX8_stream_17 (fun x18 => ?_)
    refine v_if_ne (tgt := 27) C dX8_stream_20 rfl ?_ ?_
    · skip
      refine v_iconst C dX8_stream_27 ?_
      exact hk28 0
    · skip
      refine v_iconst C dX8_stream_23 ?_
      refine v_goto (tgt := 28) C dX8_stream_24 rfl ?_
      exact hk28 2
  · skip
    refine v_iconst C dX8_stream_9 ?_
    refine v_goto (tgt := 28) C dX8_stream_10 rfl ?_
    exact hk28 1
-- ForesightHubModel.packets
theorem hX8_packets : yX8_packets.cls ≠ "java/lang/invoke/MethodHandle" ∧ yX8_packets.cls ≠ "java/lang/invoke/VarHandle" ∧ (parseMethodDescriptor yX8_packets.desc).map (fun d => d.parameters.length) = some 1 := by decide +kernel
set_option maxRecDepth 100000 in
theorem kX8_packets (l : Launch) (w : Wd) (P : Shp) (n : Nat) {s : St} {a0 : Int} {a1 : Int} {res : Int × St} (h : fX8_packets P s a0 a1 = some res) : Ct l w yX8_packets cX8_packets 2 (some FieldType.long) rX8_packets P n [A w a0, I a1] s (QL w P n res.1 res.2) :=
  Ct.of h (by decide) (Nat.le_of_ble_eq_true rfl) (lv := [(0, A w a0), (1, I a1)]) rfl fun X hl hRm C hO => by
  subst hl
  unfold fX8_packets
  refine v_aload_n C dX8_packets_0 rfl (j := 0) rfl ?_
  refine v_aload_n C dX8_packets_1 rfl (j := 0) rfl ?_
  refine v_iload_n C dX8_packets_2 rfl (j := 1) rfl ?_
  refine v_callV_rI C [I a1] [A w a0] (Cee.of (rm := rX8_isStream) tw_1363 tw_9 hX8_isStream rfl rfl hRm (Nat.le_of_ble_eq_true rfl) (Nat.le_of_ble_eq_true rfl)) (fun x h => kX8_isStream X.2.1 w P n h) tw_1360 tw_1362 ts_77 rfl (ci := 8) rfl (by decide) rfl rfl (Nat.le_of_ble_eq_true rfl) ⟨Nat.zero_le _, Nat.zero_le _⟩ dX8_packets_3 (fun x1 => ?_)
  refine v_jnt (fun (k14 : Int → Option (Int × St)) => ∀ (x2 : Int), V X w 2 P n 0 0 res (k14 x2) s 14 [(0, A w a0), (1, I a1)] [I x2, A w a0]) ?_ ?_
  · intro x2
    refine v_putI C 0 rfl (T := TX8) rfl inB8 (by decide) tyX8_ok nmX8 (by decide) rfl rfl tw_1140 dX8_packets_14 rfl (fun s3 => ?_)
    refine v_aload_n C dX8_packets_17 rfl (j := 0) rfl ?_
    refine v_getI C 0 rfl (T := TX8) rfl inB8 (by decide) (by decide) rfl tw_1140 dX8_packets_18 (fun x4 => ?_)
    refine v_if_ne (tgt := 33) C dX8_packets_21 rfl ?_ ?_
    · skip
      refine v_lconst (z := 0) C dX8_packets_33 rfl ?_
      exact v_lret C rfl hO pI dX8_packets_34
    · skip
      refine v_aload_n C dX8_packets_24 rfl (j := 0) rfl ?_
      refine v_getR C 15 rfl (T := TX8) rfl inB8 (by decide) (by decide) rfl tw_1155 dX8_packets_25 (fun x5 => ?_)
      refine v_iload_n C dX8_packets_28 rfl (j := 1) rfl ?_
      refine v_lald C dX8_packets_29 (fun x6 => ?_)
      refine v_goto (tgt := 34) C dX8_packets_30 rfl ?_
      exact v_lret C rfl hO pI dX8_packets_34
  intro k14 hk14
  refine v_if_eq (tgt := 13) C dX8_packets_6 rfl ?_ ?_
  · skip
    refine v_iconst C dX8_packets_13 ?_
    exact hk14 1
  · skip
    refine v_iconst C dX8_packets_9 ?_
    refine v_goto (tgt := 14) C dX8_packets_10 rfl ?_
    exact hk14 0
-- ForesightHubModel.error
theorem hX8_error : yX8_error.cls ≠ "java/lang/invoke/MethodHandle" ∧ yX8_error.cls ≠ "java/lang/invoke/VarHandle" ∧ (parseMethodDescriptor yX8_error.desc).map (fun d => d.parameters.length) = some 3 := by decide +kernel
set_option maxRecDepth 100000 in
theorem kX8_error (l : Launch) (w : Wd) (P : Shp) (n : Nat) {s : St} {a0 : Int} {a1 : Int} {a2 : Int} {a3 : Int} {res : Int × St} (h : fX8_error P s a0 a1 a2 a3 = some res) : Ct l w yX8_error cX8_error 5 (some FieldType.int) rX8_error P n [A w a0, I a1, I a2, I a3] s (QI w P n res.1 res.2) :=
  Ct.of h (by decide) (Nat.le_of_ble_eq_true rfl) (lv := [(0, A w a0), (1, I a1), (2, I a2), (3, I a3)]) rfl fun X hl hRm C hO => by
  subst hl
  unfold fX8_error
  refine v_aload_n C dX8_error_0 rfl (j := 0) rfl ?_
  refine v_aload_n C dX8_error_1 rfl (j := 0) rfl ?_
  refine v_iload_n C dX8_error_2 rfl (j := 1) rfl ?_
  refine v_callV_rI C [I a1] [A w a0] (Cee.of (rm := rX8_isDevice) tw_1331 tw_9 hX8_isDevice rfl rfl hRm (Nat.le_of_ble_eq_true rfl) (Nat.le_of_ble_eq_true rfl)) (fun x h => kX8_isDevice X.2.1 w P n h) tw_1328 tw_1330 ts_70 rfl (ci := 8) rfl (by decide) rfl rfl (Nat.le_of_ble_eq_true rfl) ⟨Nat.zero_le _, Nat.zero_le _⟩ dX8_error_3 (fun x1 => ?_)
  refine v_jnt (fun (k27 : Int → Option (Int × St)) => ∀ (x2 : Int), V X w 5 P n 0 0 res (k27 x2) s 27 [(0, A w a0), (1, I a1), (2, I a2), (3, I a3)] [I x2, A w a0]) ?_ ?_
  · intro x2
    refine v_putI C 0 rfl (T := TX8) rfl inB8 (by decide) tyX8_ok nmX8 (by decide) rfl rfl tw_1140 dX8_error_27 rfl (fun s3 => ?_)
    refine v_aload_n C dX8_error_30 rfl (j := 0) rfl ?_
    refine v_getI C 0 rfl (T := TX8) rfl inB8 (by decide) (by decide) rfl tw_1140 dX8_error_31 (fun x4 => ?_)
    refine v_if_le (tgt := 39) C dX8_error_34 rfl ?_ ?_
    · skip
      refine v_aload_n C dX8_error_39 rfl (j := 0) rfl ?_
      refine v_getR C 14 rfl (T := TX8) rfl inB8 (by decide) (by decide) rfl tw_1154 dX8_error_40 (fun x5 => ?_)
      refine v_iload_n C dX8_error_43 rfl (j := 1) rfl ?_
      refine v_callS_rI C [I a1] [A w x5] (Cee.of (rm := rX8_at) tw_1088 tw_9 hX8_at rfl rfl hRm (Nat.le_of_ble_eq_true rfl) (Nat.le_of_ble_eq_true rfl)) (fun x h => kX8_at X.2.1 w P n h) tw_1086 tw_1087 rfl rfl (Nat.le_of_ble_eq_true rfl) ⟨Nat.zero_le _, Nat.zero_le _⟩ dX8_error_44 (fun x6 => ?_)
      refine v_iconst C dX8_error_47 ?_
      refine v_iadd C dX8_error_48 ?_
      refine v_iald C dX8_error_49 (fun x7 => ?_)
      refine v_istore C [(4, I x7), (0, A w a0), (1, I a1), (2, I a2), (3, I a3)] dX8_error_50 (by decide) rfl ?_
      refine v_iload_n C dX8_error_52 rfl (j := 3) rfl ?_
      refine v_iconst C dX8_error_53 ?_
      refine v_iload C dX8_error_54 (j := 0) rfl ?_
      refine v_iconst C dX8_error_56 ?_
      refine v_isub C dX8_error_57 ?_
      refine v_callS_rI C [I a2, I 0, I (x7 - 1)] [] (Cee.of (rm := rX8_within) tw_1228 tw_9 hX8_within rfl rfl hRm (Nat.le_of_ble_eq_true rfl) (Nat.le_of_ble_eq_true rfl)) (fun x h => kX8_within X.2.1 w P n h) tw_1226 tw_1227 rfl rfl (Nat.le_of_ble_eq_true rfl) ⟨Nat.zero_le _, Nat.zero_le _⟩ dX8_error_58 (fun x8 => ?_)
      refine v_if_eq (tgt := 89) C dX8_error_61 rfl ?_ ?_
      · skip
        refine v_iconst C dX8_error_89 ?_
        exact v_iret C rfl hO pI dX8_error_90
      · skip
        refine v_aload_n C dX8_error_64 rfl (j := 1) rfl ?_
        refine v_getR C 14 rfl (T := TX8) rfl inB8 (by decide) (by decide) rfl tw_1154 dX8_error_65 (fun x9 => ?_)
        refine v_iload_n C dX8_error_68 rfl (j := 2) rfl ?_
        refine v_callS_rI C [I a1] [A w x9] (Cee.of (rm := rX8_at) tw_1088 tw_9 hX8_at rfl rfl hRm (Nat.le_of_ble_eq_true rfl) (Nat.le_of_ble_eq_true rfl)) (fun x h => kX8_at X.2.1 w P n h) tw_1086 tw_1087 rfl rfl (Nat.le_of_ble_eq_true rfl) ⟨Nat.zero_le _, Nat.zero_le _⟩ dX8_error_69 (fun x10 => ?_)
        refine v_iconst C dX8_error_72 ?_
        refine v_iadd C dX8_error_73 ?_
        refine v_iconst C dX8_error_74 ?_
        refine v_iload C dX8_error_75 (j := 0) rfl ?_
        refine v_iconst C dX8_error_77 ?_
        refine v_isub C dX8_error_78 ?_
        refine v_iload_n C dX8_error_79 rfl (j := 3) rfl ?_
        refine v_isub C dX8_error_80 ?_
        refine v_imul C dX8_error_81 ?_
        refine v_iadd C dX8_error_82 ?_
        refine v_iload_n C dX8_error_83 rfl (j := 4) rfl ?_
        refine v_iadd C dX8_error_84 ?_
        refine v_iald C dX8_error_85 (fun x11 => ?_)
        refine v_goto (tgt := 90) C dX8_error_86 rfl ?_
        exact v_iret C rfl hO pI dX8_error_90
    · skip
      refine v_iconst C dX8_error_37 ?_
      exact v_iret C rfl hO pI dX8_error_38
  intro k27 hk27
  refine v_if_ne (tgt := 13) C dX8_error_6 rfl ?_ ?_
  · skip
    refine v_iload_n C dX8_error_13 rfl (j := 3) rfl ?_
    refine v_iconst C dX8_error_14 ?_
    refine v_iconst C dX8_error_15 ?_
    refine v_callS_rI C [I a3, I 0, I 1] [A w a0] (Cee.of (rm := rX8_within) tw_1228 tw_9 hX8_within rfl rfl hRm (Nat.le_of_ble_eq_true rfl) (Nat.le_of_ble_eq_true rfl)) (fun x h => kX8_within X.2.1 w P n h) tw_1226 tw_1227 rfl rfl (Nat.le_of_ble_eq_true rfl) ⟨Nat.zero_le _, Nat.zero_le _⟩ dX8_error_16 (fun x12 => ?_)
    refine v_if_ne (tgt := 26) C dX8_error_19 rfl ?_ ?_
    · skip
      refine v_iconst C dX8_error_26 ?_
      exact hk27 0
    · skip
      refine v_iconst C dX8_error_22 ?_
      refine v_goto (tgt := 27) C dX8_error_23 rfl ?_
      exact hk27 2
  · skip
    refine v_iconst C dX8_error_9 ?_
    refine v_goto (tgt := 27) C dX8_error_10 rfl ?_
    exact hk27 1
-- ForesightHubModel.cause
theorem hX8_cause : yX8_cause.cls ≠ "java/lang/invoke/MethodHandle" ∧ yX8_cause.cls ≠ "java/lang/invoke/VarHandle" ∧ (parseMethodDescriptor yX8_cause.desc).map (fun d => d.parameters.length) = some 2 := by decide +kernel
set_option maxRecDepth 100000 in
theorem kX8_cause (l : Launch) (w : Wd) (P : Shp) (n : Nat) {s : St} {a0 : Int} {a1 : Int} {a2 : Int} {res : Int × St} (h : fX8_cause P s a0 a1 a2 = some res) : Ct l w yX8_cause cX8_cause 4 (some FieldType.int) rX8_cause P n [A w a0, I a1, I a2] s (QI w P n res.1 res.2) :=
  Ct.of h (by decide) (Nat.le_of_ble_eq_true rfl) (lv := [(0, A w a0), (1, I a1), (2, I a2)]) rfl fun X hl hRm C hO => by
  subst hl
  unfold fX8_cause
  refine v_aload_n C dX8_cause_0 rfl (j := 0) rfl ?_
  refine v_iload_n C dX8_cause_1 rfl (j := 2) rfl ?_
  refine v_iconst C dX8_cause_2 ?_
  refine v_iconst C dX8_cause_3 ?_
  refine v_callS_rI C [I a2, I 0, I 2] [A w a0] (Cee.of (rm := rX8_within) tw_1228 tw_9 hX8_within rfl rfl hRm (Nat.le_of_ble_eq_true rfl) (Nat.le_of_ble_eq_true rfl)) (fun x h => kX8_within X.2.1 w P n h) tw_1226 tw_1227 rfl rfl (Nat.le_of_ble_eq_true rfl) ⟨Nat.zero_le _, Nat.zero_le _⟩ dX8_cause_4 (fun x1 => ?_)
  refine v_jnt (fun (k15 : Int → Option (Int × St)) => ∀ (x2 : Int), V X w 4 P n 0 0 res (k15 x2) s 15 [(0, A w a0), (1, I a1), (2, I a2)] [I x2, A w a0]) ?_ ?_
  · intro x2
    refine v_putI C 0 rfl (T := TX8) rfl inB8 (by decide) tyX8_ok nmX8 (by decide) rfl rfl tw_1140 dX8_cause_15 rfl (fun s3 => ?_)
    refine v_aload_n C dX8_cause_18 rfl (j := 0) rfl ?_
    refine v_getI C 0 rfl (T := TX8) rfl inB8 (by decide) (by decide) rfl tw_1140 dX8_cause_19 (fun x4 => ?_)
    refine v_if_le (tgt := 27) C dX8_cause_22 rfl ?_ ?_
    · skip
      refine v_iload_n C dX8_cause_27 rfl (j := 1) rfl ?_
      refine v_iconst C dX8_cause_28 ?_
      refine v_aload_n C dX8_cause_29 rfl (j := 0) rfl ?_
      refine v_getR C 14 rfl (T := TX8) rfl inB8 (by decide) (by decide) rfl tw_1154 dX8_cause_30 (fun x5 => ?_)
      refine v_bipush C dX8_cause_33 (by decide) ?_
      refine v_iald C dX8_cause_35 (fun x6 => ?_)
      refine v_iconst C dX8_cause_36 ?_
      refine v_isub C dX8_cause_37 ?_
      refine v_callS_rI C [I a1, I 0, I (x6 - 1)] [] (Cee.of (rm := rX8_within) tw_1228 tw_9 hX8_within rfl rfl hRm (Nat.le_of_ble_eq_true rfl) (Nat.le_of_ble_eq_true rfl)) (fun x h => kX8_within X.2.1 w P n h) tw_1226 tw_1227 rfl rfl (Nat.le_of_ble_eq_true rfl) ⟨Nat.zero_le _, Nat.zero_le _⟩ dX8_cause_38 (fun x7 => ?_)
      refine v_if_ne (tgt := 46) C dX8_cause_41 rfl ?_ ?_
      · skip
        refine v_aload_n C dX8_cause_46 rfl (j := 0) rfl ?_
        refine v_getR C 14 rfl (T := TX8) rfl inB8 (by decide) (by decide) rfl tw_1154 dX8_cause_47 (fun x8 => ?_)
        refine v_sipush C dX8_cause_50 (by decide) ?_
        refine v_iconst C dX8_cause_53 ?_
        refine v_iload_n C dX8_cause_54 rfl (j := 1) rfl ?_
        refine v_imul C dX8_cause_55 ?_
        refine v_iadd C dX8_cause_56 ?_
        refine v_iald C dX8_cause_57 (fun x9 => ?_)
        refine v_istore_n C [(3, I x9), (0, A w a0), (1, I a1), (2, I a2)] dX8_cause_58 rfl (by decide) rfl ?_
        refine v_iload_n C dX8_cause_59 rfl (j := 3) rfl ?_
        refine v_if_ne (tgt := 69) C dX8_cause_60 rfl ?_ ?_
        · skip
          refine v_iload_n C dX8_cause_69 rfl (j := 3) rfl ?_
          refine v_iconst C dX8_cause_70 ?_
          refine v_icmp_ne (tgt := 80) C dX8_cause_71 rfl ?_ ?_
          · skip
            refine v_aload_n C dX8_cause_80 rfl (j := 1) rfl ?_
            refine v_getR C 14 rfl (T := TX8) rfl inB8 (by decide) (by decide) rfl tw_1154 dX8_cause_81 (fun x10 => ?_)
            refine v_sipush C dX8_cause_84 (by decide) ?_
            refine v_iconst C dX8_cause_87 ?_
            refine v_iload_n C dX8_cause_88 rfl (j := 2) rfl ?_
            refine v_imul C dX8_cause_89 ?_
            refine v_iadd C dX8_cause_90 ?_
            refine v_iconst C dX8_cause_91 ?_
            refine v_iadd C dX8_cause_92 ?_
            refine v_iald C dX8_cause_93 (fun x11 => ?_)
            exact v_iret C rfl hO pI dX8_cause_94
          · skip
            refine v_iload_n C dX8_cause_74 rfl (j := 0) rfl ?_
            refine v_iconst C dX8_cause_75 ?_
            refine v_irem C dX8_cause_76 (fun x12 => ?_)
            refine v_goto (tgt := 94) C dX8_cause_77 rfl ?_
            exact v_iret C rfl hO pI dX8_cause_94
        · skip
          refine v_iload_n C dX8_cause_63 rfl (j := 0) rfl ?_
          refine v_iconst C dX8_cause_64 ?_
          refine v_idiv C dX8_cause_65 (fun x13 => ?_)
          refine v_goto (tgt := 94) C dX8_cause_66 rfl ?_
          exact v_iret C rfl hO pI dX8_cause_94
      · skip
        refine v_iconst C dX8_cause_44 ?_
        exact v_iret C rfl hO pI dX8_cause_45
    · skip
      refine v_iconst C dX8_cause_25 ?_
      exact v_iret C rfl hO pI dX8_cause_26
  intro k15 hk15
  refine v_if_eq (tgt := 14) C dX8_cause_7 rfl ?_ ?_
  · skip
    refine v_iconst C dX8_cause_14 ?_
    exact hk15 1
  · skip
    refine v_iconst C dX8_cause_10 ?_
    refine v_goto (tgt := 15) C dX8_cause_11 rfl ?_
    exact hk15 0
-- ForesightHubModel.counts
set_option maxRecDepth 100000 in
theorem vX8_counts_L9 {X : Cxt} {w : Wd} {P : Shp} {n : Nat} {s : St} (res : St) (hRm : X.2.2.2.1 = rX8_counts) (C : Cok X w cX8_counts 5 RX8 (Option.none : Option FieldType)) (hO : Own X w 0 0 (QV w P n res))  (c0 : Int) (c3 : Int) (kE44 : Int → Option (St)) (hE44 : ∀ (p4e : Int), V X w 5 P n 0 0 res (kE44 p4e) s 44 [(0, A w c0), (3, I c3), (4, I p4e)] []) : ∀ (fuel : Nat) (p4 : Int), V X w 5 P n 0 0 res (fX8_counts_L9 P s c0 c3 kE44 fuel p4) s 9 [(0, A w c0), (3, I c3), (4, I p4)] [] := by
  intro fuel
  induction fuel with
  | zero => intro p4; exact v_none
  | succ m ih =>
    intro p4
    rw [fX8_counts_L9]
    refine v_iload C dX8_counts_9 (j := 2) rfl ?_
    refine v_aload_n C dX8_counts_11 rfl (j := 0) rfl ?_
    refine v_getR C 14 rfl (T := TX8) rfl inB8 (by decide) (by decide) rfl tw_1154 dX8_counts_12 (fun x2 => ?_)
    refine v_bipush C dX8_counts_15 (by decide) ?_
    refine v_iald C dX8_counts_17 (fun x3 => ?_)
    refine v_icmp_ge (tgt := 44) C dX8_counts_18 rfl ?_ ?_
    · skip
      exact hE44 p4
    · skip
      refine v_aload_n C dX8_counts_21 rfl (j := 0) rfl ?_
      refine v_getR C 14 rfl (T := TX8) rfl inB8 (by decide) (by decide) rfl tw_1154 dX8_counts_22 (fun x4 => ?_)
      refine v_sipush C dX8_counts_25 (by decide) ?_
      refine v_iconst C dX8_counts_28 ?_
      refine v_iload C dX8_counts_29 (j := 2) rfl ?_
      refine v_imul C dX8_counts_31 ?_
      refine v_iadd C dX8_counts_32 ?_
      refine v_iald C dX8_counts_33 (fun x5 => ?_)
      refine v_iload_n C dX8_counts_34 rfl (j := 1) rfl ?_
      refine v_icmp_eq (tgt := 44) C dX8_counts_35 rfl ?_ ?_
      · skip
        exact hE44 p4
      · skip
        refine v_iinc C (j := 2) [(0, A w c0), (3, I c3)] dX8_counts_38 (by decide) rfl (fun _ => rfl) (fun x6 => ?_)
        refine v_goto (tgt := 9) C dX8_counts_41 rfl ?_
        refine v_sub [(0, A w c0), (3, I c3), (4, I x6)] [1, 2, 0] rfl ?_
        exact ih x6
theorem hX8_counts : yX8_counts.cls ≠ "java/lang/invoke/MethodHandle" ∧ yX8_counts.cls ≠ "java/lang/invoke/VarHandle" ∧ (parseMethodDescriptor yX8_counts.desc).map (fun d => d.parameters.length) = some 2 := by decide +kernel
set_option maxRecDepth 100000 in
theorem kX8_counts (l : Launch) (w : Wd) (P : Shp) (n : Nat) {s : St} {a0 : Int} {a1 : Int} {a2 : Int} {res : St} (h : fX8_counts P s a0 a1 a2 = some res) : Ct l w yX8_counts cX8_counts 5 (Option.none : Option FieldType) rX8_counts P n [A w a0, I a1, I a2] s (QV w P n res) :=
  Ct.of h (by decide) (Nat.le_of_ble_eq_true rfl) (lv := [(0, A w a0), (1, I a1), (2, I a2)]) rfl fun X hl hRm C hO => by
  subst hl
  unfold fX8_counts
  refine v_iconst C dX8_counts_0 ?_
  refine v_iload_n C dX8_counts_1 rfl (j := 1) rfl ?_
  refine v_imul C dX8_counts_2 ?_
  refine v_iload_n C dX8_counts_3 rfl (j := 2) rfl ?_
  refine v_iadd C dX8_counts_4 ?_
  refine v_bdI (fun x1 => ?_)
  refine v_istore_n C [(3, I x1), (0, A w a0), (1, I a1), (2, I a2)] dX8_counts_5 rfl (by decide) rfl ?_
  refine v_iconst C dX8_counts_6 ?_
  refine v_istore C [(4, I 0), (3, I x1), (0, A w a0), (1, I a1), (2, I a2)] dX8_counts_7 (by decide) rfl ?_
  refine v_sub [(0, A w a0), (3, I x1), (4, I 0)] [2, 1, 0] rfl ?_
  refine vX8_counts_L9 res hRm C hO a0 x1 _ ?_ 1000 0
  · intro x7
    refine v_iload C dX8_counts_44 (j := 2) rfl ?_
    refine v_aload_n C dX8_counts_46 rfl (j := 0) rfl ?_
    refine v_getR C 14 rfl (T := TX8) rfl inB8 (by decide) (by decide) rfl tw_1154 dX8_counts_47 (fun x8 => ?_)
    refine v_bipush C dX8_counts_50 (by decide) ?_
    refine v_iald C dX8_counts_52 (fun x9 => ?_)
    refine v_jnt (fun (k97 : St → Option (St)) => ∀ (s10 : St), V X w 5 P n 0 0 res (k97 s10) s10 97 [(0, A w a0), (4, I x7)] []) ?_ ?_
    · intro s10
      refine v_aload_n C dX8_counts_97 rfl (j := 0) rfl ?_
      refine v_getR C 14 rfl (T := TX8) rfl inB8 (by decide) (by decide) rfl tw_1154 dX8_counts_98 (fun x11 => ?_)
      refine v_sipush C dX8_counts_101 (by decide) ?_
      refine v_iconst C dX8_counts_104 ?_
      refine v_iload C dX8_counts_105 (j := 1) rfl ?_
      refine v_imul C dX8_counts_107 ?_
      refine v_iadd C dX8_counts_108 ?_
      refine v_iconst C dX8_counts_109 ?_
      refine v_iadd C dX8_counts_110 ?_
      refine v_bdI (fun x12 => ?_)
      refine v_dup2 C dX8_counts_111 rfl rfl ?_
      refine v_iald C dX8_counts_112 (fun x13 => ?_)
      refine v_iconst C dX8_counts_113 ?_
      refine v_iadd C dX8_counts_114 ?_
      refine v_iast C dX8_counts_115 (fun s14 => ?_)
      refine v_aload_n C dX8_counts_116 rfl (j := 0) rfl ?_
      refine v_getR C 14 rfl (T := TX8) rfl inB8 (by decide) (by decide) rfl tw_1154 dX8_counts_117 (fun x15 => ?_)
      refine v_bipush C dX8_counts_120 (by decide) ?_
      refine v_dup2 C dX8_counts_122 rfl rfl ?_
      refine v_iald C dX8_counts_123 (fun x16 => ?_)
      refine v_iconst C dX8_counts_124 ?_
      refine v_iadd C dX8_counts_125 ?_
      refine v_iast C dX8_counts_126 (fun s17 => ?_)
      exact v_vret C rfl hO (fun h => Option.some.inj h) dX8_counts_127
    intro k97 hk97
    refine v_icmp_ne (tgt := 97) C dX8_counts_53 rfl ?_ ?_
    · skip
      refine v_sub [(0, A w a0), (4, I x7)] [0, 2] rfl ?_
      exact hk97 s
    · skip
      refine v_aload_n C dX8_counts_56 rfl (j := 0) rfl ?_
      refine v_getR C 14 rfl (T := TX8) rfl inB8 (by decide) (by decide) rfl tw_1154 dX8_counts_57 (fun x18 => ?_)
      refine v_sipush C dX8_counts_60 (by decide) ?_
      refine v_iconst C dX8_counts_63 ?_
      refine v_iload C dX8_counts_64 (j := 2) rfl ?_
      refine v_imul C dX8_counts_66 ?_
      refine v_iadd C dX8_counts_67 ?_
      refine v_iload_n C dX8_counts_68 rfl (j := 1) rfl ?_
      refine v_iast C dX8_counts_69 (fun s19 => ?_)
      refine v_aload_n C dX8_counts_70 rfl (j := 0) rfl ?_
      refine v_getR C 14 rfl (T := TX8) rfl inB8 (by decide) (by decide) rfl tw_1154 dX8_counts_71 (fun x20 => ?_)
      refine v_sipush C dX8_counts_74 (by decide) ?_
      refine v_iconst C dX8_counts_77 ?_
      refine v_iload C dX8_counts_78 (j := 2) rfl ?_
      refine v_imul C dX8_counts_80 ?_
      refine v_iadd C dX8_counts_81 ?_
      refine v_iconst C dX8_counts_82 ?_
      refine v_iadd C dX8_counts_83 ?_
      refine v_iconst C dX8_counts_84 ?_
      refine v_iast C dX8_counts_85 (fun s21 => ?_)
      refine v_aload_n C dX8_counts_86 rfl (j := 0) rfl ?_
      refine v_getR C 14 rfl (T := TX8) rfl inB8 (by decide) (by decide) rfl tw_1154 dX8_counts_87 (fun x22 => ?_)
      refine v_bipush C dX8_counts_90 (by decide) ?_
      refine v_dup2 C dX8_counts_92 rfl rfl ?_
      refine v_iald C dX8_counts_93 (fun x23 => ?_)
      refine v_iconst C dX8_counts_94 ?_
      refine v_iadd C dX8_counts_95 ?_
      refine v_iast C dX8_counts_96 (fun s24 => ?_)
      refine v_sub [(0, A w a0), (4, I x7)] [0, 2] rfl ?_
      exact hk97 s24
-- ForesightHubModel.scoreWith
theorem hX8_scoreWith : yX8_scoreWith.cls ≠ "java/lang/invoke/MethodHandle" ∧ yX8_scoreWith.cls ≠ "java/lang/invoke/VarHandle" ∧ (parseMethodDescriptor yX8_scoreWith.desc).map (fun d => d.parameters.length) = some 2 := by decide +kernel
set_option maxRecDepth 100000 in
theorem kX8_scoreWith (l : Launch) (w : Wd) (P : Shp) (n : Nat) {s : St} {a0 : Int} {a1 : Int} {a2 : Int} {res : Int × St} (h : fX8_scoreWith P s a0 a1 a2 = some res) : Ct l w yX8_scoreWith cX8_scoreWith 3 (some FieldType.int) rX8_scoreWith P n [A w a0, I a1, I a2] s (QI w P n res.1 res.2) :=
  Ct.of h (by decide) (Nat.le_of_ble_eq_true rfl) (lv := [(0, A w a0), (1, I a1), (2, I a2)]) rfl fun X hl hRm C hO => by
  subst hl
  unfold fX8_scoreWith
  refine v_aload_n C dX8_scoreWith_0 rfl (j := 0) rfl ?_
  refine v_aload_n C dX8_scoreWith_1 rfl (j := 0) rfl ?_
  refine v_iload_n C dX8_scoreWith_2 rfl (j := 1) rfl ?_
  refine v_callV_rI C [I a1] [A w a0] (Cee.of (rm := rX8_isDevice) tw_1331 tw_9 hX8_isDevice rfl rfl hRm (Nat.le_of_ble_eq_true rfl) (Nat.le_of_ble_eq_true rfl)) (fun x h => kX8_isDevice X.2.1 w P n h) tw_1328 tw_1330 ts_70 rfl (ci := 8) rfl (by decide) rfl rfl (Nat.le_of_ble_eq_true rfl) ⟨Nat.zero_le _, Nat.zero_le _⟩ dX8_scoreWith_3 (fun x1 => ?_)
  refine v_jnt (fun (k27 : Int → Option (Int × St)) => ∀ (x2 : Int), V X w 3 P n 0 0 res (k27 x2) s 27 [(0, A w a0), (1, I a1), (2, I a2)] [I x2, A w a0]) ?_ ?_
  · intro x2
    refine v_putI C 0 rfl (T := TX8) rfl inB8 (by decide) tyX8_ok nmX8 (by decide) rfl rfl tw_1140 dX8_scoreWith_27 rfl (fun s3 => ?_)
    refine v_aload_n C dX8_scoreWith_30 rfl (j := 0) rfl ?_
    refine v_getI C 0 rfl (T := TX8) rfl inB8 (by decide) (by decide) rfl tw_1140 dX8_scoreWith_31 (fun x4 => ?_)
    refine v_if_le (tgt := 39) C dX8_scoreWith_34 rfl ?_ ?_
    · skip
      refine v_aload_n C dX8_scoreWith_39 rfl (j := 0) rfl ?_
      refine v_iload_n C dX8_scoreWith_40 rfl (j := 1) rfl ?_
      refine v_callV_rI C [I a1] [] (Cee.of (rm := rX8_isPlugged) tw_1119 tw_9 hX8_isPlugged rfl rfl hRm (Nat.le_of_ble_eq_true rfl) (Nat.le_of_ble_eq_true rfl)) (fun x h => kX8_isPlugged X.2.1 w P n h) tw_1116 tw_1118 ts_45 rfl (ci := 8) rfl (by decide) rfl rfl (Nat.le_of_ble_eq_true rfl) ⟨Nat.zero_le _, Nat.zero_le _⟩ dX8_scoreWith_41 (fun x5 => ?_)
      refine v_if_eq (tgt := 56) C dX8_scoreWith_44 rfl ?_ ?_
      · skip
        refine v_iconst C dX8_scoreWith_56 ?_
        exact v_iret C rfl hO pI dX8_scoreWith_57
      · skip
        refine v_aload_n C dX8_scoreWith_47 rfl (j := 0) rfl ?_
        refine v_iload_n C dX8_scoreWith_48 rfl (j := 1) rfl ?_
        refine v_iload_n C dX8_scoreWith_49 rfl (j := 2) rfl ?_
        refine v_callV_wI C [I a1, I a2] [] (Cee.of (rm := rX8_scoreThen) tw_1387 tw_9 hX8_scoreThen rfl rfl hRm (Nat.le_of_ble_eq_true rfl) (Nat.le_of_ble_eq_true rfl)) (fun x h => kX8_scoreThen X.2.1 w P n h) tw_1384 tw_1386 ts_79 rfl (ci := 8) rfl (by decide) rfl rfl (Nat.le_of_ble_eq_true rfl) ⟨Nat.zero_le _, Nat.zero_le _⟩ dX8_scoreWith_50 (fun q6 => ?_)
        obtain ⟨x7, s8⟩ := q6
        refine v_goto (tgt := 57) C dX8_scoreWith_53 rfl ?_
        exact v_iret C rfl hO pI dX8_scoreWith_57
    · skip
      refine v_iconst C dX8_scoreWith_37 ?_
      exact v_iret C rfl hO pI dX8_scoreWith_38
  intro k27 hk27
  refine v_if_ne (tgt := 13) C dX8_scoreWith_6 rfl ?_ ?_
  · skip
    refine v_iload_n C dX8_scoreWith_13 rfl (j := 2) rfl ?_
    refine v_iconst C dX8_scoreWith_14 ?_
    refine v_iconst C dX8_scoreWith_15 ?_
    refine v_callS_rI C [I a2, I 0, I 3] [A w a0] (Cee.of (rm := rX8_within) tw_1228 tw_9 hX8_within rfl rfl hRm (Nat.le_of_ble_eq_true rfl) (Nat.le_of_ble_eq_true rfl)) (fun x h => kX8_within X.2.1 w P n h) tw_1226 tw_1227 rfl rfl (Nat.le_of_ble_eq_true rfl) ⟨Nat.zero_le _, Nat.zero_le _⟩ dX8_scoreWith_16 (fun x9 => ?_)
    refine v_if_ne (tgt := 26) C dX8_scoreWith_19 rfl ?_ ?_
    · skip
      refine v_iconst C dX8_scoreWith_26 ?_
      exact hk27 0
    · skip
      refine v_iconst C dX8_scoreWith_22 ?_
      refine v_goto (tgt := 27) C dX8_scoreWith_23 rfl ?_
      exact hk27 2
  · skip
    refine v_iconst C dX8_scoreWith_9 ?_
    refine v_goto (tgt := 27) C dX8_scoreWith_10 rfl ?_
    exact hk27 1
-- ForesightHubModel.feared
set_option maxRecDepth 100000 in
theorem vX8_feared_L28 {X : Cxt} {w : Wd} {P : Shp} {n : Nat} (res : Int × St) (hRm : X.2.2.2.1 = rX8_feared) (C : Cok X w cX8_feared 3 RX8 (some FieldType.int)) (hO : Own X w 0 0 (QI w P n res.1 res.2))  (c0 : Int) (c1 : Int) (kE64 : St → Option (Int × St)) (kE56 : Int → St → Option (Int × St)) (hE64 : ∀ (se : St), V X w 3 P n 0 0 res (kE64 se) se 64 [] []) (hE56 : ∀ (p2e : Int) (se : St), V X w 3 P n 0 0 res (kE56 p2e se) se 56 [(2, I p2e)] []) : ∀ (fuel : Nat) (p2 : Int) (s : St), V X w 3 P n 0 0 res (fX8_feared_L28 P c0 c1 kE64 kE56 fuel p2 s) s 28 [(0, A w c0), (1, I c1), (2, I p2)] [] := by
  intro fuel
  induction fuel with
  | zero => intro p2 s; exact v_none
  | succ m ih =>
    intro p2 s
    rw [fX8_feared_L28]
    refine v_iload_n C dX8_feared_28 rfl (j := 2) rfl ?_
    refine v_iconst C dX8_feared_29 ?_
    refine v_icmp_ge (tgt := 64) C dX8_feared_30 rfl ?_ ?_
    · skip
      refine v_sub [] [] rfl ?_
      exact hE64 s
    · skip
      refine v_aload_n C dX8_feared_33 rfl (j := 0) rfl ?_
      refine v_iload_n C dX8_feared_34 rfl (j := 1) rfl ?_
      refine v_callV_rI C [I c1] [] (Cee.of (rm := rX8_isGood) tw_1115 tw_9 hX8_isGood rfl rfl hRm (Nat.le_of_ble_eq_true rfl) (Nat.le_of_ble_eq_true rfl)) (fun x h => kX8_isGood X.2.1 w P n h) tw_1112 tw_1114 ts_44 rfl (ci := 8) rfl (by decide) rfl rfl (Nat.le_of_ble_eq_true rfl) ⟨Nat.zero_le _, Nat.zero_le _⟩ dX8_feared_35 (fun x5 => ?_)
      refine v_if_eq (tgt := 64) C dX8_feared_38 rfl ?_ ?_
      · skip
        refine v_sub [] [] rfl ?_
        exact hE64 s
      · skip
        refine v_aload_n C dX8_feared_41 rfl (j := 0) rfl ?_
        refine v_iload_n C dX8_feared_42 rfl (j := 1) rfl ?_
        refine v_iload_n C dX8_feared_43 rfl (j := 2) rfl ?_
        refine v_callV_wI C [I c1, I p2] [] (Cee.of (rm := rX8_scoreThen) tw_1387 tw_9 hX8_scoreThen rfl rfl hRm (Nat.le_of_ble_eq_true rfl) (Nat.le_of_ble_eq_true rfl)) (fun x h => kX8_scoreThen X.2.1 w P n h) tw_1384 tw_1386 ts_79 rfl (ci := 8) rfl (by decide) rfl rfl (Nat.le_of_ble_eq_true rfl) ⟨Nat.zero_le _, Nat.zero_le _⟩ dX8_feared_44 (fun q6 => ?_)
        obtain ⟨x7, s8⟩ := q6
        refine v_aload_n C dX8_feared_47 rfl (j := 0) rfl ?_
        refine v_getR C 14 rfl (T := TX8) rfl inB8 (by decide) (by decide) rfl tw_1154 dX8_feared_48 (fun x9 => ?_)
        refine v_iconst C dX8_feared_51 ?_
        refine v_iald C dX8_feared_52 (fun x10 => ?_)
        refine v_icmp_lt (tgt := 58) C dX8_feared_53 rfl ?_ ?_
        · skip
          refine v_iinc C (j := 2) [(0, A w c0), (1, I c1)] dX8_feared_58 (by decide) rfl (fun _ => rfl) (fun x11 => ?_)
          refine v_goto (tgt := 28) C dX8_feared_61 rfl ?_
          refine v_sub [(0, A w c0), (1, I c1), (2, I x11)] [1, 2, 0] rfl ?_
          exact ih x11 s8
        · skip
          refine v_sub [(2, I p2)] [2] rfl ?_
          exact hE56 p2 s8
theorem hX8_feared : yX8_feared.cls ≠ "java/lang/invoke/MethodHandle" ∧ yX8_feared.cls ≠ "java/lang/invoke/VarHandle" ∧ (parseMethodDescriptor yX8_feared.desc).map (fun d => d.parameters.length) = some 1 := by decide +kernel
set_option maxRecDepth 100000 in
theorem kX8_feared (l : Launch) (w : Wd) (P : Shp) (n : Nat) {s : St} {a0 : Int} {a1 : Int} {res : Int × St} (h : fX8_feared P s a0 a1 = some res) : Ct l w yX8_feared cX8_feared 3 (some FieldType.int) rX8_feared P n [A w a0, I a1] s (QI w P n res.1 res.2) :=
  Ct.of h (by decide) (Nat.le_of_ble_eq_true rfl) (lv := [(0, A w a0), (1, I a1)]) rfl fun X hl hRm C hO => by
  subst hl
  unfold fX8_feared
  refine v_aload_n C dX8_feared_0 rfl (j := 0) rfl ?_
  refine v_aload_n C dX8_feared_1 rfl (j := 0) rfl ?_
  refine v_iload_n C dX8_feared_2 rfl (j := 1) rfl ?_
  refine v_callV_rI C [I a1] [A w a0] (Cee.of (rm := rX8_isDevice) tw_1331 tw_9 hX8_isDevice rfl rfl hRm (Nat.le_of_ble_eq_true rfl) (Nat.le_of_ble_eq_true rfl)) (fun x h => kX8_isDevice X.2.1 w P n h) tw_1328 tw_1330 ts_70 rfl (ci := 8) rfl (by decide) rfl rfl (Nat.le_of_ble_eq_true rfl) ⟨Nat.zero_le _, Nat.zero_le _⟩ dX8_feared_3 (fun x1 => ?_)
  refine v_jnt (fun (k14 : Int → Option (Int × St)) => ∀ (x2 : Int), V X w 3 P n 0 0 res (k14 x2) s 14 [(0, A w a0), (1, I a1)] [I x2, A w a0]) ?_ ?_
  · intro x2
    refine v_putI C 0 rfl (T := TX8) rfl inB8 (by decide) tyX8_ok nmX8 (by decide) rfl rfl tw_1140 dX8_feared_14 rfl (fun s3 => ?_)
    refine v_aload_n C dX8_feared_17 rfl (j := 0) rfl ?_
    refine v_getI C 0 rfl (T := TX8) rfl inB8 (by decide) (by decide) rfl tw_1140 dX8_feared_18 (fun x4 => ?_)
    refine v_if_le (tgt := 26) C dX8_feared_21 rfl ?_ ?_
    · skip
      refine v_iconst C dX8_feared_26 ?_
      refine v_istore_n C [(2, I 0), (0, A w a0), (1, I a1)] dX8_feared_27 rfl (by decide) rfl ?_
      refine v_sub [(0, A w a0), (1, I a1), (2, I 0)] [1, 2, 0] rfl ?_
      refine vX8_feared_L28 res hRm C hO a0 a1 _ _ ?_ ?_ 1000 0 s3
      · intro s12
        refine v_iconst C dX8_feared_64 ?_
        exact v_iret C rfl hO pI dX8_feared_65
      · intro x13 s14
        refine v_iload_n C dX8_feared_56 rfl (j := 0) rfl ?_
        exact v_iret C rfl hO pI dX8_feared_57
    · skip
      refine v_iconst C dX8_feared_24 ?_
      exact v_iret C rfl hO pI dX8_feared_25
  intro k14 hk14
  refine v_if_eq (tgt := 13) C dX8_feared_6 rfl ?_ ?_
  · skip
    refine v_iconst C dX8_feared_13 ?_
    exact hk14 1
  · skip
    refine v_iconst C dX8_feared_9 ?_
    refine v_goto (tgt := 14) C dX8_feared_10 rfl ?_
    exact hk14 0
-- ForesightHubModel.clearing
set_option maxRecDepth 100000 in
theorem vX8_clearing_L4 {X : Cxt} {w : Wd} {P : Shp} {n : Nat} {s : St} (res : Int) (hRm : X.2.2.2.1 = rX8_clearing) (C : Cok X w cX8_clearing 5 RX8 (some FieldType.int)) (hO : Own X w 0 0 (QI w P n res s))  (c0 : Int) (c1 : Int) (kE90 : Int → Option (Int)) (hE90 : ∀ (p2e : Int), V X w 5 P n 0 0 res (kE90 p2e) s 90 [(2, I p2e)] []) : ∀ (fuel : Nat) (p2 p3 : Int), V X w 5 P n 0 0 res (fX8_clearing_L4 P s c0 c1 kE90 fuel p2 p3) s 4 [(0, A w c0), (1, I c1), (2, I p2), (3, I p3)] [] := by
  intro fuel
  induction fuel with
  | zero => intro p2 p3; exact v_none
  | succ m ih =>
    intro p2 p3
    rw [fX8_clearing_L4]
    refine v_iload_n C dX8_clearing_4 rfl (j := 3) rfl ?_
    refine v_aload_n C dX8_clearing_5 rfl (j := 0) rfl ?_
    refine v_callV_rI C [] [I p3] (Cee.of (rm := rX8_streams) tw_1092 tw_9 hX8_streams rfl rfl hRm (Nat.le_of_ble_eq_true rfl) (Nat.le_of_ble_eq_true rfl)) (fun x h => kX8_streams X.2.1 w P n h) tw_1089 tw_1091 ts_39 rfl (ci := 8) rfl (by decide) rfl rfl (Nat.le_of_ble_eq_true rfl) ⟨Nat.zero_le _, Nat.zero_le _⟩ dX8_clearing_6 (fun x1 => ?_)
    refine v_icmp_ge (tgt := 90) C dX8_clearing_9 rfl ?_ ?_
    · skip
      refine v_sub [(2, I p2)] [2] rfl ?_
      exact hE90 p2
    · skip
      refine v_aload_n C dX8_clearing_12 rfl (j := 0) rfl ?_
      refine v_iload_n C dX8_clearing_13 rfl (j := 3) rfl ?_
      refine v_iload_n C dX8_clearing_14 rfl (j := 1) rfl ?_
      refine v_callV_rI C [I p3, I c1] [] (Cee.of (rm := rX8_isHeldBy) tw_1351 tw_9 hX8_isHeldBy rfl rfl hRm (Nat.le_of_ble_eq_true rfl) (Nat.le_of_ble_eq_true rfl)) (fun x h => kX8_isHeldBy X.2.1 w P n h) tw_1348 tw_1350 ts_75 rfl (ci := 8) rfl (by decide) rfl rfl (Nat.le_of_ble_eq_true rfl) ⟨Nat.zero_le _, Nat.zero_le _⟩ dX8_clearing_15 (fun x2 => ?_)
      refine v_jnt (fun (k84 : Int → Option (Int)) => ∀ (x3 : Int), V X w 5 P n 0 0 res (k84 x3) s 84 [(0, A w c0), (1, I c1), (2, I x3), (3, I p3)] []) ?_ ?_
      · intro x3
        refine v_iinc C (j := 3) [(0, A w c0), (1, I c1), (2, I x3)] dX8_clearing_84 (by decide) rfl (fun _ => rfl) (fun x4 => ?_)
        refine v_goto (tgt := 4) C dX8_clearing_87 rfl ?_
        refine v_sub [(0, A w c0), (1, I c1), (2, I x3), (3, I x4)] [1, 2, 3, 0] rfl ?_
        exact ih x3 x4
      intro k84 hk84
      refine v_if_eq (tgt := 84) C dX8_clearing_18 rfl ?_ ?_
      · skip
        exact hk84 p2
      · skip
        refine v_aload_n C dX8_clearing_21 rfl (j := 0) rfl ?_
        refine v_getR C 14 rfl (T := TX8) rfl inB8 (by decide) (by decide) rfl tw_1154 dX8_clearing_22 (fun x5 => ?_)
        refine v_iload_n C dX8_clearing_25 rfl (j := 3) rfl ?_
        refine v_callS_rI C [I p3] [A w x5] (Cee.of (rm := rX8_in) tw_1095 tw_9 hX8_in rfl rfl hRm (Nat.le_of_ble_eq_true rfl) (Nat.le_of_ble_eq_true rfl)) (fun x h => kX8_in X.2.1 w P n h) tw_1093 tw_1094 rfl rfl (Nat.le_of_ble_eq_true rfl) ⟨Nat.zero_le _, Nat.zero_le _⟩ dX8_clearing_26 (fun x6 => ?_)
        refine v_iconst C dX8_clearing_29 ?_
        refine v_iadd C dX8_clearing_30 ?_
        refine v_iald C dX8_clearing_31 (fun x7 => ?_)
        refine v_if_ne (tgt := 38) C dX8_clearing_32 rfl ?_ ?_
        · skip
          refine v_aload_n C dX8_clearing_38 rfl (j := 0) rfl ?_
          refine v_iload_n C dX8_clearing_39 rfl (j := 3) rfl ?_
          refine v_callV_rI C [I p3] [] (Cee.of (rm := rX8_packetOf) tw_1367 tw_9 hX8_packetOf rfl rfl hRm (Nat.le_of_ble_eq_true rfl) (Nat.le_of_ble_eq_true rfl)) (fun x h => kX8_packetOf X.2.1 w P n h) tw_1364 tw_1366 ts_78 rfl (ci := 8) rfl (by decide) rfl rfl (Nat.le_of_ble_eq_true rfl) ⟨Nat.zero_le _, Nat.zero_le _⟩ dX8_clearing_40 (fun x8 => ?_)
          refine v_aload_n C dX8_clearing_43 rfl (j := 0) rfl ?_
          refine v_getR C 14 rfl (T := TX8) rfl inB8 (by decide) (by decide) rfl tw_1154 dX8_clearing_44 (fun x9 => ?_)
          refine v_iload_n C dX8_clearing_47 rfl (j := 3) rfl ?_
          refine v_callS_rI C [I p3] [A w x9, I x8] (Cee.of (rm := rX8_in) tw_1095 tw_9 hX8_in rfl rfl hRm (Nat.le_of_ble_eq_true rfl) (Nat.le_of_ble_eq_true rfl)) (fun x h => kX8_in X.2.1 w P n h) tw_1093 tw_1094 rfl rfl (Nat.le_of_ble_eq_true rfl) ⟨Nat.zero_le _, Nat.zero_le _⟩ dX8_clearing_48 (fun x10 => ?_)
          refine v_iconst C dX8_clearing_51 ?_
          refine v_iadd C dX8_clearing_52 ?_
          refine v_iald C dX8_clearing_53 (fun x11 => ?_)
          refine v_isub C dX8_clearing_54 ?_
          refine v_aload_n C dX8_clearing_55 rfl (j := 0) rfl ?_
          refine v_iload_n C dX8_clearing_56 rfl (j := 3) rfl ?_
          refine v_callV_rI C [I p3] [I (x8 - x11)] (Cee.of (rm := rX8_rateOf) tw_1135 tw_9 hX8_rateOf rfl rfl hRm (Nat.le_of_ble_eq_true rfl) (Nat.le_of_ble_eq_true rfl)) (fun x h => kX8_rateOf X.2.1 w P n h) tw_1132 tw_1134 ts_49 rfl (ci := 8) rfl (by decide) rfl rfl (Nat.le_of_ble_eq_true rfl) ⟨Nat.zero_le _, Nat.zero_le _⟩ dX8_clearing_57 (fun x12 => ?_)
          refine v_iadd C dX8_clearing_60 ?_
          refine v_iconst C dX8_clearing_61 ?_
          refine v_isub C dX8_clearing_62 ?_
          refine v_aload_n C dX8_clearing_63 rfl (j := 0) rfl ?_
          refine v_iload_n C dX8_clearing_64 rfl (j := 3) rfl ?_
          refine v_callV_rI C [I p3] [I (((x8 - x11) + x12) - 1)] (Cee.of (rm := rX8_rateOf) tw_1135 tw_9 hX8_rateOf rfl rfl hRm (Nat.le_of_ble_eq_true rfl) (Nat.le_of_ble_eq_true rfl)) (fun x h => kX8_rateOf X.2.1 w P n h) tw_1132 tw_1134 ts_49 rfl (ci := 8) rfl (by decide) rfl rfl (Nat.le_of_ble_eq_true rfl) ⟨Nat.zero_le _, Nat.zero_le _⟩ dX8_clearing_65 (fun x13 => ?_)
          refine v_idiv C dX8_clearing_68 (fun x14 => ?_)
          refine v_istore C [(4, I x14), (0, A w c0), (1, I c1), (2, I p2), (3, I p3)] dX8_clearing_69 (by decide) rfl ?_
          refine v_iload C dX8_clearing_71 (j := 0) rfl ?_
          refine v_iload_n C dX8_clearing_73 rfl (j := 3) rfl ?_
          refine v_jnt (fun (k83 : Int → Option (Int)) => ∀ (x15 : Int), V X w 5 P n 0 0 res (k83 x15) s 83 [(0, A w c0), (1, I c1), (3, I p3)] [I x15]) ?_ ?_
          · intro x15
            refine v_istore_n C [(2, I x15), (0, A w c0), (1, I c1), (3, I p3)] dX8_clearing_83 rfl (by decide) rfl ?_
            refine v_sub [(0, A w c0), (1, I c1), (2, I x15), (3, I p3)] [1, 2, 0, 3] rfl ?_
            exact hk84 x15
          intro k83 hk83
          refine v_icmp_le (tgt := 82) C dX8_clearing_74 rfl ?_ ?_
          · skip
            refine v_iload_n C dX8_clearing_82 rfl (j := 3) rfl ?_
            refine v_sub [(0, A w c0), (1, I c1), (3, I p3)] [1, 2, 4] rfl ?_
            exact hk83 p2
          · skip
            refine v_iload C dX8_clearing_77 (j := 0) rfl ?_
            refine v_goto (tgt := 83) C dX8_clearing_79 rfl ?_
            refine v_sub [(0, A w c0), (1, I c1), (3, I p3)] [1, 2, 4] rfl ?_
            exact hk83 x14
        · skip
          refine v_goto (tgt := 84) C dX8_clearing_35 rfl ?_
          exact hk84 p2
theorem hX8_clearing : yX8_clearing.cls ≠ "java/lang/invoke/MethodHandle" ∧ yX8_clearing.cls ≠ "java/lang/invoke/VarHandle" ∧ (parseMethodDescriptor yX8_clearing.desc).map (fun d => d.parameters.length) = some 1 := by decide +kernel
set_option maxRecDepth 100000 in
theorem kX8_clearing (l : Launch) (w : Wd) (P : Shp) (n : Nat) {s : St} {a0 : Int} {a1 : Int} {res : Int} (h : fX8_clearing P s a0 a1 = some res) : Ct l w yX8_clearing cX8_clearing 5 (some FieldType.int) rX8_clearing P n [A w a0, I a1] s (QI w P n res s) :=
  Ct.of h (by decide) (Nat.le_of_ble_eq_true rfl) (lv := [(0, A w a0), (1, I a1)]) rfl fun X hl hRm C hO => by
  subst hl
  unfold fX8_clearing
  refine v_iconst C dX8_clearing_0 ?_
  refine v_istore_n C [(2, I 0), (0, A w a0), (1, I a1)] dX8_clearing_1 rfl (by decide) rfl ?_
  refine v_iconst C dX8_clearing_2 ?_
  refine v_istore_n C [(3, I 0), (2, I 0), (0, A w a0), (1, I a1)] dX8_clearing_3 rfl (by decide) rfl ?_
  refine v_sub [(0, A w a0), (1, I a1), (2, I 0), (3, I 0)] [2, 3, 1, 0] rfl ?_
  refine vX8_clearing_L4 res hRm C hO a0 a1 _ ?_ 1000 0 0
  · intro x16
    refine v_iload_n C dX8_clearing_90 rfl (j := 0) rfl ?_
    exact v_iret C rfl hO pS dX8_clearing_91
-- ForesightHubModel.framesToClear
theorem hX8_framesToClear : yX8_framesToClear.cls ≠ "java/lang/invoke/MethodHandle" ∧ yX8_framesToClear.cls ≠ "java/lang/invoke/VarHandle" ∧ (parseMethodDescriptor yX8_framesToClear.desc).map (fun d => d.parameters.length) = some 1 := by decide +kernel
set_option maxRecDepth 100000 in
theorem kX8_framesToClear (l : Launch) (w : Wd) (P : Shp) (n : Nat) {s : St} {a0 : Int} {a1 : Int} {res : Int × St} (h : fX8_framesToClear P s a0 a1 = some res) : Ct l w yX8_framesToClear cX8_framesToClear 2 (some FieldType.int) rX8_framesToClear P n [A w a0, I a1] s (QI w P n res.1 res.2) :=
  Ct.of h (by decide) (Nat.le_of_ble_eq_true rfl) (lv := [(0, A w a0), (1, I a1)]) rfl fun X hl hRm C hO => by
  subst hl
  unfold fX8_framesToClear
  refine v_aload_n C dX8_framesToClear_0 rfl (j := 0) rfl ?_
  refine v_aload_n C dX8_framesToClear_1 rfl (j := 0) rfl ?_
  refine v_iload_n C dX8_framesToClear_2 rfl (j := 1) rfl ?_
  refine v_callV_rI C [I a1] [A w a0] (Cee.of (rm := rX8_isDevice) tw_1331 tw_9 hX8_isDevice rfl rfl hRm (Nat.le_of_ble_eq_true rfl) (Nat.le_of_ble_eq_true rfl)) (fun x h => kX8_isDevice X.2.1 w P n h) tw_1328 tw_1330 ts_70 rfl (ci := 8) rfl (by decide) rfl rfl (Nat.le_of_ble_eq_true rfl) ⟨Nat.zero_le _, Nat.zero_le _⟩ dX8_framesToClear_3 (fun x1 => ?_)
  refine v_jnt (fun (k14 : Int → Option (Int × St)) => ∀ (x2 : Int), V X w 2 P n 0 0 res (k14 x2) s 14 [(0, A w a0), (1, I a1)] [I x2, A w a0]) ?_ ?_
  · intro x2
    refine v_putI C 0 rfl (T := TX8) rfl inB8 (by decide) tyX8_ok nmX8 (by decide) rfl rfl tw_1140 dX8_framesToClear_14 rfl (fun s3 => ?_)
    refine v_aload_n C dX8_framesToClear_17 rfl (j := 0) rfl ?_
    refine v_getI C 0 rfl (T := TX8) rfl inB8 (by decide) (by decide) rfl tw_1140 dX8_framesToClear_18 (fun x4 => ?_)
    refine v_if_ne (tgt := 32) C dX8_framesToClear_21 rfl ?_ ?_
    · skip
      refine v_iconst C dX8_framesToClear_32 ?_
      exact v_iret C rfl hO pI dX8_framesToClear_33
    · skip
      refine v_aload_n C dX8_framesToClear_24 rfl (j := 0) rfl ?_
      refine v_iload_n C dX8_framesToClear_25 rfl (j := 1) rfl ?_
      refine v_callV_rI C [I a1] [] (Cee.of (rm := rX8_clearing) tw_1403 tw_9 hX8_clearing rfl rfl hRm (Nat.le_of_ble_eq_true rfl) (Nat.le_of_ble_eq_true rfl)) (fun x h => kX8_clearing X.2.1 w P n h) tw_1400 tw_1402 ts_81 rfl (ci := 8) rfl (by decide) rfl rfl (Nat.le_of_ble_eq_true rfl) ⟨Nat.zero_le _, Nat.zero_le _⟩ dX8_framesToClear_26 (fun x5 => ?_)
      refine v_goto (tgt := 33) C dX8_framesToClear_29 rfl ?_
      exact v_iret C rfl hO pI dX8_framesToClear_33
  intro k14 hk14
  refine v_if_eq (tgt := 13) C dX8_framesToClear_6 rfl ?_ ?_
  · skip
    refine v_iconst C dX8_framesToClear_13 ?_
    exact hk14 1
  · skip
    refine v_iconst C dX8_framesToClear_9 ?_
    refine v_goto (tgt := 14) C dX8_framesToClear_10 rfl ?_
    exact hk14 0
-- ForesightHubModel.stake
set_option maxRecDepth 100000 in
theorem vX8_stake_L4 {X : Cxt} {w : Wd} {P : Shp} {n : Nat} {s : St} (res : Int) (hRm : X.2.2.2.1 = rX8_stake) (C : Cok X w cX8_stake 4 RX8 (some FieldType.int)) (hO : Own X w 0 0 (QI w P n res s))  (c0 : Int) (c1 : Int) (kE45 : Int → Option (Int)) (hE45 : ∀ (p2e : Int), V X w 4 P n 0 0 res (kE45 p2e) s 45 [(2, I p2e)] []) : ∀ (fuel : Nat) (p2 p3 : Int), V X w 4 P n 0 0 res (fX8_stake_L4 P s c0 c1 kE45 fuel p2 p3) s 4 [(0, A w c0), (1, I c1), (2, I p2), (3, I p3)] [] := by
  intro fuel
  induction fuel with
  | zero => intro p2 p3; exact v_none
  | succ m ih =>
    intro p2 p3
    rw [fX8_stake_L4]
    refine v_iload_n C dX8_stake_4 rfl (j := 3) rfl ?_
    refine v_aload_n C dX8_stake_5 rfl (j := 0) rfl ?_
    refine v_callV_rI C [] [I p3] (Cee.of (rm := rX8_streams) tw_1092 tw_9 hX8_streams rfl rfl hRm (Nat.le_of_ble_eq_true rfl) (Nat.le_of_ble_eq_true rfl)) (fun x h => kX8_streams X.2.1 w P n h) tw_1089 tw_1091 ts_39 rfl (ci := 8) rfl (by decide) rfl rfl (Nat.le_of_ble_eq_true rfl) ⟨Nat.zero_le _, Nat.zero_le _⟩ dX8_stake_6 (fun x1 => ?_)
    refine v_icmp_ge (tgt := 45) C dX8_stake_9 rfl ?_ ?_
    · skip
      refine v_sub [(2, I p2)] [2] rfl ?_
      exact hE45 p2
    · skip
      refine v_iload_n C dX8_stake_12 rfl (j := 2) rfl ?_
      refine v_aload_n C dX8_stake_13 rfl (j := 0) rfl ?_
      refine v_iload_n C dX8_stake_14 rfl (j := 3) rfl ?_
      refine v_iload_n C dX8_stake_15 rfl (j := 1) rfl ?_
      refine v_callV_rI C [I p3, I c1] [I p2] (Cee.of (rm := rX8_isHeldBy) tw_1351 tw_9 hX8_isHeldBy rfl rfl hRm (Nat.le_of_ble_eq_true rfl) (Nat.le_of_ble_eq_true rfl)) (fun x h => kX8_isHeldBy X.2.1 w P n h) tw_1348 tw_1350 ts_75 rfl (ci := 8) rfl (by decide) rfl rfl (Nat.le_of_ble_eq_true rfl) ⟨Nat.zero_le _, Nat.zero_le _⟩ dX8_stake_16 (fun x2 => ?_)
      refine v_jnt (fun (k37 : Int → Option (Int)) => ∀ (x3 : Int), V X w 4 P n 0 0 res (k37 x3) s 37 [(0, A w c0), (1, I c1), (3, I p3)] [I x3, I p2]) ?_ ?_
      · intro x3
        refine v_iadd C dX8_stake_37 ?_
        refine v_bdI (fun x4 => ?_)
        refine v_istore_n C [(2, I x4), (0, A w c0), (1, I c1), (3, I p3)] dX8_stake_38 rfl (by decide) rfl ?_
        refine v_iinc C (j := 3) [(2, I x4), (0, A w c0), (1, I c1)] dX8_stake_39 (by decide) rfl (fun _ => rfl) (fun x5 => ?_)
        refine v_goto (tgt := 4) C dX8_stake_42 rfl ?_
        refine v_sub [(0, A w c0), (1, I c1), (2, I x4), (3, I x5)] [2, 3, 1, 0] rfl ?_
        exact ih x4 x5
      intro k37 hk37
      refine v_if_eq (tgt := 36) C dX8_stake_19 rfl ?_ ?_
      · skip
        refine v_iconst C dX8_stake_36 ?_
        refine v_sub [(0, A w c0), (1, I c1), (3, I p3)] [0, 1, 3] rfl ?_
        exact hk37 0
      · skip
        refine v_aload_n C dX8_stake_22 rfl (j := 0) rfl ?_
        refine v_getR C 14 rfl (T := TX8) rfl inB8 (by decide) (by decide) rfl tw_1154 dX8_stake_23 (fun x6 => ?_)
        refine v_iload_n C dX8_stake_26 rfl (j := 3) rfl ?_
        refine v_callS_rI C [I p3] [A w x6, I p2] (Cee.of (rm := rX8_in) tw_1095 tw_9 hX8_in rfl rfl hRm (Nat.le_of_ble_eq_true rfl) (Nat.le_of_ble_eq_true rfl)) (fun x h => kX8_in X.2.1 w P n h) tw_1093 tw_1094 rfl rfl (Nat.le_of_ble_eq_true rfl) ⟨Nat.zero_le _, Nat.zero_le _⟩ dX8_stake_27 (fun x7 => ?_)
        refine v_iconst C dX8_stake_30 ?_
        refine v_iadd C dX8_stake_31 ?_
        refine v_iald C dX8_stake_32 (fun x8 => ?_)
        refine v_goto (tgt := 37) C dX8_stake_33 rfl ?_
        refine v_sub [(0, A w c0), (1, I c1), (3, I p3)] [0, 1, 3] rfl ?_
        exact hk37 x8
theorem hX8_stake : yX8_stake.cls ≠ "java/lang/invoke/MethodHandle" ∧ yX8_stake.cls ≠ "java/lang/invoke/VarHandle" ∧ (parseMethodDescriptor yX8_stake.desc).map (fun d => d.parameters.length) = some 1 := by decide +kernel
set_option maxRecDepth 100000 in
theorem kX8_stake (l : Launch) (w : Wd) (P : Shp) (n : Nat) {s : St} {a0 : Int} {a1 : Int} {res : Int} (h : fX8_stake P s a0 a1 = some res) : Ct l w yX8_stake cX8_stake 4 (some FieldType.int) rX8_stake P n [A w a0, I a1] s (QI w P n res s) :=
  Ct.of h (by decide) (Nat.le_of_ble_eq_true rfl) (lv := [(0, A w a0), (1, I a1)]) rfl fun X hl hRm C hO => by
  subst hl
  unfold fX8_stake
  refine v_iconst C dX8_stake_0 ?_
  refine v_istore_n C [(2, I 0), (0, A w a0), (1, I a1)] dX8_stake_1 rfl (by decide) rfl ?_
  refine v_iconst C dX8_stake_2 ?_
  refine v_istore_n C [(3, I 0), (2, I 0), (0, A w a0), (1, I a1)] dX8_stake_3 rfl (by decide) rfl ?_
  refine v_sub [(0, A w a0), (1, I a1), (2, I 0), (3, I 0)] [2, 3, 1, 0] rfl ?_
  refine vX8_stake_L4 res hRm C hO a0 a1 _ ?_ 1000 0 0
  · intro x9
    refine v_iload_n C dX8_stake_45 rfl (j := 0) rfl ?_
    exact v_iret C rfl hO pS dX8_stake_46
-- ForesightHubModel.atStake
theorem hX8_atStake : yX8_atStake.cls ≠ "java/lang/invoke/MethodHandle" ∧ yX8_atStake.cls ≠ "java/lang/invoke/VarHandle" ∧ (parseMethodDescriptor yX8_atStake.desc).map (fun d => d.parameters.length) = some 1 := by decide +kernel
set_option maxRecDepth 100000 in
theorem kX8_atStake (l : Launch) (w : Wd) (P : Shp) (n : Nat) {s : St} {a0 : Int} {a1 : Int} {res : Int × St} (h : fX8_atStake P s a0 a1 = some res) : Ct l w yX8_atStake cX8_atStake 2 (some FieldType.int) rX8_atStake P n [A w a0, I a1] s (QI w P n res.1 res.2) :=
  Ct.of h (by decide) (Nat.le_of_ble_eq_true rfl) (lv := [(0, A w a0), (1, I a1)]) rfl fun X hl hRm C hO => by
  subst hl
  unfold fX8_atStake
  refine v_aload_n C dX8_atStake_0 rfl (j := 0) rfl ?_
  refine v_aload_n C dX8_atStake_1 rfl (j := 0) rfl ?_
  refine v_iload_n C dX8_atStake_2 rfl (j := 1) rfl ?_
  refine v_callV_rI C [I a1] [A w a0] (Cee.of (rm := rX8_isDevice) tw_1331 tw_9 hX8_isDevice rfl rfl hRm (Nat.le_of_ble_eq_true rfl) (Nat.le_of_ble_eq_true rfl)) (fun x h => kX8_isDevice X.2.1 w P n h) tw_1328 tw_1330 ts_70 rfl (ci := 8) rfl (by decide) rfl rfl (Nat.le_of_ble_eq_true rfl) ⟨Nat.zero_le _, Nat.zero_le _⟩ dX8_atStake_3 (fun x1 => ?_)
  refine v_jnt (fun (k14 : Int → Option (Int × St)) => ∀ (x2 : Int), V X w 2 P n 0 0 res (k14 x2) s 14 [(0, A w a0), (1, I a1)] [I x2, A w a0]) ?_ ?_
  · intro x2
    refine v_putI C 0 rfl (T := TX8) rfl inB8 (by decide) tyX8_ok nmX8 (by decide) rfl rfl tw_1140 dX8_atStake_14 rfl (fun s3 => ?_)
    refine v_aload_n C dX8_atStake_17 rfl (j := 0) rfl ?_
    refine v_getI C 0 rfl (T := TX8) rfl inB8 (by decide) (by decide) rfl tw_1140 dX8_atStake_18 (fun x4 => ?_)
    refine v_if_ne (tgt := 32) C dX8_atStake_21 rfl ?_ ?_
    · skip
      refine v_iconst C dX8_atStake_32 ?_
      exact v_iret C rfl hO pI dX8_atStake_33
    · skip
      refine v_aload_n C dX8_atStake_24 rfl (j := 0) rfl ?_
      refine v_iload_n C dX8_atStake_25 rfl (j := 1) rfl ?_
      refine v_callV_rI C [I a1] [] (Cee.of (rm := rX8_stake) tw_1411 tw_9 hX8_stake rfl rfl hRm (Nat.le_of_ble_eq_true rfl) (Nat.le_of_ble_eq_true rfl)) (fun x h => kX8_stake X.2.1 w P n h) tw_1408 tw_1410 ts_82 rfl (ci := 8) rfl (by decide) rfl rfl (Nat.le_of_ble_eq_true rfl) ⟨Nat.zero_le _, Nat.zero_le _⟩ dX8_atStake_26 (fun x5 => ?_)
      refine v_goto (tgt := 33) C dX8_atStake_29 rfl ?_
      exact v_iret C rfl hO pI dX8_atStake_33
  intro k14 hk14
  refine v_if_eq (tgt := 13) C dX8_atStake_6 rfl ?_ ?_
  · skip
    refine v_iconst C dX8_atStake_13 ?_
    exact hk14 1
  · skip
    refine v_iconst C dX8_atStake_9 ?_
    refine v_goto (tgt := 14) C dX8_atStake_10 rfl ?_
    exact hk14 0
-- ForesightHubModel.weakest
set_option maxRecDepth 100000 in
theorem vX8_weakest_L9 {X : Cxt} {w : Wd} {P : Shp} {n : Nat} {s : St} (res : Int × St) (hRm : X.2.2.2.1 = rX8_weakest) (C : Cok X w cX8_weakest 3 RX8 (some FieldType.int)) (hO : Own X w 0 0 (QI w P n res.1 res.2))  (c0 : Int) (kE55 : Int → Option (Int × St)) (hE55 : ∀ (p1e : Int), V X w 3 P n 0 0 res (kE55 p1e) s 55 [(1, I p1e)] []) : ∀ (fuel : Nat) (p1 p2 : Int), V X w 3 P n 0 0 res (fX8_weakest_L9 P s c0 kE55 fuel p1 p2) s 9 [(0, A w c0), (1, I p1), (2, I p2)] [] := by
  intro fuel
  induction fuel with
  | zero => intro p1 p2; exact v_none
  | succ m ih =>
    intro p1 p2
    rw [fX8_weakest_L9]
    refine v_iload_n C dX8_weakest_9 rfl (j := 2) rfl ?_
    refine v_aload_n C dX8_weakest_10 rfl (j := 0) rfl ?_
    refine v_callV_rI C [] [I p2] (Cee.of (rm := rX8_devices) tw_1085 tw_9 hX8_devices rfl rfl hRm (Nat.le_of_ble_eq_true rfl) (Nat.le_of_ble_eq_true rfl)) (fun x h => kX8_devices X.2.1 w P n h) tw_1082 tw_1084 ts_38 rfl (ci := 8) rfl (by decide) rfl rfl (Nat.le_of_ble_eq_true rfl) ⟨Nat.zero_le _, Nat.zero_le _⟩ dX8_weakest_11 (fun x2 => ?_)
    refine v_icmp_ge (tgt := 55) C dX8_weakest_14 rfl ?_ ?_
    · skip
      refine v_sub [(1, I p1)] [1] rfl ?_
      exact hE55 p1
    · skip
      refine v_aload_n C dX8_weakest_17 rfl (j := 0) rfl ?_
      refine v_iload_n C dX8_weakest_18 rfl (j := 2) rfl ?_
      refine v_callV_rI C [I p2] [] (Cee.of (rm := rX8_isPlugged) tw_1119 tw_9 hX8_isPlugged rfl rfl hRm (Nat.le_of_ble_eq_true rfl) (Nat.le_of_ble_eq_true rfl)) (fun x h => kX8_isPlugged X.2.1 w P n h) tw_1116 tw_1118 ts_45 rfl (ci := 8) rfl (by decide) rfl rfl (Nat.le_of_ble_eq_true rfl) ⟨Nat.zero_le _, Nat.zero_le _⟩ dX8_weakest_19 (fun x3 => ?_)
      refine v_jnt (fun (k48 : Int → Option (Int × St)) => ∀ (x4 : Int), V X w 3 P n 0 0 res (k48 x4) s 48 [(0, A w c0), (2, I p2)] [I x4]) ?_ ?_
      · intro x4
        refine v_istore_n C [(1, I x4), (0, A w c0), (2, I p2)] dX8_weakest_48 rfl (by decide) rfl ?_
        refine v_iinc C (j := 2) [(1, I x4), (0, A w c0)] dX8_weakest_49 (by decide) rfl (fun _ => rfl) (fun x5 => ?_)
        refine v_goto (tgt := 9) C dX8_weakest_52 rfl ?_
        refine v_sub [(0, A w c0), (1, I x4), (2, I x5)] [2, 1, 0] rfl ?_
        exact ih x4 x5
      intro k48 hk48
      refine v_jnt (fun (k47 : Option (Int × St)) => V X w 3 P n 0 0 res (k47) s 47 [(0, A w c0), (1, I p1), (2, I p2)] []) ?_ ?_
      · skip
        refine v_iload_n C dX8_weakest_47 rfl (j := 1) rfl ?_
        refine v_sub [(0, A w c0), (2, I p2)] [0, 2] rfl ?_
        exact hk48 p1
      intro k47 hk47
      refine v_if_eq (tgt := 47) C dX8_weakest_22 rfl ?_ ?_
      · skip
        exact hk47
      · skip
        refine v_iload_n C dX8_weakest_25 rfl (j := 1) rfl ?_
        refine v_iconst C dX8_weakest_26 ?_
        refine v_jnt (fun (k43 : Option (Int × St)) => V X w 3 P n 0 0 res (k43) s 43 [(0, A w c0), (2, I p2)] []) ?_ ?_
        · skip
          refine v_iload_n C dX8_weakest_43 rfl (j := 1) rfl ?_
          refine v_goto (tgt := 48) C dX8_weakest_44 rfl ?_
          exact hk48 p2
        intro k43 hk43
        refine v_icmp_eq (tgt := 43) C dX8_weakest_27 rfl ?_ ?_
        · skip
          refine v_sub [(0, A w c0), (2, I p2)] [0, 2] rfl ?_
          exact hk43
        · skip
          refine v_aload_n C dX8_weakest_30 rfl (j := 0) rfl ?_
          refine v_iload_n C dX8_weakest_31 rfl (j := 2) rfl ?_
          refine v_callV_rI C [I p2] [] (Cee.of (rm := rX8_scoreOf) tw_1335 tw_9 hX8_scoreOf rfl rfl hRm (Nat.le_of_ble_eq_true rfl) (Nat.le_of_ble_eq_true rfl)) (fun x h => kX8_scoreOf X.2.1 w P n h) tw_1332 tw_1334 ts_71 rfl (ci := 8) rfl (by decide) rfl rfl (Nat.le_of_ble_eq_true rfl) ⟨Nat.zero_le _, Nat.zero_le _⟩ dX8_weakest_32 (fun x6 => ?_)
          refine v_aload_n C dX8_weakest_35 rfl (j := 0) rfl ?_
          refine v_iload_n C dX8_weakest_36 rfl (j := 1) rfl ?_
          refine v_callV_rI C [I p1] [I x6] (Cee.of (rm := rX8_scoreOf) tw_1335 tw_9 hX8_scoreOf rfl rfl hRm (Nat.le_of_ble_eq_true rfl) (Nat.le_of_ble_eq_true rfl)) (fun x h => kX8_scoreOf X.2.1 w P n h) tw_1332 tw_1334 ts_71 rfl (ci := 8) rfl (by decide) rfl rfl (Nat.le_of_ble_eq_true rfl) ⟨Nat.zero_le _, Nat.zero_le _⟩ dX8_weakest_37 (fun x7 => ?_)
          refine v_icmp_le (tgt := 47) C dX8_weakest_40 rfl ?_ ?_
          · skip
            exact hk47
          · skip
            refine v_sub [(0, A w c0), (2, I p2)] [0, 2] rfl ?_
            exact hk43
theorem hX8_weakest : yX8_weakest.cls ≠ "java/lang/invoke/MethodHandle" ∧ yX8_weakest.cls ≠ "java/lang/invoke/VarHandle" ∧ (parseMethodDescriptor yX8_weakest.desc).map (fun d => d.parameters.length) = some 0 := by decide +kernel
set_option maxRecDepth 100000 in
theorem kX8_weakest (l : Launch) (w : Wd) (P : Shp) (n : Nat) {s : St} {a0 : Int} {res : Int × St} (h : fX8_weakest P s a0 = some res) : Ct l w yX8_weakest cX8_weakest 3 (some FieldType.int) rX8_weakest P n [A w a0] s (QI w P n res.1 res.2) :=
  Ct.of h (by decide) (Nat.le_of_ble_eq_true rfl) (lv := [(0, A w a0)]) rfl fun X hl hRm C hO => by
  subst hl
  unfold fX8_weakest
  refine v_aload_n C dX8_weakest_0 rfl (j := 0) rfl ?_
  refine v_iconst C dX8_weakest_1 ?_
  refine v_putI C 0 rfl (T := TX8) rfl inB8 (by decide) tyX8_ok nmX8 (by decide) rfl rfl tw_1140 dX8_weakest_2 rfl (fun s1 => ?_)
  refine v_iconst C dX8_weakest_5 ?_
  refine v_istore_n C [(1, I ((-1))), (0, A w a0)] dX8_weakest_6 rfl (by decide) rfl ?_
  refine v_iconst C dX8_weakest_7 ?_
  refine v_istore_n C [(2, I 0), (1, I ((-1))), (0, A w a0)] dX8_weakest_8 rfl (by decide) rfl ?_
  refine v_sub [(0, A w a0), (1, I ((-1))), (2, I 0)] [2, 1, 0] rfl ?_
  refine vX8_weakest_L9 res hRm C hO a0 _ ?_ 1000 ((-1)) 0
  · intro x8
    refine v_iload_n C dX8_weakest_55 rfl (j := 0) rfl ?_
    exact v_iret C rfl hO pI dX8_weakest_56
-- ForesightHubModel.whyNotRunning
theorem hX8_whyNotRunning : yX8_whyNotRunning.cls ≠ "java/lang/invoke/MethodHandle" ∧ yX8_whyNotRunning.cls ≠ "java/lang/invoke/VarHandle" ∧ (parseMethodDescriptor yX8_whyNotRunning.desc).map (fun d => d.parameters.length) = some 1 := by decide +kernel
set_option maxRecDepth 100000 in
theorem kX8_whyNotRunning (l : Launch) (w : Wd) (P : Shp) (n : Nat) {s : St} {a0 : Int} {a1 : Int} {res : Int × St} (h : fX8_whyNotRunning P s a0 a1 = some res) : Ct l w yX8_whyNotRunning cX8_whyNotRunning 2 (some FieldType.int) rX8_whyNotRunning P n [A w a0, I a1] s (QI w P n res.1 res.2) :=
  Ct.of h (by decide) (Nat.le_of_ble_eq_true rfl) (lv := [(0, A w a0), (1, I a1)]) rfl fun X hl hRm C hO => by
  subst hl
  unfold fX8_whyNotRunning
  refine v_aload_n C dX8_whyNotRunning_0 rfl (j := 0) rfl ?_
  refine v_aload_n C dX8_whyNotRunning_1 rfl (j := 0) rfl ?_
  refine v_iload_n C dX8_whyNotRunning_2 rfl (j := 1) rfl ?_
  refine v_callV_rI C [I a1] [A w a0] (Cee.of (rm := rX8_isStream) tw_1363 tw_9 hX8_isStream rfl rfl hRm (Nat.le_of_ble_eq_true rfl) (Nat.le_of_ble_eq_true rfl)) (fun x h => kX8_isStream X.2.1 w P n h) tw_1360 tw_1362 ts_77 rfl (ci := 8) rfl (by decide) rfl rfl (Nat.le_of_ble_eq_true rfl) ⟨Nat.zero_le _, Nat.zero_le _⟩ dX8_whyNotRunning_3 (fun x1 => ?_)
  refine v_jnt (fun (k14 : Int → Option (Int × St)) => ∀ (x2 : Int), V X w 2 P n 0 0 res (k14 x2) s 14 [(0, A w a0), (1, I a1)] [I x2, A w a0]) ?_ ?_
  · intro x2
    refine v_putI C 0 rfl (T := TX8) rfl inB8 (by decide) tyX8_ok nmX8 (by decide) rfl rfl tw_1140 dX8_whyNotRunning_14 rfl (fun s3 => ?_)
    refine v_aload_n C dX8_whyNotRunning_17 rfl (j := 0) rfl ?_
    refine v_getI C 0 rfl (T := TX8) rfl inB8 (by decide) (by decide) rfl tw_1140 dX8_whyNotRunning_18 (fun x4 => ?_)
    refine v_if_gt (tgt := 37) C dX8_whyNotRunning_21 rfl ?_ ?_
    · skip
      refine v_iconst C dX8_whyNotRunning_37 ?_
      exact v_iret C rfl hO pI dX8_whyNotRunning_38
    · skip
      refine v_aload_n C dX8_whyNotRunning_24 rfl (j := 0) rfl ?_
      refine v_getR C 14 rfl (T := TX8) rfl inB8 (by decide) (by decide) rfl tw_1154 dX8_whyNotRunning_25 (fun x5 => ?_)
      refine v_iload_n C dX8_whyNotRunning_28 rfl (j := 1) rfl ?_
      refine v_callS_rI C [I a1] [A w x5] (Cee.of (rm := rX8_in) tw_1095 tw_9 hX8_in rfl rfl hRm (Nat.le_of_ble_eq_true rfl) (Nat.le_of_ble_eq_true rfl)) (fun x h => kX8_in X.2.1 w P n h) tw_1093 tw_1094 rfl rfl (Nat.le_of_ble_eq_true rfl) ⟨Nat.zero_le _, Nat.zero_le _⟩ dX8_whyNotRunning_29 (fun x6 => ?_)
      refine v_iald C dX8_whyNotRunning_32 (fun x7 => ?_)
      refine v_iconst C dX8_whyNotRunning_33 ?_
      refine v_icmp_ne (tgt := 39) C dX8_whyNotRunning_34 rfl ?_ ?_
      · skip
        refine v_aload_n C dX8_whyNotRunning_39 rfl (j := 0) rfl ?_
        refine v_iload_n C dX8_whyNotRunning_40 rfl (j := 1) rfl ?_
        refine v_callV_rI C [I a1] [] (Cee.of (rm := rX8_wanted) tw_1107 tw_9 hX8_wanted rfl rfl hRm (Nat.le_of_ble_eq_true rfl) (Nat.le_of_ble_eq_true rfl)) (fun x h => kX8_wanted X.2.1 w P n h) tw_1104 tw_1106 ts_42 rfl (ci := 8) rfl (by decide) rfl rfl (Nat.le_of_ble_eq_true rfl) ⟨Nat.zero_le _, Nat.zero_le _⟩ dX8_whyNotRunning_41 (fun x8 => ?_)
        refine v_iconst C dX8_whyNotRunning_44 ?_
        refine v_icmp_ne (tgt := 71) C dX8_whyNotRunning_45 rfl ?_ ?_
        · skip
          refine v_aload_n C dX8_whyNotRunning_71 rfl (j := 0) rfl ?_
          refine v_getR C 14 rfl (T := TX8) rfl inB8 (by decide) (by decide) rfl tw_1154 dX8_whyNotRunning_72 (fun x9 => ?_)
          refine v_iload_n C dX8_whyNotRunning_75 rfl (j := 1) rfl ?_
          refine v_callS_rI C [I a1] [A w x9] (Cee.of (rm := rX8_in) tw_1095 tw_9 hX8_in rfl rfl hRm (Nat.le_of_ble_eq_true rfl) (Nat.le_of_ble_eq_true rfl)) (fun x h => kX8_in X.2.1 w P n h) tw_1093 tw_1094 rfl rfl (Nat.le_of_ble_eq_true rfl) ⟨Nat.zero_le _, Nat.zero_le _⟩ dX8_whyNotRunning_76 (fun x10 => ?_)
          refine v_iald C dX8_whyNotRunning_79 (fun x11 => ?_)
          refine v_if_ne (tgt := 87) C dX8_whyNotRunning_80 rfl ?_ ?_
          · skip
            refine v_iconst C dX8_whyNotRunning_87 ?_
            exact v_iret C rfl hO pI dX8_whyNotRunning_88
          · skip
            refine v_iconst C dX8_whyNotRunning_83 ?_
            refine v_goto (tgt := 88) C dX8_whyNotRunning_84 rfl ?_
            exact v_iret C rfl hO pI dX8_whyNotRunning_88
        · skip
          refine v_aload_n C dX8_whyNotRunning_48 rfl (j := 0) rfl ?_
          refine v_getR C 11 rfl (T := TX8) rfl inB8 (by decide) (by decide) rfl tw_1151 dX8_whyNotRunning_49 (fun x12 => ?_)
          refine v_bipush C dX8_whyNotRunning_52 (by decide) ?_
          refine v_aload_n C dX8_whyNotRunning_54 rfl (j := 0) rfl ?_
          refine v_iload_n C dX8_whyNotRunning_55 rfl (j := 1) rfl ?_
          refine v_callV_rI C [I a1] [I 63, A w x12] (Cee.of (rm := rX8_homeOf) tw_1111 tw_9 hX8_homeOf rfl rfl hRm (Nat.le_of_ble_eq_true rfl) (Nat.le_of_ble_eq_true rfl)) (fun x h => kX8_homeOf X.2.1 w P n h) tw_1108 tw_1110 ts_43 rfl (ci := 8) rfl (by decide) rfl rfl (Nat.le_of_ble_eq_true rfl) ⟨Nat.zero_le _, Nat.zero_le _⟩ dX8_whyNotRunning_56 (fun x13 => ?_)
          refine v_iadd C dX8_whyNotRunning_59 ?_
          refine v_iald C dX8_whyNotRunning_60 (fun x14 => ?_)
          refine v_iconst C dX8_whyNotRunning_61 ?_
          refine v_icmp_ne (tgt := 69) C dX8_whyNotRunning_62 rfl ?_ ?_
          · skip
            refine v_iconst C dX8_whyNotRunning_69 ?_
            exact v_iret C rfl hO pI dX8_whyNotRunning_70
          · skip
            refine v_iconst C dX8_whyNotRunning_65 ?_
            refine v_goto (tgt := 70) C dX8_whyNotRunning_66 rfl ?_
            exact v_iret C rfl hO pI dX8_whyNotRunning_70
      · skip
        refine v_iconst C dX8_whyNotRunning_37 ?_
        exact v_iret C rfl hO pI dX8_whyNotRunning_38
  intro k14 hk14
  refine v_if_eq (tgt := 13) C dX8_whyNotRunning_6 rfl ?_ ?_
  · skip
    refine v_iconst C dX8_whyNotRunning_13 ?_
    exact hk14 1
  · skip
    refine v_iconst C dX8_whyNotRunning_9 ?_
    refine v_goto (tgt := 14) C dX8_whyNotRunning_10 rfl ?_
    exact hk14 0
-- ForesightHubModel.event
theorem hX8_event : yX8_event.cls ≠ "java/lang/invoke/MethodHandle" ∧ yX8_event.cls ≠ "java/lang/invoke/VarHandle" ∧ (parseMethodDescriptor yX8_event.desc).map (fun d => d.parameters.length) = some 2 := by decide +kernel
set_option maxRecDepth 100000 in
theorem kX8_event (l : Launch) (w : Wd) (P : Shp) (n : Nat) {s : St} {a0 : Int} {a1 : Int} {a2 : Int} {res : Int × St} (h : fX8_event P s a0 a1 a2 = some res) : Ct l w yX8_event cX8_event 4 (some FieldType.int) rX8_event P n [A w a0, I a1, I a2] s (QI w P n res.1 res.2) :=
  Ct.of h (by decide) (Nat.le_of_ble_eq_true rfl) (lv := [(0, A w a0), (1, I a1), (2, I a2)]) rfl fun X hl hRm C hO => by
  subst hl
  unfold fX8_event
  refine v_aload_n C dX8_event_0 rfl (j := 0) rfl ?_
  refine v_iload_n C dX8_event_1 rfl (j := 2) rfl ?_
  refine v_iconst C dX8_event_2 ?_
  refine v_iconst C dX8_event_3 ?_
  refine v_callS_rI C [I a2, I 0, I 2] [A w a0] (Cee.of (rm := rX8_within) tw_1228 tw_9 hX8_within rfl rfl hRm (Nat.le_of_ble_eq_true rfl) (Nat.le_of_ble_eq_true rfl)) (fun x h => kX8_within X.2.1 w P n h) tw_1226 tw_1227 rfl rfl (Nat.le_of_ble_eq_true rfl) ⟨Nat.zero_le _, Nat.zero_le _⟩ dX8_event_4 (fun x1 => ?_)
  refine v_jnt (fun (k15 : Int → Option (Int × St)) => ∀ (x2 : Int), V X w 4 P n 0 0 res (k15 x2) s 15 [(0, A w a0), (1, I a1), (2, I a2)] [I x2, A w a0]) ?_ ?_
  · intro x2
    refine v_putI C 0 rfl (T := TX8) rfl inB8 (by decide) tyX8_ok nmX8 (by decide) rfl rfl tw_1140 dX8_event_15 rfl (fun s3 => ?_)
    refine v_aload_n C dX8_event_18 rfl (j := 0) rfl ?_
    refine v_getI C 0 rfl (T := TX8) rfl inB8 (by decide) (by decide) rfl tw_1140 dX8_event_19 (fun x4 => ?_)
    refine v_if_le (tgt := 27) C dX8_event_22 rfl ?_ ?_
    · skip
      refine v_aload_n C dX8_event_27 rfl (j := 0) rfl ?_
      refine v_getR C 14 rfl (T := TX8) rfl inB8 (by decide) (by decide) rfl tw_1154 dX8_event_28 (fun x5 => ?_)
      refine v_bipush C dX8_event_31 (by decide) ?_
      refine v_iald C dX8_event_33 (fun x6 => ?_)
      refine v_bipush C dX8_event_34 (by decide) ?_
      refine v_jnt (fun (k51 : Int → Option (Int × St)) => ∀ (x7 : Int), V X w 4 P n 0 0 res (k51 x7) s3 51 [(0, A w a0), (1, I a1), (2, I a2)] [I x7]) ?_ ?_
      · intro x7
        refine v_istore_n C [(3, I x7), (0, A w a0), (1, I a1), (2, I a2)] dX8_event_51 rfl (by decide) rfl ?_
        refine v_iload_n C dX8_event_52 rfl (j := 2) rfl ?_
        refine v_iconst C dX8_event_53 ?_
        refine v_iload_n C dX8_event_54 rfl (j := 0) rfl ?_
        refine v_iconst C dX8_event_55 ?_
        refine v_isub C dX8_event_56 ?_
        refine v_callS_rI C [I a1, I 0, I (x7 - 1)] [] (Cee.of (rm := rX8_within) tw_1228 tw_9 hX8_within rfl rfl hRm (Nat.le_of_ble_eq_true rfl) (Nat.le_of_ble_eq_true rfl)) (fun x h => kX8_within X.2.1 w P n h) tw_1226 tw_1227 rfl rfl (Nat.le_of_ble_eq_true rfl) ⟨Nat.zero_le _, Nat.zero_le _⟩ dX8_event_57 (fun x8 => ?_)
        refine v_if_eq (tgt := 93) C dX8_event_60 rfl ?_ ?_
        · skip
          refine v_iconst C dX8_event_93 ?_
          exact v_iret C rfl hO pI dX8_event_94
        · skip
          refine v_aload_n C dX8_event_63 rfl (j := 1) rfl ?_
          refine v_getR C 14 rfl (T := TX8) rfl inB8 (by decide) (by decide) rfl tw_1154 dX8_event_64 (fun x9 => ?_)
          refine v_sipush C dX8_event_67 (by decide) ?_
          refine v_iconst C dX8_event_70 ?_
          refine v_aload_n C dX8_event_71 rfl (j := 1) rfl ?_
          refine v_getR C 14 rfl (T := TX8) rfl inB8 (by decide) (by decide) rfl tw_1154 dX8_event_72 (fun x10 => ?_)
          refine v_bipush C dX8_event_75 (by decide) ?_
          refine v_iald C dX8_event_77 (fun x11 => ?_)
          refine v_iconst C dX8_event_78 ?_
          refine v_isub C dX8_event_79 ?_
          refine v_iload_n C dX8_event_80 rfl (j := 2) rfl ?_
          refine v_isub C dX8_event_81 ?_
          refine v_bipush C dX8_event_82 (by decide) ?_
          refine v_irem C dX8_event_84 (fun x12 => ?_)
          refine v_imul C dX8_event_85 ?_
          refine v_iadd C dX8_event_86 ?_
          refine v_iload_n C dX8_event_87 rfl (j := 3) rfl ?_
          refine v_iadd C dX8_event_88 ?_
          refine v_iald C dX8_event_89 (fun x13 => ?_)
          refine v_goto (tgt := 94) C dX8_event_90 rfl ?_
          exact v_iret C rfl hO pI dX8_event_94
      intro k51 hk51
      refine v_icmp_ge (tgt := 49) C dX8_event_36 rfl ?_ ?_
      · skip
        refine v_bipush C dX8_event_49 (by decide) ?_
        exact hk51 24
      · skip
        refine v_aload_n C dX8_event_39 rfl (j := 0) rfl ?_
        refine v_getR C 14 rfl (T := TX8) rfl inB8 (by decide) (by decide) rfl tw_1154 dX8_event_40 (fun x14 => ?_)
        refine v_bipush C dX8_event_43 (by decide) ?_
        refine v_iald C dX8_event_45 (fun x15 => ?_)
        refine v_goto (tgt := 51) C dX8_event_46 rfl ?_
        exact hk51 x15
    · skip
      refine v_iconst C dX8_event_25 ?_
      exact v_iret C rfl hO pI dX8_event_26
  intro k15 hk15
  refine v_if_eq (tgt := 14) C dX8_event_7 rfl ?_ ?_
  · skip
    refine v_iconst C dX8_event_14 ?_
    exact hk15 1
  · skip
    refine v_iconst C dX8_event_10 ?_
    refine v_goto (tgt := 15) C dX8_event_11 rfl ?_
    exact hk15 0
-- ForesightHubModel.account
theorem hX8_account : yX8_account.cls ≠ "java/lang/invoke/MethodHandle" ∧ yX8_account.cls ≠ "java/lang/invoke/VarHandle" ∧ (parseMethodDescriptor yX8_account.desc).map (fun d => d.parameters.length) = some 1 := by decide +kernel
set_option maxRecDepth 100000 in
theorem kX8_account (l : Launch) (w : Wd) (P : Shp) (n : Nat) {s : St} {a0 : Int} {a1 : Int} {res : Int × St} (h : fX8_account P s a0 a1 = some res) : Ct l w yX8_account cX8_account 2 (some FieldType.int) rX8_account P n [A w a0, I a1] s (QI w P n res.1 res.2) :=
  Ct.of h (by decide) (Nat.le_of_ble_eq_true rfl) (lv := [(0, A w a0), (1, I a1)]) rfl fun X hl hRm C hO => by
  subst hl
  unfold fX8_account
  refine v_aload_n C dX8_account_0 rfl (j := 0) rfl ?_
  refine v_iload_n C dX8_account_1 rfl (j := 1) rfl ?_
  refine v_iconst C dX8_account_2 ?_
  refine v_bipush C dX8_account_3 (by decide) ?_
  refine v_callS_rI C [I a1, I 0, I 9] [A w a0] (Cee.of (rm := rX8_within) tw_1228 tw_9 hX8_within rfl rfl hRm (Nat.le_of_ble_eq_true rfl) (Nat.le_of_ble_eq_true rfl)) (fun x h => kX8_within X.2.1 w P n h) tw_1226 tw_1227 rfl rfl (Nat.le_of_ble_eq_true rfl) ⟨Nat.zero_le _, Nat.zero_le _⟩ dX8_account_5 (fun x1 => ?_)
  refine v_jnt (fun (k16 : Int → Option (Int × St)) => ∀ (x2 : Int), V X w 2 P n 0 0 res (k16 x2) s 16 [(0, A w a0), (1, I a1)] [I x2, A w a0]) ?_ ?_
  · intro x2
    refine v_putI C 0 rfl (T := TX8) rfl inB8 (by decide) tyX8_ok nmX8 (by decide) rfl rfl tw_1140 dX8_account_16 rfl (fun s3 => ?_)
    refine v_aload_n C dX8_account_19 rfl (j := 0) rfl ?_
    refine v_getI C 0 rfl (T := TX8) rfl inB8 (by decide) (by decide) rfl tw_1140 dX8_account_20 (fun x4 => ?_)
    refine v_if_ne (tgt := 37) C dX8_account_23 rfl ?_ ?_
    · skip
      refine v_iconst C dX8_account_37 ?_
      exact v_iret C rfl hO pI dX8_account_38
    · skip
      refine v_aload_n C dX8_account_26 rfl (j := 0) rfl ?_
      refine v_getR C 14 rfl (T := TX8) rfl inB8 (by decide) (by decide) rfl tw_1154 dX8_account_27 (fun x5 => ?_)
      refine v_iconst C dX8_account_30 ?_
      refine v_iload_n C dX8_account_31 rfl (j := 1) rfl ?_
      refine v_iadd C dX8_account_32 ?_
      refine v_iald C dX8_account_33 (fun x6 => ?_)
      refine v_goto (tgt := 38) C dX8_account_34 rfl ?_
      exact v_iret C rfl hO pI dX8_account_38
  intro k16 hk16
  refine v_if_eq (tgt := 15) C dX8_account_8 rfl ?_ ?_
  · skip
    refine v_iconst C dX8_account_15 ?_
    exact hk16 1
  · skip
    refine v_iconst C dX8_account_11 ?_
    refine v_goto (tgt := 16) C dX8_account_12 rfl ?_
    exact hk16 0
-- ForesightHubModel.flows
theorem hX8_flows : yX8_flows.cls ≠ "java/lang/invoke/MethodHandle" ∧ yX8_flows.cls ≠ "java/lang/invoke/VarHandle" ∧ (parseMethodDescriptor yX8_flows.desc).map (fun d => d.parameters.length) = some 1 := by decide +kernel
set_option maxRecDepth 100000 in
theorem kX8_flows (l : Launch) (w : Wd) (P : Shp) (n : Nat) {s : St} {a0 : Int} {a1 : Int} {res : St} (h : fX8_flows P s a0 a1 = some res) : Ct l w yX8_flows cX8_flows 4 (Option.none : Option FieldType) rX8_flows P n [A w a0, I a1] s (QV w P n res) :=
  Ct.of h (by decide) (Nat.le_of_ble_eq_true rfl) (lv := [(0, A w a0), (1, I a1)]) rfl fun X hl hRm C hO => by
  subst hl
  unfold fX8_flows
  refine v_iload_n C dX8_flows_0 rfl (j := 1) rfl ?_
  refine v_callS_rI C [I a1] [] (Cee.of (rm := rX8_in) tw_1095 tw_9 hX8_in rfl rfl hRm (Nat.le_of_ble_eq_true rfl) (Nat.le_of_ble_eq_true rfl)) (fun x h => kX8_in X.2.1 w P n h) tw_1093 tw_1094 rfl rfl (Nat.le_of_ble_eq_true rfl) ⟨Nat.zero_le _, Nat.zero_le _⟩ dX8_flows_1 (fun x1 => ?_)
  refine v_iconst C dX8_flows_4 ?_
  refine v_iadd C dX8_flows_5 ?_
  refine v_bdI (fun x2 => ?_)
  refine v_istore_n C [(2, I x2), (0, A w a0), (1, I a1)] dX8_flows_6 rfl (by decide) rfl ?_
  refine v_aload_n C dX8_flows_7 rfl (j := 1) rfl ?_
  refine v_getR C 14 rfl (T := TX8) rfl inB8 (by decide) (by decide) rfl tw_1154 dX8_flows_8 (fun x3 => ?_)
  refine v_iload_n C dX8_flows_11 rfl (j := 2) rfl ?_
  refine v_callS_rI C [I a1] [A w x3] (Cee.of (rm := rX8_in) tw_1095 tw_9 hX8_in rfl rfl hRm (Nat.le_of_ble_eq_true rfl) (Nat.le_of_ble_eq_true rfl)) (fun x h => kX8_in X.2.1 w P n h) tw_1093 tw_1094 rfl rfl (Nat.le_of_ble_eq_true rfl) ⟨Nat.zero_le _, Nat.zero_le _⟩ dX8_flows_12 (fun x4 => ?_)
  refine v_iald C dX8_flows_15 (fun x5 => ?_)
  refine v_iconst C dX8_flows_16 ?_
  refine v_icmp_ne (tgt := 66) C dX8_flows_17 rfl ?_ ?_
  · skip
    refine v_aload_n C dX8_flows_66 rfl (j := 1) rfl ?_
    refine v_getR C 14 rfl (T := TX8) rfl inB8 (by decide) (by decide) rfl tw_1154 dX8_flows_67 (fun x6 => ?_)
    refine v_iload_n C dX8_flows_70 rfl (j := 2) rfl ?_
    refine v_callS_rI C [I a1] [A w x6] (Cee.of (rm := rX8_in) tw_1095 tw_9 hX8_in rfl rfl hRm (Nat.le_of_ble_eq_true rfl) (Nat.le_of_ble_eq_true rfl)) (fun x h => kX8_in X.2.1 w P n h) tw_1093 tw_1094 rfl rfl (Nat.le_of_ble_eq_true rfl) ⟨Nat.zero_le _, Nat.zero_le _⟩ dX8_flows_71 (fun x7 => ?_)
    refine v_iald C dX8_flows_74 (fun x8 => ?_)
    refine v_iconst C dX8_flows_75 ?_
    refine v_icmp_ne (tgt := 151) C dX8_flows_76 rfl ?_ ?_
    · skip
      exact v_vret C rfl hO (fun h => Option.some.inj h) dX8_flows_151
    · skip
      refine v_aload_n C dX8_flows_79 rfl (j := 1) rfl ?_
      refine v_iload_n C dX8_flows_80 rfl (j := 2) rfl ?_
      refine v_callV_rI C [I a1] [] (Cee.of (rm := rX8_packetOf) tw_1367 tw_9 hX8_packetOf rfl rfl hRm (Nat.le_of_ble_eq_true rfl) (Nat.le_of_ble_eq_true rfl)) (fun x h => kX8_packetOf X.2.1 w P n h) tw_1364 tw_1366 ts_78 rfl (ci := 8) rfl (by decide) rfl rfl (Nat.le_of_ble_eq_true rfl) ⟨Nat.zero_le _, Nat.zero_le _⟩ dX8_flows_81 (fun x9 => ?_)
      refine v_aload_n C dX8_flows_84 rfl (j := 1) rfl ?_
      refine v_getR C 14 rfl (T := TX8) rfl inB8 (by decide) (by decide) rfl tw_1154 dX8_flows_85 (fun x10 => ?_)
      refine v_iload_n C dX8_flows_88 rfl (j := 0) rfl ?_
      refine v_iald C dX8_flows_89 (fun x11 => ?_)
      refine v_isub C dX8_flows_90 ?_
      refine v_bdI (fun x12 => ?_)
      refine v_istore_n C [(3, I x12), (2, I x2), (0, A w a0), (1, I a1)] dX8_flows_91 rfl (by decide) rfl ?_
      refine v_aload_n C dX8_flows_92 rfl (j := 2) rfl ?_
      refine v_getR C 14 rfl (T := TX8) rfl inB8 (by decide) (by decide) rfl tw_1154 dX8_flows_93 (fun x13 => ?_)
      refine v_iload_n C dX8_flows_96 rfl (j := 1) rfl ?_
      refine v_dup2 C dX8_flows_97 rfl rfl ?_
      refine v_iald C dX8_flows_98 (fun x14 => ?_)
      refine v_iload_n C dX8_flows_99 rfl (j := 0) rfl ?_
      refine v_aload_n C dX8_flows_100 rfl (j := 2) rfl ?_
      refine v_iload_n C dX8_flows_101 rfl (j := 3) rfl ?_
      refine v_callV_rI C [I a1] [I x12, I x14, I x2, A w x13] (Cee.of (rm := rX8_rateOf) tw_1135 tw_9 hX8_rateOf rfl rfl hRm (Nat.le_of_ble_eq_true rfl) (Nat.le_of_ble_eq_true rfl)) (fun x h => kX8_rateOf X.2.1 w P n h) tw_1132 tw_1134 ts_49 rfl (ci := 8) rfl (by decide) rfl rfl (Nat.le_of_ble_eq_true rfl) ⟨Nat.zero_le _, Nat.zero_le _⟩ dX8_flows_102 (fun x15 => ?_)
      refine v_jnt (fun (k117 : Int → Option (St)) => ∀ (x16 : Int), V X w 4 P n 0 0 res (k117 x16) s 117 [(0, A w a0), (1, I a1), (2, I x2)] [I x16, I x14, I x2, A w x13]) ?_ ?_
      · intro x16
        refine v_iadd C dX8_flows_117 ?_
        refine v_iast C dX8_flows_118 (fun s17 => ?_)
        refine v_aload_n C dX8_flows_119 rfl (j := 0) rfl ?_
        refine v_getR C 14 rfl (T := TX8) rfl inB8 (by decide) (by decide) rfl tw_1154 dX8_flows_120 (fun x18 => ?_)
        refine v_iload_n C dX8_flows_123 rfl (j := 2) rfl ?_
        refine v_iald C dX8_flows_124 (fun x19 => ?_)
        refine v_aload_n C dX8_flows_125 rfl (j := 0) rfl ?_
        refine v_iload_n C dX8_flows_126 rfl (j := 1) rfl ?_
        refine v_callV_rI C [I a1] [I x19] (Cee.of (rm := rX8_packetOf) tw_1367 tw_9 hX8_packetOf rfl rfl hRm (Nat.le_of_ble_eq_true rfl) (Nat.le_of_ble_eq_true rfl)) (fun x h => kX8_packetOf X.2.1 w P n h) tw_1364 tw_1366 ts_78 rfl (ci := 8) rfl (by decide) rfl rfl (Nat.le_of_ble_eq_true rfl) ⟨Nat.zero_le _, Nat.zero_le _⟩ dX8_flows_127 (fun x20 => ?_)
        refine v_icmp_ge (tgt := 134) C dX8_flows_130 rfl ?_ ?_
        · skip
          refine v_aload_n C dX8_flows_134 rfl (j := 0) rfl ?_
          refine v_getR C 15 rfl (T := TX8) rfl inB8 (by decide) (by decide) rfl tw_1155 dX8_flows_135 (fun x21 => ?_)
          refine v_iload_n C dX8_flows_138 rfl (j := 1) rfl ?_
          refine v_dup2 C dX8_flows_139 rfl rfl ?_
          refine v_lald C dX8_flows_140 (fun x22 => ?_)
          refine v_lconst (z := 1) C dX8_flows_141 rfl ?_
          refine v_ladd C dX8_flows_142 ?_
          refine v_last C dX8_flows_143 (fun s23 => ?_)
          refine v_aload_n C dX8_flows_144 rfl (j := 0) rfl ?_
          refine v_getR C 14 rfl (T := TX8) rfl inB8 (by decide) (by decide) rfl tw_1154 dX8_flows_145 (fun x24 => ?_)
          refine v_iload_n C dX8_flows_148 rfl (j := 2) rfl ?_
          refine v_iconst C dX8_flows_149 ?_
          refine v_iast C dX8_flows_150 (fun s25 => ?_)
          exact v_vret C rfl hO (fun h => Option.some.inj h) dX8_flows_151
        · skip
          exact v_vret C rfl hO (fun h => Option.some.inj h) dX8_flows_133
      intro k117 hk117
      refine v_icmp_ge (tgt := 112) C dX8_flows_105 rfl ?_ ?_
      · skip
        refine v_aload_n C dX8_flows_112 rfl (j := 2) rfl ?_
        refine v_iload_n C dX8_flows_113 rfl (j := 3) rfl ?_
        refine v_callV_rI C [I a1] [I x14, I x2, A w x13] (Cee.of (rm := rX8_rateOf) tw_1135 tw_9 hX8_rateOf rfl rfl hRm (Nat.le_of_ble_eq_true rfl) (Nat.le_of_ble_eq_true rfl)) (fun x h => kX8_rateOf X.2.1 w P n h) tw_1132 tw_1134 ts_49 rfl (ci := 8) rfl (by decide) rfl rfl (Nat.le_of_ble_eq_true rfl) ⟨Nat.zero_le _, Nat.zero_le _⟩ dX8_flows_114 (fun x26 => ?_)
        refine v_sub [(0, A w a0), (1, I a1), (2, I x2)] [2, 3, 1] rfl ?_
        exact hk117 x26
      · skip
        refine v_iload_n C dX8_flows_108 rfl (j := 0) rfl ?_
        refine v_goto (tgt := 117) C dX8_flows_109 rfl ?_
        refine v_sub [(0, A w a0), (1, I a1), (2, I x2)] [2, 3, 1] rfl ?_
        exact hk117 x12
  · skip
    refine v_aload_n C dX8_flows_20 rfl (j := 1) rfl ?_
    refine v_getR C 14 rfl (T := TX8) rfl inB8 (by decide) (by decide) rfl tw_1154 dX8_flows_21 (fun x27 => ?_)
    refine v_iload_n C dX8_flows_24 rfl (j := 0) rfl ?_
    refine v_iald C dX8_flows_25 (fun x28 => ?_)
    refine v_aload_n C dX8_flows_26 rfl (j := 1) rfl ?_
    refine v_iload_n C dX8_flows_27 rfl (j := 2) rfl ?_
    refine v_callV_rI C [I a1] [I x28] (Cee.of (rm := rX8_rateOf) tw_1135 tw_9 hX8_rateOf rfl rfl hRm (Nat.le_of_ble_eq_true rfl) (Nat.le_of_ble_eq_true rfl)) (fun x h => kX8_rateOf X.2.1 w P n h) tw_1132 tw_1134 ts_49 rfl (ci := 8) rfl (by decide) rfl rfl (Nat.le_of_ble_eq_true rfl) ⟨Nat.zero_le _, Nat.zero_le _⟩ dX8_flows_28 (fun x29 => ?_)
    refine v_iadd C dX8_flows_31 ?_
    refine v_bdI (fun x30 => ?_)
    refine v_istore_n C [(3, I x30), (2, I x2), (0, A w a0), (1, I a1)] dX8_flows_32 rfl (by decide) rfl ?_
    refine v_aload_n C dX8_flows_33 rfl (j := 2) rfl ?_
    refine v_getR C 15 rfl (T := TX8) rfl inB8 (by decide) (by decide) rfl tw_1155 dX8_flows_34 (fun x31 => ?_)
    refine v_iload_n C dX8_flows_37 rfl (j := 3) rfl ?_
    refine v_dup2 C dX8_flows_38 rfl rfl ?_
    refine v_lald C dX8_flows_39 (fun x32 => ?_)
    refine v_iload_n C dX8_flows_40 rfl (j := 0) rfl ?_
    refine v_aload_n C dX8_flows_41 rfl (j := 2) rfl ?_
    refine v_iload_n C dX8_flows_42 rfl (j := 3) rfl ?_
    refine v_callV_rI C [I a1] [I x30, J x32, I a1, A w x31] (Cee.of (rm := rX8_packetOf) tw_1367 tw_9 hX8_packetOf rfl rfl hRm (Nat.le_of_ble_eq_true rfl) (Nat.le_of_ble_eq_true rfl)) (fun x h => kX8_packetOf X.2.1 w P n h) tw_1364 tw_1366 ts_78 rfl (ci := 8) rfl (by decide) rfl rfl (Nat.le_of_ble_eq_true rfl) ⟨Nat.zero_le _, Nat.zero_le _⟩ dX8_flows_43 (fun x33 => ?_)
    refine v_idiv C dX8_flows_46 (fun x34 => ?_)
    refine v_i2l C dX8_flows_47 (fun x35 => ?_)
    refine v_ladd C dX8_flows_48 ?_
    refine v_last C dX8_flows_49 (fun s36 => ?_)
    refine v_aload_n C dX8_flows_50 rfl (j := 2) rfl ?_
    refine v_getR C 14 rfl (T := TX8) rfl inB8 (by decide) (by decide) rfl tw_1154 dX8_flows_51 (fun x37 => ?_)
    refine v_iload_n C dX8_flows_54 rfl (j := 1) rfl ?_
    refine v_iload_n C dX8_flows_55 rfl (j := 0) rfl ?_
    refine v_aload_n C dX8_flows_56 rfl (j := 2) rfl ?_
    refine v_iload_n C dX8_flows_57 rfl (j := 3) rfl ?_
    refine v_callV_rI C [I a1] [I x30, I x2, A w x37] (Cee.of (rm := rX8_packetOf) tw_1367 tw_9 hX8_packetOf rfl rfl hRm (Nat.le_of_ble_eq_true rfl) (Nat.le_of_ble_eq_true rfl)) (fun x h => kX8_packetOf X.2.1 w P n h) tw_1364 tw_1366 ts_78 rfl (ci := 8) rfl (by decide) rfl rfl (Nat.le_of_ble_eq_true rfl) ⟨Nat.zero_le _, Nat.zero_le _⟩ dX8_flows_58 (fun x38 => ?_)
    refine v_irem C dX8_flows_61 (fun x39 => ?_)
    refine v_iast C dX8_flows_62 (fun s40 => ?_)
    refine v_goto (tgt := 151) C dX8_flows_63 rfl ?_
    exact v_vret C rfl hO (fun h => Option.some.inj h) dX8_flows_151
-- ForesightHubModel.calms
theorem hX8_calms : yX8_calms.cls ≠ "java/lang/invoke/MethodHandle" ∧ yX8_calms.cls ≠ "java/lang/invoke/VarHandle" ∧ (parseMethodDescriptor yX8_calms.desc).map (fun d => d.parameters.length) = some 1 := by decide +kernel
set_option maxRecDepth 100000 in
theorem kX8_calms (l : Launch) (w : Wd) (P : Shp) (n : Nat) {s : St} {a0 : Int} {a1 : Int} {res : St} (h : fX8_calms P s a0 a1 = some res) : Ct l w yX8_calms cX8_calms 2 (Option.none : Option FieldType) rX8_calms P n [A w a0, I a1] s (QV w P n res) :=
  Ct.of h (by decide) (Nat.le_of_ble_eq_true rfl) (lv := [(0, A w a0), (1, I a1)]) rfl fun X hl hRm C hO => by
  subst hl
  unfold fX8_calms
  refine v_aload_n C dX8_calms_0 rfl (j := 0) rfl ?_
  refine v_getR C 14 rfl (T := TX8) rfl inB8 (by decide) (by decide) rfl tw_1154 dX8_calms_1 (fun x1 => ?_)
  refine v_iload_n C dX8_calms_4 rfl (j := 1) rfl ?_
  refine v_callS_rI C [I a1] [A w x1] (Cee.of (rm := rX8_at) tw_1088 tw_9 hX8_at rfl rfl hRm (Nat.le_of_ble_eq_true rfl) (Nat.le_of_ble_eq_true rfl)) (fun x h => kX8_at X.2.1 w P n h) tw_1086 tw_1087 rfl rfl (Nat.le_of_ble_eq_true rfl) ⟨Nat.zero_le _, Nat.zero_le _⟩ dX8_calms_5 (fun x2 => ?_)
  refine v_iconst C dX8_calms_8 ?_
  refine v_iadd C dX8_calms_9 ?_
  refine v_iconst C dX8_calms_10 ?_
  refine v_iast C dX8_calms_11 (fun s3 => ?_)
  refine v_aload_n C dX8_calms_12 rfl (j := 0) rfl ?_
  refine v_getR C 14 rfl (T := TX8) rfl inB8 (by decide) (by decide) rfl tw_1154 dX8_calms_13 (fun x4 => ?_)
  refine v_iload_n C dX8_calms_16 rfl (j := 1) rfl ?_
  refine v_callS_rI C [I a1] [A w x4] (Cee.of (rm := rX8_at) tw_1088 tw_9 hX8_at rfl rfl hRm (Nat.le_of_ble_eq_true rfl) (Nat.le_of_ble_eq_true rfl)) (fun x h => kX8_at X.2.1 w P n h) tw_1086 tw_1087 rfl rfl (Nat.le_of_ble_eq_true rfl) ⟨Nat.zero_le _, Nat.zero_le _⟩ dX8_calms_17 (fun x5 => ?_)
  refine v_iconst C dX8_calms_20 ?_
  refine v_iadd C dX8_calms_21 ?_
  refine v_iconst C dX8_calms_22 ?_
  refine v_iast C dX8_calms_23 (fun s6 => ?_)
  refine v_aload_n C dX8_calms_24 rfl (j := 0) rfl ?_
  refine v_iconst C dX8_calms_25 ?_
  refine v_iload_n C dX8_calms_26 rfl (j := 1) rfl ?_
  refine v_callV_wV C [I 1, I a1] [] (Cee.of (rm := rX8_happens) tw_1131 tw_9 hX8_happens rfl rfl hRm (Nat.le_of_ble_eq_true rfl) (Nat.le_of_ble_eq_true rfl)) (fun x h => kX8_happens X.2.1 w P n h) tw_1128 tw_1130 ts_48 rfl (ci := 8) rfl (by decide) rfl rfl (Nat.le_of_ble_eq_true rfl) ⟨Nat.zero_le _, Nat.zero_le _⟩ dX8_calms_27 (fun s7 => ?_)
  exact v_vret C rfl hO (fun h => Option.some.inj h) dX8_calms_30
-- ForesightHubModel.isOver
theorem hX8_isOver : yX8_isOver.cls ≠ "java/lang/invoke/MethodHandle" ∧ yX8_isOver.cls ≠ "java/lang/invoke/VarHandle" ∧ (parseMethodDescriptor yX8_isOver.desc).map (fun d => d.parameters.length) = some 1 := by decide +kernel
set_option maxRecDepth 100000 in
theorem kX8_isOver (l : Launch) (w : Wd) (P : Shp) (n : Nat) {s : St} {a0 : Int} {a1 : Int} {res : Int} (h : fX8_isOver P s a0 a1 = some res) : Ct l w yX8_isOver cX8_isOver 3 (some FieldType.boolean) rX8_isOver P n [A w a0, I a1] s (QI w P n res s) :=
  Ct.of h (by decide) (Nat.le_of_ble_eq_true rfl) (lv := [(0, A w a0), (1, I a1)]) rfl fun X hl hRm C hO => by
  subst hl
  unfold fX8_isOver
  refine v_iload_n C dX8_isOver_0 rfl (j := 1) rfl ?_
  refine v_callS_rI C [I a1] [] (Cee.of (rm := rX8_at) tw_1088 tw_9 hX8_at rfl rfl hRm (Nat.le_of_ble_eq_true rfl) (Nat.le_of_ble_eq_true rfl)) (fun x h => kX8_at X.2.1 w P n h) tw_1086 tw_1087 rfl rfl (Nat.le_of_ble_eq_true rfl) ⟨Nat.zero_le _, Nat.zero_le _⟩ dX8_isOver_1 (fun x1 => ?_)
  refine v_istore_n C [(2, I x1), (0, A w a0), (1, I a1)] dX8_isOver_4 rfl (by decide) rfl ?_
  refine v_aload_n C dX8_isOver_5 rfl (j := 1) rfl ?_
  refine v_getR C 14 rfl (T := TX8) rfl inB8 (by decide) (by decide) rfl tw_1154 dX8_isOver_6 (fun x2 => ?_)
  refine v_iload_n C dX8_isOver_9 rfl (j := 0) rfl ?_
  refine v_iconst C dX8_isOver_10 ?_
  refine v_iadd C dX8_isOver_11 ?_
  refine v_iald C dX8_isOver_12 (fun x3 => ?_)
  refine v_if_eq (tgt := 41) C dX8_isOver_13 rfl ?_ ?_
  · skip
    refine v_iconst C dX8_isOver_41 ?_
    exact v_zret C rfl hO pS dX8_isOver_42
  · skip
    refine v_aload_n C dX8_isOver_16 rfl (j := 1) rfl ?_
    refine v_getR C 14 rfl (T := TX8) rfl inB8 (by decide) (by decide) rfl tw_1154 dX8_isOver_17 (fun x4 => ?_)
    refine v_iconst C dX8_isOver_20 ?_
    refine v_iald C dX8_isOver_21 (fun x5 => ?_)
    refine v_aload_n C dX8_isOver_22 rfl (j := 1) rfl ?_
    refine v_getR C 14 rfl (T := TX8) rfl inB8 (by decide) (by decide) rfl tw_1154 dX8_isOver_23 (fun x6 => ?_)
    refine v_iload_n C dX8_isOver_26 rfl (j := 0) rfl ?_
    refine v_iconst C dX8_isOver_27 ?_
    refine v_iadd C dX8_isOver_28 ?_
    refine v_iald C dX8_isOver_29 (fun x7 => ?_)
    refine v_isub C dX8_isOver_30 ?_
    refine v_aload_n C dX8_isOver_31 rfl (j := 1) rfl ?_
    refine v_getR C 11 rfl (T := TX8) rfl inB8 (by decide) (by decide) rfl tw_1151 dX8_isOver_32 (fun x8 => ?_)
    refine v_bipush C dX8_isOver_35 (by decide) ?_
    refine v_iald C dX8_isOver_37 (fun x9 => ?_)
    refine v_icmp_ge (tgt := 43) C dX8_isOver_38 rfl ?_ ?_
    · skip
      refine v_aload_n C dX8_isOver_43 rfl (j := 1) rfl ?_
      refine v_getR C 14 rfl (T := TX8) rfl inB8 (by decide) (by decide) rfl tw_1154 dX8_isOver_44 (fun x10 => ?_)
      refine v_iload_n C dX8_isOver_47 rfl (j := 0) rfl ?_
      refine v_iconst C dX8_isOver_48 ?_
      refine v_iadd C dX8_isOver_49 ?_
      refine v_iald C dX8_isOver_50 (fun x11 => ?_)
      refine v_if_eq (tgt := 92) C dX8_isOver_51 rfl ?_ ?_
      · skip
        refine v_iconst C dX8_isOver_92 ?_
        refine v_goto (tgt := 97) C dX8_isOver_93 rfl ?_
        exact v_zret C rfl hO pS dX8_isOver_97
      · skip
        refine v_aload_n C dX8_isOver_54 rfl (j := 1) rfl ?_
        refine v_getR C 14 rfl (T := TX8) rfl inB8 (by decide) (by decide) rfl tw_1154 dX8_isOver_55 (fun x12 => ?_)
        refine v_iconst C dX8_isOver_58 ?_
        refine v_iald C dX8_isOver_59 (fun x13 => ?_)
        refine v_aload_n C dX8_isOver_60 rfl (j := 1) rfl ?_
        refine v_getR C 14 rfl (T := TX8) rfl inB8 (by decide) (by decide) rfl tw_1154 dX8_isOver_61 (fun x14 => ?_)
        refine v_iload_n C dX8_isOver_64 rfl (j := 0) rfl ?_
        refine v_iconst C dX8_isOver_65 ?_
        refine v_iadd C dX8_isOver_66 ?_
        refine v_iconst C dX8_isOver_67 ?_
        refine v_aload_n C dX8_isOver_68 rfl (j := 1) rfl ?_
        refine v_getR C 14 rfl (T := TX8) rfl inB8 (by decide) (by decide) rfl tw_1154 dX8_isOver_69 (fun x15 => ?_)
        refine v_iload_n C dX8_isOver_72 rfl (j := 0) rfl ?_
        refine v_iconst C dX8_isOver_73 ?_
        refine v_iadd C dX8_isOver_74 ?_
        refine v_iald C dX8_isOver_75 (fun x16 => ?_)
        refine v_imul C dX8_isOver_76 ?_
        refine v_iadd C dX8_isOver_77 ?_
        refine v_iconst C dX8_isOver_78 ?_
        refine v_isub C dX8_isOver_79 ?_
        refine v_iald C dX8_isOver_80 (fun x17 => ?_)
        refine v_isub C dX8_isOver_81 ?_
        refine v_aload_n C dX8_isOver_82 rfl (j := 1) rfl ?_
        refine v_getR C 11 rfl (T := TX8) rfl inB8 (by decide) (by decide) rfl tw_1151 dX8_isOver_83 (fun x18 => ?_)
        refine v_bipush C dX8_isOver_86 (by decide) ?_
        refine v_iald C dX8_isOver_88 (fun x19 => ?_)
        refine v_icmp_lt (tgt := 96) C dX8_isOver_89 rfl ?_ ?_
        · skip
          refine v_iconst C dX8_isOver_96 ?_
          exact v_zret C rfl hO pS dX8_isOver_97
        · skip
          refine v_iconst C dX8_isOver_92 ?_
          refine v_goto (tgt := 97) C dX8_isOver_93 rfl ?_
          exact v_zret C rfl hO pS dX8_isOver_97
    · skip
      refine v_iconst C dX8_isOver_41 ?_
      exact v_zret C rfl hO pS dX8_isOver_42
-- ForesightHubModel.frame
set_option maxRecDepth 100000 in
theorem vX8_frame_L12 {X : Cxt} {w : Wd} {P : Shp} {n : Nat} (res : St) (hRm : X.2.2.2.1 = rX8_frame) (C : Cok X w cX8_frame 2 RX8 (Option.none : Option FieldType)) (hO : Own X w 0 0 (QV w P n res))  (c0 : Int) (kE31 : St → Option (St)) (hE31 : ∀ (se : St), V X w 2 P n 0 0 res (kE31 se) se 31 [(0, A w c0)] []) : ∀ (fuel : Nat) (p1 : Int) (s : St), V X w 2 P n 0 0 res (fX8_frame_L12 P c0 kE31 fuel p1 s) s 12 [(0, A w c0), (1, I p1)] [] := by
  intro fuel
  induction fuel with
  | zero => intro p1 s; exact v_none
  | succ m ih =>
    intro p1 s
    rw [fX8_frame_L12]
    refine v_iload_n C dX8_frame_12 rfl (j := 1) rfl ?_
    refine v_aload_n C dX8_frame_13 rfl (j := 0) rfl ?_
    refine v_callV_rI C [] [I p1] (Cee.of (rm := rX8_streams) tw_1092 tw_9 hX8_streams rfl rfl hRm (Nat.le_of_ble_eq_true rfl) (Nat.le_of_ble_eq_true rfl)) (fun x h => kX8_streams X.2.1 w P n h) tw_1089 tw_1091 ts_39 rfl (ci := 8) rfl (by decide) rfl rfl (Nat.le_of_ble_eq_true rfl) ⟨Nat.zero_le _, Nat.zero_le _⟩ dX8_frame_14 (fun x4 => ?_)
    refine v_icmp_ge (tgt := 31) C dX8_frame_17 rfl ?_ ?_
    · skip
      refine v_sub [(0, A w c0)] [0] rfl ?_
      exact hE31 s
    · skip
      refine v_aload_n C dX8_frame_20 rfl (j := 0) rfl ?_
      refine v_iload_n C dX8_frame_21 rfl (j := 1) rfl ?_
      refine v_callV_wV C [I p1] [] (Cee.of (rm := rX8_flows) tw_1450 tw_9 hX8_flows rfl rfl hRm (Nat.le_of_ble_eq_true rfl) (Nat.le_of_ble_eq_true rfl)) (fun x h => kX8_flows X.2.1 w P n h) tw_1447 tw_1449 ts_85 rfl (ci := 8) rfl (by decide) rfl rfl (Nat.le_of_ble_eq_true rfl) ⟨Nat.zero_le _, Nat.zero_le _⟩ dX8_frame_22 (fun s5 => ?_)
      refine v_iinc C (j := 1) [(0, A w c0)] dX8_frame_25 (by decide) rfl (fun _ => rfl) (fun x6 => ?_)
      refine v_goto (tgt := 12) C dX8_frame_28 rfl ?_
      refine v_sub [(0, A w c0), (1, I x6)] [1, 0] rfl ?_
      exact ih x6 s5
set_option maxRecDepth 100000 in
theorem vX8_frame_L33 {X : Cxt} {w : Wd} {P : Shp} {n : Nat} (res : St) (hRm : X.2.2.2.1 = rX8_frame) (C : Cok X w cX8_frame 2 RX8 (Option.none : Option FieldType)) (hO : Own X w 0 0 (QV w P n res))  (c0 : Int) (kE60 : St → Option (St)) (hE60 : ∀ (se : St), V X w 2 P n 0 0 res (kE60 se) se 60 [(0, A w c0)] []) : ∀ (fuel : Nat) (p1 : Int) (s : St), V X w 2 P n 0 0 res (fX8_frame_L33 P c0 kE60 fuel p1 s) s 33 [(0, A w c0), (1, I p1)] [] := by
  intro fuel
  induction fuel with
  | zero => intro p1 s; exact v_none
  | succ m ih =>
    intro p1 s
    rw [fX8_frame_L33]
    refine v_iload_n C dX8_frame_33 rfl (j := 1) rfl ?_
    refine v_aload_n C dX8_frame_34 rfl (j := 0) rfl ?_
    refine v_callV_rI C [] [I p1] (Cee.of (rm := rX8_devices) tw_1085 tw_9 hX8_devices rfl rfl hRm (Nat.le_of_ble_eq_true rfl) (Nat.le_of_ble_eq_true rfl)) (fun x h => kX8_devices X.2.1 w P n h) tw_1082 tw_1084 ts_38 rfl (ci := 8) rfl (by decide) rfl rfl (Nat.le_of_ble_eq_true rfl) ⟨Nat.zero_le _, Nat.zero_le _⟩ dX8_frame_35 (fun x8 => ?_)
    refine v_icmp_ge (tgt := 60) C dX8_frame_38 rfl ?_ ?_
    · skip
      refine v_sub [(0, A w c0)] [0] rfl ?_
      exact hE60 s
    · skip
      refine v_aload_n C dX8_frame_41 rfl (j := 0) rfl ?_
      refine v_iload_n C dX8_frame_42 rfl (j := 1) rfl ?_
      refine v_callV_rI C [I p1] [] (Cee.of (rm := rX8_isOver) tw_1454 tw_9 hX8_isOver rfl rfl hRm (Nat.le_of_ble_eq_true rfl) (Nat.le_of_ble_eq_true rfl)) (fun x h => kX8_isOver X.2.1 w P n h) tw_1451 tw_1453 ts_86 rfl (ci := 8) rfl (by decide) rfl rfl (Nat.le_of_ble_eq_true rfl) ⟨Nat.zero_le _, Nat.zero_le _⟩ dX8_frame_43 (fun x9 => ?_)
      refine v_jnt (fun (k54 : St → Option (St)) => ∀ (s10 : St), V X w 2 P n 0 0 res (k54 s10) s10 54 [(0, A w c0), (1, I p1)] []) ?_ ?_
      · intro s10
        refine v_iinc C (j := 1) [(0, A w c0)] dX8_frame_54 (by decide) rfl (fun _ => rfl) (fun x11 => ?_)
        refine v_goto (tgt := 33) C dX8_frame_57 rfl ?_
        refine v_sub [(0, A w c0), (1, I x11)] [1, 0] rfl ?_
        exact ih x11 s10
      intro k54 hk54
      refine v_if_eq (tgt := 54) C dX8_frame_46 rfl ?_ ?_
      · skip
        exact hk54 s
      · skip
        refine v_aload_n C dX8_frame_49 rfl (j := 0) rfl ?_
        refine v_iload_n C dX8_frame_50 rfl (j := 1) rfl ?_
        refine v_callV_wV C [I p1] [] (Cee.of (rm := rX8_calms) tw_1458 tw_9 hX8_calms rfl rfl hRm (Nat.le_of_ble_eq_true rfl) (Nat.le_of_ble_eq_true rfl)) (fun x h => kX8_calms X.2.1 w P n h) tw_1455 tw_1457 ts_87 rfl (ci := 8) rfl (by decide) rfl rfl (Nat.le_of_ble_eq_true rfl) ⟨Nat.zero_le _, Nat.zero_le _⟩ dX8_frame_51 (fun s12 => ?_)
        exact hk54 s12
theorem hX8_frame : yX8_frame.cls ≠ "java/lang/invoke/MethodHandle" ∧ yX8_frame.cls ≠ "java/lang/invoke/VarHandle" ∧ (parseMethodDescriptor yX8_frame.desc).map (fun d => d.parameters.length) = some 0 := by decide +kernel
set_option maxRecDepth 100000 in
theorem kX8_frame (l : Launch) (w : Wd) (P : Shp) (n : Nat) {s : St} {a0 : Int} {res : St} (h : fX8_frame P s a0 = some res) : Ct l w yX8_frame cX8_frame 2 (Option.none : Option FieldType) rX8_frame P n [A w a0] s (QV w P n res) :=
  Ct.of h (by decide) (Nat.le_of_ble_eq_true rfl) (lv := [(0, A w a0)]) rfl fun X hl hRm C hO => by
  subst hl
  unfold fX8_frame
  refine v_aload_n C dX8_frame_0 rfl (j := 0) rfl ?_
  refine v_getR C 14 rfl (T := TX8) rfl inB8 (by decide) (by decide) rfl tw_1154 dX8_frame_1 (fun x1 => ?_)
  refine v_iconst C dX8_frame_4 ?_
  refine v_dup2 C dX8_frame_5 rfl rfl ?_
  refine v_iald C dX8_frame_6 (fun x2 => ?_)
  refine v_iconst C dX8_frame_7 ?_
  refine v_iadd C dX8_frame_8 ?_
  refine v_iast C dX8_frame_9 (fun s3 => ?_)
  refine v_iconst C dX8_frame_10 ?_
  refine v_istore_n C [(1, I 0), (0, A w a0)] dX8_frame_11 rfl (by decide) rfl ?_
  refine v_sub [(0, A w a0), (1, I 0)] [1, 0] rfl ?_
  refine vX8_frame_L12 res hRm C hO a0 _ ?_ 1000 0 s3
  · intro s7
    refine v_iconst C dX8_frame_31 ?_
    refine v_istore_n C [(1, I 0), (0, A w a0)] dX8_frame_32 rfl (by decide) rfl ?_
    refine v_sub [(0, A w a0), (1, I 0)] [1, 0] rfl ?_
    refine vX8_frame_L33 res hRm C hO a0 _ ?_ 1000 0 s7
    · intro s13
      refine v_aload_n C dX8_frame_60 rfl (j := 0) rfl ?_
      refine v_callV_wV C [] [] (Cee.of (rm := rX8_settles) tw_1099 tw_9 hX8_settles rfl rfl hRm (Nat.le_of_ble_eq_true rfl) (Nat.le_of_ble_eq_true rfl)) (fun x h => kX8_settles X.2.1 w P n h) tw_1096 tw_1098 ts_40 rfl (ci := 8) rfl (by decide) rfl rfl (Nat.le_of_ble_eq_true rfl) ⟨Nat.zero_le _, Nat.zero_le _⟩ dX8_frame_61 (fun s14 => ?_)
      exact v_vret C rfl hO (fun h => Option.some.inj h) dX8_frame_64
-- ForesightHubModel.frames
set_option maxRecDepth 100000 in
theorem vX8_frames_L35 {X : Cxt} {w : Wd} {P : Shp} {n : Nat} (res : Int × St) (hRm : X.2.2.2.1 = rX8_frames) (C : Cok X w cX8_frames 3 RX8 (some FieldType.int)) (hO : Own X w 0 0 (QI w P n res.1 res.2))  (c0 : Int) (c1 : Int) (kE50 : St → Option (Int × St)) (hE50 : ∀ (se : St), V X w 3 P n 0 0 res (kE50 se) se 50 [(0, A w c0)] []) : ∀ (fuel : Nat) (p2 : Int) (s : St), V X w 3 P n 0 0 res (fX8_frames_L35 P c0 c1 kE50 fuel p2 s) s 35 [(0, A w c0), (1, I c1), (2, I p2)] [] := by
  intro fuel
  induction fuel with
  | zero => intro p2 s; exact v_none
  | succ m ih =>
    intro p2 s
    rw [fX8_frames_L35]
    refine v_iload_n C dX8_frames_35 rfl (j := 2) rfl ?_
    refine v_iload_n C dX8_frames_36 rfl (j := 1) rfl ?_
    refine v_icmp_ge (tgt := 50) C dX8_frames_37 rfl ?_ ?_
    · skip
      refine v_sub [(0, A w c0)] [0] rfl ?_
      exact hE50 s
    · skip
      refine v_aload_n C dX8_frames_40 rfl (j := 0) rfl ?_
      refine v_callV_wV C [] [] (Cee.of (rm := rX8_frame) tw_1446 tw_9 hX8_frame rfl rfl hRm (Nat.le_of_ble_eq_true rfl) (Nat.le_of_ble_eq_true rfl)) (fun x h => kX8_frame X.2.1 w P n h) tw_1443 tw_1445 ts_84 rfl (ci := 8) rfl (by decide) rfl rfl (Nat.le_of_ble_eq_true rfl) ⟨Nat.zero_le _, Nat.zero_le _⟩ dX8_frames_41 (fun s6 => ?_)
      refine v_iinc C (j := 2) [(0, A w c0), (1, I c1)] dX8_frames_44 (by decide) rfl (fun _ => rfl) (fun x7 => ?_)
      refine v_goto (tgt := 35) C dX8_frames_47 rfl ?_
      refine v_sub [(0, A w c0), (1, I c1), (2, I x7)] [1, 2, 0] rfl ?_
      exact ih x7 s6
theorem hX8_frames : yX8_frames.cls ≠ "java/lang/invoke/MethodHandle" ∧ yX8_frames.cls ≠ "java/lang/invoke/VarHandle" ∧ (parseMethodDescriptor yX8_frames.desc).map (fun d => d.parameters.length) = some 1 := by decide +kernel
set_option maxRecDepth 100000 in
theorem kX8_frames (l : Launch) (w : Wd) (P : Shp) (n : Nat) {s : St} {a0 : Int} {a1 : Int} {res : Int × St} (h : fX8_frames P s a0 a1 = some res) : Ct l w yX8_frames cX8_frames 3 (some FieldType.int) rX8_frames P n [A w a0, I a1] s (QI w P n res.1 res.2) :=
  Ct.of h (by decide) (Nat.le_of_ble_eq_true rfl) (lv := [(0, A w a0), (1, I a1)]) rfl fun X hl hRm C hO => by
  subst hl
  unfold fX8_frames
  refine v_aload_n C dX8_frames_0 rfl (j := 0) rfl ?_
  refine v_iload_n C dX8_frames_1 rfl (j := 1) rfl ?_
  refine v_iconst C dX8_frames_2 ?_
  refine v_sipush C dX8_frames_3 (by decide) ?_
  refine v_callS_rI C [I a1, I 1, I 200] [A w a0] (Cee.of (rm := rX8_within) tw_1228 tw_9 hX8_within rfl rfl hRm (Nat.le_of_ble_eq_true rfl) (Nat.le_of_ble_eq_true rfl)) (fun x h => kX8_within X.2.1 w P n h) tw_1226 tw_1227 rfl rfl (Nat.le_of_ble_eq_true rfl) ⟨Nat.zero_le _, Nat.zero_le _⟩ dX8_frames_6 (fun x1 => ?_)
  refine v_jnt (fun (k17 : Int → Option (Int × St)) => ∀ (x2 : Int), V X w 3 P n 0 0 res (k17 x2) s 17 [(0, A w a0), (1, I a1)] [I x2, A w a0]) ?_ ?_
  · intro x2
    refine v_putI C 0 rfl (T := TX8) rfl inB8 (by decide) tyX8_ok nmX8 (by decide) rfl rfl tw_1140 dX8_frames_17 rfl (fun s3 => ?_)
    refine v_aload_n C dX8_frames_20 rfl (j := 0) rfl ?_
    refine v_getI C 0 rfl (T := TX8) rfl inB8 (by decide) (by decide) rfl tw_1140 dX8_frames_21 (fun x4 => ?_)
    refine v_if_le (tgt := 29) C dX8_frames_24 rfl ?_ ?_
    · skip
      refine v_aload_n C dX8_frames_29 rfl (j := 0) rfl ?_
      refine v_callV_wV C [] [] (Cee.of (rm := rX8_keep) tw_1439 tw_9 hX8_keep rfl rfl hRm (Nat.le_of_ble_eq_true rfl) (Nat.le_of_ble_eq_true rfl)) (fun x h => kX8_keep X.2.1 w P n h) tw_1436 tw_1438 ts_83 rfl (ci := 8) rfl (by decide) rfl rfl (Nat.le_of_ble_eq_true rfl) ⟨Nat.zero_le _, Nat.zero_le _⟩ dX8_frames_30 (fun s5 => ?_)
      refine v_iconst C dX8_frames_33 ?_
      refine v_istore_n C [(2, I 0), (0, A w a0), (1, I a1)] dX8_frames_34 rfl (by decide) rfl ?_
      refine v_sub [(0, A w a0), (1, I a1), (2, I 0)] [1, 2, 0] rfl ?_
      refine vX8_frames_L35 res hRm C hO a0 a1 _ ?_ 1000 0 s5
      · intro s8
        refine v_aload_n C dX8_frames_50 rfl (j := 0) rfl ?_
        refine v_callV_rI C [] [] (Cee.of (rm := rX8_reserved) tw_1139 tw_9 hX8_reserved rfl rfl hRm (Nat.le_of_ble_eq_true rfl) (Nat.le_of_ble_eq_true rfl)) (fun x h => kX8_reserved X.2.1 w P n h) tw_1136 tw_1138 ts_50 rfl (ci := 8) rfl (by decide) rfl rfl (Nat.le_of_ble_eq_true rfl) ⟨Nat.zero_le _, Nat.zero_le _⟩ dX8_frames_51 (fun x9 => ?_)
        exact v_iret C rfl hO pI dX8_frames_54
    · skip
      refine v_iconst C dX8_frames_27 ?_
      exact v_iret C rfl hO pI dX8_frames_28
  intro k17 hk17
  refine v_if_eq (tgt := 16) C dX8_frames_9 rfl ?_ ?_
  · skip
    refine v_iconst C dX8_frames_16 ?_
    exact hk17 1
  · skip
    refine v_iconst C dX8_frames_12 ?_
    refine v_goto (tgt := 17) C dX8_frames_13 rfl ?_
    exact hk17 0
