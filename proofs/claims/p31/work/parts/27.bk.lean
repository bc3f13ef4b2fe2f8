/-! CONTRACTS of the law's methods -/
-- ForesightHubLaw.cell
theorem hL_cell : yL_cell.cls ≠ "java/lang/invoke/MethodHandle" ∧ yL_cell.cls ≠ "java/lang/invoke/VarHandle" ∧ (parseMethodDescriptor yL_cell.desc).map (fun d => d.parameters.length) = some 2 := by decide +kernel
set_option maxRecDepth 100000 in
theorem kL_cell (l : Launch) (w : Wd) (P : Shp) (n : Nat) {s : St} {a1 : Int} {res : Int} (h : fL_cell (wL w) (wX w) P s a1 = some res) : Ct l w yL_cell cL_cell 2 (some FieldType.int) rL_cell P n [A w ((-101)), I a1] s (QI w P n res s) :=
  Ct.of h (by decide) (Nat.le_of_ble_eq_true rfl) (lv := [(0, A w ((-101))), (1, I a1)]) rfl fun X hl hRm C hO => by
  subst hl
  unfold fL_cell
  refine v_aload_n C dL_cell_0 rfl (j := 0) rfl ?_
  refine v_scl C dL_cell_1 ?_
  refine v_if_ne (tgt := 9) C dL_cell_2 rfl ?_ ?_
  · skip
    refine v_aload_n C dL_cell_9 rfl (j := 0) rfl ?_
    refine v_iload_n C dL_cell_10 rfl (j := 1) rfl ?_
    refine v_aload_n C dL_cell_11 rfl (j := 0) rfl ?_
    refine v_scl C dL_cell_12 ?_
    refine v_irem C dL_cell_13 (fun x1 => ?_)
    refine v_sc C dL_cell_14 (fun x2 => ?_)
    refine v_ldc (z := 40503) C tw_567 dL_cell_15 rfl ?_
    refine v_iload_n C dL_cell_17 rfl (j := 1) rfl ?_
    refine v_aload_n C dL_cell_18 rfl (j := 0) rfl ?_
    refine v_scl C dL_cell_19 ?_
    refine v_idiv C dL_cell_20 (fun x3 => ?_)
    refine v_imul C dL_cell_21 ?_
    refine v_ixor C dL_cell_22 ?_
    exact v_iret C rfl hO pS dL_cell_23
  · skip
    refine v_iconst C dL_cell_5 ?_
    refine v_goto (tgt := 23) C dL_cell_6 rfl ?_
    exact v_iret C rfl hO pS dL_cell_23
-- ForesightHubLaw.pick
theorem hL_pick : yL_pick.cls ≠ "java/lang/invoke/MethodHandle" ∧ yL_pick.cls ≠ "java/lang/invoke/VarHandle" ∧ (parseMethodDescriptor yL_pick.desc).map (fun d => d.parameters.length) = some 3 := by decide +kernel
set_option maxRecDepth 100000 in
theorem kL_pick (l : Launch) (w : Wd) (P : Shp) (n : Nat) {s : St} {a1 : Int} {a2 : Int} {res : Int} (h : fL_pick (wL w) (wX w) P s a1 a2 = some res) : Ct l w yL_pick cL_pick 3 (some FieldType.int) rL_pick P n [A w ((-101)), I a1, I a2] s (QI w P n res s) :=
  Ct.of h (by decide) (Nat.le_of_ble_eq_true rfl) (lv := [(0, A w ((-101))), (1, I a1), (2, I a2)]) rfl fun X hl hRm C hO => by
  subst hl
  unfold fL_pick
  refine v_aload_n C dL_pick_0 rfl (j := 0) rfl ?_
  refine v_iload_n C dL_pick_1 rfl (j := 1) rfl ?_
  refine v_callS_rI C [A w ((-101)), I a1] [] (Cee.of (rm := rL_cell) tw_566 tw_0 hL_cell rfl rfl hRm (Nat.le_of_ble_eq_true rfl) (Nat.le_of_ble_eq_true rfl)) (fun x h => kL_cell X.2.1 w _ _ h) tw_564 tw_565 rfl rfl (Nat.le_of_ble_eq_true rfl) ⟨Nat.zero_le _, Nat.zero_le _⟩ dL_pick_2 (fun x1 => ?_)
  refine v_ldc (z := 65535) C tw_568 dL_pick_5 rfl ?_
  refine v_iand C dL_pick_7 ?_
  refine v_iload_n C dL_pick_8 rfl (j := 2) rfl ?_
  refine v_irem C dL_pick_9 (fun x2 => ?_)
  exact v_iret C rfl hO pS dL_pick_10
-- ForesightHubLaw.kind
theorem hL_kind : yL_kind.cls ≠ "java/lang/invoke/MethodHandle" ∧ yL_kind.cls ≠ "java/lang/invoke/VarHandle" ∧ (parseMethodDescriptor yL_kind.desc).map (fun d => d.parameters.length) = some 1 := by decide +kernel
set_option maxRecDepth 100000 in
theorem kL_kind (l : Launch) (w : Wd) (P : Shp) (n : Nat) {s : St} {a0 : Int} {res : Int} (h : fL_kind P s a0 = some res) : Ct l w yL_kind cL_kind 1 (some (FieldType.object "java/lang/String")) rL_kind P n [I a0] s (QR w P n res s) :=
  Ct.of h (by decide) (Nat.le_of_ble_eq_true rfl) (lv := [(0, I a0)]) rfl fun X hl hRm C hO => by
  subst hl
  unfold fL_kind
  refine v_iload_n C dL_kind_0 rfl (j := 0) rfl ?_
  refine v_if_ne (tgt := 9) C dL_kind_1 rfl ?_ ?_
  · skip
    refine v_iload_n C dL_kind_9 rfl (j := 0) rfl ?_
    refine v_iconst C dL_kind_10 ?_
    refine v_icmp_ne (tgt := 19) C dL_kind_11 rfl ?_ ?_
    · skip
      refine v_iload_n C dL_kind_19 rfl (j := 0) rfl ?_
      refine v_iconst C dL_kind_20 ?_
      refine v_icmp_ne (tgt := 29) C dL_kind_21 rfl ?_ ?_
      · skip
        refine v_ldcS (own := RL) (idx := 21) (tx := " power") (i := 17) (z := (-19)) C (by decide +kernel) dL_kind_29 (by decide) ?_
        exact v_aret C rfl hO pS dL_kind_31
      · skip
        refine v_ldcS (own := RL) (idx := 19) (tx := " jitter") (i := 16) (z := (-18)) C (by decide +kernel) dL_kind_24 (by decide) ?_
        refine v_goto (tgt := 31) C dL_kind_26 rfl ?_
        exact v_aret C rfl hO pS dL_kind_31
    · skip
      refine v_ldcS (own := RL) (idx := 17) (tx := " stall") (i := 15) (z := (-17)) C (by decide +kernel) dL_kind_14 (by decide) ?_
      refine v_goto (tgt := 31) C dL_kind_16 rfl ?_
      exact v_aret C rfl hO pS dL_kind_31
  · skip
    refine v_ldcS (own := RL) (idx := 15) (tx := " crc") (i := 14) (z := (-16)) C (by decide +kernel) dL_kind_4 (by decide) ?_
    refine v_goto (tgt := 31) C dL_kind_6 rfl ?_
    exact v_aret C rfl hO pS dL_kind_31
-- ForesightHubLaw.acts
theorem hL_acts : yL_acts.cls ≠ "java/lang/invoke/MethodHandle" ∧ yL_acts.cls ≠ "java/lang/invoke/VarHandle" ∧ (parseMethodDescriptor yL_acts.desc).map (fun d => d.parameters.length) = some 3 := by decide +kernel
set_option maxRecDepth 100000 in
theorem kL_acts (l : Launch) (w : Wd) (P : Shp) (n : Nat) {s : St} {a0 : Int} {a2 : Int} {res : Int × St} (h : fL_acts (wL w) (wX w) P s a0 a2 = some res) : Ct l w yL_acts cL_acts 6 (some FieldType.boolean) rL_acts P n [A w a0, A w ((-101)), I a2] s (QI w P n res.1 res.2) :=
  Ct.of h (by decide) (Nat.le_of_ble_eq_true rfl) (lv := [(0, A w a0), (1, A w ((-101))), (2, I a2)]) rfl fun X hl hRm C hO => by
  subst hl
  unfold fL_acts
  refine v_aload_n C dL_acts_0 rfl (j := 1) rfl ?_
  refine v_iload_n C dL_acts_1 rfl (j := 2) rfl ?_
  refine v_aload_n C dL_acts_2 rfl (j := 0) rfl ?_
  refine v_iconst C dL_acts_3 ?_
  refine v_callV_rI C [I 1] [I a2, A w ((-101))] (Cee.of (rm := rX7_size) tw_357 tw_1 hX7_size rfl rfl hRm (Nat.le_of_ble_eq_true rfl) (Nat.le_of_ble_eq_true rfl)) (fun x h => kX7_size X.2.1 w _ _ h) tw_354 tw_355 tw_356 rfl (ci := 7) rfl (by decide) rfl rfl (Nat.le_of_ble_eq_true rfl) ⟨Nat.zero_le _, Nat.zero_le _⟩ dL_acts_4 (fun x1 => ?_)
  refine v_callS_rI C [A w ((-101)), I a2, I x1] [] (Cee.of (rm := rL_pick) tw_563 tw_0 hL_pick rfl rfl hRm (Nat.le_of_ble_eq_true rfl) (Nat.le_of_ble_eq_true rfl)) (fun x h => kL_pick X.2.1 w _ _ h) tw_561 tw_562 rfl rfl (Nat.le_of_ble_eq_true rfl) ⟨Nat.zero_le _, Nat.zero_le _⟩ dL_acts_7 (fun x2 => ?_)
  refine v_istore_n C [(3, I x2), (0, A w a0), (1, A w ((-101))), (2, I a2)] dL_acts_10 rfl (by decide) rfl ?_
  refine v_aload_n C dL_acts_11 rfl (j := 2) rfl ?_
  refine v_iload_n C dL_acts_12 rfl (j := 3) rfl ?_
  refine v_iconst C dL_acts_13 ?_
  refine v_iadd C dL_acts_14 ?_
  refine v_bipush C dL_acts_15 (by decide) ?_
  refine v_callS_rI C [A w ((-101)), I (a2 + 1), I 6] [] (Cee.of (rm := rL_pick) tw_563 tw_0 hL_pick rfl rfl hRm (Nat.le_of_ble_eq_true rfl) (Nat.le_of_ble_eq_true rfl)) (fun x h => kL_pick X.2.1 w _ _ h) tw_561 tw_562 rfl rfl (Nat.le_of_ble_eq_true rfl) ⟨Nat.zero_le _, Nat.zero_le _⟩ dL_acts_17 (fun x3 => ?_)
  refine v_istore C [(4, I x3), (3, I x2), (0, A w a0), (1, A w ((-101))), (2, I a2)] dL_acts_20 (by decide) rfl ?_
  refine v_aload_n C dL_acts_22 rfl (j := 2) rfl ?_
  refine v_iload_n C dL_acts_23 rfl (j := 1) rfl ?_
  refine v_iconst C dL_acts_24 ?_
  refine v_callV_rI C [I x2, I 0] [] (Cee.of (rm := rX7_device) tw_432 tw_1 hX7_device rfl rfl hRm (Nat.le_of_ble_eq_true rfl) (Nat.le_of_ble_eq_true rfl)) (fun x h => kX7_device X.2.1 w _ _ h) tw_429 tw_430 tw_431 rfl (ci := 7) rfl (by decide) rfl rfl (Nat.le_of_ble_eq_true rfl) ⟨Nat.zero_le _, Nat.zero_le _⟩ dL_acts_25 (fun x4 => ?_)
  refine v_iconst C dL_acts_28 ?_
  refine v_jnt (fun (k37 : Int → Option (Int × St)) => ∀ (x5 : Int), V X w 6 P n 0 0 res (k37 x5) s 37 [(0, A w a0), (1, A w ((-101))), (2, I a2), (3, I x2), (4, I x3)] [I x5]) ?_ ?_
  · intro x5
    refine v_istore C [(5, I x5), (0, A w a0), (1, A w ((-101))), (2, I a2), (3, I x2), (4, I x3)] dL_acts_37 (by decide) rfl ?_
    refine v_iload C dL_acts_39 (j := 5) rfl ?_
    refine v_iconst C dL_acts_41 ?_
    refine v_jnt (fun (k72 : Option (Int × St)) => V X w 6 P n 0 0 res (k72) s 72 [(0, A w a0), (1, A w ((-101))), (2, I a2), (3, I x2), (4, I x3), (5, I x5)] []) ?_ ?_
    · skip
      refine v_iload C dL_acts_72 (j := 4) rfl ?_
      refine v_iconst C dL_acts_74 ?_
      refine v_jnt (fun (k98 : Option (Int × St)) => V X w 6 P n 0 0 res (k98) s 98 [(0, A w a0), (1, A w ((-101))), (2, I a2), (3, I x2), (4, I x3)] []) ?_ ?_
      · skip
        refine v_iload C dL_acts_98 (j := 4) rfl ?_
        refine v_iconst C dL_acts_100 ?_
        refine v_jnt (fun (k128 : Option (Int × St)) => V X w 6 P n 0 0 res (k128) s 128 [(0, A w a0), (1, A w ((-101))), (2, I a2)] []) ?_ ?_
        · skip
          refine v_aload_n C dL_acts_128 rfl (j := 0) rfl ?_
          refine v_iconst C dL_acts_129 ?_
          refine v_aload_n C dL_acts_130 rfl (j := 1) rfl ?_
          refine v_iload_n C dL_acts_131 rfl (j := 2) rfl ?_
          refine v_iconst C dL_acts_132 ?_
          refine v_iadd C dL_acts_133 ?_
          refine v_bipush C dL_acts_134 (by decide) ?_
          refine v_callS_rI C [A w ((-101)), I (a2 + 3), I 7] [I 1, A w a0] (Cee.of (rm := rL_pick) tw_563 tw_0 hL_pick rfl rfl hRm (Nat.le_of_ble_eq_true rfl) (Nat.le_of_ble_eq_true rfl)) (fun x h => kL_pick X.2.1 w _ _ h) tw_561 tw_562 rfl rfl (Nat.le_of_ble_eq_true rfl) ⟨Nat.zero_le _, Nat.zero_le _⟩ dL_acts_136 (fun x6 => ?_)
          refine v_iadd C dL_acts_139 ?_
          refine v_callV_wI C [I (1 + x6)] [] (Cee.of (rm := rX7_frames) tw_1082 tw_1 hX7_frames rfl rfl hRm (Nat.le_of_ble_eq_true rfl) (Nat.le_of_ble_eq_true rfl)) (fun x h => kX7_frames X.2.1 w _ _ h) tw_1079 tw_1080 tw_1081 rfl (ci := 7) rfl (by decide) rfl rfl (Nat.le_of_ble_eq_true rfl) ⟨Nat.zero_le _, Nat.zero_le _⟩ dL_acts_140 (fun q7 => ?_)
          obtain ⟨x8, s9⟩ := q7
          refine v_if_lt (tgt := 150) C dL_acts_143 rfl ?_ ?_
          · skip
            refine v_iconst C dL_acts_150 ?_
            exact v_zret C rfl hO pI dL_acts_151
          · skip
            refine v_iconst C dL_acts_146 ?_
            refine v_goto (tgt := 151) C dL_acts_147 rfl ?_
            exact v_zret C rfl hO pI dL_acts_151
        intro k128 hk128
        refine v_icmp_ne (tgt := 128) C dL_acts_101 rfl ?_ ?_
        · skip
          refine v_sub [(0, A w a0), (1, A w ((-101))), (2, I a2)] [0, 1, 2] rfl ?_
          exact hk128
        · skip
          refine v_aload_n C dL_acts_104 rfl (j := 0) rfl ?_
          refine v_iload_n C dL_acts_105 rfl (j := 3) rfl ?_
          refine v_iconst C dL_acts_106 ?_
          refine v_callV_rI C [I x2, I 2] [] (Cee.of (rm := rX7_device) tw_432 tw_1 hX7_device rfl rfl hRm (Nat.le_of_ble_eq_true rfl) (Nat.le_of_ble_eq_true rfl)) (fun x h => kX7_device X.2.1 w _ _ h) tw_429 tw_430 tw_431 rfl (ci := 7) rfl (by decide) rfl rfl (Nat.le_of_ble_eq_true rfl) ⟨Nat.zero_le _, Nat.zero_le _⟩ dL_acts_107 (fun x10 => ?_)
          refine v_iconst C dL_acts_110 ?_
          refine v_icmp_ne (tgt := 128) C dL_acts_111 rfl ?_ ?_
          · skip
            refine v_sub [(0, A w a0), (1, A w ((-101))), (2, I a2)] [0, 1, 2] rfl ?_
            exact hk128
          · skip
            refine v_aload_n C dL_acts_114 rfl (j := 0) rfl ?_
            refine v_iload_n C dL_acts_115 rfl (j := 3) rfl ?_
            refine v_callV_wI C [I x2] [] (Cee.of (rm := rX7_callOff) tw_1068 tw_1 hX7_callOff rfl rfl hRm (Nat.le_of_ble_eq_true rfl) (Nat.le_of_ble_eq_true rfl)) (fun x h => kX7_callOff X.2.1 w _ _ h) tw_1065 tw_1066 tw_1067 rfl (ci := 7) rfl (by decide) rfl rfl (Nat.le_of_ble_eq_true rfl) ⟨Nat.zero_le _, Nat.zero_le _⟩ dL_acts_116 (fun q11 => ?_)
            obtain ⟨x12, s13⟩ := q11
            refine v_if_lt (tgt := 126) C dL_acts_119 rfl ?_ ?_
            · skip
              refine v_iconst C dL_acts_126 ?_
              exact v_zret C rfl hO pI dL_acts_127
            · skip
              refine v_iconst C dL_acts_122 ?_
              refine v_goto (tgt := 127) C dL_acts_123 rfl ?_
              exact v_zret C rfl hO pI dL_acts_127
      intro k98 hk98
      refine v_icmp_ne (tgt := 98) C dL_acts_75 rfl ?_ ?_
      · skip
        refine v_sub [(0, A w a0), (1, A w ((-101))), (2, I a2), (3, I x2), (4, I x3)] [0, 1, 2, 3, 4] rfl ?_
        exact hk98
      · skip
        refine v_iload C dL_acts_78 (j := 5) rfl ?_
        refine v_if_ne (tgt := 98) C dL_acts_80 rfl ?_ ?_
        · skip
          refine v_sub [(0, A w a0), (1, A w ((-101))), (2, I a2), (3, I x2), (4, I x3)] [0, 1, 2, 3, 4] rfl ?_
          exact hk98
        · skip
          refine v_aload_n C dL_acts_83 rfl (j := 0) rfl ?_
          refine v_iload_n C dL_acts_84 rfl (j := 3) rfl ?_
          refine v_iload_n C dL_acts_85 rfl (j := 3) rfl ?_
          refine v_callV_wI C [I x2, I x2] [] (Cee.of (rm := rX7_plug) tw_1043 tw_1 hX7_plug rfl rfl hRm (Nat.le_of_ble_eq_true rfl) (Nat.le_of_ble_eq_true rfl)) (fun x h => kX7_plug X.2.1 w _ _ h) tw_1040 tw_1041 tw_1042 rfl (ci := 7) rfl (by decide) rfl rfl (Nat.le_of_ble_eq_true rfl) ⟨Nat.zero_le _, Nat.zero_le _⟩ dL_acts_86 (fun q14 => ?_)
          obtain ⟨x15, s16⟩ := q14
          refine v_if_lt (tgt := 96) C dL_acts_89 rfl ?_ ?_
          · skip
            refine v_iconst C dL_acts_96 ?_
            exact v_zret C rfl hO pI dL_acts_97
          · skip
            refine v_iconst C dL_acts_92 ?_
            refine v_goto (tgt := 97) C dL_acts_93 rfl ?_
            exact v_zret C rfl hO pI dL_acts_97
    intro k72 hk72
    refine v_icmp_ge (tgt := 72) C dL_acts_42 rfl ?_ ?_
    · skip
      refine v_sub [(0, A w a0), (1, A w ((-101))), (2, I a2), (3, I x2), (4, I x3), (5, I x5)] [1, 2, 3, 4, 5, 0] rfl ?_
      exact hk72
    · skip
      refine v_iload C dL_acts_45 (j := 0) rfl ?_
      refine v_if_eq (tgt := 72) C dL_acts_47 rfl ?_ ?_
      · skip
        refine v_sub [(0, A w a0), (1, A w ((-101))), (2, I a2), (3, I x2), (4, I x3), (5, I x5)] [1, 2, 3, 4, 5, 0] rfl ?_
        exact hk72
      · skip
        refine v_aload_n C dL_acts_50 rfl (j := 1) rfl ?_
        refine v_iload_n C dL_acts_51 rfl (j := 4) rfl ?_
        refine v_aload_n C dL_acts_52 rfl (j := 2) rfl ?_
        refine v_iload_n C dL_acts_53 rfl (j := 3) rfl ?_
        refine v_iconst C dL_acts_54 ?_
        refine v_iadd C dL_acts_55 ?_
        refine v_iconst C dL_acts_56 ?_
        refine v_callS_rI C [A w ((-101)), I (a2 + 2), I 4] [I x2, A w a0] (Cee.of (rm := rL_pick) tw_563 tw_0 hL_pick rfl rfl hRm (Nat.le_of_ble_eq_true rfl) (Nat.le_of_ble_eq_true rfl)) (fun x h => kL_pick X.2.1 w _ _ h) tw_561 tw_562 rfl rfl (Nat.le_of_ble_eq_true rfl) ⟨Nat.zero_le _, Nat.zero_le _⟩ dL_acts_57 (fun x17 => ?_)
        refine v_callV_wI C [I x2, I x17] [] (Cee.of (rm := rX7_fail) tw_987 tw_1 hX7_fail rfl rfl hRm (Nat.le_of_ble_eq_true rfl) (Nat.le_of_ble_eq_true rfl)) (fun x h => kX7_fail X.2.1 w _ _ h) tw_984 tw_985 tw_986 rfl (ci := 7) rfl (by decide) rfl rfl (Nat.le_of_ble_eq_true rfl) ⟨Nat.zero_le _, Nat.zero_le _⟩ dL_acts_60 (fun q18 => ?_)
        obtain ⟨x19, s20⟩ := q18
        refine v_if_lt (tgt := 70) C dL_acts_63 rfl ?_ ?_
        · skip
          refine v_iconst C dL_acts_70 ?_
          exact v_zret C rfl hO pI dL_acts_71
        · skip
          refine v_iconst C dL_acts_66 ?_
          refine v_goto (tgt := 71) C dL_acts_67 rfl ?_
          exact v_zret C rfl hO pI dL_acts_71
  intro k37 hk37
  refine v_icmp_eq (tgt := 36) C dL_acts_29 rfl ?_ ?_
  · skip
    refine v_iconst C dL_acts_36 ?_
    refine v_sub [(0, A w a0), (1, A w ((-101))), (2, I a2), (3, I x2), (4, I x3)] [2, 3, 4, 1, 0] rfl ?_
    exact hk37 0
  · skip
    refine v_iconst C dL_acts_32 ?_
    refine v_goto (tgt := 37) C dL_acts_33 rfl ?_
    refine v_sub [(0, A w a0), (1, A w ((-101))), (2, I a2), (3, I x2), (4, I x3)] [2, 3, 4, 1, 0] rfl ?_
    exact hk37 1
-- ForesightHubLaw.isWithin
set_option maxRecDepth 100000 in
theorem vL_isWithin_L6 {X : Cxt} {w : Wd} {P : Shp} {n : Nat} {s : St} (res : Int) (hRm : X.2.2.2.1 = rL_isWithin) (C : Cok X w cL_isWithin 4 RL (some FieldType.boolean)) (hO : Own X w 0 0 (QI w P n res s))  (c0 : Int) (kE75 : Int → Int → Option (Int)) (kE47 : Option (Int)) (hE75 : ∀ (p1e p2e : Int), V X w 4 P n 0 0 res (kE75 p1e p2e) s 75 [(0, A w c0), (1, I p1e), (2, I p2e)] []) (hE47 : V X w 4 P n 0 0 res (kE47) s 47 [] []) : ∀ (fuel : Nat) (p1 p2 p3 : Int), V X w 4 P n 0 0 res (fL_isWithin_L6 P s c0 kE75 kE47 fuel p1 p2 p3) s 6 [(0, A w c0), (1, I p1), (2, I p2), (3, I p3)] [] := by
  intro fuel
  induction fuel with
  | zero => intro p1 p2 p3; exact v_none
  | succ m ih =>
    intro p1 p2 p3
    rw [fL_isWithin_L6]
    refine v_iload_n C dL_isWithin_6 rfl (j := 3) rfl ?_
    refine v_aload_n C dL_isWithin_7 rfl (j := 0) rfl ?_
    refine v_iconst C dL_isWithin_8 ?_
    refine v_callV_rI C [I 1] [I p3] (Cee.of (rm := rX7_size) tw_357 tw_1 hX7_size rfl rfl hRm (Nat.le_of_ble_eq_true rfl) (Nat.le_of_ble_eq_true rfl)) (fun x h => kX7_size X.2.1 w _ _ h) tw_354 tw_355 tw_356 rfl (ci := 7) rfl (by decide) rfl rfl (Nat.le_of_ble_eq_true rfl) ⟨Nat.zero_le _, Nat.zero_le _⟩ dL_isWithin_9 (fun x1 => ?_)
    refine v_icmp_ge (tgt := 75) C dL_isWithin_12 rfl ?_ ?_
    · skip
      refine v_sub [(0, A w c0), (1, I p1), (2, I p2)] [0, 1, 2] rfl ?_
      exact hE75 p1 p2
    · skip
      refine v_iload_n C dL_isWithin_15 rfl (j := 2) rfl ?_
      refine v_aload_n C dL_isWithin_16 rfl (j := 0) rfl ?_
      refine v_iload_n C dL_isWithin_17 rfl (j := 3) rfl ?_
      refine v_bipush C dL_isWithin_18 (by decide) ?_
      refine v_callV_rI C [I p3, I 6] [I p2] (Cee.of (rm := rX7_device) tw_432 tw_1 hX7_device rfl rfl hRm (Nat.le_of_ble_eq_true rfl) (Nat.le_of_ble_eq_true rfl)) (fun x h => kX7_device X.2.1 w _ _ h) tw_429 tw_430 tw_431 rfl (ci := 7) rfl (by decide) rfl rfl (Nat.le_of_ble_eq_true rfl) ⟨Nat.zero_le _, Nat.zero_le _⟩ dL_isWithin_20 (fun x2 => ?_)
      refine v_iand C dL_isWithin_23 ?_
      refine v_if_ne (tgt := 47) C dL_isWithin_24 rfl ?_ ?_
      · skip
        refine v_sub [] [] rfl ?_
        exact hE47
      · skip
        refine v_aload_n C dL_isWithin_27 rfl (j := 0) rfl ?_
        refine v_iload_n C dL_isWithin_28 rfl (j := 3) rfl ?_
        refine v_iconst C dL_isWithin_29 ?_
        refine v_callV_rI C [I p3, I 0] [] (Cee.of (rm := rX7_device) tw_432 tw_1 hX7_device rfl rfl hRm (Nat.le_of_ble_eq_true rfl) (Nat.le_of_ble_eq_true rfl)) (fun x h => kX7_device X.2.1 w _ _ h) tw_429 tw_430 tw_431 rfl (ci := 7) rfl (by decide) rfl rfl (Nat.le_of_ble_eq_true rfl) ⟨Nat.zero_le _, Nat.zero_le _⟩ dL_isWithin_30 (fun x3 => ?_)
        refine v_iconst C dL_isWithin_33 ?_
        refine v_jnt (fun (k49 : Option (Int)) => V X w 4 P n 0 0 res (k49) s 49 [(0, A w c0), (1, I p1), (2, I p2), (3, I p3)] []) ?_ ?_
        · skip
          refine v_iload_n C dL_isWithin_49 rfl (j := 2) rfl ?_
          refine v_aload_n C dL_isWithin_50 rfl (j := 0) rfl ?_
          refine v_iload_n C dL_isWithin_51 rfl (j := 3) rfl ?_
          refine v_bipush C dL_isWithin_52 (by decide) ?_
          refine v_callV_rI C [I p3, I 6] [I p2] (Cee.of (rm := rX7_device) tw_432 tw_1 hX7_device rfl rfl hRm (Nat.le_of_ble_eq_true rfl) (Nat.le_of_ble_eq_true rfl)) (fun x h => kX7_device X.2.1 w _ _ h) tw_429 tw_430 tw_431 rfl (ci := 7) rfl (by decide) rfl rfl (Nat.le_of_ble_eq_true rfl) ⟨Nat.zero_le _, Nat.zero_le _⟩ dL_isWithin_54 (fun x4 => ?_)
          refine v_ior C dL_isWithin_57 ?_
          refine v_bdI (fun x5 => ?_)
          refine v_istore_n C [(2, I x5), (0, A w c0), (1, I p1), (3, I p3)] dL_isWithin_58 rfl (by decide) rfl ?_
          refine v_iload_n C dL_isWithin_59 rfl (j := 2) rfl ?_
          refine v_aload_n C dL_isWithin_60 rfl (j := 1) rfl ?_
          refine v_iload_n C dL_isWithin_61 rfl (j := 3) rfl ?_
          refine v_bipush C dL_isWithin_62 (by decide) ?_
          refine v_callV_rI C [I p3, I 7] [I p1] (Cee.of (rm := rX7_device) tw_432 tw_1 hX7_device rfl rfl hRm (Nat.le_of_ble_eq_true rfl) (Nat.le_of_ble_eq_true rfl)) (fun x h => kX7_device X.2.1 w _ _ h) tw_429 tw_430 tw_431 rfl (ci := 7) rfl (by decide) rfl rfl (Nat.le_of_ble_eq_true rfl) ⟨Nat.zero_le _, Nat.zero_le _⟩ dL_isWithin_64 (fun x6 => ?_)
          refine v_iadd C dL_isWithin_67 ?_
          refine v_bdI (fun x7 => ?_)
          refine v_istore_n C [(1, I x7), (2, I x5), (0, A w c0), (3, I p3)] dL_isWithin_68 rfl (by decide) rfl ?_
          refine v_iinc C (j := 3) [(1, I x7), (2, I x5), (0, A w c0)] dL_isWithin_69 (by decide) rfl (fun _ => rfl) (fun x8 => ?_)
          refine v_goto (tgt := 6) C dL_isWithin_72 rfl ?_
          refine v_sub [(0, A w c0), (1, I x7), (2, I x5), (3, I x8)] [3, 1, 2, 0] rfl ?_
          exact ih x7 x5 x8
        intro k49 hk49
        refine v_icmp_ne (tgt := 49) C dL_isWithin_34 rfl ?_ ?_
        · skip
          exact hk49
        · skip
          refine v_aload_n C dL_isWithin_37 rfl (j := 0) rfl ?_
          refine v_iload_n C dL_isWithin_38 rfl (j := 3) rfl ?_
          refine v_bipush C dL_isWithin_39 (by decide) ?_
          refine v_callV_rI C [I p3, I 6] [] (Cee.of (rm := rX7_device) tw_432 tw_1 hX7_device rfl rfl hRm (Nat.le_of_ble_eq_true rfl) (Nat.le_of_ble_eq_true rfl)) (fun x h => kX7_device X.2.1 w _ _ h) tw_429 tw_430 tw_431 rfl (ci := 7) rfl (by decide) rfl rfl (Nat.le_of_ble_eq_true rfl) ⟨Nat.zero_le _, Nat.zero_le _⟩ dL_isWithin_41 (fun x9 => ?_)
          refine v_if_eq (tgt := 49) C dL_isWithin_44 rfl ?_ ?_
          · skip
            exact hk49
          · skip
            refine v_sub [] [] rfl ?_
            exact hE47
set_option maxRecDepth 100000 in
theorem vL_isWithin_L77 {X : Cxt} {w : Wd} {P : Shp} {n : Nat} {s : St} (res : Int) (hRm : X.2.2.2.1 = rL_isWithin) (C : Cok X w cL_isWithin 4 RL (some FieldType.boolean)) (hO : Own X w 0 0 (QI w P n res s))  (c0 : Int) (c1 : Int) (c2 : Int) (kE140 : Option (Int)) (kE132 : Option (Int)) (hE140 : V X w 4 P n 0 0 res (kE140) s 140 [(0, A w c0), (1, I c1)] []) (hE132 : V X w 4 P n 0 0 res (kE132) s 132 [] []) : ∀ (fuel : Nat) (p3 : Int), V X w 4 P n 0 0 res (fL_isWithin_L77 P s c0 c1 c2 kE140 kE132 fuel p3) s 77 [(0, A w c0), (1, I c1), (2, I c2), (3, I p3)] [] := by
  intro fuel
  induction fuel with
  | zero => intro p3; exact v_none
  | succ m ih =>
    intro p3
    rw [fL_isWithin_L77]
    refine v_iload_n C dL_isWithin_77 rfl (j := 3) rfl ?_
    refine v_aload_n C dL_isWithin_78 rfl (j := 0) rfl ?_
    refine v_iconst C dL_isWithin_79 ?_
    refine v_callV_rI C [I 2] [I p3] (Cee.of (rm := rX7_size) tw_357 tw_1 hX7_size rfl rfl hRm (Nat.le_of_ble_eq_true rfl) (Nat.le_of_ble_eq_true rfl)) (fun x h => kX7_size X.2.1 w _ _ h) tw_354 tw_355 tw_356 rfl (ci := 7) rfl (by decide) rfl rfl (Nat.le_of_ble_eq_true rfl) ⟨Nat.zero_le _, Nat.zero_le _⟩ dL_isWithin_80 (fun x12 => ?_)
    refine v_icmp_ge (tgt := 140) C dL_isWithin_83 rfl ?_ ?_
    · skip
      refine v_sub [(0, A w c0), (1, I c1)] [0, 1] rfl ?_
      exact hE140
    · skip
      refine v_aload_n C dL_isWithin_86 rfl (j := 0) rfl ?_
      refine v_iload_n C dL_isWithin_87 rfl (j := 3) rfl ?_
      refine v_iconst C dL_isWithin_88 ?_
      refine v_callV_rI C [I p3, I 0] [] (Cee.of (rm := rX7_stream) tw_1107 tw_1 hX7_stream rfl rfl hRm (Nat.le_of_ble_eq_true rfl) (Nat.le_of_ble_eq_true rfl)) (fun x h => kX7_stream X.2.1 w _ _ h) tw_1104 tw_1105 tw_1106 rfl (ci := 7) rfl (by decide) rfl rfl (Nat.le_of_ble_eq_true rfl) ⟨Nat.zero_le _, Nat.zero_le _⟩ dL_isWithin_89 (fun x13 => ?_)
      refine v_jnt (fun (k100 : Int → Option (Int)) => ∀ (x14 : Int), V X w 4 P n 0 0 res (k100 x14) s 100 [(0, A w c0), (1, I c1), (2, I c2), (3, I p3)] [I x14]) ?_ ?_
      · intro x14
        refine v_iload_n C dL_isWithin_100 rfl (j := 2) rfl ?_
        refine v_iload_n C dL_isWithin_101 rfl (j := 3) rfl ?_
        refine v_ishr C dL_isWithin_102 ?_
        refine v_iconst C dL_isWithin_103 ?_
        refine v_iand C dL_isWithin_104 ?_
        refine v_iconst C dL_isWithin_105 ?_
        refine v_jnt (fun (k114 : Int → Option (Int)) => ∀ (x15 : Int), V X w 4 P n 0 0 res (k114 x15) s 114 [(0, A w c0), (1, I c1), (2, I c2), (3, I p3)] [I x15, I x14]) ?_ ?_
        · intro x15
          refine v_icmp_ne (tgt := 132) C dL_isWithin_114 rfl ?_ ?_
          · skip
            refine v_sub [] [] rfl ?_
            exact hE132
          · skip
            refine v_aload_n C dL_isWithin_117 rfl (j := 0) rfl ?_
            refine v_iload_n C dL_isWithin_118 rfl (j := 3) rfl ?_
            refine v_iconst C dL_isWithin_119 ?_
            refine v_callV_rI C [I p3, I 5] [] (Cee.of (rm := rX7_stream) tw_1107 tw_1 hX7_stream rfl rfl hRm (Nat.le_of_ble_eq_true rfl) (Nat.le_of_ble_eq_true rfl)) (fun x h => kX7_stream X.2.1 w _ _ h) tw_1104 tw_1105 tw_1106 rfl (ci := 7) rfl (by decide) rfl rfl (Nat.le_of_ble_eq_true rfl) ⟨Nat.zero_le _, Nat.zero_le _⟩ dL_isWithin_120 (fun x16 => ?_)
            refine v_aload_n C dL_isWithin_123 rfl (j := 0) rfl ?_
            refine v_iload_n C dL_isWithin_124 rfl (j := 3) rfl ?_
            refine v_iconst C dL_isWithin_125 ?_
            refine v_callV_rI C [I p3, I 4] [I x16] (Cee.of (rm := rX7_stream) tw_1107 tw_1 hX7_stream rfl rfl hRm (Nat.le_of_ble_eq_true rfl) (Nat.le_of_ble_eq_true rfl)) (fun x h => kX7_stream X.2.1 w _ _ h) tw_1104 tw_1105 tw_1106 rfl (ci := 7) rfl (by decide) rfl rfl (Nat.le_of_ble_eq_true rfl) ⟨Nat.zero_le _, Nat.zero_le _⟩ dL_isWithin_126 (fun x17 => ?_)
            refine v_icmp_lt (tgt := 134) C dL_isWithin_129 rfl ?_ ?_
            · skip
              refine v_iinc C (j := 3) [(0, A w c0), (1, I c1), (2, I c2)] dL_isWithin_134 (by decide) rfl (fun _ => rfl) (fun x18 => ?_)
              refine v_goto (tgt := 77) C dL_isWithin_137 rfl ?_
              refine v_sub [(0, A w c0), (1, I c1), (2, I c2), (3, I x18)] [1, 2, 3, 0] rfl ?_
              exact ih x18
            · skip
              refine v_sub [] [] rfl ?_
              exact hE132
        intro k114 hk114
        refine v_icmp_ne (tgt := 113) C dL_isWithin_106 rfl ?_ ?_
        · skip
          refine v_iconst C dL_isWithin_113 ?_
          exact hk114 0
        · skip
          refine v_iconst C dL_isWithin_109 ?_
          refine v_goto (tgt := 114) C dL_isWithin_110 rfl ?_
          exact hk114 1
      intro k100 hk100
      refine v_if_le (tgt := 99) C dL_isWithin_92 rfl ?_ ?_
      · skip
        refine v_iconst C dL_isWithin_99 ?_
        exact hk100 0
      · skip
        refine v_iconst C dL_isWithin_95 ?_
        refine v_goto (tgt := 100) C dL_isWithin_96 rfl ?_
        exact hk100 1
theorem hL_isWithin : yL_isWithin.cls ≠ "java/lang/invoke/MethodHandle" ∧ yL_isWithin.cls ≠ "java/lang/invoke/VarHandle" ∧ (parseMethodDescriptor yL_isWithin.desc).map (fun d => d.parameters.length) = some 1 := by decide +kernel
set_option maxRecDepth 100000 in
theorem kL_isWithin (l : Launch) (w : Wd) (P : Shp) (n : Nat) {s : St} {a0 : Int} {res : Int} (h : fL_isWithin P s a0 = some res) : Ct l w yL_isWithin cL_isWithin 4 (some FieldType.boolean) rL_isWithin P n [A w a0] s (QI w P n res s) :=
  Ct.of h (by decide) (Nat.le_of_ble_eq_true rfl) (lv := [(0, A w a0)]) rfl fun X hl hRm C hO => by
  subst hl
  unfold fL_isWithin
  refine v_iconst C dL_isWithin_0 ?_
  refine v_istore_n C [(1, I 0), (0, A w a0)] dL_isWithin_1 rfl (by decide) rfl ?_
  refine v_iconst C dL_isWithin_2 ?_
  refine v_istore_n C [(2, I 0), (1, I 0), (0, A w a0)] dL_isWithin_3 rfl (by decide) rfl ?_
  refine v_iconst C dL_isWithin_4 ?_
  refine v_istore_n C [(3, I 0), (2, I 0), (1, I 0), (0, A w a0)] dL_isWithin_5 rfl (by decide) rfl ?_
  refine v_sub [(0, A w a0), (1, I 0), (2, I 0), (3, I 0)] [3, 2, 1, 0] rfl ?_
  refine vL_isWithin_L6 res hRm C hO a0 _ _ ?_ ?_ 1000 0 0 0
  · intro x10 x11
    refine v_iconst C dL_isWithin_75 ?_
    refine v_istore_n C [(3, I 0), (0, A w a0), (1, I x10), (2, I x11)] dL_isWithin_76 rfl (by decide) rfl ?_
    refine v_sub [(0, A w a0), (1, I x10), (2, I x11), (3, I 0)] [1, 2, 3, 0] rfl ?_
    refine vL_isWithin_L77 res hRm C hO a0 x10 x11 _ _ ?_ ?_ 1000 0
    · skip
      refine v_iload_n C dL_isWithin_140 rfl (j := 1) rfl ?_
      refine v_aload_n C dL_isWithin_141 rfl (j := 0) rfl ?_
      refine v_bipush C dL_isWithin_142 (by decide) ?_
      refine v_callV_rI C [I 6] [I x10] (Cee.of (rm := rX7_size) tw_357 tw_1 hX7_size rfl rfl hRm (Nat.le_of_ble_eq_true rfl) (Nat.le_of_ble_eq_true rfl)) (fun x h => kX7_size X.2.1 w _ _ h) tw_354 tw_355 tw_356 rfl (ci := 7) rfl (by decide) rfl rfl (Nat.le_of_ble_eq_true rfl) ⟨Nat.zero_le _, Nat.zero_le _⟩ dL_isWithin_144 (fun x19 => ?_)
      refine v_icmp_ne (tgt := 163) C dL_isWithin_147 rfl ?_ ?_
      · skip
        refine v_iconst C dL_isWithin_163 ?_
        exact v_zret C rfl hO pS dL_isWithin_164
      · skip
        refine v_iload_n C dL_isWithin_150 rfl (j := 1) rfl ?_
        refine v_aload_n C dL_isWithin_151 rfl (j := 0) rfl ?_
        refine v_iconst C dL_isWithin_152 ?_
        refine v_callV_rI C [I 3] [I x10] (Cee.of (rm := rX7_size) tw_357 tw_1 hX7_size rfl rfl hRm (Nat.le_of_ble_eq_true rfl) (Nat.le_of_ble_eq_true rfl)) (fun x h => kX7_size X.2.1 w _ _ h) tw_354 tw_355 tw_356 rfl (ci := 7) rfl (by decide) rfl rfl (Nat.le_of_ble_eq_true rfl) ⟨Nat.zero_le _, Nat.zero_le _⟩ dL_isWithin_153 (fun x20 => ?_)
        refine v_icmp_gt (tgt := 163) C dL_isWithin_156 rfl ?_ ?_
        · skip
          refine v_iconst C dL_isWithin_163 ?_
          exact v_zret C rfl hO pS dL_isWithin_164
        · skip
          refine v_iconst C dL_isWithin_159 ?_
          refine v_goto (tgt := 164) C dL_isWithin_160 rfl ?_
          exact v_zret C rfl hO pS dL_isWithin_164
    · skip
      refine v_iconst C dL_isWithin_132 ?_
      exact v_zret C rfl hO pS dL_isWithin_133
  · skip
    refine v_iconst C dL_isWithin_47 ?_
    exact v_zret C rfl hO pS dL_isWithin_48
-- ForesightHubLaw.isForeseen
theorem hL_isForeseen : yL_isForeseen.cls ≠ "java/lang/invoke/MethodHandle" ∧ yL_isForeseen.cls ≠ "java/lang/invoke/VarHandle" ∧ (parseMethodDescriptor yL_isForeseen.desc).map (fun d => d.parameters.length) = some 2 := by decide +kernel
set_option maxRecDepth 100000 in
theorem kL_isForeseen (l : Launch) (w : Wd) (P : Shp) (n : Nat) {s : St} {a0 : Int} {a1 : Int} {res : Int × St} (h : fL_isForeseen P s a0 a1 = some res) : Ct l w yL_isForeseen cL_isForeseen 5 (some FieldType.boolean) rL_isForeseen P n [A w a0, I a1] s (QI w P n res.1 res.2) :=
  Ct.of h (by decide) (Nat.le_of_ble_eq_true rfl) (lv := [(0, A w a0), (1, I a1)]) rfl fun X hl hRm C hO => by
  subst hl
  unfold fL_isForeseen
  refine v_aload_n C dL_isForeseen_0 rfl (j := 0) rfl ?_
  refine v_iload_n C dL_isForeseen_1 rfl (j := 1) rfl ?_
  refine v_iconst C dL_isForeseen_2 ?_
  refine v_callV_rI C [I a1, I 2] [] (Cee.of (rm := rX7_device) tw_432 tw_1 hX7_device rfl rfl hRm (Nat.le_of_ble_eq_true rfl) (Nat.le_of_ble_eq_true rfl)) (fun x h => kX7_device X.2.1 w _ _ h) tw_429 tw_430 tw_431 rfl (ci := 7) rfl (by decide) rfl rfl (Nat.le_of_ble_eq_true rfl) ⟨Nat.zero_le _, Nat.zero_le _⟩ dL_isForeseen_3 (fun x1 => ?_)
  refine v_iconst C dL_isForeseen_6 ?_
  refine v_jnt (fun (k16 : St → Option (Int × St)) => ∀ (s2 : St), V X w 5 P n 0 0 res (k16 s2) s2 16 [(0, A w a0), (1, I a1)] []) ?_ ?_
  · intro s2
    refine v_aload_n C dL_isForeseen_16 rfl (j := 0) rfl ?_
    refine v_iload_n C dL_isForeseen_17 rfl (j := 1) rfl ?_
    refine v_callV_rI C [I a1] [] (Cee.of (rm := rX7_framesToClear) tw_1121 tw_1 hX7_framesToClear rfl rfl hRm (Nat.le_of_ble_eq_true rfl) (Nat.le_of_ble_eq_true rfl)) (fun x h => kX7_framesToClear X.2.1 w _ _ h) tw_1118 tw_1119 tw_1120 rfl (ci := 7) rfl (by decide) rfl rfl (Nat.le_of_ble_eq_true rfl) ⟨Nat.zero_le _, Nat.zero_le _⟩ dL_isForeseen_18 (fun x3 => ?_)
    refine v_istore_n C [(2, I x3), (0, A w a0), (1, I a1)] dL_isForeseen_21 rfl (by decide) rfl ?_
    refine v_aload_n C dL_isForeseen_22 rfl (j := 1) rfl ?_
    refine v_iconst C dL_isForeseen_23 ?_
    refine v_callV_rI C [I 2] [] (Cee.of (rm := rX7_account) tw_1134 tw_1 hX7_account rfl rfl hRm (Nat.le_of_ble_eq_true rfl) (Nat.le_of_ble_eq_true rfl)) (fun x h => kX7_account X.2.1 w _ _ h) tw_1131 tw_1132 tw_1133 rfl (ci := 7) rfl (by decide) rfl rfl (Nat.le_of_ble_eq_true rfl) ⟨Nat.zero_le _, Nat.zero_le _⟩ dL_isForeseen_24 (fun x4 => ?_)
    refine v_i2l C dL_isForeseen_27 (fun x5 => ?_)
    refine v_lstore_n C [(3, J x5), (2, I x3), (0, A w a0), (1, I a1)] dL_isForeseen_28 rfl (by decide) rfl ?_
    refine v_aload_n C dL_isForeseen_29 rfl (j := 2) rfl ?_
    refine v_iload_n C dL_isForeseen_30 rfl (j := 3) rfl ?_
    refine v_callV_wI C [I a1] [] (Cee.of (rm := rX7_warn) tw_1139 tw_1 hX7_warn rfl rfl hRm (Nat.le_of_ble_eq_true rfl) (Nat.le_of_ble_eq_true rfl)) (fun x h => kX7_warn X.2.1 w _ _ h) tw_1136 tw_1137 tw_1138 rfl (ci := 7) rfl (by decide) rfl rfl (Nat.le_of_ble_eq_true rfl) ⟨Nat.zero_le _, Nat.zero_le _⟩ dL_isForeseen_31 (fun q6 => ?_)
    obtain ⟨x7, s8⟩ := q6
    refine v_iload_n C dL_isForeseen_34 rfl (j := 1) rfl ?_
    refine v_icmp_ne (tgt := 48) C dL_isForeseen_35 rfl ?_ ?_
    · skip
      refine v_iconst C dL_isForeseen_48 ?_
      exact v_zret C rfl hO pI dL_isForeseen_49
    · skip
      refine v_aload_n C dL_isForeseen_38 rfl (j := 2) rfl ?_
      refine v_iload_n C dL_isForeseen_39 rfl (j := 3) rfl ?_
      refine v_iconst C dL_isForeseen_40 ?_
      refine v_callV_rI C [I a1, I 2] [] (Cee.of (rm := rX7_device) tw_432 tw_1 hX7_device rfl rfl hRm (Nat.le_of_ble_eq_true rfl) (Nat.le_of_ble_eq_true rfl)) (fun x h => kX7_device X.2.1 w _ _ h) tw_429 tw_430 tw_431 rfl (ci := 7) rfl (by decide) rfl rfl (Nat.le_of_ble_eq_true rfl) ⟨Nat.zero_le _, Nat.zero_le _⟩ dL_isForeseen_41 (fun x9 => ?_)
      refine v_iconst C dL_isForeseen_44 ?_
      refine v_icmp_eq (tgt := 50) C dL_isForeseen_45 rfl ?_ ?_
      · skip
        refine v_iload_n C dL_isForeseen_50 rfl (j := 1) rfl ?_
        refine v_jnt (fun (k60 : St → Option (Int × St)) => ∀ (s10 : St), V X w 5 P n 0 0 res (k60 s10) s10 60 [(0, A w a0), (1, I a1), (3, J x5)] []) ?_ ?_
        · intro s10
          refine v_aload_n C dL_isForeseen_60 rfl (j := 0) rfl ?_
          refine v_iload_n C dL_isForeseen_61 rfl (j := 1) rfl ?_
          refine v_bipush C dL_isForeseen_62 (by decide) ?_
          refine v_callV_rI C [I a1, I 6] [] (Cee.of (rm := rX7_device) tw_432 tw_1 hX7_device rfl rfl hRm (Nat.le_of_ble_eq_true rfl) (Nat.le_of_ble_eq_true rfl)) (fun x h => kX7_device X.2.1 w _ _ h) tw_429 tw_430 tw_431 rfl (ci := 7) rfl (by decide) rfl rfl (Nat.le_of_ble_eq_true rfl) ⟨Nat.zero_le _, Nat.zero_le _⟩ dL_isForeseen_64 (fun x11 => ?_)
          refine v_if_ne (tgt := 85) C dL_isForeseen_67 rfl ?_ ?_
          · skip
            refine v_iconst C dL_isForeseen_85 ?_
            exact v_zret C rfl hO pI dL_isForeseen_86
          · skip
            refine v_aload_n C dL_isForeseen_70 rfl (j := 0) rfl ?_
            refine v_iload_n C dL_isForeseen_71 rfl (j := 1) rfl ?_
            refine v_callV_rI C [I a1] [] (Cee.of (rm := rX7_atStake) tw_1145 tw_1 hX7_atStake rfl rfl hRm (Nat.le_of_ble_eq_true rfl) (Nat.le_of_ble_eq_true rfl)) (fun x h => kX7_atStake X.2.1 w _ _ h) tw_1142 tw_1143 tw_1144 rfl (ci := 7) rfl (by decide) rfl rfl (Nat.le_of_ble_eq_true rfl) ⟨Nat.zero_le _, Nat.zero_le _⟩ dL_isForeseen_72 (fun x12 => ?_)
            refine v_if_ne (tgt := 85) C dL_isForeseen_75 rfl ?_ ?_
            · skip
              refine v_iconst C dL_isForeseen_85 ?_
              exact v_zret C rfl hO pI dL_isForeseen_86
            · skip
              refine v_aload_n C dL_isForeseen_78 rfl (j := 0) rfl ?_
              refine v_callS_rI C [A w a0] [] (Cee.of (rm := rL_isWithin) tw_1103 tw_0 hL_isWithin rfl rfl hRm (Nat.le_of_ble_eq_true rfl) (Nat.le_of_ble_eq_true rfl)) (fun x h => kL_isWithin X.2.1 w _ _ h) tw_1101 tw_1102 rfl rfl (Nat.le_of_ble_eq_true rfl) ⟨Nat.zero_le _, Nat.zero_le _⟩ dL_isForeseen_79 (fun x13 => ?_)
              refine v_if_ne (tgt := 87) C dL_isForeseen_82 rfl ?_ ?_
              · skip
                refine v_aload_n C dL_isForeseen_87 rfl (j := 0) rfl ?_
                refine v_iload_n C dL_isForeseen_88 rfl (j := 1) rfl ?_
                refine v_callV_wI C [I a1] [] (Cee.of (rm := rX7_unplug) tw_1153 tw_1 hX7_unplug rfl rfl hRm (Nat.le_of_ble_eq_true rfl) (Nat.le_of_ble_eq_true rfl)) (fun x h => kX7_unplug X.2.1 w _ _ h) tw_1150 tw_1151 tw_1152 rfl (ci := 7) rfl (by decide) rfl rfl (Nat.le_of_ble_eq_true rfl) ⟨Nat.zero_le _, Nat.zero_le _⟩ dL_isForeseen_89 (fun q14 => ?_)
                obtain ⟨x15, s16⟩ := q14
                refine v_if_ne (tgt := 121) C dL_isForeseen_92 rfl ?_ ?_
                · skip
                  refine v_iconst C dL_isForeseen_121 ?_
                  exact v_zret C rfl hO pI dL_isForeseen_122
                · skip
                  refine v_aload_n C dL_isForeseen_95 rfl (j := 0) rfl ?_
                  refine v_iconst C dL_isForeseen_96 ?_
                  refine v_callV_rI C [I 2] [] (Cee.of (rm := rX7_account) tw_1134 tw_1 hX7_account rfl rfl hRm (Nat.le_of_ble_eq_true rfl) (Nat.le_of_ble_eq_true rfl)) (fun x h => kX7_account X.2.1 w _ _ h) tw_1131 tw_1132 tw_1133 rfl (ci := 7) rfl (by decide) rfl rfl (Nat.le_of_ble_eq_true rfl) ⟨Nat.zero_le _, Nat.zero_le _⟩ dL_isForeseen_97 (fun x17 => ?_)
                  refine v_i2l C dL_isForeseen_100 (fun x18 => ?_)
                  refine v_lload_n C dL_isForeseen_101 rfl (j := 2) rfl ?_
                  refine v_lconst (z := 1) C dL_isForeseen_102 rfl ?_
                  refine v_ladd C dL_isForeseen_103 ?_
                  refine v_lcmp C dL_isForeseen_104 (fun x19 => ?_)
                  refine v_if_ne (tgt := 121) C dL_isForeseen_105 rfl ?_ ?_
                  · skip
                    refine v_iconst C dL_isForeseen_121 ?_
                    exact v_zret C rfl hO pI dL_isForeseen_122
                  · skip
                    refine v_aload_n C dL_isForeseen_108 rfl (j := 0) rfl ?_
                    refine v_iload_n C dL_isForeseen_109 rfl (j := 1) rfl ?_
                    refine v_iconst C dL_isForeseen_110 ?_
                    refine v_callV_rI C [I a1, I 5] [] (Cee.of (rm := rX7_device) tw_432 tw_1 hX7_device rfl rfl hRm (Nat.le_of_ble_eq_true rfl) (Nat.le_of_ble_eq_true rfl)) (fun x h => kX7_device X.2.1 w _ _ h) tw_429 tw_430 tw_431 rfl (ci := 7) rfl (by decide) rfl rfl (Nat.le_of_ble_eq_true rfl) ⟨Nat.zero_le _, Nat.zero_le _⟩ dL_isForeseen_111 (fun x20 => ?_)
                    refine v_if_ne (tgt := 121) C dL_isForeseen_114 rfl ?_ ?_
                    · skip
                      refine v_iconst C dL_isForeseen_121 ?_
                      exact v_zret C rfl hO pI dL_isForeseen_122
                    · skip
                      refine v_iconst C dL_isForeseen_117 ?_
                      refine v_goto (tgt := 122) C dL_isForeseen_118 rfl ?_
                      exact v_zret C rfl hO pI dL_isForeseen_122
              · skip
                refine v_iconst C dL_isForeseen_85 ?_
                exact v_zret C rfl hO pI dL_isForeseen_86
        intro k60 hk60
        refine v_if_le (tgt := 60) C dL_isForeseen_51 rfl ?_ ?_
        · skip
          refine v_sub [(0, A w a0), (1, I a1), (3, J x5)] [2, 3, 0] rfl ?_
          exact hk60 s8
        · skip
          refine v_aload_n C dL_isForeseen_54 rfl (j := 2) rfl ?_
          refine v_iload_n C dL_isForeseen_55 rfl (j := 1) rfl ?_
          refine v_callV_wI C [I x3] [] (Cee.of (rm := rX7_frames) tw_1082 tw_1 hX7_frames rfl rfl hRm (Nat.le_of_ble_eq_true rfl) (Nat.le_of_ble_eq_true rfl)) (fun x h => kX7_frames X.2.1 w _ _ h) tw_1079 tw_1080 tw_1081 rfl (ci := 7) rfl (by decide) rfl rfl (Nat.le_of_ble_eq_true rfl) ⟨Nat.zero_le _, Nat.zero_le _⟩ dL_isForeseen_56 (fun q21 => ?_)
          obtain ⟨x22, s23⟩ := q21
          refine v_pop C dL_isForeseen_59 rfl ?_
          refine v_sub [(0, A w a0), (1, I a1), (3, J x5)] [2, 3, 0] rfl ?_
          exact hk60 s23
      · skip
        refine v_iconst C dL_isForeseen_48 ?_
        exact v_zret C rfl hO pI dL_isForeseen_49
  intro k16 hk16
  refine v_icmp_ne (tgt := 16) C dL_isForeseen_7 rfl ?_ ?_
  · skip
    exact hk16 s
  · skip
    refine v_aload_n C dL_isForeseen_10 rfl (j := 0) rfl ?_
    refine v_iload_n C dL_isForeseen_11 rfl (j := 1) rfl ?_
    refine v_callV_wI C [I a1] [] (Cee.of (rm := rX7_callOff) tw_1068 tw_1 hX7_callOff rfl rfl hRm (Nat.le_of_ble_eq_true rfl) (Nat.le_of_ble_eq_true rfl)) (fun x h => kX7_callOff X.2.1 w _ _ h) tw_1065 tw_1066 tw_1067 rfl (ci := 7) rfl (by decide) rfl rfl (Nat.le_of_ble_eq_true rfl) ⟨Nat.zero_le _, Nat.zero_le _⟩ dL_isForeseen_12 (fun q24 => ?_)
    obtain ⟨x25, s26⟩ := q24
    refine v_pop C dL_isForeseen_15 rfl ?_
    exact hk16 s26
-- ForesightHubLaw.isTorn
set_option maxRecDepth 100000 in
theorem vL_isTorn_L27 {X : Cxt} {w : Wd} {P : Shp} {n : Nat} {s : St} (res : Int × St) (hRm : X.2.2.2.1 = rL_isTorn) (C : Cok X w cL_isTorn 7 RL (some FieldType.boolean)) (hO : Own X w 0 0 (QI w P n res.1 res.2))  (c0 : Int) (c1 : Int) (c2 : Int) (c3 : Int) (c4 : Int) (kE74 : Int → Option (Int × St)) (hE74 : ∀ (p5e : Int), V X w 7 P n 0 0 res (kE74 p5e) s 74 [(0, A w c0), (1, I c1), (2, I c2), (3, I c3), (4, I c4), (5, I p5e)] []) : ∀ (fuel : Nat) (p5 p6 : Int), V X w 7 P n 0 0 res (fL_isTorn_L27 P s c0 c1 c2 c3 c4 kE74 fuel p5 p6) s 27 [(0, A w c0), (1, I c1), (2, I c2), (3, I c3), (4, I c4), (5, I p5), (6, I p6)] [] := by
  intro fuel
  induction fuel with
  | zero => intro p5 p6; exact v_none
  | succ m ih =>
    intro p5 p6
    rw [fL_isTorn_L27]
    refine v_iload C dL_isTorn_27 (j := 6) rfl ?_
    refine v_aload_n C dL_isTorn_29 rfl (j := 0) rfl ?_
    refine v_iconst C dL_isTorn_30 ?_
    refine v_callV_rI C [I 2] [I p6] (Cee.of (rm := rX7_size) tw_357 tw_1 hX7_size rfl rfl hRm (Nat.le_of_ble_eq_true rfl) (Nat.le_of_ble_eq_true rfl)) (fun x h => kX7_size X.2.1 w _ _ h) tw_354 tw_355 tw_356 rfl (ci := 7) rfl (by decide) rfl rfl (Nat.le_of_ble_eq_true rfl) ⟨Nat.zero_le _, Nat.zero_le _⟩ dL_isTorn_31 (fun x4 => ?_)
    refine v_icmp_ge (tgt := 74) C dL_isTorn_34 rfl ?_ ?_
    · skip
      refine v_sub [(0, A w c0), (1, I c1), (2, I c2), (3, I c3), (4, I c4), (5, I p5)] [0, 1, 2, 3, 4, 5] rfl ?_
      exact hE74 p5
    · skip
      refine v_iload C dL_isTorn_37 (j := 5) rfl ?_
      refine v_aload_n C dL_isTorn_39 rfl (j := 0) rfl ?_
      refine v_iload C dL_isTorn_40 (j := 6) rfl ?_
      refine v_iconst C dL_isTorn_42 ?_
      refine v_callV_rI C [I p6, I 1] [I p5] (Cee.of (rm := rX7_stream) tw_1107 tw_1 hX7_stream rfl rfl hRm (Nat.le_of_ble_eq_true rfl) (Nat.le_of_ble_eq_true rfl)) (fun x h => kX7_stream X.2.1 w _ _ h) tw_1104 tw_1105 tw_1106 rfl (ci := 7) rfl (by decide) rfl rfl (Nat.le_of_ble_eq_true rfl) ⟨Nat.zero_le _, Nat.zero_le _⟩ dL_isTorn_43 (fun x5 => ?_)
      refine v_iload_n C dL_isTorn_46 rfl (j := 1) rfl ?_
      refine v_jnt (fun (k65 : Int → Option (Int × St)) => ∀ (x6 : Int), V X w 7 P n 0 0 res (k65 x6) s 65 [(0, A w c0), (1, I c1), (2, I c2), (3, I c3), (4, I c4), (6, I p6)] [I x6, I p5]) ?_ ?_
      · intro x6
        refine v_iadd C dL_isTorn_65 ?_
        refine v_bdI (fun x7 => ?_)
        refine v_istore C [(5, I x7), (0, A w c0), (1, I c1), (2, I c2), (3, I c3), (4, I c4), (6, I p6)] dL_isTorn_66 (by decide) rfl ?_
        refine v_iinc C (j := 6) [(5, I x7), (0, A w c0), (1, I c1), (2, I c2), (3, I c3), (4, I c4)] dL_isTorn_68 (by decide) rfl (fun _ => rfl) (fun x8 => ?_)
        refine v_goto (tgt := 27) C dL_isTorn_71 rfl ?_
        refine v_sub [(0, A w c0), (1, I c1), (2, I c2), (3, I c3), (4, I c4), (5, I x7), (6, I x8)] [2, 3, 4, 5, 6, 1, 0] rfl ?_
        exact ih x7 x8
      intro k65 hk65
      refine v_jnt (fun (k64 : Option (Int × St)) => V X w 7 P n 0 0 res (k64) s 64 [(0, A w c0), (1, I c1), (2, I c2), (3, I c3), (4, I c4), (6, I p6)] [I p5]) ?_ ?_
      · skip
        refine v_iconst C dL_isTorn_64 ?_
        exact hk65 0
      intro k64 hk64
      refine v_icmp_ne (tgt := 64) C dL_isTorn_47 rfl ?_ ?_
      · skip
        refine v_sub [(0, A w c0), (1, I c1), (2, I c2), (3, I c3), (4, I c4), (6, I p6)] [0, 1, 2, 3, 4, 6] rfl ?_
        exact hk64
      · skip
        refine v_aload_n C dL_isTorn_50 rfl (j := 0) rfl ?_
        refine v_iload C dL_isTorn_51 (j := 6) rfl ?_
        refine v_iconst C dL_isTorn_53 ?_
        refine v_callV_rI C [I p6, I 5] [I p5] (Cee.of (rm := rX7_stream) tw_1107 tw_1 hX7_stream rfl rfl hRm (Nat.le_of_ble_eq_true rfl) (Nat.le_of_ble_eq_true rfl)) (fun x h => kX7_stream X.2.1 w _ _ h) tw_1104 tw_1105 tw_1106 rfl (ci := 7) rfl (by decide) rfl rfl (Nat.le_of_ble_eq_true rfl) ⟨Nat.zero_le _, Nat.zero_le _⟩ dL_isTorn_54 (fun x9 => ?_)
        refine v_if_le (tgt := 64) C dL_isTorn_57 rfl ?_ ?_
        · skip
          refine v_sub [(0, A w c0), (1, I c1), (2, I c2), (3, I c3), (4, I c4), (6, I p6)] [0, 1, 2, 3, 4, 6] rfl ?_
          exact hk64
        · skip
          refine v_iconst C dL_isTorn_60 ?_
          refine v_goto (tgt := 65) C dL_isTorn_61 rfl ?_
          refine v_sub [(0, A w c0), (1, I c1), (2, I c2), (3, I c3), (4, I c4), (6, I p6)] [0, 1, 2, 3, 4, 6] rfl ?_
          exact hk65 1
theorem hL_isTorn : yL_isTorn.cls ≠ "java/lang/invoke/MethodHandle" ∧ yL_isTorn.cls ≠ "java/lang/invoke/VarHandle" ∧ (parseMethodDescriptor yL_isTorn.desc).map (fun d => d.parameters.length) = some 2 := by decide +kernel
set_option maxRecDepth 100000 in
theorem kL_isTorn (l : Launch) (w : Wd) (P : Shp) (n : Nat) {s : St} {a0 : Int} {a1 : Int} {res : Int × St} (h : fL_isTorn P s a0 a1 = some res) : Ct l w yL_isTorn cL_isTorn 7 (some FieldType.boolean) rL_isTorn P n [A w a0, I a1] s (QI w P n res.1 res.2) :=
  Ct.of h (by decide) (Nat.le_of_ble_eq_true rfl) (lv := [(0, A w a0), (1, I a1)]) rfl fun X hl hRm C hO => by
  subst hl
  unfold fL_isTorn
  refine v_aload_n C dL_isTorn_0 rfl (j := 0) rfl ?_
  refine v_iload_n C dL_isTorn_1 rfl (j := 1) rfl ?_
  refine v_callV_rI C [I a1] [] (Cee.of (rm := rX7_atStake) tw_1145 tw_1 hX7_atStake rfl rfl hRm (Nat.le_of_ble_eq_true rfl) (Nat.le_of_ble_eq_true rfl)) (fun x h => kX7_atStake X.2.1 w _ _ h) tw_1142 tw_1143 tw_1144 rfl (ci := 7) rfl (by decide) rfl rfl (Nat.le_of_ble_eq_true rfl) ⟨Nat.zero_le _, Nat.zero_le _⟩ dL_isTorn_2 (fun x1 => ?_)
  refine v_istore_n C [(2, I x1), (0, A w a0), (1, I a1)] dL_isTorn_5 rfl (by decide) rfl ?_
  refine v_aload_n C dL_isTorn_6 rfl (j := 1) rfl ?_
  refine v_bipush C dL_isTorn_7 (by decide) ?_
  refine v_callV_rI C [I 8] [] (Cee.of (rm := rX7_account) tw_1134 tw_1 hX7_account rfl rfl hRm (Nat.le_of_ble_eq_true rfl) (Nat.le_of_ble_eq_true rfl)) (fun x h => kX7_account X.2.1 w _ _ h) tw_1131 tw_1132 tw_1133 rfl (ci := 7) rfl (by decide) rfl rfl (Nat.le_of_ble_eq_true rfl) ⟨Nat.zero_le _, Nat.zero_le _⟩ dL_isTorn_9 (fun x2 => ?_)
  refine v_istore_n C [(3, I x2), (2, I x1), (0, A w a0), (1, I a1)] dL_isTorn_12 rfl (by decide) rfl ?_
  refine v_aload_n C dL_isTorn_13 rfl (j := 2) rfl ?_
  refine v_bipush C dL_isTorn_14 (by decide) ?_
  refine v_callV_rI C [I 7] [] (Cee.of (rm := rX7_account) tw_1134 tw_1 hX7_account rfl rfl hRm (Nat.le_of_ble_eq_true rfl) (Nat.le_of_ble_eq_true rfl)) (fun x h => kX7_account X.2.1 w _ _ h) tw_1131 tw_1132 tw_1133 rfl (ci := 7) rfl (by decide) rfl rfl (Nat.le_of_ble_eq_true rfl) ⟨Nat.zero_le _, Nat.zero_le _⟩ dL_isTorn_16 (fun x3 => ?_)
  refine v_istore C [(4, I x3), (3, I x2), (2, I x1), (0, A w a0), (1, I a1)] dL_isTorn_19 (by decide) rfl ?_
  refine v_iconst C dL_isTorn_21 ?_
  refine v_istore C [(5, I 0), (4, I x3), (3, I x2), (2, I x1), (0, A w a0), (1, I a1)] dL_isTorn_22 (by decide) rfl ?_
  refine v_iconst C dL_isTorn_24 ?_
  refine v_istore C [(6, I 0), (5, I 0), (4, I x3), (3, I x2), (2, I x1), (0, A w a0), (1, I a1)] dL_isTorn_25 (by decide) rfl ?_
  refine v_sub [(0, A w a0), (1, I a1), (2, I x1), (3, I x2), (4, I x3), (5, I 0), (6, I 0)] [5, 6, 4, 3, 2, 1, 0] rfl ?_
  refine vL_isTorn_L27 res hRm C hO a0 a1 x1 x2 x3 _ ?_ 1000 0 0
  · intro x10
    refine v_aload_n C dL_isTorn_74 rfl (j := 0) rfl ?_
    refine v_iload_n C dL_isTorn_75 rfl (j := 1) rfl ?_
    refine v_callV_wI C [I a1] [] (Cee.of (rm := rX7_unplug) tw_1153 tw_1 hX7_unplug rfl rfl hRm (Nat.le_of_ble_eq_true rfl) (Nat.le_of_ble_eq_true rfl)) (fun x h => kX7_unplug X.2.1 w _ _ h) tw_1150 tw_1151 tw_1152 rfl (ci := 7) rfl (by decide) rfl rfl (Nat.le_of_ble_eq_true rfl) ⟨Nat.zero_le _, Nat.zero_le _⟩ dL_isTorn_76 (fun q11 => ?_)
    obtain ⟨x12, s13⟩ := q11
    refine v_iload_n C dL_isTorn_79 rfl (j := 2) rfl ?_
    refine v_icmp_ne (tgt := 130) C dL_isTorn_80 rfl ?_ ?_
    · skip
      refine v_iconst C dL_isTorn_130 ?_
      exact v_zret C rfl hO pI dL_isTorn_131
    · skip
      refine v_aload_n C dL_isTorn_83 rfl (j := 0) rfl ?_
      refine v_bipush C dL_isTorn_84 (by decide) ?_
      refine v_callV_rI C [I 8] [] (Cee.of (rm := rX7_account) tw_1134 tw_1 hX7_account rfl rfl hRm (Nat.le_of_ble_eq_true rfl) (Nat.le_of_ble_eq_true rfl)) (fun x h => kX7_account X.2.1 w _ _ h) tw_1131 tw_1132 tw_1133 rfl (ci := 7) rfl (by decide) rfl rfl (Nat.le_of_ble_eq_true rfl) ⟨Nat.zero_le _, Nat.zero_le _⟩ dL_isTorn_86 (fun x14 => ?_)
      refine v_iload_n C dL_isTorn_89 rfl (j := 3) rfl ?_
      refine v_iload_n C dL_isTorn_90 rfl (j := 2) rfl ?_
      refine v_iadd C dL_isTorn_91 ?_
      refine v_icmp_ne (tgt := 130) C dL_isTorn_92 rfl ?_ ?_
      · skip
        refine v_iconst C dL_isTorn_130 ?_
        exact v_zret C rfl hO pI dL_isTorn_131
      · skip
        refine v_aload_n C dL_isTorn_95 rfl (j := 0) rfl ?_
        refine v_bipush C dL_isTorn_96 (by decide) ?_
        refine v_callV_rI C [I 7] [] (Cee.of (rm := rX7_account) tw_1134 tw_1 hX7_account rfl rfl hRm (Nat.le_of_ble_eq_true rfl) (Nat.le_of_ble_eq_true rfl)) (fun x h => kX7_account X.2.1 w _ _ h) tw_1131 tw_1132 tw_1133 rfl (ci := 7) rfl (by decide) rfl rfl (Nat.le_of_ble_eq_true rfl) ⟨Nat.zero_le _, Nat.zero_le _⟩ dL_isTorn_98 (fun x15 => ?_)
        refine v_iload C dL_isTorn_101 (j := 4) rfl ?_
        refine v_iload C dL_isTorn_103 (j := 5) rfl ?_
        refine v_iadd C dL_isTorn_105 ?_
        refine v_icmp_ne (tgt := 130) C dL_isTorn_106 rfl ?_ ?_
        · skip
          refine v_iconst C dL_isTorn_130 ?_
          exact v_zret C rfl hO pI dL_isTorn_131
        · skip
          refine v_aload_n C dL_isTorn_109 rfl (j := 0) rfl ?_
          refine v_callS_rI C [A w a0] [] (Cee.of (rm := rL_isWithin) tw_1103 tw_0 hL_isWithin rfl rfl hRm (Nat.le_of_ble_eq_true rfl) (Nat.le_of_ble_eq_true rfl)) (fun x h => kL_isWithin X.2.1 w _ _ h) tw_1101 tw_1102 rfl rfl (Nat.le_of_ble_eq_true rfl) ⟨Nat.zero_le _, Nat.zero_le _⟩ dL_isTorn_110 (fun x16 => ?_)
          refine v_if_eq (tgt := 130) C dL_isTorn_113 rfl ?_ ?_
          · skip
            refine v_iconst C dL_isTorn_130 ?_
            exact v_zret C rfl hO pI dL_isTorn_131
          · skip
            refine v_aload_n C dL_isTorn_116 rfl (j := 0) rfl ?_
            refine v_iload_n C dL_isTorn_117 rfl (j := 1) rfl ?_
            refine v_iconst C dL_isTorn_118 ?_
            refine v_callV_rI C [I a1, I 0] [] (Cee.of (rm := rX7_device) tw_432 tw_1 hX7_device rfl rfl hRm (Nat.le_of_ble_eq_true rfl) (Nat.le_of_ble_eq_true rfl)) (fun x h => kX7_device X.2.1 w _ _ h) tw_429 tw_430 tw_431 rfl (ci := 7) rfl (by decide) rfl rfl (Nat.le_of_ble_eq_true rfl) ⟨Nat.zero_le _, Nat.zero_le _⟩ dL_isTorn_119 (fun x17 => ?_)
            refine v_iconst C dL_isTorn_122 ?_
            refine v_icmp_ne (tgt := 130) C dL_isTorn_123 rfl ?_ ?_
            · skip
              refine v_iconst C dL_isTorn_130 ?_
              exact v_zret C rfl hO pI dL_isTorn_131
            · skip
              refine v_iconst C dL_isTorn_126 ?_
              refine v_goto (tgt := 131) C dL_isTorn_127 rfl ?_
              exact v_zret C rfl hO pI dL_isTorn_131
-- ForesightHubLaw.begins
set_option maxRecDepth 100000 in
theorem vL_begins_L126 {X : Cxt} {w : Wd} (res : Hr) (hRm : X.2.2.2.1 = rL_begins) (C : Cok X w cL_begins 10 RL (some FieldType.boolean)) (hO : Own X w 1000 1024000 (QI w res.2.1 res.2.2.1 res.1 res.2.2.2))  (c0 : Int) (c2 : Int) (c3 : Int) (c4 : Int) (c5 : Int) (c6 : Int) (kE171 : Shp → Nat → Nat → St → Option (Hr)) (hE171 : ∀ (Pe : Shp) (ne ce : Nat) (se : St), V X w 10 Pe ne ce (1024 * ce) res (kE171 Pe ne ce se) se 171 [(0, A w c0), (1, A w ((-101))), (2, I c2), (3, I c3), (4, I c4), (5, A w c5), (6, I c6)] []) : ∀ (fuel : Nat) (p7 : Int) (P : Shp) (n c : Nat) (s : St), V X w 10 P n c (1024 * c) res (fL_begins_L126 (wL w) (wX w) c0 c2 c3 c4 c5 c6 kE171 fuel p7 P n c s) s 126 [(0, A w c0), (1, A w ((-101))), (2, I c2), (3, I c3), (4, I c4), (5, A w c5), (6, I c6), (7, I p7)] [] := by
  intro fuel
  induction fuel with
  | zero => intro p7 P n c s; exact v_none
  | succ m ih =>
    intro p7 P n c s
    rw [fL_begins_L126]
    refine v_iload C dL_begins_126 (j := 7) rfl ?_
    refine v_aload_n C dL_begins_128 rfl (j := 1) rfl ?_
    refine v_bipush C dL_begins_129 (by decide) ?_
    refine v_iload C dL_begins_131 (j := 6) rfl ?_
    refine v_iadd C dL_begins_133 ?_
    refine v_iconst C dL_begins_134 ?_
    refine v_bud (fun hb => ?_)
    refine v_callS_rI C [A w ((-101)), I (10 + c6), I 3] [I p7] (Cee.of (rm := rL_pick) tw_563 tw_0 hL_pick rfl rfl hRm (Nat.le_of_ble_eq_true rfl) (Nat.le_of_ble_eq_true rfl)) (fun x h => kL_pick X.2.1 w _ _ h) tw_561 tw_562 rfl rfl (Nat.le_of_ble_eq_true rfl) ⟨by rw [hRm]; show _ ≤ 1000; omega, by rw [hRm]; show _ ≤ 1024000; omega⟩ dL_begins_135 (fun x29 => ?_)
    refine v_icmp_gt (tgt := 171) C dL_begins_138 rfl ?_ ?_
    · skip
      refine v_sub [(0, A w c0), (1, A w ((-101))), (2, I c2), (3, I c3), (4, I c4), (5, A w c5), (6, I c6)] [0, 1, 2, 3, 4, 5, 6] rfl ?_
      exact hE171 P n c s
    · skip
      refine v_aload C dL_begins_141 (j := 5) rfl ?_
      refine v_aload_n C dL_begins_143 rfl (j := 1) rfl ?_
      refine v_bipush C dL_begins_144 (by decide) ?_
      refine v_iconst C dL_begins_146 ?_
      refine v_iload C dL_begins_147 (j := 6) rfl ?_
      refine v_imul C dL_begins_149 ?_
      refine v_iadd C dL_begins_150 ?_
      refine v_iload C dL_begins_151 (j := 7) rfl ?_
      refine v_iadd C dL_begins_153 ?_
      refine v_iconst C dL_begins_154 ?_
      refine v_bud (fun hb => ?_)
      refine v_callS_rI C [A w ((-101)), I ((13 + (3 * c6)) + p7), I 4] [A w c5] (Cee.of (rm := rL_pick) tw_563 tw_0 hL_pick rfl rfl hRm (Nat.le_of_ble_eq_true rfl) (Nat.le_of_ble_eq_true rfl)) (fun x h => kL_pick X.2.1 w _ _ h) tw_561 tw_562 rfl rfl (Nat.le_of_ble_eq_true rfl) ⟨by rw [hRm]; show _ ≤ 1000; omega, by rw [hRm]; show _ ≤ 1024000; omega⟩ dL_begins_155 (fun x30 => ?_)
      refine v_bud (fun hb => ?_)
      refine v_callS_rR C [I x30] [A w c5] (Cee.of (rm := rL_kind) tw_778 tw_0 hL_kind rfl rfl hRm (Nat.le_of_ble_eq_true rfl) (Nat.le_of_ble_eq_true rfl)) (fun x h => kL_kind X.2.1 w _ _ h) tw_776 tw_777 rfl rfl (Nat.le_of_ble_eq_true rfl) ⟨by rw [hRm]; show _ ≤ 1000; omega, by rw [hRm]; show _ ≤ 1024000; omega⟩ dL_begins_158 (fun x31 => ?_)
      refine v_bud (fun hb => ?_)
      refine v_gaR (st := []) (fun H9 locs9 ls9 x9 hR9 hs9 hP9 h9 => v_rV C (o := c5) (As := [A w x31]) (CeeM.of (mc := 1) (ms := 1024) (rm := rJ4_append_15ec4) tw_611 tw_16 hJ4_append_15ec4 rfl rfl hRm (Nat.le_of_ble_eq_true rfl) (Nat.le_of_ble_eq_true rfl)) (kJ4_append_15ec4 X.2.1 w _ _ h9) tw_751 tw_610 tw_609 rfl hR9 hs9 hP9 rfl rfl (Nat.le_of_ble_eq_true rfl) ⟨by rw [hRm]; show _ ≤ 1000; omega, by rw [hRm]; show _ ≤ 1024000; omega⟩ dL_begins_161) (fun x33 P32 n32 s32 => ?_)
      refine v_wid (c + 1) (1024 * (c + 1)) (by omega) (by omega) ?_
      refine v_pop C dL_begins_164 rfl ?_
      refine v_iinc C (j := 7) [(0, A w c0), (1, A w ((-101))), (2, I c2), (3, I c3), (4, I c4), (5, A w c5), (6, I c6)] dL_begins_165 (by decide) rfl (fun _ => rfl) (fun x34 => ?_)
      refine v_goto (tgt := 126) C dL_begins_168 rfl ?_
      refine v_sub [(0, A w c0), (1, A w ((-101))), (2, I c2), (3, I c3), (4, I c4), (5, A w c5), (6, I c6), (7, I x34)] [1, 2, 3, 4, 5, 6, 7, 0] rfl ?_
      exact ih x34 P32 n32 (c + 1) s32
set_option maxRecDepth 100000 in
theorem vL_begins_L54 {X : Cxt} {w : Wd} (res : Hr) (hRm : X.2.2.2.1 = rL_begins) (C : Cok X w cL_begins 10 RL (some FieldType.boolean)) (hO : Own X w 1000 1024000 (QI w res.2.1 res.2.2.1 res.1 res.2.2.2))  (c0 : Int) (c2 : Int) (c3 : Int) (c4 : Int) (c5 : Int) (kE185 : Shp → Nat → Nat → St → Option (Hr)) (hE185 : ∀ (Pe : Shp) (ne ce : Nat) (se : St), V X w 10 Pe ne ce (1024 * ce) res (kE185 Pe ne ce se) se 185 [(0, A w c0), (1, A w ((-101))), (2, I c2), (3, I c3), (4, I c4), (5, A w c5)] []) : ∀ (fuel : Nat) (p6 : Int) (P : Shp) (n c : Nat) (s : St), V X w 10 P n c (1024 * c) res (fL_begins_L54 (wL w) (wX w) c0 c2 c3 c4 c5 kE185 fuel p6 P n c s) s 54 [(0, A w c0), (1, A w ((-101))), (2, I c2), (3, I c3), (4, I c4), (5, A w c5), (6, I p6)] [] := by
  intro fuel
  induction fuel with
  | zero => intro p6 P n c s; exact v_none
  | succ m ih =>
    intro p6 P n c s
    rw [fL_begins_L54]
    refine v_iload C dL_begins_54 (j := 6) rfl ?_
    refine v_aload_n C dL_begins_56 rfl (j := 1) rfl ?_
    refine v_iconst C dL_begins_57 ?_
    refine v_iconst C dL_begins_58 ?_
    refine v_bud (fun hb => ?_)
    refine v_callS_rI C [A w ((-101)), I 3, I 3] [I p6] (Cee.of (rm := rL_pick) tw_563 tw_0 hL_pick rfl rfl hRm (Nat.le_of_ble_eq_true rfl) (Nat.le_of_ble_eq_true rfl)) (fun x h => kL_pick X.2.1 w _ _ h) tw_561 tw_562 rfl rfl (Nat.le_of_ble_eq_true rfl) ⟨by rw [hRm]; show _ ≤ 1000; omega, by rw [hRm]; show _ ≤ 1024000; omega⟩ dL_begins_59 (fun x14 => ?_)
    refine v_icmp_gt (tgt := 185) C dL_begins_62 rfl ?_ ?_
    · skip
      refine v_sub [(0, A w c0), (1, A w ((-101))), (2, I c2), (3, I c3), (4, I c4), (5, A w c5)] [0, 1, 2, 3, 4, 5] rfl ?_
      exact hE185 P n c s
    · skip
      refine v_aload C dL_begins_65 (j := 5) rfl ?_
      refine v_ldcS (own := RL) (idx := 43) (tx := "pattern p") (i := 12) (z := (-14)) C (by decide +kernel) dL_begins_67 (by decide) ?_
      refine v_bud (fun hb => ?_)
      refine v_gaR (st := []) (fun H9 locs9 ls9 x9 hR9 hs9 hP9 h9 => v_rV C (o := c5) (As := [A w ((-14))]) (CeeM.of (mc := 1) (ms := 1024) (rm := rJ4_append_15ec4) tw_611 tw_16 hJ4_append_15ec4 rfl rfl hRm (Nat.le_of_ble_eq_true rfl) (Nat.le_of_ble_eq_true rfl)) (kJ4_append_15ec4 X.2.1 w _ _ h9) tw_751 tw_610 tw_609 rfl hR9 hs9 hP9 rfl rfl (Nat.le_of_ble_eq_true rfl) ⟨by rw [hRm]; show _ ≤ 1000; omega, by rw [hRm]; show _ ≤ 1024000; omega⟩ dL_begins_69) (fun x16 P15 n15 s15 => ?_)
      refine v_wid (c + 1) (1024 * (c + 1)) (by omega) (by omega) ?_
      refine v_bipush C dL_begins_72 (by decide) ?_
      refine v_iload C dL_begins_74 (j := 6) rfl ?_
      refine v_iadd C dL_begins_76 ?_
      refine v_i2c C dL_begins_77 ?_
      refine v_bud (fun hb => ?_)
      refine v_gaR (st := []) (fun H9 locs9 ls9 x9 hR9 hs9 hP9 h9 => v_rV C (o := x16) (As := [I (i2c (97 + p6))]) (CeeM.of (mc := 1) (ms := 1024) (rm := rJ4_append_cf468) tw_756 tw_16 hJ4_append_cf468 rfl rfl hRm (Nat.le_of_ble_eq_true rfl) (Nat.le_of_ble_eq_true rfl)) (kJ4_append_cf468 X.2.1 w _ _ h9) tw_753 tw_755 tw_754 rfl hR9 hs9 hP9 rfl rfl (Nat.le_of_ble_eq_true rfl) ⟨by rw [hRm]; show _ ≤ 1000; omega, by rw [hRm]; show _ ≤ 1024000; omega⟩ dL_begins_78) (fun x18 P17 n17 s17 => ?_)
      refine v_wid (c + 2) (1024 * (c + 2)) (by omega) (by omega) ?_
      refine v_ldcS (own := RL) (idx := 48) (tx := " ") (i := 13) (z := (-15)) C (by decide +kernel) dL_begins_81 (by decide) ?_
      refine v_bud (fun hb => ?_)
      refine v_gaR (st := []) (fun H9 locs9 ls9 x9 hR9 hs9 hP9 h9 => v_rV C (o := x18) (As := [A w ((-15))]) (CeeM.of (mc := 1) (ms := 1024) (rm := rJ4_append_15ec4) tw_611 tw_16 hJ4_append_15ec4 rfl rfl hRm (Nat.le_of_ble_eq_true rfl) (Nat.le_of_ble_eq_true rfl)) (kJ4_append_15ec4 X.2.1 w _ _ h9) tw_751 tw_610 tw_609 rfl hR9 hs9 hP9 rfl rfl (Nat.le_of_ble_eq_true rfl) ⟨by rw [hRm]; show _ ≤ 1000; omega, by rw [hRm]; show _ ≤ 1024000; omega⟩ dL_begins_83) (fun x20 P19 n19 s19 => ?_)
      refine v_wid (c + 3) (1024 * (c + 3)) (by omega) (by omega) ?_
      refine v_iconst C dL_begins_86 ?_
      refine v_aload_n C dL_begins_87 rfl (j := 1) rfl ?_
      refine v_iconst C dL_begins_88 ?_
      refine v_iload C dL_begins_89 (j := 6) rfl ?_
      refine v_iadd C dL_begins_91 ?_
      refine v_bipush C dL_begins_92 (by decide) ?_
      refine v_bud (fun hb => ?_)
      refine v_callS_rI C [A w ((-101)), I (4 + p6), I 9] [I 1, A w x20] (Cee.of (rm := rL_pick) tw_563 tw_0 hL_pick rfl rfl hRm (Nat.le_of_ble_eq_true rfl) (Nat.le_of_ble_eq_true rfl)) (fun x h => kL_pick X.2.1 w _ _ h) tw_561 tw_562 rfl rfl (Nat.le_of_ble_eq_true rfl) ⟨by rw [hRm]; show _ ≤ 1000; omega, by rw [hRm]; show _ ≤ 1024000; omega⟩ dL_begins_94 (fun x21 => ?_)
      refine v_iadd C dL_begins_97 ?_
      refine v_bud (fun hb => ?_)
      refine v_gaR (st := []) (fun H9 locs9 ls9 x9 hR9 hs9 hP9 h9 => v_rV C (o := x20) (As := [I (1 + x21)]) (CeeM.of (mc := 1) (ms := 1024) (rm := rJ4_append_bf812) tw_728 tw_16 hJ4_append_bf812 rfl rfl hRm (Nat.le_of_ble_eq_true rfl) (Nat.le_of_ble_eq_true rfl)) (kJ4_append_bf812 X.2.1 w _ _ h9) tw_725 tw_727 tw_726 rfl hR9 hs9 hP9 rfl rfl (Nat.le_of_ble_eq_true rfl) ⟨by rw [hRm]; show _ ≤ 1000; omega, by rw [hRm]; show _ ≤ 1024000; omega⟩ dL_begins_98) (fun x23 P22 n22 s22 => ?_)
      refine v_wid (c + 4) (1024 * (c + 4)) (by omega) (by omega) ?_
      refine v_ldcS (own := RL) (idx := 48) (tx := " ") (i := 13) (z := (-15)) C (by decide +kernel) dL_begins_101 (by decide) ?_
      refine v_bud (fun hb => ?_)
      refine v_gaR (st := []) (fun H9 locs9 ls9 x9 hR9 hs9 hP9 h9 => v_rV C (o := x23) (As := [A w ((-15))]) (CeeM.of (mc := 1) (ms := 1024) (rm := rJ4_append_15ec4) tw_611 tw_16 hJ4_append_15ec4 rfl rfl hRm (Nat.le_of_ble_eq_true rfl) (Nat.le_of_ble_eq_true rfl)) (kJ4_append_15ec4 X.2.1 w _ _ h9) tw_751 tw_610 tw_609 rfl hR9 hs9 hP9 rfl rfl (Nat.le_of_ble_eq_true rfl) ⟨by rw [hRm]; show _ ≤ 1000; omega, by rw [hRm]; show _ ≤ 1024000; omega⟩ dL_begins_103) (fun x25 P24 n24 s24 => ?_)
      refine v_wid (c + 5) (1024 * (c + 5)) (by omega) (by omega) ?_
      refine v_iconst C dL_begins_106 ?_
      refine v_aload_n C dL_begins_107 rfl (j := 1) rfl ?_
      refine v_bipush C dL_begins_108 (by decide) ?_
      refine v_iload C dL_begins_110 (j := 6) rfl ?_
      refine v_iadd C dL_begins_112 ?_
      refine v_bipush C dL_begins_113 (by decide) ?_
      refine v_bud (fun hb => ?_)
      refine v_callS_rI C [A w ((-101)), I (7 + p6), I 20] [I 5, A w x25] (Cee.of (rm := rL_pick) tw_563 tw_0 hL_pick rfl rfl hRm (Nat.le_of_ble_eq_true rfl) (Nat.le_of_ble_eq_true rfl)) (fun x h => kL_pick X.2.1 w _ _ h) tw_561 tw_562 rfl rfl (Nat.le_of_ble_eq_true rfl) ⟨by rw [hRm]; show _ ≤ 1000; omega, by rw [hRm]; show _ ≤ 1024000; omega⟩ dL_begins_115 (fun x26 => ?_)
      refine v_iadd C dL_begins_118 ?_
      refine v_bud (fun hb => ?_)
      refine v_gaR (st := []) (fun H9 locs9 ls9 x9 hR9 hs9 hP9 h9 => v_rV C (o := x25) (As := [I (5 + x26)]) (CeeM.of (mc := 1) (ms := 1024) (rm := rJ4_append_bf812) tw_728 tw_16 hJ4_append_bf812 rfl rfl hRm (Nat.le_of_ble_eq_true rfl) (Nat.le_of_ble_eq_true rfl)) (kJ4_append_bf812 X.2.1 w _ _ h9) tw_725 tw_727 tw_726 rfl hR9 hs9 hP9 rfl rfl (Nat.le_of_ble_eq_true rfl) ⟨by rw [hRm]; show _ ≤ 1000; omega, by rw [hRm]; show _ ≤ 1024000; omega⟩ dL_begins_119) (fun x28 P27 n27 s27 => ?_)
      refine v_wid (c + 6) (1024 * (c + 6)) (by omega) (by omega) ?_
      refine v_pop C dL_begins_122 rfl ?_
      refine v_iconst C dL_begins_123 ?_
      refine v_istore C [(7, I 0), (0, A w c0), (1, A w ((-101))), (2, I c2), (3, I c3), (4, I c4), (5, A w c5), (6, I p6)] dL_begins_124 (by decide) rfl ?_
      refine v_sub [(0, A w c0), (1, A w ((-101))), (2, I c2), (3, I c3), (4, I c4), (5, A w c5), (6, I p6), (7, I 0)] [1, 2, 3, 4, 5, 6, 7, 0] rfl ?_
      refine vL_begins_L126 res hRm C hO c0 c2 c3 c4 c5 p6 _ ?_ 1000 0 P27 n27 (c + 6) s27
      · intro P35 n35 c35 s35
        refine v_aload C dL_begins_171 (j := 5) rfl ?_
        refine v_ldcS (own := RL) (idx := 54) (tx := ";") (i := 18) (z := (-20)) C (by decide +kernel) dL_begins_173 (by decide) ?_
        refine v_bud (fun hb => ?_)
        refine v_gaR (st := []) (fun H9 locs9 ls9 x9 hR9 hs9 hP9 h9 => v_rV C (o := c5) (As := [A w ((-20))]) (CeeM.of (mc := 1) (ms := 1024) (rm := rJ4_append_15ec4) tw_611 tw_16 hJ4_append_15ec4 rfl rfl hRm (Nat.le_of_ble_eq_true rfl) (Nat.le_of_ble_eq_true rfl)) (kJ4_append_15ec4 X.2.1 w _ _ h9) tw_751 tw_610 tw_609 rfl hR9 hs9 hP9 rfl rfl (Nat.le_of_ble_eq_true rfl) ⟨by rw [hRm]; show _ ≤ 1000; omega, by rw [hRm]; show _ ≤ 1024000; omega⟩ dL_begins_175) (fun x37 P36 n36 s36 => ?_)
        refine v_wid (c35 + 1) (1024 * (c35 + 1)) (by omega) (by omega) ?_
        refine v_pop C dL_begins_178 rfl ?_
        refine v_iinc C (j := 6) [(0, A w c0), (1, A w ((-101))), (2, I c2), (3, I c3), (4, I c4), (5, A w c5)] dL_begins_179 (by decide) rfl (fun _ => rfl) (fun x38 => ?_)
        refine v_goto (tgt := 54) C dL_begins_182 rfl ?_
        refine v_sub [(0, A w c0), (1, A w ((-101))), (2, I c2), (3, I c3), (4, I c4), (5, A w c5), (6, I x38)] [1, 2, 3, 4, 5, 6, 0] rfl ?_
        exact ih x38 P36 n36 (c35 + 1) s36
set_option maxRecDepth 100000 in
theorem vL_begins_L188 {X : Cxt} {w : Wd} (res : Hr) (hRm : X.2.2.2.1 = rL_begins) (C : Cok X w cL_begins 10 RL (some FieldType.boolean)) (hO : Own X w 1000 1024000 (QI w res.2.1 res.2.2.1 res.1 res.2.2.2))  (c0 : Int) (c2 : Int) (c3 : Int) (c4 : Int) (c5 : Int) (kE279 : Shp → Nat → Nat → St → Option (Hr)) (hE279 : ∀ (Pe : Shp) (ne ce : Nat) (se : St), V X w 10 Pe ne ce (1024 * ce) res (kE279 Pe ne ce se) se 279 [(0, A w c0), (1, A w ((-101))), (2, I c2), (3, I c3), (4, I c4), (5, A w c5)] []) : ∀ (fuel : Nat) (p6 : Int) (P : Shp) (n c : Nat) (s : St), V X w 10 P n c (1024 * c) res (fL_begins_L188 (wL w) (wX w) c0 c2 c3 c4 c5 kE279 fuel p6 P n c s) s 188 [(0, A w c0), (1, A w ((-101))), (2, I c2), (3, I c3), (4, I c4), (5, A w c5), (6, I p6)] [] := by
  intro fuel
  induction fuel with
  | zero => intro p6 P n c s; exact v_none
  | succ m ih =>
    intro p6 P n c s
    rw [fL_begins_L188]
    refine v_iload C dL_begins_188 (j := 6) rfl ?_
    refine v_iload_n C dL_begins_190 rfl (j := 2) rfl ?_
    refine v_icmp_ge (tgt := 279) C dL_begins_191 rfl ?_ ?_
    · skip
      refine v_sub [(0, A w c0), (1, A w ((-101))), (2, I c2), (3, I c3), (4, I c4), (5, A w c5)] [0, 1, 2, 3, 4, 5] rfl ?_
      exact hE279 P n c s
    · skip
      refine v_aload C dL_begins_194 (j := 5) rfl ?_
      refine v_ldcS (own := RL) (idx := 56) (tx := "device d") (i := 19) (z := (-21)) C (by decide +kernel) dL_begins_196 (by decide) ?_
      refine v_bud (fun hb => ?_)
      refine v_gaR (st := []) (fun H9 locs9 ls9 x9 hR9 hs9 hP9 h9 => v_rV C (o := c5) (As := [A w ((-21))]) (CeeM.of (mc := 1) (ms := 1024) (rm := rJ4_append_15ec4) tw_611 tw_16 hJ4_append_15ec4 rfl rfl hRm (Nat.le_of_ble_eq_true rfl) (Nat.le_of_ble_eq_true rfl)) (kJ4_append_15ec4 X.2.1 w _ _ h9) tw_751 tw_610 tw_609 rfl hR9 hs9 hP9 rfl rfl (Nat.le_of_ble_eq_true rfl) ⟨by rw [hRm]; show _ ≤ 1000; omega, by rw [hRm]; show _ ≤ 1024000; omega⟩ dL_begins_198) (fun x41 P40 n40 s40 => ?_)
      refine v_wid (c + 1) (1024 * (c + 1)) (by omega) (by omega) ?_
      refine v_bipush C dL_begins_201 (by decide) ?_
      refine v_iload C dL_begins_203 (j := 6) rfl ?_
      refine v_iadd C dL_begins_205 ?_
      refine v_i2c C dL_begins_206 ?_
      refine v_bud (fun hb => ?_)
      refine v_gaR (st := []) (fun H9 locs9 ls9 x9 hR9 hs9 hP9 h9 => v_rV C (o := x41) (As := [I (i2c (97 + p6))]) (CeeM.of (mc := 1) (ms := 1024) (rm := rJ4_append_cf468) tw_756 tw_16 hJ4_append_cf468 rfl rfl hRm (Nat.le_of_ble_eq_true rfl) (Nat.le_of_ble_eq_true rfl)) (kJ4_append_cf468 X.2.1 w _ _ h9) tw_753 tw_755 tw_754 rfl hR9 hs9 hP9 rfl rfl (Nat.le_of_ble_eq_true rfl) ⟨by rw [hRm]; show _ ≤ 1000; omega, by rw [hRm]; show _ ≤ 1024000; omega⟩ dL_begins_207) (fun x43 P42 n42 s42 => ?_)
      refine v_wid (c + 2) (1024 * (c + 2)) (by omega) (by omega) ?_
      refine v_ldcS (own := RL) (idx := 48) (tx := " ") (i := 13) (z := (-15)) C (by decide +kernel) dL_begins_210 (by decide) ?_
      refine v_bud (fun hb => ?_)
      refine v_gaR (st := []) (fun H9 locs9 ls9 x9 hR9 hs9 hP9 h9 => v_rV C (o := x43) (As := [A w ((-15))]) (CeeM.of (mc := 1) (ms := 1024) (rm := rJ4_append_15ec4) tw_611 tw_16 hJ4_append_15ec4 rfl rfl hRm (Nat.le_of_ble_eq_true rfl) (Nat.le_of_ble_eq_true rfl)) (kJ4_append_15ec4 X.2.1 w _ _ h9) tw_751 tw_610 tw_609 rfl hR9 hs9 hP9 rfl rfl (Nat.le_of_ble_eq_true rfl) ⟨by rw [hRm]; show _ ≤ 1000; omega, by rw [hRm]; show _ ≤ 1024000; omega⟩ dL_begins_212) (fun x45 P44 n44 s44 => ?_)
      refine v_wid (c + 3) (1024 * (c + 3)) (by omega) (by omega) ?_
      refine v_iload C dL_begins_215 (j := 6) rfl ?_
      refine v_bud (fun hb => ?_)
      refine v_gaR (st := []) (fun H9 locs9 ls9 x9 hR9 hs9 hP9 h9 => v_rV C (o := x45) (As := [I p6]) (CeeM.of (mc := 1) (ms := 1024) (rm := rJ4_append_bf812) tw_728 tw_16 hJ4_append_bf812 rfl rfl hRm (Nat.le_of_ble_eq_true rfl) (Nat.le_of_ble_eq_true rfl)) (kJ4_append_bf812 X.2.1 w _ _ h9) tw_725 tw_727 tw_726 rfl hR9 hs9 hP9 rfl rfl (Nat.le_of_ble_eq_true rfl) ⟨by rw [hRm]; show _ ≤ 1000; omega, by rw [hRm]; show _ ≤ 1024000; omega⟩ dL_begins_217) (fun x47 P46 n46 s46 => ?_)
      refine v_wid (c + 4) (1024 * (c + 4)) (by omega) (by omega) ?_
      refine v_pop C dL_begins_220 rfl ?_
      refine v_iload C dL_begins_221 (j := 6) rfl ?_
      refine v_jnt (fun (k265 : Shp → Nat → Nat → St → Option (Hr)) => ∀ (P48 : Shp) (n48 c48 : Nat) (s48 : St), V X w 10 P48 n48 c48 (1024 * c48) res (k265 P48 n48 c48 s48) s48 265 [(0, A w c0), (1, A w ((-101))), (2, I c2), (3, I c3), (4, I c4), (5, A w c5), (6, I p6)] []) ?_ ?_
      · intro P48 n48 c48 s48
        refine v_aload C dL_begins_265 (j := 5) rfl ?_
        refine v_ldcS (own := RL) (idx := 54) (tx := ";") (i := 18) (z := (-20)) C (by decide +kernel) dL_begins_267 (by decide) ?_
        refine v_bud (fun hb => ?_)
        refine v_gaR (st := []) (fun H9 locs9 ls9 x9 hR9 hs9 hP9 h9 => v_rV C (o := c5) (As := [A w ((-20))]) (CeeM.of (mc := 1) (ms := 1024) (rm := rJ4_append_15ec4) tw_611 tw_16 hJ4_append_15ec4 rfl rfl hRm (Nat.le_of_ble_eq_true rfl) (Nat.le_of_ble_eq_true rfl)) (kJ4_append_15ec4 X.2.1 w _ _ h9) tw_751 tw_610 tw_609 rfl hR9 hs9 hP9 rfl rfl (Nat.le_of_ble_eq_true rfl) ⟨by rw [hRm]; show _ ≤ 1000; omega, by rw [hRm]; show _ ≤ 1024000; omega⟩ dL_begins_269) (fun x50 P49 n49 s49 => ?_)
        refine v_wid (c48 + 1) (1024 * (c48 + 1)) (by omega) (by omega) ?_
        refine v_pop C dL_begins_272 rfl ?_
        refine v_iinc C (j := 6) [(0, A w c0), (1, A w ((-101))), (2, I c2), (3, I c3), (4, I c4), (5, A w c5)] dL_begins_273 (by decide) rfl (fun _ => rfl) (fun x51 => ?_)
        refine v_goto (tgt := 188) C dL_begins_276 rfl ?_
        refine v_sub [(0, A w c0), (1, A w ((-101))), (2, I c2), (3, I c3), (4, I c4), (5, A w c5), (6, I x51)] [1, 2, 3, 4, 5, 6, 0] rfl ?_
        exact ih x51 P49 n49 (c48 + 1) s49
      intro k265 hk265
      refine v_if_le (tgt := 265) C dL_begins_223 rfl ?_ ?_
      · skip
        exact hk265 P46 n46 (c + 4) s46
      · skip
        refine v_aload_n C dL_begins_226 rfl (j := 1) rfl ?_
        refine v_bipush C dL_begins_227 (by decide) ?_
        refine v_iload C dL_begins_229 (j := 6) rfl ?_
        refine v_iadd C dL_begins_231 ?_
        refine v_iconst C dL_begins_232 ?_
        refine v_bud (fun hb => ?_)
        refine v_callS_rI C [A w ((-101)), I (22 + p6), I 3] [] (Cee.of (rm := rL_pick) tw_563 tw_0 hL_pick rfl rfl hRm (Nat.le_of_ble_eq_true rfl) (Nat.le_of_ble_eq_true rfl)) (fun x h => kL_pick X.2.1 w _ _ h) tw_561 tw_562 rfl rfl (Nat.le_of_ble_eq_true rfl) ⟨by rw [hRm]; show _ ≤ 1000; omega, by rw [hRm]; show _ ≤ 1024000; omega⟩ dL_begins_233 (fun x52 => ?_)
        refine v_if_le (tgt := 265) C dL_begins_236 rfl ?_ ?_
        · skip
          exact hk265 P46 n46 (c + 4) s46
        · skip
          refine v_aload C dL_begins_239 (j := 5) rfl ?_
          refine v_ldcS (own := RL) (idx := 58) (tx := " heir d") (i := 20) (z := (-22)) C (by decide +kernel) dL_begins_241 (by decide) ?_
          refine v_bud (fun hb => ?_)
          refine v_gaR (st := []) (fun H9 locs9 ls9 x9 hR9 hs9 hP9 h9 => v_rV C (o := c5) (As := [A w ((-22))]) (CeeM.of (mc := 1) (ms := 1024) (rm := rJ4_append_15ec4) tw_611 tw_16 hJ4_append_15ec4 rfl rfl hRm (Nat.le_of_ble_eq_true rfl) (Nat.le_of_ble_eq_true rfl)) (kJ4_append_15ec4 X.2.1 w _ _ h9) tw_751 tw_610 tw_609 rfl hR9 hs9 hP9 rfl rfl (Nat.le_of_ble_eq_true rfl) ⟨by rw [hRm]; show _ ≤ 1000; omega, by rw [hRm]; show _ ≤ 1024000; omega⟩ dL_begins_243) (fun x54 P53 n53 s53 => ?_)
          refine v_wid (c + 5) (1024 * (c + 5)) (by omega) (by omega) ?_
          refine v_bipush C dL_begins_246 (by decide) ?_
          refine v_aload_n C dL_begins_248 rfl (j := 1) rfl ?_
          refine v_bipush C dL_begins_249 (by decide) ?_
          refine v_iload C dL_begins_251 (j := 6) rfl ?_
          refine v_iadd C dL_begins_253 ?_
          refine v_iload C dL_begins_254 (j := 6) rfl ?_
          refine v_bud (fun hb => ?_)
          refine v_callS_rI C [A w ((-101)), I (26 + p6), I p6] [I 97, A w x54] (Cee.of (rm := rL_pick) tw_563 tw_0 hL_pick rfl rfl hRm (Nat.le_of_ble_eq_true rfl) (Nat.le_of_ble_eq_true rfl)) (fun x h => kL_pick X.2.1 w _ _ h) tw_561 tw_562 rfl rfl (Nat.le_of_ble_eq_true rfl) ⟨by rw [hRm]; show _ ≤ 1000; omega, by rw [hRm]; show _ ≤ 1024000; omega⟩ dL_begins_256 (fun x55 => ?_)
          refine v_iadd C dL_begins_259 ?_
          refine v_i2c C dL_begins_260 ?_
          refine v_bud (fun hb => ?_)
          refine v_gaR (st := []) (fun H9 locs9 ls9 x9 hR9 hs9 hP9 h9 => v_rV C (o := x54) (As := [I (i2c (97 + x55))]) (CeeM.of (mc := 1) (ms := 1024) (rm := rJ4_append_cf468) tw_756 tw_16 hJ4_append_cf468 rfl rfl hRm (Nat.le_of_ble_eq_true rfl) (Nat.le_of_ble_eq_true rfl)) (kJ4_append_cf468 X.2.1 w _ _ h9) tw_753 tw_755 tw_754 rfl hR9 hs9 hP9 rfl rfl (Nat.le_of_ble_eq_true rfl) ⟨by rw [hRm]; show _ ≤ 1000; omega, by rw [hRm]; show _ ≤ 1024000; omega⟩ dL_begins_261) (fun x57 P56 n56 s56 => ?_)
          refine v_wid (c + 6) (1024 * (c + 6)) (by omega) (by omega) ?_
          refine v_pop C dL_begins_264 rfl ?_
          exact hk265 P56 n56 (c + 6) s56
set_option maxRecDepth 100000 in
theorem vL_begins_L282 {X : Cxt} {w : Wd} (res : Hr) (hRm : X.2.2.2.1 = rL_begins) (C : Cok X w cL_begins 10 RL (some FieldType.boolean)) (hO : Own X w 1000 1024000 (QI w res.2.1 res.2.2.1 res.1 res.2.2.2))  (c0 : Int) (c2 : Int) (c3 : Int) (c4 : Int) (c5 : Int) (kE382 : Shp → Nat → Nat → St → Option (Hr)) (hE382 : ∀ (Pe : Shp) (ne ce : Nat) (se : St), V X w 10 Pe ne ce (1024 * ce) res (kE382 Pe ne ce se) se 382 [(0, A w c0), (1, A w ((-101))), (3, I c3), (5, A w c5)] []) : ∀ (fuel : Nat) (p6 : Int) (P : Shp) (n c : Nat) (s : St), V X w 10 P n c (1024 * c) res (fL_begins_L282 (wL w) (wX w) c0 c2 c3 c4 c5 kE382 fuel p6 P n c s) s 282 [(0, A w c0), (1, A w ((-101))), (2, I c2), (3, I c3), (4, I c4), (5, A w c5), (6, I p6)] [] := by
  intro fuel
  induction fuel with
  | zero => intro p6 P n c s; exact v_none
  | succ m ih =>
    intro p6 P n c s
    rw [fL_begins_L282]
    refine v_iload C dL_begins_282 (j := 6) rfl ?_
    refine v_iload_n C dL_begins_284 rfl (j := 3) rfl ?_
    refine v_icmp_ge (tgt := 382) C dL_begins_285 rfl ?_ ?_
    · skip
      refine v_sub [(0, A w c0), (1, A w ((-101))), (3, I c3), (5, A w c5)] [0, 1, 3, 5] rfl ?_
      exact hE382 P n c s
    · skip
      refine v_aload C dL_begins_288 (j := 5) rfl ?_
      refine v_ldcS (own := RL) (idx := 60) (tx := "stream s") (i := 21) (z := (-23)) C (by decide +kernel) dL_begins_290 (by decide) ?_
      refine v_bud (fun hb => ?_)
      refine v_gaR (st := []) (fun H9 locs9 ls9 x9 hR9 hs9 hP9 h9 => v_rV C (o := c5) (As := [A w ((-23))]) (CeeM.of (mc := 1) (ms := 1024) (rm := rJ4_append_15ec4) tw_611 tw_16 hJ4_append_15ec4 rfl rfl hRm (Nat.le_of_ble_eq_true rfl) (Nat.le_of_ble_eq_true rfl)) (kJ4_append_15ec4 X.2.1 w _ _ h9) tw_751 tw_610 tw_609 rfl hR9 hs9 hP9 rfl rfl (Nat.le_of_ble_eq_true rfl) ⟨by rw [hRm]; show _ ≤ 1000; omega, by rw [hRm]; show _ ≤ 1024000; omega⟩ dL_begins_292) (fun x60 P59 n59 s59 => ?_)
      refine v_wid (c + 1) (1024 * (c + 1)) (by omega) (by omega) ?_
      refine v_bipush C dL_begins_295 (by decide) ?_
      refine v_iload C dL_begins_297 (j := 6) rfl ?_
      refine v_iadd C dL_begins_299 ?_
      refine v_i2c C dL_begins_300 ?_
      refine v_bud (fun hb => ?_)
      refine v_gaR (st := []) (fun H9 locs9 ls9 x9 hR9 hs9 hP9 h9 => v_rV C (o := x60) (As := [I (i2c (97 + p6))]) (CeeM.of (mc := 1) (ms := 1024) (rm := rJ4_append_cf468) tw_756 tw_16 hJ4_append_cf468 rfl rfl hRm (Nat.le_of_ble_eq_true rfl) (Nat.le_of_ble_eq_true rfl)) (kJ4_append_cf468 X.2.1 w _ _ h9) tw_753 tw_755 tw_754 rfl hR9 hs9 hP9 rfl rfl (Nat.le_of_ble_eq_true rfl) ⟨by rw [hRm]; show _ ≤ 1000; omega, by rw [hRm]; show _ ≤ 1024000; omega⟩ dL_begins_301) (fun x62 P61 n61 s61 => ?_)
      refine v_wid (c + 2) (1024 * (c + 2)) (by omega) (by omega) ?_
      refine v_ldcS (own := RL) (idx := 62) (tx := " d") (i := 22) (z := (-24)) C (by decide +kernel) dL_begins_304 (by decide) ?_
      refine v_bud (fun hb => ?_)
      refine v_gaR (st := []) (fun H9 locs9 ls9 x9 hR9 hs9 hP9 h9 => v_rV C (o := x62) (As := [A w ((-24))]) (CeeM.of (mc := 1) (ms := 1024) (rm := rJ4_append_15ec4) tw_611 tw_16 hJ4_append_15ec4 rfl rfl hRm (Nat.le_of_ble_eq_true rfl) (Nat.le_of_ble_eq_true rfl)) (kJ4_append_15ec4 X.2.1 w _ _ h9) tw_751 tw_610 tw_609 rfl hR9 hs9 hP9 rfl rfl (Nat.le_of_ble_eq_true rfl) ⟨by rw [hRm]; show _ ≤ 1000; omega, by rw [hRm]; show _ ≤ 1024000; omega⟩ dL_begins_306) (fun x64 P63 n63 s63 => ?_)
      refine v_wid (c + 3) (1024 * (c + 3)) (by omega) (by omega) ?_
      refine v_bipush C dL_begins_309 (by decide) ?_
      refine v_aload_n C dL_begins_311 rfl (j := 1) rfl ?_
      refine v_bipush C dL_begins_312 (by decide) ?_
      refine v_iload C dL_begins_314 (j := 6) rfl ?_
      refine v_iadd C dL_begins_316 ?_
      refine v_iload_n C dL_begins_317 rfl (j := 2) rfl ?_
      refine v_bud (fun hb => ?_)
      refine v_callS_rI C [A w ((-101)), I (30 + p6), I c2] [I 97, A w x64] (Cee.of (rm := rL_pick) tw_563 tw_0 hL_pick rfl rfl hRm (Nat.le_of_ble_eq_true rfl) (Nat.le_of_ble_eq_true rfl)) (fun x h => kL_pick X.2.1 w _ _ h) tw_561 tw_562 rfl rfl (Nat.le_of_ble_eq_true rfl) ⟨by rw [hRm]; show _ ≤ 1000; omega, by rw [hRm]; show _ ≤ 1024000; omega⟩ dL_begins_318 (fun x65 => ?_)
      refine v_iadd C dL_begins_321 ?_
      refine v_i2c C dL_begins_322 ?_
      refine v_bud (fun hb => ?_)
      refine v_gaR (st := []) (fun H9 locs9 ls9 x9 hR9 hs9 hP9 h9 => v_rV C (o := x64) (As := [I (i2c (97 + x65))]) (CeeM.of (mc := 1) (ms := 1024) (rm := rJ4_append_cf468) tw_756 tw_16 hJ4_append_cf468 rfl rfl hRm (Nat.le_of_ble_eq_true rfl) (Nat.le_of_ble_eq_true rfl)) (kJ4_append_cf468 X.2.1 w _ _ h9) tw_753 tw_755 tw_754 rfl hR9 hs9 hP9 rfl rfl (Nat.le_of_ble_eq_true rfl) ⟨by rw [hRm]; show _ ≤ 1000; omega, by rw [hRm]; show _ ≤ 1024000; omega⟩ dL_begins_323) (fun x67 P66 n66 s66 => ?_)
      refine v_wid (c + 4) (1024 * (c + 4)) (by omega) (by omega) ?_
      refine v_ldcS (own := RL) (idx := 48) (tx := " ") (i := 13) (z := (-15)) C (by decide +kernel) dL_begins_326 (by decide) ?_
      refine v_bud (fun hb => ?_)
      refine v_gaR (st := []) (fun H9 locs9 ls9 x9 hR9 hs9 hP9 h9 => v_rV C (o := x67) (As := [A w ((-15))]) (CeeM.of (mc := 1) (ms := 1024) (rm := rJ4_append_15ec4) tw_611 tw_16 hJ4_append_15ec4 rfl rfl hRm (Nat.le_of_ble_eq_true rfl) (Nat.le_of_ble_eq_true rfl)) (kJ4_append_15ec4 X.2.1 w _ _ h9) tw_751 tw_610 tw_609 rfl hR9 hs9 hP9 rfl rfl (Nat.le_of_ble_eq_true rfl) ⟨by rw [hRm]; show _ ≤ 1000; omega, by rw [hRm]; show _ ≤ 1024000; omega⟩ dL_begins_328) (fun x69 P68 n68 s68 => ?_)
      refine v_wid (c + 5) (1024 * (c + 5)) (by omega) (by omega) ?_
      refine v_iconst C dL_begins_331 ?_
      refine v_aload_n C dL_begins_332 rfl (j := 1) rfl ?_
      refine v_bipush C dL_begins_333 (by decide) ?_
      refine v_iload C dL_begins_335 (j := 6) rfl ?_
      refine v_iadd C dL_begins_337 ?_
      refine v_iload C dL_begins_338 (j := 4) rfl ?_
      refine v_iconst C dL_begins_340 ?_
      refine v_isub C dL_begins_341 ?_
      refine v_bud (fun hb => ?_)
      refine v_callS_rI C [A w ((-101)), I (35 + p6), I (c4 - 1)] [I 2, A w x69] (Cee.of (rm := rL_pick) tw_563 tw_0 hL_pick rfl rfl hRm (Nat.le_of_ble_eq_true rfl) (Nat.le_of_ble_eq_true rfl)) (fun x h => kL_pick X.2.1 w _ _ h) tw_561 tw_562 rfl rfl (Nat.le_of_ble_eq_true rfl) ⟨by rw [hRm]; show _ ≤ 1000; omega, by rw [hRm]; show _ ≤ 1024000; omega⟩ dL_begins_342 (fun x70 => ?_)
      refine v_iadd C dL_begins_345 ?_
      refine v_bud (fun hb => ?_)
      refine v_gaR (st := []) (fun H9 locs9 ls9 x9 hR9 hs9 hP9 h9 => v_rV C (o := x69) (As := [I (2 + x70)]) (CeeM.of (mc := 1) (ms := 1024) (rm := rJ4_append_bf812) tw_728 tw_16 hJ4_append_bf812 rfl rfl hRm (Nat.le_of_ble_eq_true rfl) (Nat.le_of_ble_eq_true rfl)) (kJ4_append_bf812 X.2.1 w _ _ h9) tw_725 tw_727 tw_726 rfl hR9 hs9 hP9 rfl rfl (Nat.le_of_ble_eq_true rfl) ⟨by rw [hRm]; show _ ≤ 1000; omega, by rw [hRm]; show _ ≤ 1024000; omega⟩ dL_begins_346) (fun x72 P71 n71 s71 => ?_)
      refine v_wid (c + 6) (1024 * (c + 6)) (by omega) (by omega) ?_
      refine v_ldcS (own := RL) (idx := 48) (tx := " ") (i := 13) (z := (-15)) C (by decide +kernel) dL_begins_349 (by decide) ?_
      refine v_bud (fun hb => ?_)
      refine v_gaR (st := []) (fun H9 locs9 ls9 x9 hR9 hs9 hP9 h9 => v_rV C (o := x72) (As := [A w ((-15))]) (CeeM.of (mc := 1) (ms := 1024) (rm := rJ4_append_15ec4) tw_611 tw_16 hJ4_append_15ec4 rfl rfl hRm (Nat.le_of_ble_eq_true rfl) (Nat.le_of_ble_eq_true rfl)) (kJ4_append_15ec4 X.2.1 w _ _ h9) tw_751 tw_610 tw_609 rfl hR9 hs9 hP9 rfl rfl (Nat.le_of_ble_eq_true rfl) ⟨by rw [hRm]; show _ ≤ 1000; omega, by rw [hRm]; show _ ≤ 1024000; omega⟩ dL_begins_351) (fun x74 P73 n73 s73 => ?_)
      refine v_wid (c + 7) (1024 * (c + 7)) (by omega) (by omega) ?_
      refine v_iconst C dL_begins_354 ?_
      refine v_aload_n C dL_begins_355 rfl (j := 1) rfl ?_
      refine v_bipush C dL_begins_356 (by decide) ?_
      refine v_iload C dL_begins_358 (j := 6) rfl ?_
      refine v_iadd C dL_begins_360 ?_
      refine v_bipush C dL_begins_361 (by decide) ?_
      refine v_bud (fun hb => ?_)
      refine v_callS_rI C [A w ((-101)), I (40 + p6), I 60] [I 1, A w x74] (Cee.of (rm := rL_pick) tw_563 tw_0 hL_pick rfl rfl hRm (Nat.le_of_ble_eq_true rfl) (Nat.le_of_ble_eq_true rfl)) (fun x h => kL_pick X.2.1 w _ _ h) tw_561 tw_562 rfl rfl (Nat.le_of_ble_eq_true rfl) ⟨by rw [hRm]; show _ ≤ 1000; omega, by rw [hRm]; show _ ≤ 1024000; omega⟩ dL_begins_363 (fun x75 => ?_)
      refine v_iadd C dL_begins_366 ?_
      refine v_bud (fun hb => ?_)
      refine v_gaR (st := []) (fun H9 locs9 ls9 x9 hR9 hs9 hP9 h9 => v_rV C (o := x74) (As := [I (1 + x75)]) (CeeM.of (mc := 1) (ms := 1024) (rm := rJ4_append_bf812) tw_728 tw_16 hJ4_append_bf812 rfl rfl hRm (Nat.le_of_ble_eq_true rfl) (Nat.le_of_ble_eq_true rfl)) (kJ4_append_bf812 X.2.1 w _ _ h9) tw_725 tw_727 tw_726 rfl hR9 hs9 hP9 rfl rfl (Nat.le_of_ble_eq_true rfl) ⟨by rw [hRm]; show _ ≤ 1000; omega, by rw [hRm]; show _ ≤ 1024000; omega⟩ dL_begins_367) (fun x77 P76 n76 s76 => ?_)
      refine v_wid (c + 8) (1024 * (c + 8)) (by omega) (by omega) ?_
      refine v_ldcS (own := RL) (idx := 54) (tx := ";") (i := 18) (z := (-20)) C (by decide +kernel) dL_begins_370 (by decide) ?_
      refine v_bud (fun hb => ?_)
      refine v_gaR (st := []) (fun H9 locs9 ls9 x9 hR9 hs9 hP9 h9 => v_rV C (o := x77) (As := [A w ((-20))]) (CeeM.of (mc := 1) (ms := 1024) (rm := rJ4_append_15ec4) tw_611 tw_16 hJ4_append_15ec4 rfl rfl hRm (Nat.le_of_ble_eq_true rfl) (Nat.le_of_ble_eq_true rfl)) (kJ4_append_15ec4 X.2.1 w _ _ h9) tw_751 tw_610 tw_609 rfl hR9 hs9 hP9 rfl rfl (Nat.le_of_ble_eq_true rfl) ⟨by rw [hRm]; show _ ≤ 1000; omega, by rw [hRm]; show _ ≤ 1024000; omega⟩ dL_begins_372) (fun x79 P78 n78 s78 => ?_)
      refine v_wid (c + 9) (1024 * (c + 9)) (by omega) (by omega) ?_
      refine v_pop C dL_begins_375 rfl ?_
      refine v_iinc C (j := 6) [(0, A w c0), (1, A w ((-101))), (2, I c2), (3, I c3), (4, I c4), (5, A w c5)] dL_begins_376 (by decide) rfl (fun _ => rfl) (fun x80 => ?_)
      refine v_goto (tgt := 282) C dL_begins_379 rfl ?_
      refine v_sub [(0, A w c0), (1, A w ((-101))), (2, I c2), (3, I c3), (4, I c4), (5, A w c5), (6, I x80)] [1, 2, 3, 4, 5, 6, 0] rfl ?_
      exact ih x80 P78 n78 (c + 9) s78
set_option maxRecDepth 100000 in
theorem vL_begins_L433 {X : Cxt} {w : Wd} (res : Hr) (hRm : X.2.2.2.1 = rL_begins) (C : Cok X w cL_begins 10 RL (some FieldType.boolean)) (hO : Own X w 1000 1024000 (QI w res.2.1 res.2.2.1 res.1 res.2.2.2))  (c0 : Int) (c3 : Int) (c5 : Int) (c6 : Int) (c7 : Int) (c8 : Int) (kE489 : Shp → Nat → Nat → St → Option (Hr)) (hE489 : ∀ (Pe : Shp) (ne ce : Nat) (se : St), V X w 10 Pe ne ce (1024 * ce) res (kE489 Pe ne ce se) se 489 [(0, A w c0), (3, I c3), (5, A w c5), (6, I c6), (7, I c7), (8, A w c8)] []) : ∀ (fuel : Nat) (p9 : Int) (P : Shp) (n c : Nat) (s : St), V X w 10 P n c (1024 * c) res (fL_begins_L433 (wL w) (wX w) c0 c3 c5 c6 c7 c8 kE489 fuel p9 P n c s) s 433 [(0, A w c0), (3, I c3), (5, A w c5), (6, I c6), (7, I c7), (8, A w c8), (9, I p9)] [] := by
  intro fuel
  induction fuel with
  | zero => intro p9 P n c s; exact v_none
  | succ m ih =>
    intro p9 P n c s
    rw [fL_begins_L433]
    refine v_iload C dL_begins_433 (j := 6) rfl ?_
    refine v_bipush C dL_begins_435 (by decide) ?_
    refine v_icmp_ge (tgt := 489) C dL_begins_437 rfl ?_ ?_
    · skip
      refine v_sub [(0, A w c0), (3, I c3), (5, A w c5), (6, I c6), (7, I c7), (8, A w c8)] [0, 1, 2, 3, 4, 5] rfl ?_
      exact hE489 P n c s
    · skip
      refine v_aload C dL_begins_440 (j := 5) rfl ?_
      refine v_iload C dL_begins_442 (j := 6) rfl ?_
      refine v_iconst C dL_begins_444 ?_
      refine v_idiv C dL_begins_445 (fun x92 => ?_)
      refine v_aload C dL_begins_446 (j := 5) rfl ?_
      refine v_iload C dL_begins_448 (j := 6) rfl ?_
      refine v_iconst C dL_begins_450 ?_
      refine v_idiv C dL_begins_451 (fun x93 => ?_)
      refine v_iald C dL_begins_452 (fun x94 => ?_)
      refine v_bipush C dL_begins_453 (by decide) ?_
      refine v_ishl C dL_begins_455 ?_
      refine v_iload C dL_begins_456 (j := 4) rfl ?_
      refine v_iload C dL_begins_458 (j := 6) rfl ?_
      refine v_iadd C dL_begins_460 ?_
      refine v_iload C dL_begins_461 (j := 3) rfl ?_
      refine v_jnt (fun (k481 : Int → Shp → Nat → Nat → St → Option (Hr)) => ∀ (x96 : Int) (P95 : Shp) (n95 c95 : Nat) (s95 : St), V X w 10 P95 n95 c95 (1024 * c95) res (k481 x96 P95 n95 c95 s95) s95 481 [(0, A w c0), (3, I c3), (5, A w c5), (6, I c6), (7, I c7), (8, A w c8), (9, I p9)] [I x96, I (ishl x94 8), I x92, A w c8]) ?_ ?_
      · intro x96 P95 n95 c95 s95
        refine v_ior C dL_begins_481 ?_
        refine v_iast C dL_begins_482 (fun s97 => ?_)
        refine v_iinc C (j := 6) [(0, A w c0), (3, I c3), (5, A w c5), (6, I c6), (7, I c7), (8, A w c8)] dL_begins_483 (by decide) rfl (fun _ => rfl) (fun x98 => ?_)
        refine v_goto (tgt := 433) C dL_begins_486 rfl ?_
        refine v_sub [(0, A w c0), (3, I c3), (5, A w c5), (6, I c6), (7, I c7), (8, A w c8), (9, I x98)] [1, 2, 3, 4, 5, 6, 0] rfl ?_
        exact ih x98 P95 n95 c95 s97
      intro k481 hk481
      refine v_icmp_ge (tgt := 479) C dL_begins_463 rfl ?_ ?_
      · skip
        refine v_bipush C dL_begins_479 (by decide) ?_
        exact hk481 32 P n c s
      · skip
        refine v_aload C dL_begins_466 (j := 2) rfl ?_
        refine v_iload C dL_begins_468 (j := 4) rfl ?_
        refine v_iload C dL_begins_470 (j := 6) rfl ?_
        refine v_iadd C dL_begins_472 ?_
        refine v_bud (fun hb => ?_)
        refine v_gI (st := [I (ishl x94 8), I x92, A w c8]) (fun H9 locs9 ls9 x9 hR9 hs9 hP9 h9 => v_rV C (o := c5) (As := [I (c7 + p9)]) (CeeM.of (mc := 0) (ms := 0) (rm := rJ4_charAt_5068e) tw_800 tw_16 hJ4_charAt_5068e rfl rfl hRm (Nat.le_of_ble_eq_true rfl) (Nat.le_of_ble_eq_true rfl)) (kJ4_charAt_5068e X.2.1 w _ _ h9) tw_797 tw_799 tw_798 rfl hR9 hs9 hP9 rfl rfl (Nat.le_of_ble_eq_true rfl) ⟨by rw [hRm]; show _ ≤ 1000; omega, by rw [hRm]; show _ ≤ 1024000; omega⟩ dL_begins_473) (fun x99 => ?_)
        refine v_goto (tgt := 481) C dL_begins_476 rfl ?_
        exact hk481 x99 P n c s
set_option maxRecDepth 100000 in
theorem vL_begins_L418 {X : Cxt} {w : Wd} (res : Hr) (hRm : X.2.2.2.1 = rL_begins) (C : Cok X w cL_begins 10 RL (some FieldType.boolean)) (hO : Own X w 1000 1024000 (QI w res.2.1 res.2.2.1 res.1 res.2.2.2))  (c0 : Int) (c3 : Int) (c5 : Int) (c6 : Int) (kE520 : Shp → Nat → Nat → St → Option (Hr)) (hE520 : ∀ (Pe : Shp) (ne ce : Nat) (se : St), V X w 10 Pe ne ce (1024 * ce) res (kE520 Pe ne ce se) se 520 [(0, A w c0), (3, I c3), (6, I c6)] []) : ∀ (fuel : Nat) (p7 : Int) (P : Shp) (n c : Nat) (s : St), V X w 10 P n c (1024 * c) res (fL_begins_L418 (wL w) (wX w) c0 c3 c5 c6 kE520 fuel p7 P n c s) s 418 [(0, A w c0), (3, I c3), (5, A w c5), (6, I c6), (7, I p7)] [] := by
  intro fuel
  induction fuel with
  | zero => intro p7 P n c s; exact v_none
  | succ m ih =>
    intro p7 P n c s
    rw [fL_begins_L418]
    refine v_iload C dL_begins_418 (j := 4) rfl ?_
    refine v_iload C dL_begins_420 (j := 3) rfl ?_
    refine v_icmp_ge (tgt := 520) C dL_begins_422 rfl ?_ ?_
    · skip
      refine v_sub [(0, A w c0), (3, I c3), (6, I c6)] [0, 1, 3] rfl ?_
      exact hE520 P n c s
    · skip
      refine v_iconst C dL_begins_425 ?_
      refine v_bud (fun hb => ?_)
      refine v_newa10 C tw_143 (by decide) (by rw [hRm]; show _ ≤ 1000; omega) (by rw [hRm]; show _ + 5 ≤ 1024000; omega) dL_begins_426 (fun P91 n91 x90 s91 => ?_)
      refine v_wid (c + 1) (1024 * (c + 1)) (by omega) (by show _ + (5 : Int).toNat ≤ _; rw [show (5 : Int).toNat = 5 from rfl]; omega) ?_
      refine v_astore C [(8, A w x90), (0, A w c0), (3, I c3), (5, A w c5), (6, I c6), (7, I p7)] dL_begins_428 (by decide) rfl ?_
      refine v_iconst C dL_begins_430 ?_
      refine v_istore C [(9, I 0), (8, A w x90), (0, A w c0), (3, I c3), (5, A w c5), (6, I c6), (7, I p7)] dL_begins_431 (by decide) rfl ?_
      refine v_sub [(0, A w c0), (3, I c3), (5, A w c5), (6, I c6), (7, I p7), (8, A w x90), (9, I 0)] [2, 3, 4, 5, 6, 1, 0] rfl ?_
      refine vL_begins_L433 res hRm C hO c0 c3 c5 c6 p7 x90 _ ?_ 1000 0 P91 n91 (c + 1) s91
      · intro P100 n100 c100 s100
        refine v_aload_n C dL_begins_489 rfl (j := 0) rfl ?_
        refine v_aload C dL_begins_490 (j := 5) rfl ?_
        refine v_iconst C dL_begins_492 ?_
        refine v_iald C dL_begins_493 (fun x101 => ?_)
        refine v_aload C dL_begins_494 (j := 5) rfl ?_
        refine v_iconst C dL_begins_496 ?_
        refine v_iald C dL_begins_497 (fun x102 => ?_)
        refine v_aload C dL_begins_498 (j := 5) rfl ?_
        refine v_iconst C dL_begins_500 ?_
        refine v_iald C dL_begins_501 (fun x103 => ?_)
        refine v_aload C dL_begins_502 (j := 5) rfl ?_
        refine v_iconst C dL_begins_504 ?_
        refine v_iald C dL_begins_505 (fun x104 => ?_)
        refine v_aload C dL_begins_506 (j := 5) rfl ?_
        refine v_iconst C dL_begins_508 ?_
        refine v_iald C dL_begins_509 (fun x105 => ?_)
        refine v_bud (fun hb => ?_)
        refine v_callV_wI C [I x101, I x102, I x103, I x104, I x105] [] (Cee.of (rm := rX7_append) tw_812 tw_1 hX7_append rfl rfl hRm (Nat.le_of_ble_eq_true rfl) (Nat.le_of_ble_eq_true rfl)) (fun x h => kX7_append X.2.1 w _ _ h) tw_809 tw_810 tw_811 rfl (ci := 7) rfl (by decide) rfl rfl (Nat.le_of_ble_eq_true rfl) ⟨by rw [hRm]; show _ ≤ 1000; omega, by rw [hRm]; show _ ≤ 1024000; omega⟩ dL_begins_510 (fun q106 => ?_)
        obtain ⟨x107, s108⟩ := q106
        refine v_pop C dL_begins_513 rfl ?_
        refine v_iinc C (j := 4) [(0, A w c0), (3, I c3), (5, A w c5), (6, I c6), (8, A w x90)] dL_begins_514 (by decide) rfl (fun _ => rfl) (fun x109 => ?_)
        refine v_goto (tgt := 418) C dL_begins_517 rfl ?_
        refine v_sub [(0, A w c0), (3, I c3), (5, A w c5), (6, I c6), (7, I x109)] [1, 2, 3, 4, 0] rfl ?_
        exact ih x109 P100 n100 c100 s108
theorem hL_begins : yL_begins.cls ≠ "java/lang/invoke/MethodHandle" ∧ yL_begins.cls ≠ "java/lang/invoke/VarHandle" ∧ (parseMethodDescriptor yL_begins.desc).map (fun d => d.parameters.length) = some 2 := by decide +kernel
set_option maxRecDepth 100000 in
theorem kL_begins (l : Launch) (w : Wd) (P : Shp) (n : Nat) {s : St} {a0 : Int} {res : Hr} (h : fL_begins (wL w) (wX w) P n s a0 = some res) : CtM l w yL_begins cL_begins 10 (some FieldType.boolean) rL_begins 1000 1024000 P n [A w a0, A w ((-101))] s (QI w res.2.1 res.2.2.1 res.1 res.2.2.2) :=
  CtM.of h (by decide +kernel) (Nat.le_of_ble_eq_true rfl) (lv := [(0, A w a0), (1, A w ((-101)))]) rfl fun X hl hRm C hO => by
  subst hl
  unfold fL_begins
  refine v_iconst C dL_begins_0 ?_
  refine v_aload_n C dL_begins_1 rfl (j := 1) rfl ?_
  refine v_iconst C dL_begins_2 ?_
  refine v_iconst C dL_begins_3 ?_
  refine v_bud (fun hb => ?_)
  refine v_callS_rI C [A w ((-101)), I 0, I 2] [I 3] (Cee.of (rm := rL_pick) tw_563 tw_0 hL_pick rfl rfl hRm (Nat.le_of_ble_eq_true rfl) (Nat.le_of_ble_eq_true rfl)) (fun x h => kL_pick X.2.1 w _ _ h) tw_561 tw_562 rfl rfl (Nat.le_of_ble_eq_true rfl) ⟨by rw [hRm]; show _ ≤ 1000; omega, by rw [hRm]; show _ ≤ 1024000; omega⟩ dL_begins_4 (fun x1 => ?_)
  refine v_iadd C dL_begins_7 ?_
  refine v_bdI (fun x2 => ?_)
  refine v_istore_n C [(2, I x2), (0, A w a0), (1, A w ((-101)))] dL_begins_8 rfl (by decide) rfl ?_
  refine v_iconst C dL_begins_9 ?_
  refine v_aload_n C dL_begins_10 rfl (j := 2) rfl ?_
  refine v_iconst C dL_begins_11 ?_
  refine v_iconst C dL_begins_12 ?_
  refine v_bud (fun hb => ?_)
  refine v_callS_rI C [A w ((-101)), I 1, I 5] [I 1] (Cee.of (rm := rL_pick) tw_563 tw_0 hL_pick rfl rfl hRm (Nat.le_of_ble_eq_true rfl) (Nat.le_of_ble_eq_true rfl)) (fun x h => kL_pick X.2.1 w _ _ h) tw_561 tw_562 rfl rfl (Nat.le_of_ble_eq_true rfl) ⟨by rw [hRm]; show _ ≤ 1000; omega, by rw [hRm]; show _ ≤ 1024000; omega⟩ dL_begins_13 (fun x3 => ?_)
  refine v_iadd C dL_begins_16 ?_
  refine v_bdI (fun x4 => ?_)
  refine v_istore_n C [(3, I x4), (2, I x2), (0, A w a0), (1, A w ((-101)))] dL_begins_17 rfl (by decide) rfl ?_
  refine v_bipush C dL_begins_18 (by decide) ?_
  refine v_aload_n C dL_begins_20 rfl (j := 3) rfl ?_
  refine v_iconst C dL_begins_21 ?_
  refine v_bipush C dL_begins_22 (by decide) ?_
  refine v_bud (fun hb => ?_)
  refine v_callS_rI C [A w ((-101)), I 2, I 30] [I 10] (Cee.of (rm := rL_pick) tw_563 tw_0 hL_pick rfl rfl hRm (Nat.le_of_ble_eq_true rfl) (Nat.le_of_ble_eq_true rfl)) (fun x h => kL_pick X.2.1 w _ _ h) tw_561 tw_562 rfl rfl (Nat.le_of_ble_eq_true rfl) ⟨by rw [hRm]; show _ ≤ 1000; omega, by rw [hRm]; show _ ≤ 1024000; omega⟩ dL_begins_24 (fun x5 => ?_)
  refine v_iadd C dL_begins_27 ?_
  refine v_bdI (fun x6 => ?_)
  refine v_istore C [(4, I x6), (3, I x4), (2, I x2), (0, A w a0), (1, A w ((-101)))] dL_begins_28 (by decide) rfl ?_
  refine v_bud (fun hb => ?_)
  refine v_new C (ci := 8) rfl inB8 (by decide) tyJ4_ok dfX8 tw_572 tw_573 tw_16 (by rw [hRm]; show _ ≤ 1000; omega) (by rw [hRm]; show _ + 4 ≤ 1024000; omega) dL_begins_30 (fun P8 n8 x7 s8 => ?_)
  refine v_wid (0 + 1) (1024 * (0 + 1)) (by omega) (by omega) ?_
  refine v_dup C dL_begins_33 rfl ?_
  refine v_ldcS (own := RL) (idx := 29) (tx := "hub ") (i := 10) (z := (-12)) C (by decide +kernel) dL_begins_34 (by decide) ?_
  refine v_bud (fun hb => ?_)
  refine v_callN C (rm := rJ4_init_a7421) [A w ((-12))] [A w x7] (fun x h9 => kJ4_init_a7421 X.2.1 w _ _ h9) rfl tw_577 tw_16 hJ4_init_a7421 rfl rfl hRm (Nat.le_of_ble_eq_true rfl) (Nat.le_of_ble_eq_true rfl) tw_575 tw_576 rfl rfl (Nat.le_of_ble_eq_true rfl) ⟨by show _ ≤ 1000; omega, by show _ ≤ 1024000; omega⟩ dL_begins_36 (fun P9 n9 s9 => ?_)
  refine v_wid (0 + 3) (1024 * (0 + 3)) (by omega) (by omega) ?_
  refine v_iload C dL_begins_39 (j := 0) rfl ?_
  refine v_bud (fun hb => ?_)
  refine v_gaR (st := []) (fun H9 locs9 ls9 x9 hR9 hs9 hP9 h9 => v_rV C (o := x7) (As := [I x6]) (CeeM.of (mc := 1) (ms := 1024) (rm := rJ4_append_bf812) tw_728 tw_16 hJ4_append_bf812 rfl rfl hRm (Nat.le_of_ble_eq_true rfl) (Nat.le_of_ble_eq_true rfl)) (kJ4_append_bf812 X.2.1 w _ _ h9) tw_725 tw_727 tw_726 rfl hR9 hs9 hP9 rfl rfl (Nat.le_of_ble_eq_true rfl) ⟨by rw [hRm]; show _ ≤ 1000; omega, by rw [hRm]; show _ ≤ 1024000; omega⟩ dL_begins_41) (fun x11 P10 n10 s10 => ?_)
  refine v_wid (0 + 4) (1024 * (0 + 4)) (by omega) (by omega) ?_
  refine v_ldcS (own := RL) (idx := 38) (tx := " 5;") (i := 11) (z := (-13)) C (by decide +kernel) dL_begins_44 (by decide) ?_
  refine v_bud (fun hb => ?_)
  refine v_gaR (st := []) (fun H9 locs9 ls9 x9 hR9 hs9 hP9 h9 => v_rV C (o := x11) (As := [A w ((-13))]) (CeeM.of (mc := 1) (ms := 1024) (rm := rJ4_append_15ec4) tw_611 tw_16 hJ4_append_15ec4 rfl rfl hRm (Nat.le_of_ble_eq_true rfl) (Nat.le_of_ble_eq_true rfl)) (kJ4_append_15ec4 X.2.1 w _ _ h9) tw_751 tw_610 tw_609 rfl hR9 hs9 hP9 rfl rfl (Nat.le_of_ble_eq_true rfl) ⟨by rw [hRm]; show _ ≤ 1000; omega, by rw [hRm]; show _ ≤ 1024000; omega⟩ dL_begins_46) (fun x13 P12 n12 s12 => ?_)
  refine v_wid (0 + 5) (1024 * (0 + 5)) (by omega) (by omega) ?_
  refine v_astore C [(5, A w x13), (4, I x6), (3, I x4), (2, I x2), (0, A w a0), (1, A w ((-101)))] dL_begins_49 (by decide) rfl ?_
  refine v_iconst C dL_begins_51 ?_
  refine v_istore C [(6, I 0), (5, A w x13), (4, I x6), (3, I x4), (2, I x2), (0, A w a0), (1, A w ((-101)))] dL_begins_52 (by decide) rfl ?_
  refine v_sub [(0, A w a0), (1, A w ((-101))), (2, I x2), (3, I x4), (4, I x6), (5, A w x13), (6, I 0)] [5, 6, 4, 3, 2, 1, 0] rfl ?_
  refine vL_begins_L54 res hRm C hO a0 x2 x4 x6 x13 _ ?_ 1000 0 P12 n12 (0 + 5) s12
  · intro P39 n39 c39 s39
    refine v_iconst C dL_begins_185 ?_
    refine v_istore C [(6, I 0), (0, A w a0), (1, A w ((-101))), (2, I x2), (3, I x4), (4, I x6), (5, A w x13)] dL_begins_186 (by decide) rfl ?_
    refine v_sub [(0, A w a0), (1, A w ((-101))), (2, I x2), (3, I x4), (4, I x6), (5, A w x13), (6, I 0)] [1, 2, 3, 4, 5, 6, 0] rfl ?_
    refine vL_begins_L188 res hRm C hO a0 x2 x4 x6 x13 _ ?_ 1000 0 P39 n39 c39 s39
    · intro P58 n58 c58 s58
      refine v_iconst C dL_begins_279 ?_
      refine v_istore C [(6, I 0), (0, A w a0), (1, A w ((-101))), (2, I x2), (3, I x4), (4, I x6), (5, A w x13)] dL_begins_280 (by decide) rfl ?_
      refine v_sub [(0, A w a0), (1, A w ((-101))), (2, I x2), (3, I x4), (4, I x6), (5, A w x13), (6, I 0)] [1, 2, 3, 4, 5, 6, 0] rfl ?_
      refine vL_begins_L282 res hRm C hO a0 x2 x4 x6 x13 _ ?_ 1000 0 P58 n58 c58 s58
      · intro P81 n81 c81 s81
        refine v_aload C dL_begins_382 (j := 3) rfl ?_
        refine v_ldcS (own := RL) (idx := 64) (tx := "alarm ") (i := 23) (z := (-25)) C (by decide +kernel) dL_begins_384 (by decide) ?_
        refine v_bud (fun hb => ?_)
        refine v_gaR (st := []) (fun H9 locs9 ls9 x9 hR9 hs9 hP9 h9 => v_rV C (o := x13) (As := [A w ((-25))]) (CeeM.of (mc := 1) (ms := 1024) (rm := rJ4_append_15ec4) tw_611 tw_16 hJ4_append_15ec4 rfl rfl hRm (Nat.le_of_ble_eq_true rfl) (Nat.le_of_ble_eq_true rfl)) (kJ4_append_15ec4 X.2.1 w _ _ h9) tw_751 tw_610 tw_609 rfl hR9 hs9 hP9 rfl rfl (Nat.le_of_ble_eq_true rfl) ⟨by rw [hRm]; show _ ≤ 1000; omega, by rw [hRm]; show _ ≤ 1024000; omega⟩ dL_begins_386) (fun x83 P82 n82 s82 => ?_)
        refine v_wid (c81 + 1) (1024 * (c81 + 1)) (by omega) (by omega) ?_
        refine v_iconst C dL_begins_389 ?_
        refine v_aload_n C dL_begins_390 rfl (j := 1) rfl ?_
        refine v_bipush C dL_begins_391 (by decide) ?_
        refine v_bipush C dL_begins_393 (by decide) ?_
        refine v_bud (fun hb => ?_)
        refine v_callS_rI C [A w ((-101)), I 45, I 12] [I 3, A w x83] (Cee.of (rm := rL_pick) tw_563 tw_0 hL_pick rfl rfl hRm (Nat.le_of_ble_eq_true rfl) (Nat.le_of_ble_eq_true rfl)) (fun x h => kL_pick X.2.1 w _ _ h) tw_561 tw_562 rfl rfl (Nat.le_of_ble_eq_true rfl) ⟨by rw [hRm]; show _ ≤ 1000; omega, by rw [hRm]; show _ ≤ 1024000; omega⟩ dL_begins_395 (fun x84 => ?_)
        refine v_iadd C dL_begins_398 ?_
        refine v_bud (fun hb => ?_)
        refine v_gaR (st := []) (fun H9 locs9 ls9 x9 hR9 hs9 hP9 h9 => v_rV C (o := x83) (As := [I (3 + x84)]) (CeeM.of (mc := 1) (ms := 1024) (rm := rJ4_append_bf812) tw_728 tw_16 hJ4_append_bf812 rfl rfl hRm (Nat.le_of_ble_eq_true rfl) (Nat.le_of_ble_eq_true rfl)) (kJ4_append_bf812 X.2.1 w _ _ h9) tw_725 tw_727 tw_726 rfl hR9 hs9 hP9 rfl rfl (Nat.le_of_ble_eq_true rfl) ⟨by rw [hRm]; show _ ≤ 1000; omega, by rw [hRm]; show _ ≤ 1024000; omega⟩ dL_begins_399) (fun x86 P85 n85 s85 => ?_)
        refine v_wid (c81 + 2) (1024 * (c81 + 2)) (by omega) (by omega) ?_
        refine v_ldcS (own := RL) (idx := 66) (tx := " 40;") (i := 24) (z := (-26)) C (by decide +kernel) dL_begins_402 (by decide) ?_
        refine v_bud (fun hb => ?_)
        refine v_gaR (st := []) (fun H9 locs9 ls9 x9 hR9 hs9 hP9 h9 => v_rV C (o := x86) (As := [A w ((-26))]) (CeeM.of (mc := 1) (ms := 1024) (rm := rJ4_append_15ec4) tw_611 tw_16 hJ4_append_15ec4 rfl rfl hRm (Nat.le_of_ble_eq_true rfl) (Nat.le_of_ble_eq_true rfl)) (kJ4_append_15ec4 X.2.1 w _ _ h9) tw_751 tw_610 tw_609 rfl hR9 hs9 hP9 rfl rfl (Nat.le_of_ble_eq_true rfl) ⟨by rw [hRm]; show _ ≤ 1000; omega, by rw [hRm]; show _ ≤ 1024000; omega⟩ dL_begins_404) (fun x88 P87 n87 s87 => ?_)
        refine v_wid (c81 + 3) (1024 * (c81 + 3)) (by omega) (by omega) ?_
        refine v_pop C dL_begins_407 rfl ?_
        refine v_aload C dL_begins_408 (j := 3) rfl ?_
        refine v_bud (fun hb => ?_)
        refine v_gI (st := []) (fun H9 locs9 ls9 x9 hR9 hs9 hP9 h9 => v_rV C (o := x13) (As := []) (CeeM.of (mc := 0) (ms := 0) (rm := rJ4_length_8abf5) tw_793 tw_16 hJ4_length_8abf5 rfl rfl hRm (Nat.le_of_ble_eq_true rfl) (Nat.le_of_ble_eq_true rfl)) (kJ4_length_8abf5 X.2.1 w _ _ h9) tw_790 tw_792 tw_791 rfl hR9 hs9 hP9 rfl rfl (Nat.le_of_ble_eq_true rfl) ⟨by rw [hRm]; show _ ≤ 1000; omega, by rw [hRm]; show _ ≤ 1024000; omega⟩ dL_begins_410) (fun x89 => ?_)
        refine v_istore C [(6, I x89), (0, A w a0), (1, A w ((-101))), (3, I x4), (5, A w x13)] dL_begins_413 (by decide) rfl ?_
        refine v_iconst C dL_begins_415 ?_
        refine v_istore C [(7, I 0), (6, I x89), (0, A w a0), (1, A w ((-101))), (3, I x4), (5, A w x13)] dL_begins_416 (by decide) rfl ?_
        refine v_sub [(0, A w a0), (3, I x4), (5, A w x13), (6, I x89), (7, I 0)] [2, 4, 5, 1, 0] rfl ?_
        refine vL_begins_L418 res hRm C hO a0 x4 x13 x89 _ ?_ 1000 0 P87 n87 (c81 + 3) s87
        · intro P110 n110 c110 s110
          refine v_aload_n C dL_begins_520 rfl (j := 0) rfl ?_
          refine v_iload C dL_begins_521 (j := 2) rfl ?_
          refine v_bud (fun hb => ?_)
          refine v_callV_wI C [I x89] [] (Cee.of (rm := rX7_parse) tw_824 tw_1 hX7_parse rfl rfl hRm (Nat.le_of_ble_eq_true rfl) (Nat.le_of_ble_eq_true rfl)) (fun x h => kX7_parse X.2.1 w _ _ h) tw_821 tw_822 tw_823 rfl (ci := 7) rfl (by decide) rfl rfl (Nat.le_of_ble_eq_true rfl) ⟨by rw [hRm]; show _ ≤ 1000; omega, by rw [hRm]; show _ ≤ 1024000; omega⟩ dL_begins_523 (fun q111 => ?_)
          obtain ⟨x112, s113⟩ := q111
          refine v_iload_n C dL_begins_526 rfl (j := 1) rfl ?_
          refine v_icmp_ne (tgt := 534) C dL_begins_527 rfl ?_ ?_
          · skip
            refine v_iconst C dL_begins_534 ?_
            refine v_bud (fun hb => ?_)
            exact v_mretZ C rfl hO hb (by omega) dL_begins_535
          · skip
            refine v_iconst C dL_begins_530 ?_
            refine v_goto (tgt := 535) C dL_begins_531 rfl ?_
            refine v_bud (fun hb => ?_)
            exact v_mretZ C rfl hO hb (by omega) dL_begins_535
