/-! CONTRACTS (laid by wip/whole/gen/write.py) -/
-- ForesightHubModel.settles
set_option maxRecDepth 100000 in
theorem vX8_settles_L2 {X : Cxt} {w : Wd} {P : Shp} {n : Nat} (res : St) (hRm : X.2.2.2.1 = rX8_settles) (C : Cok X w cX8_settles 2 RX8 (Option.none : Option FieldType)) (hO : Own X w 0 0 (QV w P n res))  (c0 : Int) (kE33 : St → Option (St)) (hE33 : ∀ (se : St), V X w 2 P n 0 0 res (kE33 se) se 33 [(0, A w c0)] []) : ∀ (fuel : Nat) (p1 : Int) (s : St), V X w 2 P n 0 0 res (fX8_settles_L2 P c0 kE33 fuel p1 s) s 2 [(0, A w c0), (1, I p1)] [] := by
  intro fuel
  induction fuel with
  | zero => intro p1 s; exact v_none
  | succ m ih =>
    intro p1 s
    rw [fX8_settles_L2]
    refine v_iload_n C dX8_settles_2 rfl (j := 1) rfl ?_
    refine v_aload_n C dX8_settles_3 rfl (j := 0) rfl ?_
    refine v_callV_rI C [] [I p1] (Cee.of (rm := rX8_streams) tw_1092 tw_9 hX8_streams rfl rfl hRm (Nat.le_of_ble_eq_true rfl) (Nat.le_of_ble_eq_true rfl)) (fun x h => kX8_streams X.2.1 w P n h) tw_1089 tw_1091 ts_39 rfl (ci := 8) rfl (by decide) rfl rfl (Nat.le_of_ble_eq_true rfl) ⟨Nat.zero_le _, Nat.zero_le _⟩ dX8_settles_4 (fun x1 => ?_)
    refine v_icmp_ge (tgt := 33) C dX8_settles_7 rfl ?_ ?_
    · skip
      refine v_sub [(0, A w c0)] [0] rfl ?_
      exact hE33 s
    · skip
      refine v_aload_n C dX8_settles_10 rfl (j := 0) rfl ?_
      refine v_getR C 14 rfl (T := TX8) rfl inB8 (by decide) (by decide) rfl tw_1154 dX8_settles_11 (fun x2 => ?_)
      refine v_iload_n C dX8_settles_14 rfl (j := 1) rfl ?_
      refine v_callS_rI C [I p1] [A w x2] (Cee.of (rm := rX8_in) tw_1095 tw_9 hX8_in rfl rfl hRm (Nat.le_of_ble_eq_true rfl) (Nat.le_of_ble_eq_true rfl)) (fun x h => kX8_in X.2.1 w P n h) tw_1093 tw_1094 rfl rfl (Nat.le_of_ble_eq_true rfl) ⟨Nat.zero_le _, Nat.zero_le _⟩ dX8_settles_15 (fun x3 => ?_)
      refine v_iald C dX8_settles_18 (fun x4 => ?_)
      refine v_jnt (fun (k27 : St → Option (St)) => ∀ (s5 : St), V X w 2 P n 0 0 res (k27 s5) s5 27 [(0, A w c0), (1, I p1)] []) ?_ ?_
      · intro s5
        refine v_iinc C (j := 1) [(0, A w c0)] dX8_settles_27 (by decide) rfl (fun _ => rfl) (fun x6 => ?_)
        refine v_goto (tgt := 2) C dX8_settles_30 rfl ?_
        refine v_sub [(0, A w c0), (1, I x6)] [1, 0] rfl ?_
        exact ih x6 s5
      intro k27 hk27
      refine v_if_eq (tgt := 27) C dX8_settles_19 rfl ?_ ?_
      · skip
        exact hk27 s
      · skip
        refine v_aload_n C dX8_settles_22 rfl (j := 0) rfl ?_
        refine v_iload_n C dX8_settles_23 rfl (j := 1) rfl ?_
        refine v_callV_wV C [I p1] [] (Cee.of (rm := rX8_settlesHeld) tw_1103 tw_9 hX8_settlesHeld rfl rfl hRm (Nat.le_of_ble_eq_true rfl) (Nat.le_of_ble_eq_true rfl)) (fun x h => kX8_settlesHeld X.2.1 w P n h) tw_1100 tw_1102 ts_41 rfl (ci := 8) rfl (by decide) rfl rfl (Nat.le_of_ble_eq_true rfl) ⟨Nat.zero_le _, Nat.zero_le _⟩ dX8_settles_24 (fun s7 => ?_)
        exact hk27 s7
set_option maxRecDepth 100000 in
theorem vX8_settles_L35 {X : Cxt} {w : Wd} {P : Shp} {n : Nat} (res : St) (hRm : X.2.2.2.1 = rX8_settles) (C : Cok X w cX8_settles 2 RX8 (Option.none : Option FieldType)) (hO : Own X w 0 0 (QV w P n res))  (c0 : Int) (kE110 : St → Option (St)) (hE110 : ∀ (se : St), V X w 2 P n 0 0 res (kE110 se) se 110 [] []) : ∀ (fuel : Nat) (p1 : Int) (s : St), V X w 2 P n 0 0 res (fX8_settles_L35 P c0 kE110 fuel p1 s) s 35 [(0, A w c0), (1, I p1)] [] := by
  intro fuel
  induction fuel with
  | zero => intro p1 s; exact v_none
  | succ m ih =>
    intro p1 s
    rw [fX8_settles_L35]
    refine v_iload_n C dX8_settles_35 rfl (j := 1) rfl ?_
    refine v_aload_n C dX8_settles_36 rfl (j := 0) rfl ?_
    refine v_callV_rI C [] [I p1] (Cee.of (rm := rX8_streams) tw_1092 tw_9 hX8_streams rfl rfl hRm (Nat.le_of_ble_eq_true rfl) (Nat.le_of_ble_eq_true rfl)) (fun x h => kX8_streams X.2.1 w P n h) tw_1089 tw_1091 ts_39 rfl (ci := 8) rfl (by decide) rfl rfl (Nat.le_of_ble_eq_true rfl) ⟨Nat.zero_le _, Nat.zero_le _⟩ dX8_settles_37 (fun x9 => ?_)
    refine v_icmp_ge (tgt := 110) C dX8_settles_40 rfl ?_ ?_
    · skip
      refine v_sub [] [] rfl ?_
      exact hE110 s
    · skip
      refine v_aload_n C dX8_settles_43 rfl (j := 0) rfl ?_
      refine v_getR C 14 rfl (T := TX8) rfl inB8 (by decide) (by decide) rfl tw_1154 dX8_settles_44 (fun x10 => ?_)
      refine v_iload_n C dX8_settles_47 rfl (j := 1) rfl ?_
      refine v_callS_rI C [I p1] [A w x10] (Cee.of (rm := rX8_in) tw_1095 tw_9 hX8_in rfl rfl hRm (Nat.le_of_ble_eq_true rfl) (Nat.le_of_ble_eq_true rfl)) (fun x h => kX8_in X.2.1 w P n h) tw_1093 tw_1094 rfl rfl (Nat.le_of_ble_eq_true rfl) ⟨Nat.zero_le _, Nat.zero_le _⟩ dX8_settles_48 (fun x11 => ?_)
      refine v_iald C dX8_settles_51 (fun x12 => ?_)
      refine v_jnt (fun (k104 : St → Option (St)) => ∀ (s13 : St), V X w 2 P n 0 0 res (k104 s13) s13 104 [(0, A w c0), (1, I p1)] []) ?_ ?_
      · intro s13
        refine v_iinc C (j := 1) [(0, A w c0)] dX8_settles_104 (by decide) rfl (fun _ => rfl) (fun x14 => ?_)
        refine v_goto (tgt := 35) C dX8_settles_107 rfl ?_
        refine v_sub [(0, A w c0), (1, I x14)] [1, 0] rfl ?_
        exact ih x14 s13
      intro k104 hk104
      refine v_if_ne (tgt := 104) C dX8_settles_52 rfl ?_ ?_
      · skip
        exact hk104 s
      · skip
        refine v_aload_n C dX8_settles_55 rfl (j := 0) rfl ?_
        refine v_iload_n C dX8_settles_56 rfl (j := 1) rfl ?_
        refine v_callV_rI C [I p1] [] (Cee.of (rm := rX8_wanted) tw_1107 tw_9 hX8_wanted rfl rfl hRm (Nat.le_of_ble_eq_true rfl) (Nat.le_of_ble_eq_true rfl)) (fun x h => kX8_wanted X.2.1 w P n h) tw_1104 tw_1106 ts_42 rfl (ci := 8) rfl (by decide) rfl rfl (Nat.le_of_ble_eq_true rfl) ⟨Nat.zero_le _, Nat.zero_le _⟩ dX8_settles_57 (fun x15 => ?_)
        refine v_iconst C dX8_settles_60 ?_
        refine v_icmp_eq (tgt := 104) C dX8_settles_61 rfl ?_ ?_
        · skip
          exact hk104 s
        · skip
          refine v_aload_n C dX8_settles_64 rfl (j := 0) rfl ?_
          refine v_iload_n C dX8_settles_65 rfl (j := 1) rfl ?_
          refine v_callV_rI C [I p1] [] (Cee.of (rm := rX8_rateOf) tw_1135 tw_9 hX8_rateOf rfl rfl hRm (Nat.le_of_ble_eq_true rfl) (Nat.le_of_ble_eq_true rfl)) (fun x h => kX8_rateOf X.2.1 w P n h) tw_1132 tw_1134 ts_49 rfl (ci := 8) rfl (by decide) rfl rfl (Nat.le_of_ble_eq_true rfl) ⟨Nat.zero_le _, Nat.zero_le _⟩ dX8_settles_66 (fun x16 => ?_)
          refine v_aload_n C dX8_settles_69 rfl (j := 0) rfl ?_
          refine v_getR C 11 rfl (T := TX8) rfl inB8 (by decide) (by decide) rfl tw_1151 dX8_settles_70 (fun x17 => ?_)
          refine v_iconst C dX8_settles_73 ?_
          refine v_iald C dX8_settles_74 (fun x18 => ?_)
          refine v_aload_n C dX8_settles_75 rfl (j := 0) rfl ?_
          refine v_callV_rI C [] [I x18, I x16] (Cee.of (rm := rX8_reserved) tw_1139 tw_9 hX8_reserved rfl rfl hRm (Nat.le_of_ble_eq_true rfl) (Nat.le_of_ble_eq_true rfl)) (fun x h => kX8_reserved X.2.1 w P n h) tw_1136 tw_1138 ts_50 rfl (ci := 8) rfl (by decide) rfl rfl (Nat.le_of_ble_eq_true rfl) ⟨Nat.zero_le _, Nat.zero_le _⟩ dX8_settles_76 (fun x19 => ?_)
          refine v_isub C dX8_settles_79 ?_
          refine v_icmp_le (tgt := 86) C dX8_settles_80 rfl ?_ ?_
          · skip
            refine v_aload_n C dX8_settles_86 rfl (j := 0) rfl ?_
            refine v_iload_n C dX8_settles_87 rfl (j := 1) rfl ?_
            refine v_iconst C dX8_settles_88 ?_
            refine v_aload_n C dX8_settles_89 rfl (j := 0) rfl ?_
            refine v_iload_n C dX8_settles_90 rfl (j := 1) rfl ?_
            refine v_callV_rI C [I p1] [I 1, I p1, A w c0] (Cee.of (rm := rX8_wanted) tw_1107 tw_9 hX8_wanted rfl rfl hRm (Nat.le_of_ble_eq_true rfl) (Nat.le_of_ble_eq_true rfl)) (fun x h => kX8_wanted X.2.1 w P n h) tw_1104 tw_1106 ts_42 rfl (ci := 8) rfl (by decide) rfl rfl (Nat.le_of_ble_eq_true rfl) ⟨Nat.zero_le _, Nat.zero_le _⟩ dX8_settles_91 (fun x20 => ?_)
            refine v_callV_wV C [I p1, I 1, I x20] [] (Cee.of (rm := rX8_becomes) tw_1127 tw_9 hX8_becomes rfl rfl hRm (Nat.le_of_ble_eq_true rfl) (Nat.le_of_ble_eq_true rfl)) (fun x h => kX8_becomes X.2.1 w P n h) tw_1124 tw_1126 ts_47 rfl (ci := 8) rfl (by decide) rfl rfl (Nat.le_of_ble_eq_true rfl) ⟨Nat.zero_le _, Nat.zero_le _⟩ dX8_settles_94 (fun s21 => ?_)
            refine v_aload_n C dX8_settles_97 rfl (j := 0) rfl ?_
            refine v_bipush C dX8_settles_98 (by decide) ?_
            refine v_iload_n C dX8_settles_100 rfl (j := 1) rfl ?_
            refine v_callV_wV C [I 6, I p1] [] (Cee.of (rm := rX8_happens) tw_1131 tw_9 hX8_happens rfl rfl hRm (Nat.le_of_ble_eq_true rfl) (Nat.le_of_ble_eq_true rfl)) (fun x h => kX8_happens X.2.1 w P n h) tw_1128 tw_1130 ts_48 rfl (ci := 8) rfl (by decide) rfl rfl (Nat.le_of_ble_eq_true rfl) ⟨Nat.zero_le _, Nat.zero_le _⟩ dX8_settles_101 (fun s22 => ?_)
            exact hk104 s22
          · skip
            refine v_goto (tgt := 104) C dX8_settles_83 rfl ?_
            exact hk104 s
theorem hX8_settles : yX8_settles.cls ≠ "java/lang/invoke/MethodHandle" ∧ yX8_settles.cls ≠ "java/lang/invoke/VarHandle" ∧ (parseMethodDescriptor yX8_settles.desc).map (fun d => d.parameters.length) = some 0 := by decide +kernel
set_option maxRecDepth 100000 in
theorem kX8_settles (l : Launch) (w : Wd) (P : Shp) (n : Nat) {s : St} {a0 : Int} {res : St} (h : fX8_settles P s a0 = some res) : Ct l w yX8_settles cX8_settles 2 (Option.none : Option FieldType) rX8_settles P n [A w a0] s (QV w P n res) :=
  Ct.of h (by decide) (Nat.le_of_ble_eq_true rfl) (lv := [(0, A w a0)]) rfl fun X hl hRm C hO => by
  subst hl
  unfold fX8_settles
  refine v_iconst C dX8_settles_0 ?_
  refine v_istore_n C [(1, I 0), (0, A w a0)] dX8_settles_1 rfl (by decide) rfl ?_
  refine v_sub [(0, A w a0), (1, I 0)] [1, 0] rfl ?_
  refine vX8_settles_L2 res hRm C hO a0 _ ?_ 1000 0 s
  · intro s8
    refine v_iconst C dX8_settles_33 ?_
    refine v_istore_n C [(1, I 0), (0, A w a0)] dX8_settles_34 rfl (by decide) rfl ?_
    refine v_sub [(0, A w a0), (1, I 0)] [1, 0] rfl ?_
    refine vX8_settles_L35 res hRm C hO a0 _ ?_ 1000 0 s8
    · intro s23
      exact v_vret C rfl hO (fun h => Option.some.inj h) dX8_settles_110
-- ForesightHubModel.takeDraft
set_option maxRecDepth 100000 in
theorem vX8_takeDraft_L2 {X : Cxt} {w : Wd} {P : Shp} {n : Nat} (res : St) (hRm : X.2.2.2.1 = rX8_takeDraft) (C : Cok X w cX8_takeDraft 2 RX8 (Option.none : Option FieldType)) (hO : Own X w 0 0 (QV w P n res))  (c0 : Int) (kE26 : St → Option (St)) (hE26 : ∀ (se : St), V X w 2 P n 0 0 res (kE26 se) se 26 [(0, A w c0)] []) : ∀ (fuel : Nat) (p1 : Int) (s : St), V X w 2 P n 0 0 res (fX8_takeDraft_L2 P c0 kE26 fuel p1 s) s 2 [(0, A w c0), (1, I p1)] [] := by
  intro fuel
  induction fuel with
  | zero => intro p1 s; exact v_none
  | succ m ih =>
    intro p1 s
    rw [fX8_takeDraft_L2]
    refine v_iload_n C dX8_takeDraft_2 rfl (j := 1) rfl ?_
    refine v_bipush C dX8_takeDraft_3 (by decide) ?_
    refine v_icmp_ge (tgt := 26) C dX8_takeDraft_5 rfl ?_ ?_
    · skip
      refine v_sub [(0, A w c0)] [0] rfl ?_
      exact hE26 s
    · skip
      refine v_aload_n C dX8_takeDraft_8 rfl (j := 0) rfl ?_
      refine v_getR C 11 rfl (T := TX8) rfl inB8 (by decide) (by decide) rfl tw_1151 dX8_takeDraft_9 (fun x1 => ?_)
      refine v_iload_n C dX8_takeDraft_12 rfl (j := 1) rfl ?_
      refine v_aload_n C dX8_takeDraft_13 rfl (j := 0) rfl ?_
      refine v_getR C 10 rfl (T := TX8) rfl inB8 (by decide) (by decide) rfl tw_1150 dX8_takeDraft_14 (fun x2 => ?_)
      refine v_iload_n C dX8_takeDraft_17 rfl (j := 1) rfl ?_
      refine v_iald C dX8_takeDraft_18 (fun x3 => ?_)
      refine v_iast C dX8_takeDraft_19 (fun s4 => ?_)
      refine v_iinc C (j := 1) [(0, A w c0)] dX8_takeDraft_20 (by decide) rfl (fun _ => rfl) (fun x5 => ?_)
      refine v_goto (tgt := 2) C dX8_takeDraft_23 rfl ?_
      refine v_sub [(0, A w c0), (1, I x5)] [1, 0] rfl ?_
      exact ih x5 s4
set_option maxRecDepth 100000 in
theorem vX8_takeDraft_L28 {X : Cxt} {w : Wd} {P : Shp} {n : Nat} (res : St) (hRm : X.2.2.2.1 = rX8_takeDraft) (C : Cok X w cX8_takeDraft 2 RX8 (Option.none : Option FieldType)) (hO : Own X w 0 0 (QV w P n res))  (c0 : Int) (kE48 : St → Option (St)) (hE48 : ∀ (se : St), V X w 2 P n 0 0 res (kE48 se) se 48 [(0, A w c0)] []) : ∀ (fuel : Nat) (p1 : Int) (s : St), V X w 2 P n 0 0 res (fX8_takeDraft_L28 P c0 kE48 fuel p1 s) s 28 [(0, A w c0), (1, I p1)] [] := by
  intro fuel
  induction fuel with
  | zero => intro p1 s; exact v_none
  | succ m ih =>
    intro p1 s
    rw [fX8_takeDraft_L28]
    refine v_iload_n C dX8_takeDraft_28 rfl (j := 1) rfl ?_
    refine v_sipush C dX8_takeDraft_29 (by decide) ?_
    refine v_icmp_ge (tgt := 48) C dX8_takeDraft_32 rfl ?_ ?_
    · skip
      refine v_sub [(0, A w c0)] [0] rfl ?_
      exact hE48 s
    · skip
      refine v_aload_n C dX8_takeDraft_35 rfl (j := 0) rfl ?_
      refine v_getR C 14 rfl (T := TX8) rfl inB8 (by decide) (by decide) rfl tw_1154 dX8_takeDraft_36 (fun x7 => ?_)
      refine v_iload_n C dX8_takeDraft_39 rfl (j := 1) rfl ?_
      refine v_iconst C dX8_takeDraft_40 ?_
      refine v_iast C dX8_takeDraft_41 (fun s8 => ?_)
      refine v_iinc C (j := 1) [(0, A w c0)] dX8_takeDraft_42 (by decide) rfl (fun _ => rfl) (fun x9 => ?_)
      refine v_goto (tgt := 28) C dX8_takeDraft_45 rfl ?_
      refine v_sub [(0, A w c0), (1, I x9)] [1, 0] rfl ?_
      exact ih x9 s8
set_option maxRecDepth 100000 in
theorem vX8_takeDraft_L50 {X : Cxt} {w : Wd} {P : Shp} {n : Nat} (res : St) (hRm : X.2.2.2.1 = rX8_takeDraft) (C : Cok X w cX8_takeDraft 2 RX8 (Option.none : Option FieldType)) (hO : Own X w 0 0 (QV w P n res))  (c0 : Int) (kE69 : St → Option (St)) (hE69 : ∀ (se : St), V X w 2 P n 0 0 res (kE69 se) se 69 [(0, A w c0)] []) : ∀ (fuel : Nat) (p1 : Int) (s : St), V X w 2 P n 0 0 res (fX8_takeDraft_L50 P c0 kE69 fuel p1 s) s 50 [(0, A w c0), (1, I p1)] [] := by
  intro fuel
  induction fuel with
  | zero => intro p1 s; exact v_none
  | succ m ih =>
    intro p1 s
    rw [fX8_takeDraft_L50]
    refine v_iload_n C dX8_takeDraft_50 rfl (j := 1) rfl ?_
    refine v_bipush C dX8_takeDraft_51 (by decide) ?_
    refine v_icmp_ge (tgt := 69) C dX8_takeDraft_53 rfl ?_ ?_
    · skip
      refine v_sub [(0, A w c0)] [0] rfl ?_
      exact hE69 s
    · skip
      refine v_aload_n C dX8_takeDraft_56 rfl (j := 0) rfl ?_
      refine v_getR C 15 rfl (T := TX8) rfl inB8 (by decide) (by decide) rfl tw_1155 dX8_takeDraft_57 (fun x11 => ?_)
      refine v_iload_n C dX8_takeDraft_60 rfl (j := 1) rfl ?_
      refine v_lconst (z := 0) C dX8_takeDraft_61 rfl ?_
      refine v_last C dX8_takeDraft_62 (fun s12 => ?_)
      refine v_iinc C (j := 1) [(0, A w c0)] dX8_takeDraft_63 (by decide) rfl (fun _ => rfl) (fun x13 => ?_)
      refine v_goto (tgt := 50) C dX8_takeDraft_66 rfl ?_
      refine v_sub [(0, A w c0), (1, I x13)] [1, 0] rfl ?_
      exact ih x13 s12
set_option maxRecDepth 100000 in
theorem vX8_takeDraft_L83 {X : Cxt} {w : Wd} {P : Shp} {n : Nat} (res : St) (hRm : X.2.2.2.1 = rX8_takeDraft) (C : Cok X w cX8_takeDraft 2 RX8 (Option.none : Option FieldType)) (hO : Own X w 0 0 (QV w P n res))  (c0 : Int) (kE117 : St → Option (St)) (hE117 : ∀ (se : St), V X w 2 P n 0 0 res (kE117 se) se 117 [(0, A w c0)] []) : ∀ (fuel : Nat) (p1 : Int) (s : St), V X w 2 P n 0 0 res (fX8_takeDraft_L83 P c0 kE117 fuel p1 s) s 83 [(0, A w c0), (1, I p1)] [] := by
  intro fuel
  induction fuel with
  | zero => intro p1 s; exact v_none
  | succ m ih =>
    intro p1 s
    rw [fX8_takeDraft_L83]
    refine v_iload_n C dX8_takeDraft_83 rfl (j := 1) rfl ?_
    refine v_aload_n C dX8_takeDraft_84 rfl (j := 0) rfl ?_
    refine v_callV_rI C [] [I p1] (Cee.of (rm := rX8_devices) tw_1085 tw_9 hX8_devices rfl rfl hRm (Nat.le_of_ble_eq_true rfl) (Nat.le_of_ble_eq_true rfl)) (fun x h => kX8_devices X.2.1 w P n h) tw_1082 tw_1084 ts_38 rfl (ci := 8) rfl (by decide) rfl rfl (Nat.le_of_ble_eq_true rfl) ⟨Nat.zero_le _, Nat.zero_le _⟩ dX8_takeDraft_85 (fun x19 => ?_)
    refine v_icmp_ge (tgt := 117) C dX8_takeDraft_88 rfl ?_ ?_
    · skip
      refine v_sub [(0, A w c0)] [0] rfl ?_
      exact hE117 s
    · skip
      refine v_aload_n C dX8_takeDraft_91 rfl (j := 0) rfl ?_
      refine v_getR C 14 rfl (T := TX8) rfl inB8 (by decide) (by decide) rfl tw_1154 dX8_takeDraft_92 (fun x20 => ?_)
      refine v_iload_n C dX8_takeDraft_95 rfl (j := 1) rfl ?_
      refine v_callS_rI C [I p1] [A w x20] (Cee.of (rm := rX8_at) tw_1088 tw_9 hX8_at rfl rfl hRm (Nat.le_of_ble_eq_true rfl) (Nat.le_of_ble_eq_true rfl)) (fun x h => kX8_at X.2.1 w P n h) tw_1086 tw_1087 rfl rfl (Nat.le_of_ble_eq_true rfl) ⟨Nat.zero_le _, Nat.zero_le _⟩ dX8_takeDraft_96 (fun x21 => ?_)
      refine v_iconst C dX8_takeDraft_99 ?_
      refine v_iadd C dX8_takeDraft_100 ?_
      refine v_aload_n C dX8_takeDraft_101 rfl (j := 0) rfl ?_
      refine v_getR C 11 rfl (T := TX8) rfl inB8 (by decide) (by decide) rfl tw_1151 dX8_takeDraft_102 (fun x22 => ?_)
      refine v_bipush C dX8_takeDraft_105 (by decide) ?_
      refine v_iload_n C dX8_takeDraft_107 rfl (j := 1) rfl ?_
      refine v_iadd C dX8_takeDraft_108 ?_
      refine v_iald C dX8_takeDraft_109 (fun x23 => ?_)
      refine v_iast C dX8_takeDraft_110 (fun s24 => ?_)
      refine v_iinc C (j := 1) [(0, A w c0)] dX8_takeDraft_111 (by decide) rfl (fun _ => rfl) (fun x25 => ?_)
      refine v_goto (tgt := 83) C dX8_takeDraft_114 rfl ?_
      refine v_sub [(0, A w c0), (1, I x25)] [1, 0] rfl ?_
      exact ih x25 s24
set_option maxRecDepth 100000 in
theorem vX8_takeDraft_L119 {X : Cxt} {w : Wd} {P : Shp} {n : Nat} (res : St) (hRm : X.2.2.2.1 = rX8_takeDraft) (C : Cok X w cX8_takeDraft 2 RX8 (Option.none : Option FieldType)) (hO : Own X w 0 0 (QV w P n res))  (c0 : Int) (kE145 : St → Option (St)) (hE145 : ∀ (se : St), V X w 2 P n 0 0 res (kE145 se) se 145 [(0, A w c0)] []) : ∀ (fuel : Nat) (p1 : Int) (s : St), V X w 2 P n 0 0 res (fX8_takeDraft_L119 P c0 kE145 fuel p1 s) s 119 [(0, A w c0), (1, I p1)] [] := by
  intro fuel
  induction fuel with
  | zero => intro p1 s; exact v_none
  | succ m ih =>
    intro p1 s
    rw [fX8_takeDraft_L119]
    refine v_iload_n C dX8_takeDraft_119 rfl (j := 1) rfl ?_
    refine v_aload_n C dX8_takeDraft_120 rfl (j := 0) rfl ?_
    refine v_callV_rI C [] [I p1] (Cee.of (rm := rX8_streams) tw_1092 tw_9 hX8_streams rfl rfl hRm (Nat.le_of_ble_eq_true rfl) (Nat.le_of_ble_eq_true rfl)) (fun x h => kX8_streams X.2.1 w P n h) tw_1089 tw_1091 ts_39 rfl (ci := 8) rfl (by decide) rfl rfl (Nat.le_of_ble_eq_true rfl) ⟨Nat.zero_le _, Nat.zero_le _⟩ dX8_takeDraft_121 (fun x27 => ?_)
    refine v_icmp_ge (tgt := 145) C dX8_takeDraft_124 rfl ?_ ?_
    · skip
      refine v_sub [(0, A w c0)] [0] rfl ?_
      exact hE145 s
    · skip
      refine v_aload_n C dX8_takeDraft_127 rfl (j := 0) rfl ?_
      refine v_getR C 14 rfl (T := TX8) rfl inB8 (by decide) (by decide) rfl tw_1154 dX8_takeDraft_128 (fun x28 => ?_)
      refine v_iload_n C dX8_takeDraft_131 rfl (j := 1) rfl ?_
      refine v_callS_rI C [I p1] [A w x28] (Cee.of (rm := rX8_in) tw_1095 tw_9 hX8_in rfl rfl hRm (Nat.le_of_ble_eq_true rfl) (Nat.le_of_ble_eq_true rfl)) (fun x h => kX8_in X.2.1 w P n h) tw_1093 tw_1094 rfl rfl (Nat.le_of_ble_eq_true rfl) ⟨Nat.zero_le _, Nat.zero_le _⟩ dX8_takeDraft_132 (fun x29 => ?_)
      refine v_iconst C dX8_takeDraft_135 ?_
      refine v_iadd C dX8_takeDraft_136 ?_
      refine v_iconst C dX8_takeDraft_137 ?_
      refine v_iast C dX8_takeDraft_138 (fun s30 => ?_)
      refine v_iinc C (j := 1) [(0, A w c0)] dX8_takeDraft_139 (by decide) rfl (fun _ => rfl) (fun x31 => ?_)
      refine v_goto (tgt := 119) C dX8_takeDraft_142 rfl ?_
      refine v_sub [(0, A w c0), (1, I x31)] [1, 0] rfl ?_
      exact ih x31 s30
theorem hX8_takeDraft : yX8_takeDraft.cls ≠ "java/lang/invoke/MethodHandle" ∧ yX8_takeDraft.cls ≠ "java/lang/invoke/VarHandle" ∧ (parseMethodDescriptor yX8_takeDraft.desc).map (fun d => d.parameters.length) = some 0 := by decide +kernel
set_option maxRecDepth 100000 in
theorem kX8_takeDraft (l : Launch) (w : Wd) (P : Shp) (n : Nat) {s : St} {a0 : Int} {res : St} (h : fX8_takeDraft P s a0 = some res) : Ct l w yX8_takeDraft cX8_takeDraft 2 (Option.none : Option FieldType) rX8_takeDraft P n [A w a0] s (QV w P n res) :=
  Ct.of h (by decide) (Nat.le_of_ble_eq_true rfl) (lv := [(0, A w a0)]) rfl fun X hl hRm C hO => by
  subst hl
  unfold fX8_takeDraft
  refine v_iconst C dX8_takeDraft_0 ?_
  refine v_istore_n C [(1, I 0), (0, A w a0)] dX8_takeDraft_1 rfl (by decide) rfl ?_
  refine v_sub [(0, A w a0), (1, I 0)] [1, 0] rfl ?_
  refine vX8_takeDraft_L2 res hRm C hO a0 _ ?_ 1000 0 s
  · intro s6
    refine v_iconst C dX8_takeDraft_26 ?_
    refine v_istore_n C [(1, I 0), (0, A w a0)] dX8_takeDraft_27 rfl (by decide) rfl ?_
    refine v_sub [(0, A w a0), (1, I 0)] [1, 0] rfl ?_
    refine vX8_takeDraft_L28 res hRm C hO a0 _ ?_ 1000 0 s6
    · intro s10
      refine v_iconst C dX8_takeDraft_48 ?_
      refine v_istore_n C [(1, I 0), (0, A w a0)] dX8_takeDraft_49 rfl (by decide) rfl ?_
      refine v_sub [(0, A w a0), (1, I 0)] [1, 0] rfl ?_
      refine vX8_takeDraft_L50 res hRm C hO a0 _ ?_ 1000 0 s10
      · intro s14
        refine v_aload_n C dX8_takeDraft_69 rfl (j := 0) rfl ?_
        refine v_getR C 14 rfl (T := TX8) rfl inB8 (by decide) (by decide) rfl tw_1154 dX8_takeDraft_70 (fun x15 => ?_)
        refine v_iconst C dX8_takeDraft_73 ?_
        refine v_aload_n C dX8_takeDraft_74 rfl (j := 0) rfl ?_
        refine v_getR C 11 rfl (T := TX8) rfl inB8 (by decide) (by decide) rfl tw_1151 dX8_takeDraft_75 (fun x16 => ?_)
        refine v_iconst C dX8_takeDraft_78 ?_
        refine v_iald C dX8_takeDraft_79 (fun x17 => ?_)
        refine v_iast C dX8_takeDraft_80 (fun s18 => ?_)
        refine v_iconst C dX8_takeDraft_81 ?_
        refine v_istore_n C [(1, I 0), (0, A w a0)] dX8_takeDraft_82 rfl (by decide) rfl ?_
        refine v_sub [(0, A w a0), (1, I 0)] [1, 0] rfl ?_
        refine vX8_takeDraft_L83 res hRm C hO a0 _ ?_ 1000 0 s18
        · intro s26
          refine v_iconst C dX8_takeDraft_117 ?_
          refine v_istore_n C [(1, I 0), (0, A w a0)] dX8_takeDraft_118 rfl (by decide) rfl ?_
          refine v_sub [(0, A w a0), (1, I 0)] [1, 0] rfl ?_
          refine vX8_takeDraft_L119 res hRm C hO a0 _ ?_ 1000 0 s26
          · intro s32
            refine v_aload_n C dX8_takeDraft_145 rfl (j := 0) rfl ?_
            refine v_iconst C dX8_takeDraft_146 ?_
            refine v_putI C 18 rfl (T := TX8) rfl inB8 (by decide) tyX8_ok nmX8 (by decide) rfl rfl tw_1158 dX8_takeDraft_147 rfl (fun s33 => ?_)
            refine v_aload_n C dX8_takeDraft_150 rfl (j := 0) rfl ?_
            refine v_getR C 21 rfl (T := TX8) rfl inB8 (by decide) (by decide) rfl tw_1161 dX8_takeDraft_151 (fun x34 => ?_)
            refine v_iconst C dX8_takeDraft_154 ?_
            refine v_iconst C dX8_takeDraft_155 ?_
            refine v_zast C dX8_takeDraft_156 (fun s35 => ?_)
            refine v_aload_n C dX8_takeDraft_157 rfl (j := 0) rfl ?_
            refine v_getR C 21 rfl (T := TX8) rfl inB8 (by decide) (by decide) rfl tw_1161 dX8_takeDraft_158 (fun x36 => ?_)
            refine v_iconst C dX8_takeDraft_161 ?_
            refine v_iconst C dX8_takeDraft_162 ?_
            refine v_zast C dX8_takeDraft_163 (fun s37 => ?_)
            refine v_aload_n C dX8_takeDraft_164 rfl (j := 0) rfl ?_
            refine v_callV_wV C [] [] (Cee.of (rm := rX8_settles) tw_1099 tw_9 hX8_settles rfl rfl hRm (Nat.le_of_ble_eq_true rfl) (Nat.le_of_ble_eq_true rfl)) (fun x h => kX8_settles X.2.1 w P n h) tw_1096 tw_1098 ts_40 rfl (ci := 8) rfl (by decide) rfl rfl (Nat.le_of_ble_eq_true rfl) ⟨Nat.zero_le _, Nat.zero_le _⟩ dX8_takeDraft_165 (fun s38 => ?_)
            exact v_vret C rfl hO (fun h => Option.some.inj h) dX8_takeDraft_168
-- ForesightHubModel.parse
set_option maxRecDepth 100000 in
theorem vX8_parse_L119 {X : Cxt} {w : Wd} {P : Shp} {n : Nat} (res : Int × St) (hRm : X.2.2.2.1 = rX8_parse) (C : Cok X w cX8_parse 2 RX8 (some FieldType.int)) (hO : Own X w 0 0 (QI w P n res.1 res.2))  (c0 : Int) (kE140 : St → Option (Int × St)) (hE140 : ∀ (se : St), V X w 2 P n 0 0 res (kE140 se) se 140 [(0, A w c0)] []) : ∀ (fuel : Nat) (s : St), V X w 2 P n 0 0 res (fX8_parse_L119 P c0 kE140 fuel s) s 119 [(0, A w c0)] [] := by
  intro fuel
  induction fuel with
  | zero => intro s; exact v_none
  | succ m ih =>
    intro s
    rw [fX8_parse_L119]
    refine v_aload_n C dX8_parse_119 rfl (j := 0) rfl ?_
    refine v_getI C 8 rfl (T := TX8) rfl inB8 (by decide) (by decide) rfl tw_1148 dX8_parse_120 (fun x31 => ?_)
    refine v_if_ne (tgt := 140) C dX8_parse_123 rfl ?_ ?_
    · skip
      exact hE140 s
    · skip
      refine v_aload_n C dX8_parse_126 rfl (j := 0) rfl ?_
      refine v_getI C 6 rfl (T := TX8) rfl inB8 (by decide) (by decide) rfl tw_1146 dX8_parse_127 (fun x32 => ?_)
      refine v_if_eq (tgt := 140) C dX8_parse_130 rfl ?_ ?_
      · skip
        exact hE140 s
      · skip
        refine v_aload_n C dX8_parse_133 rfl (j := 0) rfl ?_
        refine v_callV_wV C [] [] (Cee.of (rm := rX8_statement) tw_1263 tw_9 hX8_statement rfl rfl hRm (Nat.le_of_ble_eq_true rfl) (Nat.le_of_ble_eq_true rfl)) (fun x h => kX8_statement X.2.1 w P n h) tw_1260 tw_1262 ts_59 rfl (ci := 8) rfl (by decide) rfl rfl (Nat.le_of_ble_eq_true rfl) ⟨Nat.zero_le _, Nat.zero_le _⟩ dX8_parse_134 (fun s33 => ?_)
        refine v_goto (tgt := 119) C dX8_parse_137 rfl ?_
        exact ih s33
theorem hX8_parse : yX8_parse.cls ≠ "java/lang/invoke/MethodHandle" ∧ yX8_parse.cls ≠ "java/lang/invoke/VarHandle" ∧ (parseMethodDescriptor yX8_parse.desc).map (fun d => d.parameters.length) = some 1 := by decide +kernel
set_option maxRecDepth 100000 in
theorem kX8_parse (l : Launch) (w : Wd) (P : Shp) (n : Nat) {s : St} {a0 : Int} {a1 : Int} {res : Int × St} (h : fX8_parse P s a0 a1 = some res) : Ct l w yX8_parse cX8_parse 2 (some FieldType.int) rX8_parse P n [A w a0, I a1] s (QI w P n res.1 res.2) :=
  Ct.of h (by decide) (Nat.le_of_ble_eq_true rfl) (lv := [(0, A w a0), (1, I a1)]) rfl fun X hl hRm C hO => by
  subst hl
  unfold fX8_parse
  refine v_aload_n C dX8_parse_0 rfl (j := 0) rfl ?_
  refine v_iconst C dX8_parse_1 ?_
  refine v_putI C 0 rfl (T := TX8) rfl inB8 (by decide) tyX8_ok nmX8 (by decide) rfl rfl tw_1140 dX8_parse_2 rfl (fun s1 => ?_)
  refine v_iload_n C dX8_parse_5 rfl (j := 1) rfl ?_
  refine v_iconst C dX8_parse_6 ?_
  refine v_aload_n C dX8_parse_7 rfl (j := 0) rfl ?_
  refine v_getI C 2 rfl (T := TX8) rfl inB8 (by decide) (by decide) rfl tw_1142 dX8_parse_8 (fun x2 => ?_)
  refine v_callS_rI C [I a1, I 0, I x2] [] (Cee.of (rm := rX8_within) tw_1228 tw_9 hX8_within rfl rfl hRm (Nat.le_of_ble_eq_true rfl) (Nat.le_of_ble_eq_true rfl)) (fun x h => kX8_within X.2.1 w P n h) tw_1226 tw_1227 rfl rfl (Nat.le_of_ble_eq_true rfl) ⟨Nat.zero_le _, Nat.zero_le _⟩ dX8_parse_11 (fun x3 => ?_)
  refine v_if_ne (tgt := 23) C dX8_parse_14 rfl ?_ ?_
  · skip
    refine v_aload_n C dX8_parse_23 rfl (j := 0) rfl ?_
    refine v_iload_n C dX8_parse_24 rfl (j := 1) rfl ?_
    refine v_putI C 3 rfl (T := TX8) rfl inB8 (by decide) tyX8_ok nmX8 (by decide) rfl rfl tw_1143 dX8_parse_25 rfl (fun s4 => ?_)
    refine v_aload_n C dX8_parse_28 rfl (j := 0) rfl ?_
    refine v_iconst C dX8_parse_29 ?_
    refine v_putI C 2 rfl (T := TX8) rfl inB8 (by decide) tyX8_ok nmX8 (by decide) rfl rfl tw_1142 dX8_parse_30 rfl (fun s5 => ?_)
    refine v_aload_n C dX8_parse_33 rfl (j := 0) rfl ?_
    refine v_iconst C dX8_parse_34 ?_
    refine v_putI C 5 rfl (T := TX8) rfl inB8 (by decide) tyX8_ok nmX8 (by decide) rfl rfl tw_1145 dX8_parse_35 rfl (fun s6 => ?_)
    refine v_aload_n C dX8_parse_38 rfl (j := 0) rfl ?_
    refine v_iconst C dX8_parse_39 ?_
    refine v_putI C 8 rfl (T := TX8) rfl inB8 (by decide) tyX8_ok nmX8 (by decide) rfl rfl tw_1148 dX8_parse_40 rfl (fun s7 => ?_)
    refine v_aload_n C dX8_parse_43 rfl (j := 0) rfl ?_
    refine v_callV_wV C [] [] (Cee.of (rm := rX8_setDefaults) tw_1077 tw_9 hX8_setDefaults rfl rfl hRm (Nat.le_of_ble_eq_true rfl) (Nat.le_of_ble_eq_true rfl)) (fun x h => kX8_setDefaults X.2.1 w P n h) tw_1074 tw_1076 ts_36 rfl (ci := 8) rfl (by decide) rfl rfl (Nat.le_of_ble_eq_true rfl) ⟨Nat.zero_le _, Nat.zero_le _⟩ dX8_parse_44 (fun s8 => ?_)
    refine v_aload_n C dX8_parse_47 rfl (j := 0) rfl ?_
    refine v_callV_wV C [] [] (Cee.of (rm := rX8_nextToken) tw_1236 tw_9 hX8_nextToken rfl rfl hRm (Nat.le_of_ble_eq_true rfl) (Nat.le_of_ble_eq_true rfl)) (fun x h => kX8_nextToken X.2.1 w P n h) tw_1233 tw_1235 ts_53 rfl (ci := 8) rfl (by decide) rfl rfl (Nat.le_of_ble_eq_true rfl) ⟨Nat.zero_le _, Nat.zero_le _⟩ dX8_parse_48 (fun s9 => ?_)
    refine v_aload_n C dX8_parse_51 rfl (j := 0) rfl ?_
    refine v_aload_n C dX8_parse_52 rfl (j := 0) rfl ?_
    refine v_ldcS (own := RX8) (idx := 179) (tx := "hub") (i := 0) (z := (-2)) C (by decide) dX8_parse_53 (by decide) ?_
    refine v_callV_rI C [A w ((-2))] [A w a0] (Cee.of (rm := rX8_isWord) tw_1245 tw_9 hX8_isWord rfl rfl hRm (Nat.le_of_ble_eq_true rfl) (Nat.le_of_ble_eq_true rfl)) (fun x h => kX8_isWord X.2.1 w P n h) tw_1242 tw_1244 ts_55 rfl (ci := 8) rfl (by decide) rfl rfl (Nat.le_of_ble_eq_true rfl) ⟨Nat.zero_le _, Nat.zero_le _⟩ dX8_parse_55 (fun x10 => ?_)
    refine v_iconst C dX8_parse_58 ?_
    refine v_callV_wI C [I x10, I 1] [] (Cee.of (rm := rX8_must) tw_1251 tw_9 hX8_must rfl rfl hRm (Nat.le_of_ble_eq_true rfl) (Nat.le_of_ble_eq_true rfl)) (fun x h => kX8_must X.2.1 w P n h) tw_1248 tw_1250 ts_56 rfl (ci := 8) rfl (by decide) rfl rfl (Nat.le_of_ble_eq_true rfl) ⟨Nat.zero_le _, Nat.zero_le _⟩ dX8_parse_59 (fun q11 => ?_)
    obtain ⟨x12, s13⟩ := q11
    refine v_pop C dX8_parse_62 rfl ?_
    refine v_aload_n C dX8_parse_63 rfl (j := 0) rfl ?_
    refine v_callV_wV C [] [] (Cee.of (rm := rX8_goOn) tw_1255 tw_9 hX8_goOn rfl rfl hRm (Nat.le_of_ble_eq_true rfl) (Nat.le_of_ble_eq_true rfl)) (fun x h => kX8_goOn X.2.1 w P n h) tw_1252 tw_1254 ts_57 rfl (ci := 8) rfl (by decide) rfl rfl (Nat.le_of_ble_eq_true rfl) ⟨Nat.zero_le _, Nat.zero_le _⟩ dX8_parse_64 (fun s14 => ?_)
    refine v_aload_n C dX8_parse_67 rfl (j := 0) rfl ?_
    refine v_getR C 10 rfl (T := TX8) rfl inB8 (by decide) (by decide) rfl tw_1150 dX8_parse_68 (fun x15 => ?_)
    refine v_iconst C dX8_parse_71 ?_
    refine v_aload_n C dX8_parse_72 rfl (j := 0) rfl ?_
    refine v_iconst C dX8_parse_73 ?_
    refine v_sipush C dX8_parse_74 (by decide) ?_
    refine v_callV_wI C [I 1, I 999] [I 3, A w x15] (Cee.of (rm := rX8_read) tw_1259 tw_9 hX8_read rfl rfl hRm (Nat.le_of_ble_eq_true rfl) (Nat.le_of_ble_eq_true rfl)) (fun x h => kX8_read X.2.1 w P n h) tw_1256 tw_1258 ts_58 rfl (ci := 8) rfl (by decide) rfl rfl (Nat.le_of_ble_eq_true rfl) ⟨Nat.zero_le _, Nat.zero_le _⟩ dX8_parse_77 (fun q16 => ?_)
    obtain ⟨x17, s18⟩ := q16
    refine v_iast C dX8_parse_80 (fun s19 => ?_)
    refine v_aload_n C dX8_parse_81 rfl (j := 0) rfl ?_
    refine v_getR C 10 rfl (T := TX8) rfl inB8 (by decide) (by decide) rfl tw_1150 dX8_parse_82 (fun x20 => ?_)
    refine v_iconst C dX8_parse_85 ?_
    refine v_aload_n C dX8_parse_86 rfl (j := 0) rfl ?_
    refine v_iconst C dX8_parse_87 ?_
    refine v_bipush C dX8_parse_88 (by decide) ?_
    refine v_callV_wI C [I 1, I 8] [I 4, A w x20] (Cee.of (rm := rX8_read) tw_1259 tw_9 hX8_read rfl rfl hRm (Nat.le_of_ble_eq_true rfl) (Nat.le_of_ble_eq_true rfl)) (fun x h => kX8_read X.2.1 w P n h) tw_1256 tw_1258 ts_58 rfl (ci := 8) rfl (by decide) rfl rfl (Nat.le_of_ble_eq_true rfl) ⟨Nat.zero_le _, Nat.zero_le _⟩ dX8_parse_90 (fun q21 => ?_)
    obtain ⟨x22, s23⟩ := q21
    refine v_iast C dX8_parse_93 (fun s24 => ?_)
    refine v_aload_n C dX8_parse_94 rfl (j := 0) rfl ?_
    refine v_aload_n C dX8_parse_95 rfl (j := 0) rfl ?_
    refine v_getI C 6 rfl (T := TX8) rfl inB8 (by decide) (by decide) rfl tw_1146 dX8_parse_96 (fun x25 => ?_)
    refine v_iconst C dX8_parse_99 ?_
    refine v_jnt (fun (k108 : Int → Option (Int × St)) => ∀ (x26 : Int), V X w 2 P n 0 0 res (k108 x26) s24 108 [(0, A w a0)] [I x26, A w a0]) ?_ ?_
    · intro x26
      refine v_iconst C dX8_parse_108 ?_
      refine v_callV_wI C [I x26, I 1] [] (Cee.of (rm := rX8_must) tw_1251 tw_9 hX8_must rfl rfl hRm (Nat.le_of_ble_eq_true rfl) (Nat.le_of_ble_eq_true rfl)) (fun x h => kX8_must X.2.1 w P n h) tw_1248 tw_1250 ts_56 rfl (ci := 8) rfl (by decide) rfl rfl (Nat.le_of_ble_eq_true rfl) ⟨Nat.zero_le _, Nat.zero_le _⟩ dX8_parse_109 (fun q27 => ?_)
      obtain ⟨x28, s29⟩ := q27
      refine v_jnt (fun (k119 : St → Option (Int × St)) => ∀ (s30 : St), V X w 2 P n 0 0 res (k119 s30) s30 119 [(0, A w a0)] []) ?_ ?_
      · intro s30
        refine vX8_parse_L119 res hRm C hO a0 _ ?_ 1000 s30
        · intro s34
          refine v_aload_n C dX8_parse_140 rfl (j := 0) rfl ?_
          refine v_getI C 8 rfl (T := TX8) rfl inB8 (by decide) (by decide) rfl tw_1148 dX8_parse_141 (fun x35 => ?_)
          refine v_if_eq (tgt := 163) C dX8_parse_144 rfl ?_ ?_
          · skip
            refine v_aload_n C dX8_parse_163 rfl (j := 0) rfl ?_
            refine v_callV_wV C [] [] (Cee.of (rm := rX8_takeDraft) tw_1081 tw_9 hX8_takeDraft rfl rfl hRm (Nat.le_of_ble_eq_true rfl) (Nat.le_of_ble_eq_true rfl)) (fun x h => kX8_takeDraft X.2.1 w P n h) tw_1078 tw_1080 ts_37 rfl (ci := 8) rfl (by decide) rfl rfl (Nat.le_of_ble_eq_true rfl) ⟨Nat.zero_le _, Nat.zero_le _⟩ dX8_parse_164 (fun s36 => ?_)
            refine v_aload_n C dX8_parse_167 rfl (j := 0) rfl ?_
            refine v_callV_rI C [] [] (Cee.of (rm := rX8_streams) tw_1092 tw_9 hX8_streams rfl rfl hRm (Nat.le_of_ble_eq_true rfl) (Nat.le_of_ble_eq_true rfl)) (fun x h => kX8_streams X.2.1 w P n h) tw_1089 tw_1091 ts_39 rfl (ci := 8) rfl (by decide) rfl rfl (Nat.le_of_ble_eq_true rfl) ⟨Nat.zero_le _, Nat.zero_le _⟩ dX8_parse_168 (fun x37 => ?_)
            exact v_iret C rfl hO pI dX8_parse_171
          · skip
            refine v_bipush C dX8_parse_147 (by decide) ?_
            refine v_bipush C dX8_parse_149 (by decide) ?_
            refine v_aload_n C dX8_parse_151 rfl (j := 0) rfl ?_
            refine v_getI C 9 rfl (T := TX8) rfl inB8 (by decide) (by decide) rfl tw_1149 dX8_parse_152 (fun x38 => ?_)
            refine v_imul C dX8_parse_155 ?_
            refine v_aload_n C dX8_parse_156 rfl (j := 0) rfl ?_
            refine v_getI C 8 rfl (T := TX8) rfl inB8 (by decide) (by decide) rfl tw_1148 dX8_parse_157 (fun x39 => ?_)
            refine v_iadd C dX8_parse_160 ?_
            refine v_isub C dX8_parse_161 ?_
            exact v_iret C rfl hO pI dX8_parse_162
      intro k119 hk119
      refine v_if_eq (tgt := 119) C dX8_parse_112 rfl ?_ ?_
      · skip
        exact hk119 s29
      · skip
        refine v_aload_n C dX8_parse_115 rfl (j := 0) rfl ?_
        refine v_callV_wV C [] [] (Cee.of (rm := rX8_nextToken) tw_1236 tw_9 hX8_nextToken rfl rfl hRm (Nat.le_of_ble_eq_true rfl) (Nat.le_of_ble_eq_true rfl)) (fun x h => kX8_nextToken X.2.1 w P n h) tw_1233 tw_1235 ts_53 rfl (ci := 8) rfl (by decide) rfl rfl (Nat.le_of_ble_eq_true rfl) ⟨Nat.zero_le _, Nat.zero_le _⟩ dX8_parse_116 (fun s40 => ?_)
        exact hk119 s40
    intro k108 hk108
    refine v_icmp_ne (tgt := 107) C dX8_parse_100 rfl ?_ ?_
    · skip
      refine v_iconst C dX8_parse_107 ?_
      refine v_sub [(0, A w a0)] [0] rfl ?_
      exact hk108 0
    · skip
      refine v_iconst C dX8_parse_103 ?_
      refine v_goto (tgt := 108) C dX8_parse_104 rfl ?_
      refine v_sub [(0, A w a0)] [0] rfl ?_
      exact hk108 1
  · skip
    refine v_aload_n C dX8_parse_17 rfl (j := 0) rfl ?_
    refine v_iconst C dX8_parse_18 ?_
    refine v_callV_wI C [I 1] [] (Cee.of (rm := rX8_fail0) tw_1232 tw_9 hX8_fail0 rfl rfl hRm (Nat.le_of_ble_eq_true rfl) (Nat.le_of_ble_eq_true rfl)) (fun x h => kX8_fail0 X.2.1 w P n h) tw_1229 tw_1231 ts_52 rfl (ci := 8) rfl (by decide) rfl rfl (Nat.le_of_ble_eq_true rfl) ⟨Nat.zero_le _, Nat.zero_le _⟩ dX8_parse_19 (fun q41 => ?_)
    obtain ⟨x42, s43⟩ := q41
    exact v_iret C rfl hO pI dX8_parse_22
-- ForesightHubModel.copy
set_option maxRecDepth 100000 in
theorem vX8_copy_L3 {X : Cxt} {w : Wd} {P : Shp} {n : Nat} (res : St) (hRm : X.2.2.2.1 = rX8_copy) (C : Cok X w cX8_copy 7 RX8 (Option.none : Option FieldType)) (hO : Own X w 0 0 (QV w P n res))  (c0 : Int) (c1 : Int) (c2 : Int) (c3 : Int) (c4 : Int) (c5 : Int) (kE38 : St → Option (St)) (hE38 : ∀ (se : St), V X w 7 P n 0 0 res (kE38 se) se 38 [(1, A w c1), (2, I c2), (4, A w c4), (5, I c5)] []) : ∀ (fuel : Nat) (p6 : Int) (s : St), V X w 7 P n 0 0 res (fX8_copy_L3 P c0 c1 c2 c3 c4 c5 kE38 fuel p6 s) s 3 [(0, A w c0), (1, A w c1), (2, I c2), (3, A w c3), (4, A w c4), (5, I c5), (6, I p6)] [] := by
  intro fuel
  induction fuel with
  | zero => intro p6 s; exact v_none
  | succ m ih =>
    intro p6 s
    rw [fX8_copy_L3]
    refine v_iload C dX8_copy_3 (j := 6) rfl ?_
    refine v_sipush C dX8_copy_5 (by decide) ?_
    refine v_icmp_ge (tgt := 38) C dX8_copy_8 rfl ?_ ?_
    · skip
      refine v_sub [(1, A w c1), (2, I c2), (4, A w c4), (5, I c5)] [1, 2, 4, 5] rfl ?_
      exact hE38 s
    · skip
      refine v_aload_n C dX8_copy_11 rfl (j := 3) rfl ?_
      refine v_sipush C dX8_copy_12 (by decide) ?_
      refine v_iload C dX8_copy_15 (j := 5) rfl ?_
      refine v_imul C dX8_copy_17 ?_
      refine v_iload C dX8_copy_18 (j := 6) rfl ?_
      refine v_iadd C dX8_copy_20 ?_
      refine v_aload_n C dX8_copy_21 rfl (j := 0) rfl ?_
      refine v_sipush C dX8_copy_22 (by decide) ?_
      refine v_iload_n C dX8_copy_25 rfl (j := 2) rfl ?_
      refine v_imul C dX8_copy_26 ?_
      refine v_iload C dX8_copy_27 (j := 6) rfl ?_
      refine v_iadd C dX8_copy_29 ?_
      refine v_iald C dX8_copy_30 (fun x1 => ?_)
      refine v_iast C dX8_copy_31 (fun s2 => ?_)
      refine v_iinc C (j := 6) [(0, A w c0), (1, A w c1), (2, I c2), (3, A w c3), (4, A w c4), (5, I c5)] dX8_copy_32 (by decide) rfl (fun _ => rfl) (fun x3 => ?_)
      refine v_goto (tgt := 3) C dX8_copy_35 rfl ?_
      refine v_sub [(0, A w c0), (1, A w c1), (2, I c2), (3, A w c3), (4, A w c4), (5, I c5), (6, I x3)] [1, 2, 3, 4, 5, 6, 0] rfl ?_
      exact ih x3 s2
set_option maxRecDepth 100000 in
theorem vX8_copy_L41 {X : Cxt} {w : Wd} {P : Shp} {n : Nat} (res : St) (hRm : X.2.2.2.1 = rX8_copy) (C : Cok X w cX8_copy 7 RX8 (Option.none : Option FieldType)) (hO : Own X w 0 0 (QV w P n res))  (c1 : Int) (c2 : Int) (c4 : Int) (c5 : Int) (kE74 : St → Option (St)) (hE74 : ∀ (se : St), V X w 7 P n 0 0 res (kE74 se) se 74 [] []) : ∀ (fuel : Nat) (p6 : Int) (s : St), V X w 7 P n 0 0 res (fX8_copy_L41 P c1 c2 c4 c5 kE74 fuel p6 s) s 41 [(1, A w c1), (2, I c2), (4, A w c4), (5, I c5), (6, I p6)] [] := by
  intro fuel
  induction fuel with
  | zero => intro p6 s; exact v_none
  | succ m ih =>
    intro p6 s
    rw [fX8_copy_L41]
    refine v_iload C dX8_copy_41 (j := 4) rfl ?_
    refine v_bipush C dX8_copy_43 (by decide) ?_
    refine v_icmp_ge (tgt := 74) C dX8_copy_45 rfl ?_ ?_
    · skip
      refine v_sub [] [] rfl ?_
      exact hE74 s
    · skip
      refine v_aload C dX8_copy_48 (j := 2) rfl ?_
      refine v_bipush C dX8_copy_50 (by decide) ?_
      refine v_iload C dX8_copy_52 (j := 3) rfl ?_
      refine v_imul C dX8_copy_54 ?_
      refine v_iload C dX8_copy_55 (j := 4) rfl ?_
      refine v_iadd C dX8_copy_57 ?_
      refine v_aload_n C dX8_copy_58 rfl (j := 0) rfl ?_
      refine v_bipush C dX8_copy_59 (by decide) ?_
      refine v_iload_n C dX8_copy_61 rfl (j := 1) rfl ?_
      refine v_imul C dX8_copy_62 ?_
      refine v_iload C dX8_copy_63 (j := 4) rfl ?_
      refine v_iadd C dX8_copy_65 ?_
      refine v_lald C dX8_copy_66 (fun x5 => ?_)
      refine v_last C dX8_copy_67 (fun s6 => ?_)
      refine v_iinc C (j := 4) [(1, A w c1), (2, I c2), (4, A w c4), (5, I c5)] dX8_copy_68 (by decide) rfl (fun _ => rfl) (fun x7 => ?_)
      refine v_goto (tgt := 41) C dX8_copy_71 rfl ?_
      refine v_sub [(1, A w c1), (2, I c2), (4, A w c4), (5, I c5), (6, I x7)] [1, 2, 3, 4, 0] rfl ?_
      exact ih x7 s6
theorem hX8_copy : yX8_copy.cls ≠ "java/lang/invoke/MethodHandle" ∧ yX8_copy.cls ≠ "java/lang/invoke/VarHandle" ∧ (parseMethodDescriptor yX8_copy.desc).map (fun d => d.parameters.length) = some 6 := by decide +kernel
set_option maxRecDepth 100000 in
theorem kX8_copy (l : Launch) (w : Wd) (P : Shp) (n : Nat) {s : St} {a0 : Int} {a1 : Int} {a2 : Int} {a3 : Int} {a4 : Int} {a5 : Int} {res : St} (h : fX8_copy P s a0 a1 a2 a3 a4 a5 = some res) : Ct l w yX8_copy cX8_copy 7 (Option.none : Option FieldType) rX8_copy P n [A w a0, A w a1, I a2, A w a3, A w a4, I a5] s (QV w P n res) :=
  Ct.of h (by decide) (Nat.le_of_ble_eq_true rfl) (lv := [(0, A w a0), (1, A w a1), (2, I a2), (3, A w a3), (4, A w a4), (5, I a5)]) rfl fun X hl hRm C hO => by
  subst hl
  unfold fX8_copy
  refine v_iconst C dX8_copy_0 ?_
  refine v_istore C [(6, I 0), (0, A w a0), (1, A w a1), (2, I a2), (3, A w a3), (4, A w a4), (5, I a5)] dX8_copy_1 (by decide) rfl ?_
  refine v_sub [(0, A w a0), (1, A w a1), (2, I a2), (3, A w a3), (4, A w a4), (5, I a5), (6, I 0)] [1, 2, 3, 4, 5, 6, 0] rfl ?_
  refine vX8_copy_L3 res hRm C hO a0 a1 a2 a3 a4 a5 _ ?_ 1000 0 s
  · intro s4
    refine v_iconst C dX8_copy_38 ?_
    refine v_istore C [(6, I 0), (1, A w a1), (2, I a2), (4, A w a4), (5, I a5)] dX8_copy_39 (by decide) rfl ?_
    refine v_sub [(1, A w a1), (2, I a2), (4, A w a4), (5, I a5), (6, I 0)] [1, 2, 3, 4, 0] rfl ?_
    refine vX8_copy_L41 res hRm C hO a1 a2 a4 a5 _ ?_ 1000 0 s4
    · intro s8
      exact v_vret C rfl hO (fun h => Option.some.inj h) dX8_copy_74
-- ForesightHubModel.keep
set_option maxRecDepth 100000 in
theorem vX8_keep_L11 {X : Cxt} {w : Wd} {P : Shp} {n : Nat} (res : St) (hRm : X.2.2.2.1 = rX8_keep) (C : Cok X w cX8_keep 2 RX8 (Option.none : Option FieldType)) (hO : Own X w 0 0 (QV w P n res))  (c0 : Int) (kE46 : St → Option (St)) (hE46 : ∀ (se : St), V X w 2 P n 0 0 res (kE46 se) se 46 [(0, A w c0)] []) : ∀ (fuel : Nat) (p1 : Int) (s : St), V X w 2 P n 0 0 res (fX8_keep_L11 P c0 kE46 fuel p1 s) s 11 [(0, A w c0), (1, I p1)] [] := by
  intro fuel
  induction fuel with
  | zero => intro p1 s; exact v_none
  | succ m ih =>
    intro p1 s
    rw [fX8_keep_L11]
    refine v_iload_n C dX8_keep_11 rfl (j := 1) rfl ?_
    refine v_bipush C dX8_keep_12 (by decide) ?_
    refine v_icmp_ge (tgt := 46) C dX8_keep_14 rfl ?_ ?_
    · skip
      refine v_sub [(0, A w c0)] [0] rfl ?_
      exact hE46 s
    · skip
      refine v_aload_n C dX8_keep_17 rfl (j := 0) rfl ?_
      refine v_getR C 16 rfl (T := TX8) rfl inB8 (by decide) (by decide) rfl tw_1156 dX8_keep_18 (fun x11 => ?_)
      refine v_aload_n C dX8_keep_21 rfl (j := 0) rfl ?_
      refine v_getR C 17 rfl (T := TX8) rfl inB8 (by decide) (by decide) rfl tw_1157 dX8_keep_22 (fun x12 => ?_)
      refine v_iload_n C dX8_keep_25 rfl (j := 1) rfl ?_
      refine v_aload_n C dX8_keep_26 rfl (j := 0) rfl ?_
      refine v_getR C 16 rfl (T := TX8) rfl inB8 (by decide) (by decide) rfl tw_1156 dX8_keep_27 (fun x13 => ?_)
      refine v_aload_n C dX8_keep_30 rfl (j := 0) rfl ?_
      refine v_getR C 17 rfl (T := TX8) rfl inB8 (by decide) (by decide) rfl tw_1157 dX8_keep_31 (fun x14 => ?_)
      refine v_iload_n C dX8_keep_34 rfl (j := 1) rfl ?_
      refine v_iconst C dX8_keep_35 ?_
      refine v_isub C dX8_keep_36 ?_
      refine v_callS_wV C [A w x11, A w x12, I p1, A w x13, A w x14, I (p1 - 1)] [] (Cee.of (rm := rX8_copy) tw_1442 tw_9 hX8_copy rfl rfl hRm (Nat.le_of_ble_eq_true rfl) (Nat.le_of_ble_eq_true rfl)) (fun x h => kX8_copy X.2.1 w P n h) tw_1440 tw_1441 rfl rfl (Nat.le_of_ble_eq_true rfl) ⟨Nat.zero_le _, Nat.zero_le _⟩ dX8_keep_37 (fun s15 => ?_)
      refine v_iinc C (j := 1) [(0, A w c0)] dX8_keep_40 (by decide) rfl (fun _ => rfl) (fun x16 => ?_)
      refine v_goto (tgt := 11) C dX8_keep_43 rfl ?_
      refine v_sub [(0, A w c0), (1, I x16)] [1, 0] rfl ?_
      exact ih x16 s15
theorem hX8_keep : yX8_keep.cls ≠ "java/lang/invoke/MethodHandle" ∧ yX8_keep.cls ≠ "java/lang/invoke/VarHandle" ∧ (parseMethodDescriptor yX8_keep.desc).map (fun d => d.parameters.length) = some 0 := by decide +kernel
set_option maxRecDepth 100000 in
theorem kX8_keep (l : Launch) (w : Wd) (P : Shp) (n : Nat) {s : St} {a0 : Int} {res : St} (h : fX8_keep P s a0 = some res) : Ct l w yX8_keep cX8_keep 2 (Option.none : Option FieldType) rX8_keep P n [A w a0] s (QV w P n res) :=
  Ct.of h (by decide) (Nat.le_of_ble_eq_true rfl) (lv := [(0, A w a0)]) rfl fun X hl hRm C hO => by
  subst hl
  unfold fX8_keep
  refine v_aload_n C dX8_keep_0 rfl (j := 0) rfl ?_
  refine v_getI C 18 rfl (T := TX8) rfl inB8 (by decide) (by decide) rfl tw_1158 dX8_keep_1 (fun x1 => ?_)
  refine v_bipush C dX8_keep_4 (by decide) ?_
  refine v_jnt (fun (k56 : St → Option (St)) => ∀ (s2 : St), V X w 2 P n 0 0 res (k56 s2) s2 56 [(0, A w a0)] []) ?_ ?_
  · intro s2
    refine v_aload_n C dX8_keep_56 rfl (j := 0) rfl ?_
    refine v_getR C 14 rfl (T := TX8) rfl inB8 (by decide) (by decide) rfl tw_1154 dX8_keep_57 (fun x3 => ?_)
    refine v_aload_n C dX8_keep_60 rfl (j := 0) rfl ?_
    refine v_getR C 15 rfl (T := TX8) rfl inB8 (by decide) (by decide) rfl tw_1155 dX8_keep_61 (fun x4 => ?_)
    refine v_iconst C dX8_keep_64 ?_
    refine v_aload_n C dX8_keep_65 rfl (j := 0) rfl ?_
    refine v_getR C 16 rfl (T := TX8) rfl inB8 (by decide) (by decide) rfl tw_1156 dX8_keep_66 (fun x5 => ?_)
    refine v_aload_n C dX8_keep_69 rfl (j := 0) rfl ?_
    refine v_getR C 17 rfl (T := TX8) rfl inB8 (by decide) (by decide) rfl tw_1157 dX8_keep_70 (fun x6 => ?_)
    refine v_aload_n C dX8_keep_73 rfl (j := 0) rfl ?_
    refine v_getI C 18 rfl (T := TX8) rfl inB8 (by decide) (by decide) rfl tw_1158 dX8_keep_74 (fun x7 => ?_)
    refine v_callS_wV C [A w x3, A w x4, I 0, A w x5, A w x6, I x7] [] (Cee.of (rm := rX8_copy) tw_1442 tw_9 hX8_copy rfl rfl hRm (Nat.le_of_ble_eq_true rfl) (Nat.le_of_ble_eq_true rfl)) (fun x h => kX8_copy X.2.1 w P n h) tw_1440 tw_1441 rfl rfl (Nat.le_of_ble_eq_true rfl) ⟨Nat.zero_le _, Nat.zero_le _⟩ dX8_keep_77 (fun s8 => ?_)
    refine v_aload_n C dX8_keep_80 rfl (j := 0) rfl ?_
    refine v_dup C dX8_keep_81 rfl ?_
    refine v_getI C 18 rfl (T := TX8) rfl inB8 (by decide) (by decide) rfl tw_1158 dX8_keep_82 (fun x9 => ?_)
    refine v_iconst C dX8_keep_85 ?_
    refine v_iadd C dX8_keep_86 ?_
    refine v_putI C 18 rfl (T := TX8) rfl inB8 (by decide) tyX8_ok nmX8 (by decide) rfl rfl tw_1158 dX8_keep_87 rfl (fun s10 => ?_)
    exact v_vret C rfl hO (fun h => Option.some.inj h) dX8_keep_90
  intro k56 hk56
  refine v_icmp_ne (tgt := 56) C dX8_keep_6 rfl ?_ ?_
  · skip
    exact hk56 s
  · skip
    refine v_iconst C dX8_keep_9 ?_
    refine v_istore_n C [(1, I 1), (0, A w a0)] dX8_keep_10 rfl (by decide) rfl ?_
    refine v_sub [(0, A w a0), (1, I 1)] [1, 0] rfl ?_
    refine vX8_keep_L11 res hRm C hO a0 _ ?_ 1000 1 s
    · intro s17
      refine v_aload_n C dX8_keep_46 rfl (j := 0) rfl ?_
      refine v_dup C dX8_keep_47 rfl ?_
      refine v_getI C 18 rfl (T := TX8) rfl inB8 (by decide) (by decide) rfl tw_1158 dX8_keep_48 (fun x18 => ?_)
      refine v_iconst C dX8_keep_51 ?_
      refine v_isub C dX8_keep_52 ?_
      refine v_putI C 18 rfl (T := TX8) rfl inB8 (by decide) tyX8_ok nmX8 (by decide) rfl rfl tw_1158 dX8_keep_53 rfl (fun s19 => ?_)
      exact hk56 s19
-- ForesightHubModel.isDevice
theorem hX8_isDevice : yX8_isDevice.cls ≠ "java/lang/invoke/MethodHandle" ∧ yX8_isDevice.cls ≠ "java/lang/invoke/VarHandle" ∧ (parseMethodDescriptor yX8_isDevice.desc).map (fun d => d.parameters.length) = some 1 := by decide +kernel
set_option maxRecDepth 100000 in
theorem kX8_isDevice (l : Launch) (w : Wd) (P : Shp) (n : Nat) {s : St} {a0 : Int} {a1 : Int} {res : Int} (h : fX8_isDevice P s a0 a1 = some res) : Ct l w yX8_isDevice cX8_isDevice 2 (some FieldType.boolean) rX8_isDevice P n [A w a0, I a1] s (QI w P n res s) :=
  Ct.of h (by decide) (Nat.le_of_ble_eq_true rfl) (lv := [(0, A w a0), (1, I a1)]) rfl fun X hl hRm C hO => by
  subst hl
  unfold fX8_isDevice
  refine v_iload_n C dX8_isDevice_0 rfl (j := 1) rfl ?_
  refine v_iconst C dX8_isDevice_1 ?_
  refine v_aload_n C dX8_isDevice_2 rfl (j := 0) rfl ?_
  refine v_callV_rI C [] [I 0, I a1] (Cee.of (rm := rX8_devices) tw_1085 tw_9 hX8_devices rfl rfl hRm (Nat.le_of_ble_eq_true rfl) (Nat.le_of_ble_eq_true rfl)) (fun x h => kX8_devices X.2.1 w P n h) tw_1082 tw_1084 ts_38 rfl (ci := 8) rfl (by decide) rfl rfl (Nat.le_of_ble_eq_true rfl) ⟨Nat.zero_le _, Nat.zero_le _⟩ dX8_isDevice_3 (fun x1 => ?_)
  refine v_iconst C dX8_isDevice_6 ?_
  refine v_isub C dX8_isDevice_7 ?_
  refine v_callS_rI C [I a1, I 0, I (x1 - 1)] [] (Cee.of (rm := rX8_within) tw_1228 tw_9 hX8_within rfl rfl hRm (Nat.le_of_ble_eq_true rfl) (Nat.le_of_ble_eq_true rfl)) (fun x h => kX8_within X.2.1 w P n h) tw_1226 tw_1227 rfl rfl (Nat.le_of_ble_eq_true rfl) ⟨Nat.zero_le _, Nat.zero_le _⟩ dX8_isDevice_8 (fun x2 => ?_)
  exact v_zret C rfl hO pS dX8_isDevice_11
-- ForesightHubModel.isStream
theorem hX8_isStream : yX8_isStream.cls ≠ "java/lang/invoke/MethodHandle" ∧ yX8_isStream.cls ≠ "java/lang/invoke/VarHandle" ∧ (parseMethodDescriptor yX8_isStream.desc).map (fun d => d.parameters.length) = some 1 := by decide +kernel
set_option maxRecDepth 100000 in
theorem kX8_isStream (l : Launch) (w : Wd) (P : Shp) (n : Nat) {s : St} {a0 : Int} {a1 : Int} {res : Int} (h : fX8_isStream P s a0 a1 = some res) : Ct l w yX8_isStream cX8_isStream 2 (some FieldType.boolean) rX8_isStream P n [A w a0, I a1] s (QI w P n res s) :=
  Ct.of h (by decide) (Nat.le_of_ble_eq_true rfl) (lv := [(0, A w a0), (1, I a1)]) rfl fun X hl hRm C hO => by
  subst hl
  unfold fX8_isStream
  refine v_iload_n C dX8_isStream_0 rfl (j := 1) rfl ?_
  refine v_iconst C dX8_isStream_1 ?_
  refine v_aload_n C dX8_isStream_2 rfl (j := 0) rfl ?_
  refine v_callV_rI C [] [I 0, I a1] (Cee.of (rm := rX8_streams) tw_1092 tw_9 hX8_streams rfl rfl hRm (Nat.le_of_ble_eq_true rfl) (Nat.le_of_ble_eq_true rfl)) (fun x h => kX8_streams X.2.1 w P n h) tw_1089 tw_1091 ts_39 rfl (ci := 8) rfl (by decide) rfl rfl (Nat.le_of_ble_eq_true rfl) ⟨Nat.zero_le _, Nat.zero_le _⟩ dX8_isStream_3 (fun x1 => ?_)
  refine v_iconst C dX8_isStream_6 ?_
  refine v_isub C dX8_isStream_7 ?_
  refine v_callS_rI C [I a1, I 0, I (x1 - 1)] [] (Cee.of (rm := rX8_within) tw_1228 tw_9 hX8_within rfl rfl hRm (Nat.le_of_ble_eq_true rfl) (Nat.le_of_ble_eq_true rfl)) (fun x h => kX8_within X.2.1 w P n h) tw_1226 tw_1227 rfl rfl (Nat.le_of_ble_eq_true rfl) ⟨Nat.zero_le _, Nat.zero_le _⟩ dX8_isStream_8 (fun x2 => ?_)
  exact v_zret C rfl hO pS dX8_isStream_11
-- ForesightHubModel.packetOf
theorem hX8_packetOf : yX8_packetOf.cls ≠ "java/lang/invoke/MethodHandle" ∧ yX8_packetOf.cls ≠ "java/lang/invoke/VarHandle" ∧ (parseMethodDescriptor yX8_packetOf.desc).map (fun d => d.parameters.length) = some 1 := by decide +kernel
set_option maxRecDepth 100000 in
theorem kX8_packetOf (l : Launch) (w : Wd) (P : Shp) (n : Nat) {s : St} {a0 : Int} {a1 : Int} {res : Int} (h : fX8_packetOf P s a0 a1 = some res) : Ct l w yX8_packetOf cX8_packetOf 2 (some FieldType.int) rX8_packetOf P n [A w a0, I a1] s (QI w P n res s) :=
  Ct.of h (by decide) (Nat.le_of_ble_eq_true rfl) (lv := [(0, A w a0), (1, I a1)]) rfl fun X hl hRm C hO => by
  subst hl
  unfold fX8_packetOf
  refine v_aload_n C dX8_packetOf_0 rfl (j := 0) rfl ?_
  refine v_getR C 11 rfl (T := TX8) rfl inB8 (by decide) (by decide) rfl tw_1151 dX8_packetOf_1 (fun x1 => ?_)
  refine v_bipush C dX8_packetOf_4 (by decide) ?_
  refine v_iconst C dX8_packetOf_6 ?_
  refine v_iload_n C dX8_packetOf_7 rfl (j := 1) rfl ?_
  refine v_imul C dX8_packetOf_8 ?_
  refine v_iadd C dX8_packetOf_9 ?_
  refine v_iconst C dX8_packetOf_10 ?_
  refine v_iadd C dX8_packetOf_11 ?_
  refine v_iald C dX8_packetOf_12 (fun x2 => ?_)
  exact v_iret C rfl hO pS dX8_packetOf_13
-- ForesightHubModel.matches
set_option maxRecDepth 100000 in
theorem vX8_matches_L14 {X : Cxt} {w : Wd} {P : Shp} {n : Nat} {s : St} (res : Int) (hRm : X.2.2.2.1 = rX8_matches) (C : Cok X w cX8_matches 8 RX8 (some FieldType.boolean)) (hO : Own X w 0 0 (QI w P n res s))  (c0 : Int) (c1 : Int) (c3 : Int) (kE132 : Int → Option (Int)) (hE132 : ∀ (p4e : Int), V X w 8 P n 0 0 res (kE132 p4e) s 132 [(0, A w c0), (3, I c3), (4, I p4e)] []) : ∀ (fuel : Nat) (p4 p5 : Int), V X w 8 P n 0 0 res (fX8_matches_L14 P s c0 c1 c3 kE132 fuel p4 p5) s 14 [(0, A w c0), (1, I c1), (3, I c3), (4, I p4), (5, I p5)] [] := by
  intro fuel
  induction fuel with
  | zero => intro p4 p5; exact v_none
  | succ m ih =>
    intro p4 p5
    rw [fX8_matches_L14]
    refine v_iload C dX8_matches_14 (j := 4) rfl ?_
    refine v_aload_n C dX8_matches_16 rfl (j := 0) rfl ?_
    refine v_getR C 14 rfl (T := TX8) rfl inB8 (by decide) (by decide) rfl tw_1154 dX8_matches_17 (fun x2 => ?_)
    refine v_iload_n C dX8_matches_20 rfl (j := 1) rfl ?_
    refine v_callS_rI C [I c1] [A w x2, I p5] (Cee.of (rm := rX8_at) tw_1088 tw_9 hX8_at rfl rfl hRm (Nat.le_of_ble_eq_true rfl) (Nat.le_of_ble_eq_true rfl)) (fun x h => kX8_at X.2.1 w P n h) tw_1086 tw_1087 rfl rfl (Nat.le_of_ble_eq_true rfl) ⟨Nat.zero_le _, Nat.zero_le _⟩ dX8_matches_21 (fun x3 => ?_)
    refine v_iconst C dX8_matches_24 ?_
    refine v_iadd C dX8_matches_25 ?_
    refine v_iald C dX8_matches_26 (fun x4 => ?_)
    refine v_icmp_ge (tgt := 132) C dX8_matches_27 rfl ?_ ?_
    · skip
      refine v_sub [(0, A w c0), (3, I c3), (4, I p4)] [0, 2, 3] rfl ?_
      exact hE132 p4
    · skip
      refine v_iload_n C dX8_matches_30 rfl (j := 1) rfl ?_
      refine v_callS_rI C [I c1] [] (Cee.of (rm := rX8_at) tw_1088 tw_9 hX8_at rfl rfl hRm (Nat.le_of_ble_eq_true rfl) (Nat.le_of_ble_eq_true rfl)) (fun x h => kX8_at X.2.1 w P n h) tw_1086 tw_1087 rfl rfl (Nat.le_of_ble_eq_true rfl) ⟨Nat.zero_le _, Nat.zero_le _⟩ dX8_matches_31 (fun x5 => ?_)
      refine v_iconst C dX8_matches_34 ?_
      refine v_iadd C dX8_matches_35 ?_
      refine v_iconst C dX8_matches_36 ?_
      refine v_iload C dX8_matches_37 (j := 4) rfl ?_
      refine v_imul C dX8_matches_39 ?_
      refine v_iadd C dX8_matches_40 ?_
      refine v_bdI (fun x6 => ?_)
      refine v_istore C [(6, I x6), (0, A w c0), (1, I c1), (3, I c3), (4, I p4), (5, I p5)] dX8_matches_41 (by decide) rfl ?_
      refine v_iload C dX8_matches_43 (j := 4) rfl ?_
      refine v_aload_n C dX8_matches_45 rfl (j := 1) rfl ?_
      refine v_getR C 11 rfl (T := TX8) rfl inB8 (by decide) (by decide) rfl tw_1151 dX8_matches_46 (fun x7 => ?_)
      refine v_iload_n C dX8_matches_49 rfl (j := 3) rfl ?_
      refine v_iconst C dX8_matches_50 ?_
      refine v_iadd C dX8_matches_51 ?_
      refine v_iald C dX8_matches_52 (fun x8 => ?_)
      refine v_jnt (fun (k109 : Int → Option (Int)) => ∀ (x9 : Int), V X w 8 P n 0 0 res (k109 x9) s 109 [(0, A w c0), (1, I c1), (3, I c3), (4, I p4), (5, I p5)] [I x9]) ?_ ?_
      · intro x9
        refine v_istore C [(7, I x9), (0, A w c0), (1, I c1), (3, I c3), (4, I p4), (5, I p5)] dX8_matches_109 (by decide) rfl ?_
        refine v_iload C dX8_matches_111 (j := 4) rfl ?_
        refine v_iload C dX8_matches_113 (j := 0) rfl ?_
        refine v_jnt (fun (k123 : Int → Option (Int)) => ∀ (x10 : Int), V X w 8 P n 0 0 res (k123 x10) s 123 [(0, A w c0), (1, I c1), (3, I c3), (5, I p5)] [I x10, I p4]) ?_ ?_
        · intro x10
          refine v_iadd C dX8_matches_123 ?_
          refine v_bdI (fun x11 => ?_)
          refine v_istore C [(4, I x11), (0, A w c0), (1, I c1), (3, I c3), (5, I p5)] dX8_matches_124 (by decide) rfl ?_
          refine v_iinc C (j := 4) [(4, I x11), (0, A w c0), (1, I c1), (3, I c3)] dX8_matches_126 (by decide) rfl (fun _ => rfl) (fun x12 => ?_)
          refine v_goto (tgt := 14) C dX8_matches_129 rfl ?_
          refine v_sub [(0, A w c0), (1, I c1), (3, I c3), (4, I x11), (5, I x12)] [2, 3, 4, 1, 0] rfl ?_
          exact ih x11 x12
        intro k123 hk123
        refine v_if_eq (tgt := 122) C dX8_matches_115 rfl ?_ ?_
        · skip
          refine v_iconst C dX8_matches_122 ?_
          refine v_sub [(0, A w c0), (1, I c1), (3, I c3), (5, I p5)] [1, 2, 3, 5] rfl ?_
          exact hk123 0
        · skip
          refine v_iconst C dX8_matches_118 ?_
          refine v_goto (tgt := 123) C dX8_matches_119 rfl ?_
          refine v_sub [(0, A w c0), (1, I c1), (3, I c3), (5, I p5)] [1, 2, 3, 5] rfl ?_
          exact hk123 1
      intro k109 hk109
      refine v_jnt (fun (k108 : Option (Int)) => V X w 8 P n 0 0 res (k108) s 108 [(0, A w c0), (1, I c1), (3, I c3), (4, I p4), (5, I p5)] []) ?_ ?_
      · skip
        refine v_iconst C dX8_matches_108 ?_
        exact hk109 0
      intro k108 hk108
      refine v_icmp_ge (tgt := 108) C dX8_matches_53 rfl ?_ ?_
      · skip
        refine v_sub [(0, A w c0), (1, I c1), (3, I c3), (4, I p4), (5, I p5)] [1, 2, 3, 4, 5] rfl ?_
        exact hk108
      · skip
        refine v_aload_n C dX8_matches_56 rfl (j := 1) rfl ?_
        refine v_getR C 14 rfl (T := TX8) rfl inB8 (by decide) (by decide) rfl tw_1154 dX8_matches_57 (fun x13 => ?_)
        refine v_iload C dX8_matches_60 (j := 0) rfl ?_
        refine v_iconst C dX8_matches_62 ?_
        refine v_iadd C dX8_matches_63 ?_
        refine v_iald C dX8_matches_64 (fun x14 => ?_)
        refine v_aload_n C dX8_matches_65 rfl (j := 1) rfl ?_
        refine v_getR C 14 rfl (T := TX8) rfl inB8 (by decide) (by decide) rfl tw_1154 dX8_matches_66 (fun x15 => ?_)
        refine v_iconst C dX8_matches_69 ?_
        refine v_iald C dX8_matches_70 (fun x16 => ?_)
        refine v_aload_n C dX8_matches_71 rfl (j := 1) rfl ?_
        refine v_getR C 11 rfl (T := TX8) rfl inB8 (by decide) (by decide) rfl tw_1151 dX8_matches_72 (fun x17 => ?_)
        refine v_iload_n C dX8_matches_75 rfl (j := 3) rfl ?_
        refine v_iconst C dX8_matches_76 ?_
        refine v_iadd C dX8_matches_77 ?_
        refine v_iald C dX8_matches_78 (fun x18 => ?_)
        refine v_isub C dX8_matches_79 ?_
        refine v_icmp_le (tgt := 108) C dX8_matches_80 rfl ?_ ?_
        · skip
          refine v_sub [(0, A w c0), (1, I c1), (3, I c3), (4, I p4), (5, I p5)] [1, 2, 3, 4, 5] rfl ?_
          exact hk108
        · skip
          refine v_aload_n C dX8_matches_83 rfl (j := 1) rfl ?_
          refine v_getR C 14 rfl (T := TX8) rfl inB8 (by decide) (by decide) rfl tw_1154 dX8_matches_84 (fun x19 => ?_)
          refine v_iload C dX8_matches_87 (j := 0) rfl ?_
          refine v_iald C dX8_matches_89 (fun x20 => ?_)
          refine v_aload_n C dX8_matches_90 rfl (j := 1) rfl ?_
          refine v_getR C 11 rfl (T := TX8) rfl inB8 (by decide) (by decide) rfl tw_1151 dX8_matches_91 (fun x21 => ?_)
          refine v_iload_n C dX8_matches_94 rfl (j := 3) rfl ?_
          refine v_iconst C dX8_matches_95 ?_
          refine v_iadd C dX8_matches_96 ?_
          refine v_iload C dX8_matches_97 (j := 4) rfl ?_
          refine v_iadd C dX8_matches_99 ?_
          refine v_iald C dX8_matches_100 (fun x22 => ?_)
          refine v_icmp_ne (tgt := 108) C dX8_matches_101 rfl ?_ ?_
          · skip
            refine v_sub [(0, A w c0), (1, I c1), (3, I c3), (4, I p4), (5, I p5)] [1, 2, 3, 4, 5] rfl ?_
            exact hk108
          · skip
            refine v_iconst C dX8_matches_104 ?_
            refine v_goto (tgt := 109) C dX8_matches_105 rfl ?_
            refine v_sub [(0, A w c0), (1, I c1), (3, I c3), (4, I p4), (5, I p5)] [1, 2, 3, 4, 5] rfl ?_
            exact hk109 1
theorem hX8_matches : yX8_matches.cls ≠ "java/lang/invoke/MethodHandle" ∧ yX8_matches.cls ≠ "java/lang/invoke/VarHandle" ∧ (parseMethodDescriptor yX8_matches.desc).map (fun d => d.parameters.length) = some 2 := by decide +kernel
set_option maxRecDepth 100000 in
theorem kX8_matches (l : Launch) (w : Wd) (P : Shp) (n : Nat) {s : St} {a0 : Int} {a1 : Int} {a2 : Int} {res : Int} (h : fX8_matches P s a0 a1 a2 = some res) : Ct l w yX8_matches cX8_matches 8 (some FieldType.boolean) rX8_matches P n [A w a0, I a1, I a2] s (QI w P n res s) :=
  Ct.of h (by decide) (Nat.le_of_ble_eq_true rfl) (lv := [(0, A w a0), (1, I a1), (2, I a2)]) rfl fun X hl hRm C hO => by
  subst hl
  unfold fX8_matches
  refine v_bipush C dX8_matches_0 (by decide) ?_
  refine v_bipush C dX8_matches_2 (by decide) ?_
  refine v_iload_n C dX8_matches_4 rfl (j := 2) rfl ?_
  refine v_imul C dX8_matches_5 ?_
  refine v_iadd C dX8_matches_6 ?_
  refine v_bdI (fun x1 => ?_)
  refine v_istore_n C [(3, I x1), (0, A w a0), (1, I a1), (2, I a2)] dX8_matches_7 rfl (by decide) rfl ?_
  refine v_iconst C dX8_matches_8 ?_
  refine v_istore C [(4, I 0), (3, I x1), (0, A w a0), (1, I a1), (2, I a2)] dX8_matches_9 (by decide) rfl ?_
  refine v_iconst C dX8_matches_11 ?_
  refine v_istore C [(5, I 0), (4, I 0), (3, I x1), (0, A w a0), (1, I a1), (2, I a2)] dX8_matches_12 (by decide) rfl ?_
  refine v_sub [(0, A w a0), (1, I a1), (3, I x1), (4, I 0), (5, I 0)] [3, 4, 2, 1, 0] rfl ?_
  refine vX8_matches_L14 res hRm C hO a0 a1 x1 _ ?_ 1000 0 0
  · intro x23
    refine v_iload C dX8_matches_132 (j := 2) rfl ?_
    refine v_aload_n C dX8_matches_134 rfl (j := 0) rfl ?_
    refine v_getR C 11 rfl (T := TX8) rfl inB8 (by decide) (by decide) rfl tw_1151 dX8_matches_135 (fun x24 => ?_)
    refine v_iload_n C dX8_matches_138 rfl (j := 1) rfl ?_
    refine v_iconst C dX8_matches_139 ?_
    refine v_iadd C dX8_matches_140 ?_
    refine v_iald C dX8_matches_141 (fun x25 => ?_)
    refine v_icmp_ne (tgt := 149) C dX8_matches_142 rfl ?_ ?_
    · skip
      refine v_iconst C dX8_matches_149 ?_
      exact v_zret C rfl hO pS dX8_matches_150
    · skip
      refine v_iconst C dX8_matches_145 ?_
      refine v_goto (tgt := 150) C dX8_matches_146 rfl ?_
      exact v_zret C rfl hO pS dX8_matches_150
-- ForesightHubModel.matching
set_option maxRecDepth 100000 in
theorem vX8_matching_L4 {X : Cxt} {w : Wd} {P : Shp} {n : Nat} {s : St} (res : Int) (hRm : X.2.2.2.1 = rX8_matching) (C : Cok X w cX8_matching 4 RX8 (some FieldType.int)) (hO : Own X w 0 0 (QI w P n res s))  (c0 : Int) (c1 : Int) (kE39 : Int → Option (Int)) (hE39 : ∀ (p2e : Int), V X w 4 P n 0 0 res (kE39 p2e) s 39 [(2, I p2e)] []) : ∀ (fuel : Nat) (p2 p3 : Int), V X w 4 P n 0 0 res (fX8_matching_L4 P s c0 c1 kE39 fuel p2 p3) s 4 [(0, A w c0), (1, I c1), (2, I p2), (3, I p3)] [] := by
  intro fuel
  induction fuel with
  | zero => intro p2 p3; exact v_none
  | succ m ih =>
    intro p2 p3
    rw [fX8_matching_L4]
    refine v_iload_n C dX8_matching_4 rfl (j := 3) rfl ?_
    refine v_aload_n C dX8_matching_5 rfl (j := 0) rfl ?_
    refine v_getR C 11 rfl (T := TX8) rfl inB8 (by decide) (by decide) rfl tw_1151 dX8_matching_6 (fun x1 => ?_)
    refine v_iconst C dX8_matching_9 ?_
    refine v_iald C dX8_matching_10 (fun x2 => ?_)
    refine v_icmp_ge (tgt := 39) C dX8_matching_11 rfl ?_ ?_
    · skip
      refine v_sub [(2, I p2)] [2] rfl ?_
      exact hE39 p2
    · skip
      refine v_iload_n C dX8_matching_14 rfl (j := 2) rfl ?_
      refine v_aload_n C dX8_matching_15 rfl (j := 0) rfl ?_
      refine v_iload_n C dX8_matching_16 rfl (j := 1) rfl ?_
      refine v_iload_n C dX8_matching_17 rfl (j := 3) rfl ?_
      refine v_callV_rI C [I c1, I p3] [I p2] (Cee.of (rm := rX8_matches) tw_1339 tw_9 hX8_matches rfl rfl hRm (Nat.le_of_ble_eq_true rfl) (Nat.le_of_ble_eq_true rfl)) (fun x h => kX8_matches X.2.1 w P n h) tw_1336 tw_1338 ts_72 rfl (ci := 8) rfl (by decide) rfl rfl (Nat.le_of_ble_eq_true rfl) ⟨Nat.zero_le _, Nat.zero_le _⟩ dX8_matching_18 (fun x3 => ?_)
      refine v_jnt (fun (k31 : Int → Option (Int)) => ∀ (x4 : Int), V X w 4 P n 0 0 res (k31 x4) s 31 [(0, A w c0), (1, I c1), (3, I p3)] [I x4, I p2]) ?_ ?_
      · intro x4
        refine v_ior C dX8_matching_31 ?_
        refine v_bdI (fun x5 => ?_)
        refine v_istore_n C [(2, I x5), (0, A w c0), (1, I c1), (3, I p3)] dX8_matching_32 rfl (by decide) rfl ?_
        refine v_iinc C (j := 3) [(2, I x5), (0, A w c0), (1, I c1)] dX8_matching_33 (by decide) rfl (fun _ => rfl) (fun x6 => ?_)
        refine v_goto (tgt := 4) C dX8_matching_36 rfl ?_
        refine v_sub [(0, A w c0), (1, I c1), (2, I x5), (3, I x6)] [2, 3, 1, 0] rfl ?_
        exact ih x5 x6
      intro k31 hk31
      refine v_if_eq (tgt := 30) C dX8_matching_21 rfl ?_ ?_
      · skip
        refine v_iconst C dX8_matching_30 ?_
        refine v_sub [(0, A w c0), (1, I c1), (3, I p3)] [0, 1, 3] rfl ?_
        exact hk31 0
      · skip
        refine v_iconst C dX8_matching_24 ?_
        refine v_iload_n C dX8_matching_25 rfl (j := 3) rfl ?_
        refine v_ishl C dX8_matching_26 ?_
        refine v_goto (tgt := 31) C dX8_matching_27 rfl ?_
        refine v_sub [(0, A w c0), (1, I c1), (3, I p3)] [0, 1, 3] rfl ?_
        exact hk31 (ishl 1 p3)
theorem hX8_matching : yX8_matching.cls ≠ "java/lang/invoke/MethodHandle" ∧ yX8_matching.cls ≠ "java/lang/invoke/VarHandle" ∧ (parseMethodDescriptor yX8_matching.desc).map (fun d => d.parameters.length) = some 1 := by decide +kernel
set_option maxRecDepth 100000 in
theorem kX8_matching (l : Launch) (w : Wd) (P : Shp) (n : Nat) {s : St} {a0 : Int} {a1 : Int} {res : Int} (h : fX8_matching P s a0 a1 = some res) : Ct l w yX8_matching cX8_matching 4 (some FieldType.int) rX8_matching P n [A w a0, I a1] s (QI w P n res s) :=
  Ct.of h (by decide) (Nat.le_of_ble_eq_true rfl) (lv := [(0, A w a0), (1, I a1)]) rfl fun X hl hRm C hO => by
  subst hl
  unfold fX8_matching
  refine v_iconst C dX8_matching_0 ?_
  refine v_istore_n C [(2, I 0), (0, A w a0), (1, I a1)] dX8_matching_1 rfl (by decide) rfl ?_
  refine v_iconst C dX8_matching_2 ?_
  refine v_istore_n C [(3, I 0), (2, I 0), (0, A w a0), (1, I a1)] dX8_matching_3 rfl (by decide) rfl ?_
  refine v_sub [(0, A w a0), (1, I a1), (2, I 0), (3, I 0)] [2, 3, 1, 0] rfl ?_
  refine vX8_matching_L4 res hRm C hO a0 a1 _ ?_ 1000 0 0
  · intro x7
    refine v_iload_n C dX8_matching_39 rfl (j := 0) rfl ?_
    exact v_iret C rfl hO pS dX8_matching_40
-- ForesightHubModel.scoreOf
set_option maxRecDepth 100000 in
theorem vX8_scoreOf_L4 {X : Cxt} {w : Wd} {P : Shp} {n : Nat} {s : St} (res : Int) (hRm : X.2.2.2.1 = rX8_scoreOf) (C : Cok X w cX8_scoreOf 4 RX8 (some FieldType.int)) (hO : Own X w 0 0 (QI w P n res s))  (c0 : Int) (c1 : Int) (kE48 : Int → Option (Int)) (hE48 : ∀ (p2e : Int), V X w 4 P n 0 0 res (kE48 p2e) s 48 [(2, I p2e)] []) : ∀ (fuel : Nat) (p2 p3 : Int), V X w 4 P n 0 0 res (fX8_scoreOf_L4 P s c0 c1 kE48 fuel p2 p3) s 4 [(0, A w c0), (1, I c1), (2, I p2), (3, I p3)] [] := by
  intro fuel
  induction fuel with
  | zero => intro p2 p3; exact v_none
  | succ m ih =>
    intro p2 p3
    rw [fX8_scoreOf_L4]
    refine v_iload_n C dX8_scoreOf_4 rfl (j := 3) rfl ?_
    refine v_aload_n C dX8_scoreOf_5 rfl (j := 0) rfl ?_
    refine v_getR C 11 rfl (T := TX8) rfl inB8 (by decide) (by decide) rfl tw_1151 dX8_scoreOf_6 (fun x1 => ?_)
    refine v_iconst C dX8_scoreOf_9 ?_
    refine v_iald C dX8_scoreOf_10 (fun x2 => ?_)
    refine v_icmp_ge (tgt := 48) C dX8_scoreOf_11 rfl ?_ ?_
    · skip
      refine v_sub [(2, I p2)] [2] rfl ?_
      exact hE48 p2
    · skip
      refine v_iload_n C dX8_scoreOf_14 rfl (j := 2) rfl ?_
      refine v_aload_n C dX8_scoreOf_15 rfl (j := 0) rfl ?_
      refine v_iload_n C dX8_scoreOf_16 rfl (j := 1) rfl ?_
      refine v_iload_n C dX8_scoreOf_17 rfl (j := 3) rfl ?_
      refine v_callV_rI C [I c1, I p3] [I p2] (Cee.of (rm := rX8_matches) tw_1339 tw_9 hX8_matches rfl rfl hRm (Nat.le_of_ble_eq_true rfl) (Nat.le_of_ble_eq_true rfl)) (fun x h => kX8_matches X.2.1 w P n h) tw_1336 tw_1338 ts_72 rfl (ci := 8) rfl (by decide) rfl rfl (Nat.le_of_ble_eq_true rfl) ⟨Nat.zero_le _, Nat.zero_le _⟩ dX8_scoreOf_18 (fun x3 => ?_)
      refine v_jnt (fun (k40 : Int → Option (Int)) => ∀ (x4 : Int), V X w 4 P n 0 0 res (k40 x4) s 40 [(0, A w c0), (1, I c1), (3, I p3)] [I x4, I p2]) ?_ ?_
      · intro x4
        refine v_iadd C dX8_scoreOf_40 ?_
        refine v_bdI (fun x5 => ?_)
        refine v_istore_n C [(2, I x5), (0, A w c0), (1, I c1), (3, I p3)] dX8_scoreOf_41 rfl (by decide) rfl ?_
        refine v_iinc C (j := 3) [(2, I x5), (0, A w c0), (1, I c1)] dX8_scoreOf_42 (by decide) rfl (fun _ => rfl) (fun x6 => ?_)
        refine v_goto (tgt := 4) C dX8_scoreOf_45 rfl ?_
        refine v_sub [(0, A w c0), (1, I c1), (2, I x5), (3, I x6)] [2, 3, 1, 0] rfl ?_
        exact ih x5 x6
      intro k40 hk40
      refine v_if_eq (tgt := 39) C dX8_scoreOf_21 rfl ?_ ?_
      · skip
        refine v_iconst C dX8_scoreOf_39 ?_
        refine v_sub [(0, A w c0), (1, I c1), (3, I p3)] [0, 1, 3] rfl ?_
        exact hk40 0
      · skip
        refine v_aload_n C dX8_scoreOf_24 rfl (j := 0) rfl ?_
        refine v_getR C 11 rfl (T := TX8) rfl inB8 (by decide) (by decide) rfl tw_1151 dX8_scoreOf_25 (fun x7 => ?_)
        refine v_bipush C dX8_scoreOf_28 (by decide) ?_
        refine v_bipush C dX8_scoreOf_30 (by decide) ?_
        refine v_iload_n C dX8_scoreOf_32 rfl (j := 3) rfl ?_
        refine v_imul C dX8_scoreOf_33 ?_
        refine v_iadd C dX8_scoreOf_34 ?_
        refine v_iald C dX8_scoreOf_35 (fun x8 => ?_)
        refine v_goto (tgt := 40) C dX8_scoreOf_36 rfl ?_
        refine v_sub [(0, A w c0), (1, I c1), (3, I p3)] [0, 1, 3] rfl ?_
        exact hk40 x8
theorem hX8_scoreOf : yX8_scoreOf.cls ≠ "java/lang/invoke/MethodHandle" ∧ yX8_scoreOf.cls ≠ "java/lang/invoke/VarHandle" ∧ (parseMethodDescriptor yX8_scoreOf.desc).map (fun d => d.parameters.length) = some 1 := by decide +kernel
set_option maxRecDepth 100000 in
theorem kX8_scoreOf (l : Launch) (w : Wd) (P : Shp) (n : Nat) {s : St} {a0 : Int} {a1 : Int} {res : Int} (h : fX8_scoreOf P s a0 a1 = some res) : Ct l w yX8_scoreOf cX8_scoreOf 4 (some FieldType.int) rX8_scoreOf P n [A w a0, I a1] s (QI w P n res s) :=
  Ct.of h (by decide) (Nat.le_of_ble_eq_true rfl) (lv := [(0, A w a0), (1, I a1)]) rfl fun X hl hRm C hO => by
  subst hl
  unfold fX8_scoreOf
  refine v_iconst C dX8_scoreOf_0 ?_
  refine v_istore_n C [(2, I 0), (0, A w a0), (1, I a1)] dX8_scoreOf_1 rfl (by decide) rfl ?_
  refine v_iconst C dX8_scoreOf_2 ?_
  refine v_istore_n C [(3, I 0), (2, I 0), (0, A w a0), (1, I a1)] dX8_scoreOf_3 rfl (by decide) rfl ?_
  refine v_sub [(0, A w a0), (1, I a1), (2, I 0), (3, I 0)] [2, 3, 1, 0] rfl ?_
  refine vX8_scoreOf_L4 res hRm C hO a0 a1 _ ?_ 1000 0 0
  · intro x9
    refine v_iload_n C dX8_scoreOf_48 rfl (j := 0) rfl ?_
    exact v_iret C rfl hO pS dX8_scoreOf_49
-- ForesightHubModel.keepsError
set_option maxRecDepth 100000 in
theorem vX8_keepsError_L21 {X : Cxt} {w : Wd} {P : Shp} {n : Nat} (res : St) (hRm : X.2.2.2.1 = rX8_keepsError) (C : Cok X w cX8_keepsError 5 RX8 (Option.none : Option FieldType)) (hO : Own X w 0 0 (QV w P n res))  (c0 : Int) (c2 : Int) (c3 : Int) (kE58 : St → Option (St)) (hE58 : ∀ (se : St), V X w 5 P n 0 0 res (kE58 se) se 58 [(0, A w c0), (2, I c2), (3, I c3)] []) : ∀ (fuel : Nat) (p4 : Int) (s : St), V X w 5 P n 0 0 res (fX8_keepsError_L21 P c0 c2 c3 kE58 fuel p4 s) s 21 [(0, A w c0), (2, I c2), (3, I c3), (4, I p4)] [] := by
  intro fuel
  induction fuel with
  | zero => intro p4 s; exact v_none
  | succ m ih =>
    intro p4 s
    rw [fX8_keepsError_L21]
    refine v_iload C dX8_keepsError_21 (j := 3) rfl ?_
    refine v_bipush C dX8_keepsError_23 (by decide) ?_
    refine v_icmp_ge (tgt := 58) C dX8_keepsError_25 rfl ?_ ?_
    · skip
      refine v_sub [(0, A w c0), (2, I c2), (3, I c3)] [0, 1, 2] rfl ?_
      exact hE58 s
    · skip
      refine v_aload_n C dX8_keepsError_28 rfl (j := 0) rfl ?_
      refine v_getR C 14 rfl (T := TX8) rfl inB8 (by decide) (by decide) rfl tw_1154 dX8_keepsError_29 (fun x19 => ?_)
      refine v_iload_n C dX8_keepsError_32 rfl (j := 2) rfl ?_
      refine v_iconst C dX8_keepsError_33 ?_
      refine v_iadd C dX8_keepsError_34 ?_
      refine v_iload C dX8_keepsError_35 (j := 3) rfl ?_
      refine v_iadd C dX8_keepsError_37 ?_
      refine v_iconst C dX8_keepsError_38 ?_
      refine v_isub C dX8_keepsError_39 ?_
      refine v_aload_n C dX8_keepsError_40 rfl (j := 0) rfl ?_
      refine v_getR C 14 rfl (T := TX8) rfl inB8 (by decide) (by decide) rfl tw_1154 dX8_keepsError_41 (fun x20 => ?_)
      refine v_iload_n C dX8_keepsError_44 rfl (j := 2) rfl ?_
      refine v_iconst C dX8_keepsError_45 ?_
      refine v_iadd C dX8_keepsError_46 ?_
      refine v_iload C dX8_keepsError_47 (j := 3) rfl ?_
      refine v_iadd C dX8_keepsError_49 ?_
      refine v_iald C dX8_keepsError_50 (fun x21 => ?_)
      refine v_iast C dX8_keepsError_51 (fun s22 => ?_)
      refine v_iinc C (j := 3) [(0, A w c0), (2, I c2), (3, I c3)] dX8_keepsError_52 (by decide) rfl (fun _ => rfl) (fun x23 => ?_)
      refine v_goto (tgt := 21) C dX8_keepsError_55 rfl ?_
      refine v_sub [(0, A w c0), (2, I c2), (3, I c3), (4, I x23)] [1, 2, 3, 0] rfl ?_
      exact ih x23 s22
theorem hX8_keepsError : yX8_keepsError.cls ≠ "java/lang/invoke/MethodHandle" ∧ yX8_keepsError.cls ≠ "java/lang/invoke/VarHandle" ∧ (parseMethodDescriptor yX8_keepsError.desc).map (fun d => d.parameters.length) = some 2 := by decide +kernel
set_option maxRecDepth 100000 in
theorem kX8_keepsError (l : Launch) (w : Wd) (P : Shp) (n : Nat) {s : St} {a0 : Int} {a1 : Int} {a2 : Int} {res : St} (h : fX8_keepsError P s a0 a1 a2 = some res) : Ct l w yX8_keepsError cX8_keepsError 5 (Option.none : Option FieldType) rX8_keepsError P n [A w a0, I a1, I a2] s (QV w P n res) :=
  Ct.of h (by decide) (Nat.le_of_ble_eq_true rfl) (lv := [(0, A w a0), (1, I a1), (2, I a2)]) rfl fun X hl hRm C hO => by
  subst hl
  unfold fX8_keepsError
  refine v_iload_n C dX8_keepsError_0 rfl (j := 1) rfl ?_
  refine v_callS_rI C [I a1] [] (Cee.of (rm := rX8_at) tw_1088 tw_9 hX8_at rfl rfl hRm (Nat.le_of_ble_eq_true rfl) (Nat.le_of_ble_eq_true rfl)) (fun x h => kX8_at X.2.1 w P n h) tw_1086 tw_1087 rfl rfl (Nat.le_of_ble_eq_true rfl) ⟨Nat.zero_le _, Nat.zero_le _⟩ dX8_keepsError_1 (fun x1 => ?_)
  refine v_istore_n C [(3, I x1), (0, A w a0), (1, I a1), (2, I a2)] dX8_keepsError_4 rfl (by decide) rfl ?_
  refine v_aload_n C dX8_keepsError_5 rfl (j := 1) rfl ?_
  refine v_getR C 14 rfl (T := TX8) rfl inB8 (by decide) (by decide) rfl tw_1154 dX8_keepsError_6 (fun x2 => ?_)
  refine v_iload_n C dX8_keepsError_9 rfl (j := 0) rfl ?_
  refine v_iconst C dX8_keepsError_10 ?_
  refine v_iadd C dX8_keepsError_11 ?_
  refine v_iald C dX8_keepsError_12 (fun x3 => ?_)
  refine v_bipush C dX8_keepsError_13 (by decide) ?_
  refine v_jnt (fun (k70 : St → Option (St)) => ∀ (s4 : St), V X w 5 P n 0 0 res (k70 s4) s4 70 [(0, A w a0), (2, I a2), (3, I x1)] []) ?_ ?_
  · intro s4
    refine v_aload_n C dX8_keepsError_70 rfl (j := 0) rfl ?_
    refine v_getR C 14 rfl (T := TX8) rfl inB8 (by decide) (by decide) rfl tw_1154 dX8_keepsError_71 (fun x5 => ?_)
    refine v_iload_n C dX8_keepsError_74 rfl (j := 2) rfl ?_
    refine v_iconst C dX8_keepsError_75 ?_
    refine v_iadd C dX8_keepsError_76 ?_
    refine v_iconst C dX8_keepsError_77 ?_
    refine v_aload_n C dX8_keepsError_78 rfl (j := 0) rfl ?_
    refine v_getR C 14 rfl (T := TX8) rfl inB8 (by decide) (by decide) rfl tw_1154 dX8_keepsError_79 (fun x6 => ?_)
    refine v_iload_n C dX8_keepsError_82 rfl (j := 2) rfl ?_
    refine v_iconst C dX8_keepsError_83 ?_
    refine v_iadd C dX8_keepsError_84 ?_
    refine v_iald C dX8_keepsError_85 (fun x7 => ?_)
    refine v_imul C dX8_keepsError_86 ?_
    refine v_iadd C dX8_keepsError_87 ?_
    refine v_iload_n C dX8_keepsError_88 rfl (j := 1) rfl ?_
    refine v_iast C dX8_keepsError_89 (fun s8 => ?_)
    refine v_aload_n C dX8_keepsError_90 rfl (j := 0) rfl ?_
    refine v_getR C 14 rfl (T := TX8) rfl inB8 (by decide) (by decide) rfl tw_1154 dX8_keepsError_91 (fun x9 => ?_)
    refine v_iload_n C dX8_keepsError_94 rfl (j := 2) rfl ?_
    refine v_iconst C dX8_keepsError_95 ?_
    refine v_iadd C dX8_keepsError_96 ?_
    refine v_iconst C dX8_keepsError_97 ?_
    refine v_aload_n C dX8_keepsError_98 rfl (j := 0) rfl ?_
    refine v_getR C 14 rfl (T := TX8) rfl inB8 (by decide) (by decide) rfl tw_1154 dX8_keepsError_99 (fun x10 => ?_)
    refine v_iload_n C dX8_keepsError_102 rfl (j := 2) rfl ?_
    refine v_iconst C dX8_keepsError_103 ?_
    refine v_iadd C dX8_keepsError_104 ?_
    refine v_iald C dX8_keepsError_105 (fun x11 => ?_)
    refine v_imul C dX8_keepsError_106 ?_
    refine v_iadd C dX8_keepsError_107 ?_
    refine v_iconst C dX8_keepsError_108 ?_
    refine v_iadd C dX8_keepsError_109 ?_
    refine v_aload_n C dX8_keepsError_110 rfl (j := 0) rfl ?_
    refine v_getR C 14 rfl (T := TX8) rfl inB8 (by decide) (by decide) rfl tw_1154 dX8_keepsError_111 (fun x12 => ?_)
    refine v_iconst C dX8_keepsError_114 ?_
    refine v_iald C dX8_keepsError_115 (fun x13 => ?_)
    refine v_iast C dX8_keepsError_116 (fun s14 => ?_)
    refine v_aload_n C dX8_keepsError_117 rfl (j := 0) rfl ?_
    refine v_getR C 14 rfl (T := TX8) rfl inB8 (by decide) (by decide) rfl tw_1154 dX8_keepsError_118 (fun x15 => ?_)
    refine v_iload_n C dX8_keepsError_121 rfl (j := 2) rfl ?_
    refine v_iconst C dX8_keepsError_122 ?_
    refine v_iadd C dX8_keepsError_123 ?_
    refine v_bdI (fun x16 => ?_)
    refine v_dup2 C dX8_keepsError_124 rfl rfl ?_
    refine v_iald C dX8_keepsError_125 (fun x17 => ?_)
    refine v_iconst C dX8_keepsError_126 ?_
    refine v_iadd C dX8_keepsError_127 ?_
    refine v_iast C dX8_keepsError_128 (fun s18 => ?_)
    exact v_vret C rfl hO (fun h => Option.some.inj h) dX8_keepsError_129
  intro k70 hk70
  refine v_icmp_ne (tgt := 70) C dX8_keepsError_15 rfl ?_ ?_
  · skip
    refine v_sub [(0, A w a0), (2, I a2), (3, I x1)] [1, 3, 0] rfl ?_
    exact hk70 s
  · skip
    refine v_iconst C dX8_keepsError_18 ?_
    refine v_istore C [(4, I 2), (3, I x1), (0, A w a0), (1, I a1), (2, I a2)] dX8_keepsError_19 (by decide) rfl ?_
    refine v_sub [(0, A w a0), (2, I a2), (3, I x1), (4, I 2)] [2, 4, 1, 0] rfl ?_
    refine vX8_keepsError_L21 res hRm C hO a0 a2 x1 _ ?_ 1000 2 s
    · intro s24
      refine v_aload_n C dX8_keepsError_58 rfl (j := 0) rfl ?_
      refine v_getR C 14 rfl (T := TX8) rfl inB8 (by decide) (by decide) rfl tw_1154 dX8_keepsError_59 (fun x25 => ?_)
      refine v_iload_n C dX8_keepsError_62 rfl (j := 2) rfl ?_
      refine v_iconst C dX8_keepsError_63 ?_
      refine v_iadd C dX8_keepsError_64 ?_
      refine v_bdI (fun x26 => ?_)
      refine v_dup2 C dX8_keepsError_65 rfl rfl ?_
      refine v_iald C dX8_keepsError_66 (fun x27 => ?_)
      refine v_iconst C dX8_keepsError_67 ?_
      refine v_isub C dX8_keepsError_68 ?_
      refine v_iast C dX8_keepsError_69 (fun s28 => ?_)
      exact hk70 s28
-- ForesightHubModel.scoreThen
set_option maxRecDepth 100000 in
theorem vX8_scoreThen_L2 {X : Cxt} {w : Wd} {P : Shp} {n : Nat} (res : Int × St) (hRm : X.2.2.2.1 = rX8_scoreThen) (C : Cok X w cX8_scoreThen 5 RX8 (some FieldType.int)) (hO : Own X w 0 0 (QI w P n res.1 res.2))  (c0 : Int) (c1 : Int) (c2 : Int) (kE31 : St → Option (Int × St)) (hE31 : ∀ (se : St), V X w 5 P n 0 0 res (kE31 se) se 31 [(0, A w c0), (1, I c1), (2, I c2)] []) : ∀ (fuel : Nat) (p3 : Int) (s : St), V X w 5 P n 0 0 res (fX8_scoreThen_L2 P c0 c1 c2 kE31 fuel p3 s) s 2 [(0, A w c0), (1, I c1), (2, I c2), (3, I p3)] [] := by
  intro fuel
  induction fuel with
  | zero => intro p3 s; exact v_none
  | succ m ih =>
    intro p3 s
    rw [fX8_scoreThen_L2]
    refine v_iload_n C dX8_scoreThen_2 rfl (j := 3) rfl ?_
    refine v_bipush C dX8_scoreThen_3 (by decide) ?_
    refine v_icmp_ge (tgt := 31) C dX8_scoreThen_5 rfl ?_ ?_
    · skip
      refine v_sub [(0, A w c0), (1, I c1), (2, I c2)] [0, 1, 2] rfl ?_
      exact hE31 s
    · skip
      refine v_aload_n C dX8_scoreThen_8 rfl (j := 0) rfl ?_
      refine v_getR C 22 rfl (T := TX8) rfl inB8 (by decide) (by decide) rfl tw_1162 dX8_scoreThen_9 (fun x1 => ?_)
      refine v_iload_n C dX8_scoreThen_12 rfl (j := 3) rfl ?_
      refine v_aload_n C dX8_scoreThen_13 rfl (j := 0) rfl ?_
      refine v_getR C 14 rfl (T := TX8) rfl inB8 (by decide) (by decide) rfl tw_1154 dX8_scoreThen_14 (fun x2 => ?_)
      refine v_iload_n C dX8_scoreThen_17 rfl (j := 1) rfl ?_
      refine v_callS_rI C [I c1] [A w x2, I p3, A w x1] (Cee.of (rm := rX8_at) tw_1088 tw_9 hX8_at rfl rfl hRm (Nat.le_of_ble_eq_true rfl) (Nat.le_of_ble_eq_true rfl)) (fun x h => kX8_at X.2.1 w P n h) tw_1086 tw_1087 rfl rfl (Nat.le_of_ble_eq_true rfl) ⟨Nat.zero_le _, Nat.zero_le _⟩ dX8_scoreThen_18 (fun x3 => ?_)
      refine v_iload_n C dX8_scoreThen_21 rfl (j := 3) rfl ?_
      refine v_iadd C dX8_scoreThen_22 ?_
      refine v_iald C dX8_scoreThen_23 (fun x4 => ?_)
      refine v_iast C dX8_scoreThen_24 (fun s5 => ?_)
      refine v_iinc C (j := 3) [(0, A w c0), (1, I c1), (2, I c2)] dX8_scoreThen_25 (by decide) rfl (fun _ => rfl) (fun x6 => ?_)
      refine v_goto (tgt := 2) C dX8_scoreThen_28 rfl ?_
      refine v_sub [(0, A w c0), (1, I c1), (2, I c2), (3, I x6)] [1, 2, 3, 0] rfl ?_
      exact ih x6 s5
set_option maxRecDepth 100000 in
theorem vX8_scoreThen_L46 {X : Cxt} {w : Wd} {P : Shp} {n : Nat} (res : Int × St) (hRm : X.2.2.2.1 = rX8_scoreThen) (C : Cok X w cX8_scoreThen 5 RX8 (some FieldType.int)) (hO : Own X w 0 0 (QI w P n res.1 res.2))  (c0 : Int) (c1 : Int) (c3 : Int) (kE78 : St → Option (Int × St)) (hE78 : ∀ (se : St), V X w 5 P n 0 0 res (kE78 se) se 78 [(3, I c3)] []) : ∀ (fuel : Nat) (p4 : Int) (s : St), V X w 5 P n 0 0 res (fX8_scoreThen_L46 P c0 c1 c3 kE78 fuel p4 s) s 46 [(0, A w c0), (1, I c1), (3, I c3), (4, I p4)] [] := by
  intro fuel
  induction fuel with
  | zero => intro p4 s; exact v_none
  | succ m ih =>
    intro p4 s
    rw [fX8_scoreThen_L46]
    refine v_iload C dX8_scoreThen_46 (j := 3) rfl ?_
    refine v_bipush C dX8_scoreThen_48 (by decide) ?_
    refine v_icmp_ge (tgt := 78) C dX8_scoreThen_50 rfl ?_ ?_
    · skip
      refine v_sub [(3, I c3)] [2] rfl ?_
      exact hE78 s
    · skip
      refine v_aload_n C dX8_scoreThen_53 rfl (j := 0) rfl ?_
      refine v_getR C 14 rfl (T := TX8) rfl inB8 (by decide) (by decide) rfl tw_1154 dX8_scoreThen_54 (fun x10 => ?_)
      refine v_iload_n C dX8_scoreThen_57 rfl (j := 1) rfl ?_
      refine v_callS_rI C [I c1] [A w x10] (Cee.of (rm := rX8_at) tw_1088 tw_9 hX8_at rfl rfl hRm (Nat.le_of_ble_eq_true rfl) (Nat.le_of_ble_eq_true rfl)) (fun x h => kX8_at X.2.1 w P n h) tw_1086 tw_1087 rfl rfl (Nat.le_of_ble_eq_true rfl) ⟨Nat.zero_le _, Nat.zero_le _⟩ dX8_scoreThen_58 (fun x11 => ?_)
      refine v_iload C dX8_scoreThen_61 (j := 3) rfl ?_
      refine v_iadd C dX8_scoreThen_63 ?_
      refine v_aload_n C dX8_scoreThen_64 rfl (j := 0) rfl ?_
      refine v_getR C 22 rfl (T := TX8) rfl inB8 (by decide) (by decide) rfl tw_1162 dX8_scoreThen_65 (fun x12 => ?_)
      refine v_iload C dX8_scoreThen_68 (j := 3) rfl ?_
      refine v_iald C dX8_scoreThen_70 (fun x13 => ?_)
      refine v_iast C dX8_scoreThen_71 (fun s14 => ?_)
      refine v_iinc C (j := 3) [(0, A w c0), (1, I c1), (3, I c3)] dX8_scoreThen_72 (by decide) rfl (fun _ => rfl) (fun x15 => ?_)
      refine v_goto (tgt := 46) C dX8_scoreThen_75 rfl ?_
      refine v_sub [(0, A w c0), (1, I c1), (3, I c3), (4, I x15)] [1, 2, 3, 0] rfl ?_
      exact ih x15 s14
theorem hX8_scoreThen : yX8_scoreThen.cls ≠ "java/lang/invoke/MethodHandle" ∧ yX8_scoreThen.cls ≠ "java/lang/invoke/VarHandle" ∧ (parseMethodDescriptor yX8_scoreThen.desc).map (fun d => d.parameters.length) = some 2 := by decide +kernel
set_option maxRecDepth 100000 in
theorem kX8_scoreThen (l : Launch) (w : Wd) (P : Shp) (n : Nat) {s : St} {a0 : Int} {a1 : Int} {a2 : Int} {res : Int × St} (h : fX8_scoreThen P s a0 a1 a2 = some res) : Ct l w yX8_scoreThen cX8_scoreThen 5 (some FieldType.int) rX8_scoreThen P n [A w a0, I a1, I a2] s (QI w P n res.1 res.2) :=
  Ct.of h (by decide) (Nat.le_of_ble_eq_true rfl) (lv := [(0, A w a0), (1, I a1), (2, I a2)]) rfl fun X hl hRm C hO => by
  subst hl
  unfold fX8_scoreThen
  refine v_iconst C dX8_scoreThen_0 ?_
  refine v_istore_n C [(3, I 0), (0, A w a0), (1, I a1), (2, I a2)] dX8_scoreThen_1 rfl (by decide) rfl ?_
  refine v_sub [(0, A w a0), (1, I a1), (2, I a2), (3, I 0)] [1, 2, 3, 0] rfl ?_
  refine vX8_scoreThen_L2 res hRm C hO a0 a1 a2 _ ?_ 1000 0 s
  · intro s7
    refine v_aload_n C dX8_scoreThen_31 rfl (j := 0) rfl ?_
    refine v_iload_n C dX8_scoreThen_32 rfl (j := 1) rfl ?_
    refine v_iload_n C dX8_scoreThen_33 rfl (j := 2) rfl ?_
    refine v_callV_wV C [I a1, I a2] [] (Cee.of (rm := rX8_keepsError) tw_1391 tw_9 hX8_keepsError rfl rfl hRm (Nat.le_of_ble_eq_true rfl) (Nat.le_of_ble_eq_true rfl)) (fun x h => kX8_keepsError X.2.1 w P n h) tw_1388 tw_1390 ts_80 rfl (ci := 8) rfl (by decide) rfl rfl (Nat.le_of_ble_eq_true rfl) ⟨Nat.zero_le _, Nat.zero_le _⟩ dX8_scoreThen_34 (fun s8 => ?_)
    refine v_aload_n C dX8_scoreThen_37 rfl (j := 0) rfl ?_
    refine v_iload_n C dX8_scoreThen_38 rfl (j := 1) rfl ?_
    refine v_callV_rI C [I a1] [] (Cee.of (rm := rX8_scoreOf) tw_1335 tw_9 hX8_scoreOf rfl rfl hRm (Nat.le_of_ble_eq_true rfl) (Nat.le_of_ble_eq_true rfl)) (fun x h => kX8_scoreOf X.2.1 w P n h) tw_1332 tw_1334 ts_71 rfl (ci := 8) rfl (by decide) rfl rfl (Nat.le_of_ble_eq_true rfl) ⟨Nat.zero_le _, Nat.zero_le _⟩ dX8_scoreThen_39 (fun x9 => ?_)
    refine v_istore_n C [(3, I x9), (0, A w a0), (1, I a1), (2, I a2)] dX8_scoreThen_42 rfl (by decide) rfl ?_
    refine v_iconst C dX8_scoreThen_43 ?_
    refine v_istore C [(4, I 0), (3, I x9), (0, A w a0), (1, I a1), (2, I a2)] dX8_scoreThen_44 (by decide) rfl ?_
    refine v_sub [(0, A w a0), (1, I a1), (3, I x9), (4, I 0)] [2, 3, 1, 0] rfl ?_
    refine vX8_scoreThen_L46 res hRm C hO a0 a1 x9 _ ?_ 1000 0 s8
    · intro s16
      refine v_iload_n C dX8_scoreThen_78 rfl (j := 0) rfl ?_
      exact v_iret C rfl hO pI dX8_scoreThen_79
-- ForesightHubModel.size
theorem hX8_size : yX8_size.cls ≠ "java/lang/invoke/MethodHandle" ∧ yX8_size.cls ≠ "java/lang/invoke/VarHandle" ∧ (parseMethodDescriptor yX8_size.desc).map (fun d => d.parameters.length) = some 1 := by decide +kernel
set_option maxRecDepth 100000 in
theorem kX8_size (l : Launch) (w : Wd) (P : Shp) (n : Nat) {s : St} {a0 : Int} {a1 : Int} {res : Int × St} (h : fX8_size P s a0 a1 = some res) : Ct l w yX8_size cX8_size 2 (some FieldType.int) rX8_size P n [A w a0, I a1] s (QI w P n res.1 res.2) :=
  Ct.of h (by decide) (Nat.le_of_ble_eq_true rfl) (lv := [(0, A w a0), (1, I a1)]) rfl fun X hl hRm C hO => by
  subst hl
  unfold fX8_size
  refine v_aload_n C dX8_size_0 rfl (j := 0) rfl ?_
  refine v_iload_n C dX8_size_1 rfl (j := 1) rfl ?_
  refine v_iconst C dX8_size_2 ?_
  refine v_bipush C dX8_size_3 (by decide) ?_
  refine v_callS_rI C [I a1, I 0, I 9] [A w a0] (Cee.of (rm := rX8_within) tw_1228 tw_9 hX8_within rfl rfl hRm (Nat.le_of_ble_eq_true rfl) (Nat.le_of_ble_eq_true rfl)) (fun x h => kX8_within X.2.1 w P n h) tw_1226 tw_1227 rfl rfl (Nat.le_of_ble_eq_true rfl) ⟨Nat.zero_le _, Nat.zero_le _⟩ dX8_size_5 (fun x1 => ?_)
  refine v_jnt (fun (k16 : Int → Option (Int × St)) => ∀ (x2 : Int), V X w 2 P n 0 0 res (k16 x2) s 16 [(0, A w a0), (1, I a1)] [I x2, A w a0]) ?_ ?_
  · intro x2
    refine v_putI C 0 rfl (T := TX8) rfl inB8 (by decide) tyX8_ok nmX8 (by decide) rfl rfl tw_1140 dX8_size_16 rfl (fun s3 => ?_)
    refine v_aload_n C dX8_size_19 rfl (j := 0) rfl ?_
    refine v_getI C 0 rfl (T := TX8) rfl inB8 (by decide) (by decide) rfl tw_1140 dX8_size_20 (fun x4 => ?_)
    refine v_if_le (tgt := 28) C dX8_size_23 rfl ?_ ?_
    · skip
      refine v_iload_n C dX8_size_28 rfl (j := 1) rfl ?_
      refine v_iconst C dX8_size_29 ?_
      refine v_icmp_ge (tgt := 40) C dX8_size_30 rfl ?_ ?_
      · skip
        refine v_iload_n C dX8_size_40 rfl (j := 1) rfl ?_
        refine v_tsw C (vals := [5, 6, 7, 8]) (tgts := [72, 79, 84, 91]) (dt := 99) dX8_size_41 rfl rfl (by decide) ?_ ?_
        · skip
          refine v_sw_cons ?_ ?_
          · skip
            refine v_aload_n C dX8_size_72 rfl (j := 0) rfl ?_
            refine v_getR C 14 rfl (T := TX8) rfl inB8 (by decide) (by decide) rfl tw_1154 dX8_size_73 (fun x5 => ?_)
            refine v_iconst C dX8_size_76 ?_
            refine v_iald C dX8_size_77 (fun x6 => ?_)
            exact v_iret C rfl hO pI dX8_size_78
          refine v_sw_cons ?_ ?_
          · skip
            refine v_aload_n C dX8_size_79 rfl (j := 0) rfl ?_
            refine v_callV_rI C [] [] (Cee.of (rm := rX8_reserved) tw_1139 tw_9 hX8_reserved rfl rfl hRm (Nat.le_of_ble_eq_true rfl) (Nat.le_of_ble_eq_true rfl)) (fun x h => kX8_reserved X.2.1 w P n h) tw_1136 tw_1138 ts_50 rfl (ci := 8) rfl (by decide) rfl rfl (Nat.le_of_ble_eq_true rfl) ⟨Nat.zero_le _, Nat.zero_le _⟩ dX8_size_80 (fun x7 => ?_)
            exact v_iret C rfl hO pI dX8_size_83
          refine v_sw_cons ?_ ?_
          · skip
            refine v_aload_n C dX8_size_84 rfl (j := 0) rfl ?_
            refine v_getR C 14 rfl (T := TX8) rfl inB8 (by decide) (by decide) rfl tw_1154 dX8_size_85 (fun x8 => ?_)
            refine v_iconst C dX8_size_88 ?_
            refine v_iald C dX8_size_89 (fun x9 => ?_)
            exact v_iret C rfl hO pI dX8_size_90
          refine v_sw_cons ?_ ?_
          · skip
            refine v_aload_n C dX8_size_91 rfl (j := 0) rfl ?_
            refine v_getR C 11 rfl (T := TX8) rfl inB8 (by decide) (by decide) rfl tw_1151 dX8_size_92 (fun x10 => ?_)
            refine v_bipush C dX8_size_95 (by decide) ?_
            refine v_iald C dX8_size_97 (fun x11 => ?_)
            exact v_iret C rfl hO pI dX8_size_98
          exact v_sw_nil
        · skip
          refine v_aload_n C dX8_size_99 rfl (j := 0) rfl ?_
          refine v_getI C 18 rfl (T := TX8) rfl inB8 (by decide) (by decide) rfl tw_1158 dX8_size_100 (fun x12 => ?_)
          exact v_iret C rfl hO pI dX8_size_103
      · skip
        refine v_aload_n C dX8_size_33 rfl (j := 0) rfl ?_
        refine v_getR C 11 rfl (T := TX8) rfl inB8 (by decide) (by decide) rfl tw_1151 dX8_size_34 (fun x13 => ?_)
        refine v_iload_n C dX8_size_37 rfl (j := 1) rfl ?_
        refine v_iald C dX8_size_38 (fun x14 => ?_)
        exact v_iret C rfl hO pI dX8_size_39
    · skip
      refine v_iconst C dX8_size_26 ?_
      exact v_iret C rfl hO pI dX8_size_27
  intro k16 hk16
  refine v_if_eq (tgt := 15) C dX8_size_8 rfl ?_ ?_
  · skip
    refine v_iconst C dX8_size_15 ?_
    exact hk16 1
  · skip
    refine v_iconst C dX8_size_11 ?_
    refine v_goto (tgt := 16) C dX8_size_12 rfl ?_
    exact hk16 0
-- ForesightHubModel.atPort
set_option maxRecDepth 100000 in
theorem vX8_atPort_L2 {X : Cxt} {w : Wd} {P : Shp} {n : Nat} {s : St} (res : Int) (hRm : X.2.2.2.1 = rX8_atPort) (C : Cok X w cX8_atPort 3 RX8 (some FieldType.int)) (hO : Own X w 0 0 (QI w P n res s))  (c0 : Int) (c1 : Int) (kE33 : Option (Int)) (kE25 : Int → Option (Int)) (hE33 : V X w 3 P n 0 0 res (kE33) s 33 [] []) (hE25 : ∀ (p2e : Int), V X w 3 P n 0 0 res (kE25 p2e) s 25 [(2, I p2e)] []) : ∀ (fuel : Nat) (p2 : Int), V X w 3 P n 0 0 res (fX8_atPort_L2 P s c0 c1 kE33 kE25 fuel p2) s 2 [(0, A w c0), (1, I c1), (2, I p2)] [] := by
  intro fuel
  induction fuel with
  | zero => intro p2; exact v_none
  | succ m ih =>
    intro p2
    rw [fX8_atPort_L2]
    refine v_iload_n C dX8_atPort_2 rfl (j := 2) rfl ?_
    refine v_aload_n C dX8_atPort_3 rfl (j := 0) rfl ?_
    refine v_callV_rI C [] [I p2] (Cee.of (rm := rX8_devices) tw_1085 tw_9 hX8_devices rfl rfl hRm (Nat.le_of_ble_eq_true rfl) (Nat.le_of_ble_eq_true rfl)) (fun x h => kX8_devices X.2.1 w P n h) tw_1082 tw_1084 ts_38 rfl (ci := 8) rfl (by decide) rfl rfl (Nat.le_of_ble_eq_true rfl) ⟨Nat.zero_le _, Nat.zero_le _⟩ dX8_atPort_4 (fun x1 => ?_)
    refine v_icmp_ge (tgt := 33) C dX8_atPort_7 rfl ?_ ?_
    · skip
      refine v_sub [] [] rfl ?_
      exact hE33
    · skip
      refine v_aload_n C dX8_atPort_10 rfl (j := 0) rfl ?_
      refine v_getR C 14 rfl (T := TX8) rfl inB8 (by decide) (by decide) rfl tw_1154 dX8_atPort_11 (fun x2 => ?_)
      refine v_iload_n C dX8_atPort_14 rfl (j := 2) rfl ?_
      refine v_callS_rI C [I p2] [A w x2] (Cee.of (rm := rX8_at) tw_1088 tw_9 hX8_at rfl rfl hRm (Nat.le_of_ble_eq_true rfl) (Nat.le_of_ble_eq_true rfl)) (fun x h => kX8_at X.2.1 w P n h) tw_1086 tw_1087 rfl rfl (Nat.le_of_ble_eq_true rfl) ⟨Nat.zero_le _, Nat.zero_le _⟩ dX8_atPort_15 (fun x3 => ?_)
      refine v_iconst C dX8_atPort_18 ?_
      refine v_iadd C dX8_atPort_19 ?_
      refine v_iald C dX8_atPort_20 (fun x4 => ?_)
      refine v_iload_n C dX8_atPort_21 rfl (j := 1) rfl ?_
      refine v_icmp_ne (tgt := 27) C dX8_atPort_22 rfl ?_ ?_
      · skip
        refine v_iinc C (j := 2) [(0, A w c0), (1, I c1)] dX8_atPort_27 (by decide) rfl (fun _ => rfl) (fun x5 => ?_)
        refine v_goto (tgt := 2) C dX8_atPort_30 rfl ?_
        refine v_sub [(0, A w c0), (1, I c1), (2, I x5)] [1, 2, 0] rfl ?_
        exact ih x5
      · skip
        refine v_sub [(2, I p2)] [2] rfl ?_
        exact hE25 p2
theorem hX8_atPort : yX8_atPort.cls ≠ "java/lang/invoke/MethodHandle" ∧ yX8_atPort.cls ≠ "java/lang/invoke/VarHandle" ∧ (parseMethodDescriptor yX8_atPort.desc).map (fun d => d.parameters.length) = some 1 := by decide +kernel
set_option maxRecDepth 100000 in
theorem kX8_atPort (l : Launch) (w : Wd) (P : Shp) (n : Nat) {s : St} {a0 : Int} {a1 : Int} {res : Int} (h : fX8_atPort P s a0 a1 = some res) : Ct l w yX8_atPort cX8_atPort 3 (some FieldType.int) rX8_atPort P n [A w a0, I a1] s (QI w P n res s) :=
  Ct.of h (by decide) (Nat.le_of_ble_eq_true rfl) (lv := [(0, A w a0), (1, I a1)]) rfl fun X hl hRm C hO => by
  subst hl
  unfold fX8_atPort
  refine v_iconst C dX8_atPort_0 ?_
  refine v_istore_n C [(2, I 0), (0, A w a0), (1, I a1)] dX8_atPort_1 rfl (by decide) rfl ?_
  refine v_sub [(0, A w a0), (1, I a1), (2, I 0)] [1, 2, 0] rfl ?_
  refine vX8_atPort_L2 res hRm C hO a0 a1 _ _ ?_ ?_ 1000 0
  · skip
    refine v_iconst C dX8_atPort_33 ?_
    exact v_iret C rfl hO pS dX8_atPort_34
  · intro x6
    refine v_iload_n C dX8_atPort_25 rfl (j := 0) rfl ?_
    exact v_iret C rfl hO pS dX8_atPort_26
-- ForesightHubModel.deviceAt
theorem hX8_deviceAt : yX8_deviceAt.cls ≠ "java/lang/invoke/MethodHandle" ∧ yX8_deviceAt.cls ≠ "java/lang/invoke/VarHandle" ∧ (parseMethodDescriptor yX8_deviceAt.desc).map (fun d => d.parameters.length) = some 1 := by decide +kernel
set_option maxRecDepth 100000 in
theorem kX8_deviceAt (l : Launch) (w : Wd) (P : Shp) (n : Nat) {s : St} {a0 : Int} {a1 : Int} {res : Int × St} (h : fX8_deviceAt P s a0 a1 = some res) : Ct l w yX8_deviceAt cX8_deviceAt 2 (some FieldType.int) rX8_deviceAt P n [A w a0, I a1] s (QI w P n res.1 res.2) :=
  Ct.of h (by decide) (Nat.le_of_ble_eq_true rfl) (lv := [(0, A w a0), (1, I a1)]) rfl fun X hl hRm C hO => by
  subst hl
  unfold fX8_deviceAt
  refine v_aload_n C dX8_deviceAt_0 rfl (j := 0) rfl ?_
  refine v_iload_n C dX8_deviceAt_1 rfl (j := 1) rfl ?_
  refine v_iconst C dX8_deviceAt_2 ?_
  refine v_aload_n C dX8_deviceAt_3 rfl (j := 0) rfl ?_
  refine v_getR C 11 rfl (T := TX8) rfl inB8 (by decide) (by decide) rfl tw_1151 dX8_deviceAt_4 (fun x1 => ?_)
  refine v_iconst C dX8_deviceAt_7 ?_
  refine v_iald C dX8_deviceAt_8 (fun x2 => ?_)
  refine v_iconst C dX8_deviceAt_9 ?_
  refine v_isub C dX8_deviceAt_10 ?_
  refine v_callS_rI C [I a1, I 0, I (x2 - 1)] [A w a0] (Cee.of (rm := rX8_within) tw_1228 tw_9 hX8_within rfl rfl hRm (Nat.le_of_ble_eq_true rfl) (Nat.le_of_ble_eq_true rfl)) (fun x h => kX8_within X.2.1 w P n h) tw_1226 tw_1227 rfl rfl (Nat.le_of_ble_eq_true rfl) ⟨Nat.zero_le _, Nat.zero_le _⟩ dX8_deviceAt_11 (fun x3 => ?_)
  refine v_jnt (fun (k22 : Int → Option (Int × St)) => ∀ (x4 : Int), V X w 2 P n 0 0 res (k22 x4) s 22 [(0, A w a0), (1, I a1)] [I x4, A w a0]) ?_ ?_
  · intro x4
    refine v_putI C 0 rfl (T := TX8) rfl inB8 (by decide) tyX8_ok nmX8 (by decide) rfl rfl tw_1140 dX8_deviceAt_22 rfl (fun s5 => ?_)
    refine v_aload_n C dX8_deviceAt_25 rfl (j := 0) rfl ?_
    refine v_getI C 0 rfl (T := TX8) rfl inB8 (by decide) (by decide) rfl tw_1140 dX8_deviceAt_26 (fun x6 => ?_)
    refine v_if_ne (tgt := 40) C dX8_deviceAt_29 rfl ?_ ?_
    · skip
      refine v_iconst C dX8_deviceAt_40 ?_
      exact v_iret C rfl hO pI dX8_deviceAt_41
    · skip
      refine v_aload_n C dX8_deviceAt_32 rfl (j := 0) rfl ?_
      refine v_iload_n C dX8_deviceAt_33 rfl (j := 1) rfl ?_
      refine v_callV_rI C [I a1] [] (Cee.of (rm := rX8_atPort) tw_1323 tw_9 hX8_atPort rfl rfl hRm (Nat.le_of_ble_eq_true rfl) (Nat.le_of_ble_eq_true rfl)) (fun x h => kX8_atPort X.2.1 w P n h) tw_1320 tw_1322 ts_69 rfl (ci := 8) rfl (by decide) rfl rfl (Nat.le_of_ble_eq_true rfl) ⟨Nat.zero_le _, Nat.zero_le _⟩ dX8_deviceAt_34 (fun x7 => ?_)
      refine v_goto (tgt := 41) C dX8_deviceAt_37 rfl ?_
      exact v_iret C rfl hO pI dX8_deviceAt_41
  intro k22 hk22
  refine v_if_eq (tgt := 21) C dX8_deviceAt_14 rfl ?_ ?_
  · skip
    refine v_iconst C dX8_deviceAt_21 ?_
    exact hk22 1
  · skip
    refine v_iconst C dX8_deviceAt_17 ?_
    refine v_goto (tgt := 22) C dX8_deviceAt_18 rfl ?_
    exact hk22 0
-- ForesightHubModel.isHeldBy
theorem hX8_isHeldBy : yX8_isHeldBy.cls ≠ "java/lang/invoke/MethodHandle" ∧ yX8_isHeldBy.cls ≠ "java/lang/invoke/VarHandle" ∧ (parseMethodDescriptor yX8_isHeldBy.desc).map (fun d => d.parameters.length) = some 2 := by decide +kernel
set_option maxRecDepth 100000 in
theorem kX8_isHeldBy (l : Launch) (w : Wd) (P : Shp) (n : Nat) {s : St} {a0 : Int} {a1 : Int} {a2 : Int} {res : Int} (h : fX8_isHeldBy P s a0 a1 a2 = some res) : Ct l w yX8_isHeldBy cX8_isHeldBy 3 (some FieldType.boolean) rX8_isHeldBy P n [A w a0, I a1, I a2] s (QI w P n res s) :=
  Ct.of h (by decide) (Nat.le_of_ble_eq_true rfl) (lv := [(0, A w a0), (1, I a1), (2, I a2)]) rfl fun X hl hRm C hO => by
  subst hl
  unfold fX8_isHeldBy
  refine v_aload_n C dX8_isHeldBy_0 rfl (j := 0) rfl ?_
  refine v_getR C 14 rfl (T := TX8) rfl inB8 (by decide) (by decide) rfl tw_1154 dX8_isHeldBy_1 (fun x1 => ?_)
  refine v_iload_n C dX8_isHeldBy_4 rfl (j := 1) rfl ?_
  refine v_callS_rI C [I a1] [A w x1] (Cee.of (rm := rX8_in) tw_1095 tw_9 hX8_in rfl rfl hRm (Nat.le_of_ble_eq_true rfl) (Nat.le_of_ble_eq_true rfl)) (fun x h => kX8_in X.2.1 w P n h) tw_1093 tw_1094 rfl rfl (Nat.le_of_ble_eq_true rfl) ⟨Nat.zero_le _, Nat.zero_le _⟩ dX8_isHeldBy_5 (fun x2 => ?_)
  refine v_iald C dX8_isHeldBy_8 (fun x3 => ?_)
  refine v_if_eq (tgt := 31) C dX8_isHeldBy_9 rfl ?_ ?_
  · skip
    refine v_iconst C dX8_isHeldBy_31 ?_
    exact v_zret C rfl hO pS dX8_isHeldBy_32
  · skip
    refine v_aload_n C dX8_isHeldBy_12 rfl (j := 0) rfl ?_
    refine v_getR C 14 rfl (T := TX8) rfl inB8 (by decide) (by decide) rfl tw_1154 dX8_isHeldBy_13 (fun x4 => ?_)
    refine v_iload_n C dX8_isHeldBy_16 rfl (j := 1) rfl ?_
    refine v_callS_rI C [I a1] [A w x4] (Cee.of (rm := rX8_in) tw_1095 tw_9 hX8_in rfl rfl hRm (Nat.le_of_ble_eq_true rfl) (Nat.le_of_ble_eq_true rfl)) (fun x h => kX8_in X.2.1 w P n h) tw_1093 tw_1094 rfl rfl (Nat.le_of_ble_eq_true rfl) ⟨Nat.zero_le _, Nat.zero_le _⟩ dX8_isHeldBy_17 (fun x5 => ?_)
    refine v_iconst C dX8_isHeldBy_20 ?_
    refine v_iadd C dX8_isHeldBy_21 ?_
    refine v_iald C dX8_isHeldBy_22 (fun x6 => ?_)
    refine v_iload_n C dX8_isHeldBy_23 rfl (j := 2) rfl ?_
    refine v_icmp_ne (tgt := 31) C dX8_isHeldBy_24 rfl ?_ ?_
    · skip
      refine v_iconst C dX8_isHeldBy_31 ?_
      exact v_zret C rfl hO pS dX8_isHeldBy_32
    · skip
      refine v_iconst C dX8_isHeldBy_27 ?_
      refine v_goto (tgt := 32) C dX8_isHeldBy_28 rfl ?_
      exact v_zret C rfl hO pS dX8_isHeldBy_32
-- ForesightHubModel.holding
set_option maxRecDepth 100000 in
theorem vX8_holding_L4 {X : Cxt} {w : Wd} {P : Shp} {n : Nat} {s : St} (res : Int) (hRm : X.2.2.2.1 = rX8_holding) (C : Cok X w cX8_holding 4 RX8 (some FieldType.int)) (hO : Own X w 0 0 (QI w P n res s))  (c0 : Int) (c1 : Int) (kE37 : Int → Option (Int)) (hE37 : ∀ (p2e : Int), V X w 4 P n 0 0 res (kE37 p2e) s 37 [(2, I p2e)] []) : ∀ (fuel : Nat) (p2 p3 : Int), V X w 4 P n 0 0 res (fX8_holding_L4 P s c0 c1 kE37 fuel p2 p3) s 4 [(0, A w c0), (1, I c1), (2, I p2), (3, I p3)] [] := by
  intro fuel
  induction fuel with
  | zero => intro p2 p3; exact v_none
  | succ m ih =>
    intro p2 p3
    rw [fX8_holding_L4]
    refine v_iload_n C dX8_holding_4 rfl (j := 3) rfl ?_
    refine v_aload_n C dX8_holding_5 rfl (j := 0) rfl ?_
    refine v_callV_rI C [] [I p3] (Cee.of (rm := rX8_streams) tw_1092 tw_9 hX8_streams rfl rfl hRm (Nat.le_of_ble_eq_true rfl) (Nat.le_of_ble_eq_true rfl)) (fun x h => kX8_streams X.2.1 w P n h) tw_1089 tw_1091 ts_39 rfl (ci := 8) rfl (by decide) rfl rfl (Nat.le_of_ble_eq_true rfl) ⟨Nat.zero_le _, Nat.zero_le _⟩ dX8_holding_6 (fun x1 => ?_)
    refine v_icmp_ge (tgt := 37) C dX8_holding_9 rfl ?_ ?_
    · skip
      refine v_sub [(2, I p2)] [2] rfl ?_
      exact hE37 p2
    · skip
      refine v_iload_n C dX8_holding_12 rfl (j := 2) rfl ?_
      refine v_aload_n C dX8_holding_13 rfl (j := 0) rfl ?_
      refine v_iload_n C dX8_holding_14 rfl (j := 3) rfl ?_
      refine v_iload_n C dX8_holding_15 rfl (j := 1) rfl ?_
      refine v_callV_rI C [I p3, I c1] [I p2] (Cee.of (rm := rX8_isHeldBy) tw_1351 tw_9 hX8_isHeldBy rfl rfl hRm (Nat.le_of_ble_eq_true rfl) (Nat.le_of_ble_eq_true rfl)) (fun x h => kX8_isHeldBy X.2.1 w P n h) tw_1348 tw_1350 ts_75 rfl (ci := 8) rfl (by decide) rfl rfl (Nat.le_of_ble_eq_true rfl) ⟨Nat.zero_le _, Nat.zero_le _⟩ dX8_holding_16 (fun x2 => ?_)
      refine v_jnt (fun (k29 : Int → Option (Int)) => ∀ (x3 : Int), V X w 4 P n 0 0 res (k29 x3) s 29 [(0, A w c0), (1, I c1), (3, I p3)] [I x3, I p2]) ?_ ?_
      · intro x3
        refine v_ior C dX8_holding_29 ?_
        refine v_bdI (fun x4 => ?_)
        refine v_istore_n C [(2, I x4), (0, A w c0), (1, I c1), (3, I p3)] dX8_holding_30 rfl (by decide) rfl ?_
        refine v_iinc C (j := 3) [(2, I x4), (0, A w c0), (1, I c1)] dX8_holding_31 (by decide) rfl (fun _ => rfl) (fun x5 => ?_)
        refine v_goto (tgt := 4) C dX8_holding_34 rfl ?_
        refine v_sub [(0, A w c0), (1, I c1), (2, I x4), (3, I x5)] [2, 3, 1, 0] rfl ?_
        exact ih x4 x5
      intro k29 hk29
      refine v_if_eq (tgt := 28) C dX8_holding_19 rfl ?_ ?_
      · skip
        refine v_iconst C dX8_holding_28 ?_
        refine v_sub [(0, A w c0), (1, I c1), (3, I p3)] [0, 1, 3] rfl ?_
        exact hk29 0
      · skip
        refine v_iconst C dX8_holding_22 ?_
        refine v_iload_n C dX8_holding_23 rfl (j := 3) rfl ?_
        refine v_ishl C dX8_holding_24 ?_
        refine v_goto (tgt := 29) C dX8_holding_25 rfl ?_
        refine v_sub [(0, A w c0), (1, I c1), (3, I p3)] [0, 1, 3] rfl ?_
        exact hk29 (ishl 1 p3)
theorem hX8_holding : yX8_holding.cls ≠ "java/lang/invoke/MethodHandle" ∧ yX8_holding.cls ≠ "java/lang/invoke/VarHandle" ∧ (parseMethodDescriptor yX8_holding.desc).map (fun d => d.parameters.length) = some 1 := by decide +kernel
set_option maxRecDepth 100000 in
theorem kX8_holding (l : Launch) (w : Wd) (P : Shp) (n : Nat) {s : St} {a0 : Int} {a1 : Int} {res : Int} (h : fX8_holding P s a0 a1 = some res) : Ct l w yX8_holding cX8_holding 4 (some FieldType.int) rX8_holding P n [A w a0, I a1] s (QI w P n res s) :=
  Ct.of h (by decide) (Nat.le_of_ble_eq_true rfl) (lv := [(0, A w a0), (1, I a1)]) rfl fun X hl hRm C hO => by
  subst hl
  unfold fX8_holding
  refine v_iconst C dX8_holding_0 ?_
  refine v_istore_n C [(2, I 0), (0, A w a0), (1, I a1)] dX8_holding_1 rfl (by decide) rfl ?_
  refine v_iconst C dX8_holding_2 ?_
  refine v_istore_n C [(3, I 0), (2, I 0), (0, A w a0), (1, I a1)] dX8_holding_3 rfl (by decide) rfl ?_
  refine v_sub [(0, A w a0), (1, I a1), (2, I 0), (3, I 0)] [2, 3, 1, 0] rfl ?_
  refine vX8_holding_L4 res hRm C hO a0 a1 _ ?_ 1000 0 0
  · intro x6
    refine v_iload_n C dX8_holding_37 rfl (j := 0) rfl ?_
    exact v_iret C rfl hO pS dX8_holding_38
-- ForesightHubModel.holdMany
set_option maxRecDepth 100000 in
theorem vX8_holdMany_L4 {X : Cxt} {w : Wd} {P : Shp} {n : Nat} {s : St} (res : Int) (hRm : X.2.2.2.1 = rX8_holdMany) (C : Cok X w cX8_holdMany 4 RX8 (some FieldType.int)) (hO : Own X w 0 0 (QI w P n res s))  (c0 : Int) (c1 : Int) (kE35 : Int → Option (Int)) (hE35 : ∀ (p2e : Int), V X w 4 P n 0 0 res (kE35 p2e) s 35 [(2, I p2e)] []) : ∀ (fuel : Nat) (p2 p3 : Int), V X w 4 P n 0 0 res (fX8_holdMany_L4 P s c0 c1 kE35 fuel p2 p3) s 4 [(0, A w c0), (1, I c1), (2, I p2), (3, I p3)] [] := by
  intro fuel
  induction fuel with
  | zero => intro p2 p3; exact v_none
  | succ m ih =>
    intro p2 p3
    rw [fX8_holdMany_L4]
    refine v_iload_n C dX8_holdMany_4 rfl (j := 3) rfl ?_
    refine v_aload_n C dX8_holdMany_5 rfl (j := 0) rfl ?_
    refine v_callV_rI C [] [I p3] (Cee.of (rm := rX8_streams) tw_1092 tw_9 hX8_streams rfl rfl hRm (Nat.le_of_ble_eq_true rfl) (Nat.le_of_ble_eq_true rfl)) (fun x h => kX8_streams X.2.1 w P n h) tw_1089 tw_1091 ts_39 rfl (ci := 8) rfl (by decide) rfl rfl (Nat.le_of_ble_eq_true rfl) ⟨Nat.zero_le _, Nat.zero_le _⟩ dX8_holdMany_6 (fun x1 => ?_)
    refine v_icmp_ge (tgt := 35) C dX8_holdMany_9 rfl ?_ ?_
    · skip
      refine v_sub [(2, I p2)] [2] rfl ?_
      exact hE35 p2
    · skip
      refine v_iload_n C dX8_holdMany_12 rfl (j := 2) rfl ?_
      refine v_aload_n C dX8_holdMany_13 rfl (j := 0) rfl ?_
      refine v_iload_n C dX8_holdMany_14 rfl (j := 3) rfl ?_
      refine v_iload_n C dX8_holdMany_15 rfl (j := 1) rfl ?_
      refine v_callV_rI C [I p3, I c1] [I p2] (Cee.of (rm := rX8_isHeldBy) tw_1351 tw_9 hX8_isHeldBy rfl rfl hRm (Nat.le_of_ble_eq_true rfl) (Nat.le_of_ble_eq_true rfl)) (fun x h => kX8_isHeldBy X.2.1 w P n h) tw_1348 tw_1350 ts_75 rfl (ci := 8) rfl (by decide) rfl rfl (Nat.le_of_ble_eq_true rfl) ⟨Nat.zero_le _, Nat.zero_le _⟩ dX8_holdMany_16 (fun x2 => ?_)
      refine v_jnt (fun (k27 : Int → Option (Int)) => ∀ (x3 : Int), V X w 4 P n 0 0 res (k27 x3) s 27 [(0, A w c0), (1, I c1), (3, I p3)] [I x3, I p2]) ?_ ?_
      · intro x3
        refine v_iadd C dX8_holdMany_27 ?_
        refine v_bdI (fun x4 => ?_)
        refine v_istore_n C [(2, I x4), (0, A w c0), (1, I c1), (3, I p3)] dX8_holdMany_28 rfl (by decide) rfl ?_
        refine v_iinc C (j := 3) [(2, I x4), (0, A w c0), (1, I c1)] dX8_holdMany_29 (by decide) rfl (fun _ => rfl) (fun x5 => ?_)
        refine v_goto (tgt := 4) C dX8_holdMany_32 rfl ?_
        refine v_sub [(0, A w c0), (1, I c1), (2, I x4), (3, I x5)] [2, 3, 1, 0] rfl ?_
        exact ih x4 x5
      intro k27 hk27
      refine v_if_eq (tgt := 26) C dX8_holdMany_19 rfl ?_ ?_
      · skip
        refine v_iconst C dX8_holdMany_26 ?_
        refine v_sub [(0, A w c0), (1, I c1), (3, I p3)] [0, 1, 3] rfl ?_
        exact hk27 0
      · skip
        refine v_iconst C dX8_holdMany_22 ?_
        refine v_goto (tgt := 27) C dX8_holdMany_23 rfl ?_
        refine v_sub [(0, A w c0), (1, I c1), (3, I p3)] [0, 1, 3] rfl ?_
        exact hk27 1
theorem hX8_holdMany : yX8_holdMany.cls ≠ "java/lang/invoke/MethodHandle" ∧ yX8_holdMany.cls ≠ "java/lang/invoke/VarHandle" ∧ (parseMethodDescriptor yX8_holdMany.desc).map (fun d => d.parameters.length) = some 1 := by decide +kernel
set_option maxRecDepth 100000 in
theorem kX8_holdMany (l : Launch) (w : Wd) (P : Shp) (n : Nat) {s : St} {a0 : Int} {a1 : Int} {res : Int} (h : fX8_holdMany P s a0 a1 = some res) : Ct l w yX8_holdMany cX8_holdMany 4 (some FieldType.int) rX8_holdMany P n [A w a0, I a1] s (QI w P n res s) :=
  Ct.of h (by decide) (Nat.le_of_ble_eq_true rfl) (lv := [(0, A w a0), (1, I a1)]) rfl fun X hl hRm C hO => by
  subst hl
  unfold fX8_holdMany
  refine v_iconst C dX8_holdMany_0 ?_
  refine v_istore_n C [(2, I 0), (0, A w a0), (1, I a1)] dX8_holdMany_1 rfl (by decide) rfl ?_
  refine v_iconst C dX8_holdMany_2 ?_
  refine v_istore_n C [(3, I 0), (2, I 0), (0, A w a0), (1, I a1)] dX8_holdMany_3 rfl (by decide) rfl ?_
  refine v_sub [(0, A w a0), (1, I a1), (2, I 0), (3, I 0)] [2, 3, 1, 0] rfl ?_
  refine vX8_holdMany_L4 res hRm C hO a0 a1 _ ?_ 1000 0 0
  · intro x6
    refine v_iload_n C dX8_holdMany_35 rfl (j := 0) rfl ?_
    exact v_iret C rfl hO pS dX8_holdMany_36
-- ForesightHubModel.holdRate
set_option maxRecDepth 100000 in
theorem vX8_holdRate_L4 {X : Cxt} {w : Wd} {P : Shp} {n : Nat} {s : St} (res : Int) (hRm : X.2.2.2.1 = rX8_holdRate) (C : Cok X w cX8_holdRate 4 RX8 (some FieldType.int)) (hO : Own X w 0 0 (QI w P n res s))  (c0 : Int) (c1 : Int) (kE39 : Int → Option (Int)) (hE39 : ∀ (p2e : Int), V X w 4 P n 0 0 res (kE39 p2e) s 39 [(2, I p2e)] []) : ∀ (fuel : Nat) (p2 p3 : Int), V X w 4 P n 0 0 res (fX8_holdRate_L4 P s c0 c1 kE39 fuel p2 p3) s 4 [(0, A w c0), (1, I c1), (2, I p2), (3, I p3)] [] := by
  intro fuel
  induction fuel with
  | zero => intro p2 p3; exact v_none
  | succ m ih =>
    intro p2 p3
    rw [fX8_holdRate_L4]
    refine v_iload_n C dX8_holdRate_4 rfl (j := 3) rfl ?_
    refine v_aload_n C dX8_holdRate_5 rfl (j := 0) rfl ?_
    refine v_callV_rI C [] [I p3] (Cee.of (rm := rX8_streams) tw_1092 tw_9 hX8_streams rfl rfl hRm (Nat.le_of_ble_eq_true rfl) (Nat.le_of_ble_eq_true rfl)) (fun x h => kX8_streams X.2.1 w P n h) tw_1089 tw_1091 ts_39 rfl (ci := 8) rfl (by decide) rfl rfl (Nat.le_of_ble_eq_true rfl) ⟨Nat.zero_le _, Nat.zero_le _⟩ dX8_holdRate_6 (fun x1 => ?_)
    refine v_icmp_ge (tgt := 39) C dX8_holdRate_9 rfl ?_ ?_
    · skip
      refine v_sub [(2, I p2)] [2] rfl ?_
      exact hE39 p2
    · skip
      refine v_iload_n C dX8_holdRate_12 rfl (j := 2) rfl ?_
      refine v_aload_n C dX8_holdRate_13 rfl (j := 0) rfl ?_
      refine v_iload_n C dX8_holdRate_14 rfl (j := 3) rfl ?_
      refine v_iload_n C dX8_holdRate_15 rfl (j := 1) rfl ?_
      refine v_callV_rI C [I p3, I c1] [I p2] (Cee.of (rm := rX8_isHeldBy) tw_1351 tw_9 hX8_isHeldBy rfl rfl hRm (Nat.le_of_ble_eq_true rfl) (Nat.le_of_ble_eq_true rfl)) (fun x h => kX8_isHeldBy X.2.1 w P n h) tw_1348 tw_1350 ts_75 rfl (ci := 8) rfl (by decide) rfl rfl (Nat.le_of_ble_eq_true rfl) ⟨Nat.zero_le _, Nat.zero_le _⟩ dX8_holdRate_16 (fun x2 => ?_)
      refine v_jnt (fun (k31 : Int → Option (Int)) => ∀ (x3 : Int), V X w 4 P n 0 0 res (k31 x3) s 31 [(0, A w c0), (1, I c1), (3, I p3)] [I x3, I p2]) ?_ ?_
      · intro x3
        refine v_iadd C dX8_holdRate_31 ?_
        refine v_bdI (fun x4 => ?_)
        refine v_istore_n C [(2, I x4), (0, A w c0), (1, I c1), (3, I p3)] dX8_holdRate_32 rfl (by decide) rfl ?_
        refine v_iinc C (j := 3) [(2, I x4), (0, A w c0), (1, I c1)] dX8_holdRate_33 (by decide) rfl (fun _ => rfl) (fun x5 => ?_)
        refine v_goto (tgt := 4) C dX8_holdRate_36 rfl ?_
        refine v_sub [(0, A w c0), (1, I c1), (2, I x4), (3, I x5)] [2, 3, 1, 0] rfl ?_
        exact ih x4 x5
      intro k31 hk31
      refine v_if_eq (tgt := 30) C dX8_holdRate_19 rfl ?_ ?_
      · skip
        refine v_iconst C dX8_holdRate_30 ?_
        refine v_sub [(0, A w c0), (1, I c1), (3, I p3)] [0, 1, 3] rfl ?_
        exact hk31 0
      · skip
        refine v_aload_n C dX8_holdRate_22 rfl (j := 0) rfl ?_
        refine v_iload_n C dX8_holdRate_23 rfl (j := 3) rfl ?_
        refine v_callV_rI C [I p3] [I p2] (Cee.of (rm := rX8_rateOf) tw_1135 tw_9 hX8_rateOf rfl rfl hRm (Nat.le_of_ble_eq_true rfl) (Nat.le_of_ble_eq_true rfl)) (fun x h => kX8_rateOf X.2.1 w P n h) tw_1132 tw_1134 ts_49 rfl (ci := 8) rfl (by decide) rfl rfl (Nat.le_of_ble_eq_true rfl) ⟨Nat.zero_le _, Nat.zero_le _⟩ dX8_holdRate_24 (fun x6 => ?_)
        refine v_goto (tgt := 31) C dX8_holdRate_27 rfl ?_
        refine v_sub [(0, A w c0), (1, I c1), (3, I p3)] [0, 1, 3] rfl ?_
        exact hk31 x6
theorem hX8_holdRate : yX8_holdRate.cls ≠ "java/lang/invoke/MethodHandle" ∧ yX8_holdRate.cls ≠ "java/lang/invoke/VarHandle" ∧ (parseMethodDescriptor yX8_holdRate.desc).map (fun d => d.parameters.length) = some 1 := by decide +kernel
set_option maxRecDepth 100000 in
theorem kX8_holdRate (l : Launch) (w : Wd) (P : Shp) (n : Nat) {s : St} {a0 : Int} {a1 : Int} {res : Int} (h : fX8_holdRate P s a0 a1 = some res) : Ct l w yX8_holdRate cX8_holdRate 4 (some FieldType.int) rX8_holdRate P n [A w a0, I a1] s (QI w P n res s) :=
  Ct.of h (by decide) (Nat.le_of_ble_eq_true rfl) (lv := [(0, A w a0), (1, I a1)]) rfl fun X hl hRm C hO => by
  subst hl
  unfold fX8_holdRate
  refine v_iconst C dX8_holdRate_0 ?_
  refine v_istore_n C [(2, I 0), (0, A w a0), (1, I a1)] dX8_holdRate_1 rfl (by decide) rfl ?_
  refine v_iconst C dX8_holdRate_2 ?_
  refine v_istore_n C [(3, I 0), (2, I 0), (0, A w a0), (1, I a1)] dX8_holdRate_3 rfl (by decide) rfl ?_
  refine v_sub [(0, A w a0), (1, I a1), (2, I 0), (3, I 0)] [2, 3, 1, 0] rfl ?_
  refine vX8_holdRate_L4 res hRm C hO a0 a1 _ ?_ 1000 0 0
  · intro x7
    refine v_iload_n C dX8_holdRate_39 rfl (j := 0) rfl ?_
    exact v_iret C rfl hO pS dX8_holdRate_40
