/-! CONTRACTS (laid by wip/whole/gen/write.py) -/
-- ForesightHubModel.goOn
theorem hX8_goOn : yX8_goOn.cls ≠ "java/lang/invoke/MethodHandle" ∧ yX8_goOn.cls ≠ "java/lang/invoke/VarHandle" ∧ (parseMethodDescriptor yX8_goOn.desc).map (fun d => d.parameters.length) = some 0 := by decide +kernel
set_option maxRecDepth 100000 in
theorem kX8_goOn (l : Launch) (w : Wd) (P : Shp) (n : Nat) {s : St} {a0 : Int} {res : St} (h : fX8_goOn P s a0 = some res) : Ct l w yX8_goOn cX8_goOn 1 (Option.none : Option FieldType) rX8_goOn P n [A w a0] s (QV w P n res) :=
  Ct.of h (by decide) (Nat.le_of_ble_eq_true rfl) (lv := [(0, A w a0)]) rfl fun X hl hRm C hO => by
  subst hl
  unfold fX8_goOn
  refine v_aload_n C dX8_goOn_0 rfl (j := 0) rfl ?_
  refine v_getI C 8 rfl (T := TX8) rfl inB8 (by decide) (by decide) rfl tw_1148 dX8_goOn_1 (fun x1 => ?_)
  refine v_if_ne (tgt := 11) C dX8_goOn_4 rfl ?_ ?_
  · skip
    exact v_vret C rfl hO (fun h => Option.some.inj h) dX8_goOn_11
  · skip
    refine v_aload_n C dX8_goOn_7 rfl (j := 0) rfl ?_
    refine v_callV_wV C [] [] (Cee.of (rm := rX8_nextToken) tw_1236 tw_9 hX8_nextToken rfl rfl hRm (Nat.le_of_ble_eq_true rfl) (Nat.le_of_ble_eq_true rfl)) (fun x h => kX8_nextToken X.2.1 w P n h) tw_1233 tw_1235 ts_53 rfl (ci := 8) rfl (by decide) rfl rfl (Nat.le_of_ble_eq_true rfl) ⟨Nat.zero_le _, Nat.zero_le _⟩ dX8_goOn_8 (fun s2 => ?_)
    exact v_vret C rfl hO (fun h => Option.some.inj h) dX8_goOn_11
-- ForesightHubModel.read
theorem hX8_read : yX8_read.cls ≠ "java/lang/invoke/MethodHandle" ∧ yX8_read.cls ≠ "java/lang/invoke/VarHandle" ∧ (parseMethodDescriptor yX8_read.desc).map (fun d => d.parameters.length) = some 2 := by decide +kernel
set_option maxRecDepth 100000 in
theorem kX8_read (l : Launch) (w : Wd) (P : Shp) (n : Nat) {s : St} {a0 : Int} {a1 : Int} {a2 : Int} {res : Int × St} (h : fX8_read P s a0 a1 a2 = some res) : Ct l w yX8_read cX8_read 4 (some FieldType.int) rX8_read P n [A w a0, I a1, I a2] s (QI w P n res.1 res.2) :=
  Ct.of h (by decide) (Nat.le_of_ble_eq_true rfl) (lv := [(0, A w a0), (1, I a1), (2, I a2)]) rfl fun X hl hRm C hO => by
  subst hl
  unfold fX8_read
  refine v_aload_n C dX8_read_0 rfl (j := 0) rfl ?_
  refine v_aload_n C dX8_read_1 rfl (j := 0) rfl ?_
  refine v_getI C 6 rfl (T := TX8) rfl inB8 (by decide) (by decide) rfl tw_1146 dX8_read_2 (fun x1 => ?_)
  refine v_iconst C dX8_read_5 ?_
  refine v_jnt (fun (k14 : Int → Option (Int × St)) => ∀ (x2 : Int), V X w 4 P n 0 0 res (k14 x2) s 14 [(0, A w a0), (1, I a1), (2, I a2)] [I x2, A w a0]) ?_ ?_
  · intro x2
    refine v_iconst C dX8_read_14 ?_
    refine v_callV_wI C [I x2, I 1] [] (Cee.of (rm := rX8_must) tw_1251 tw_9 hX8_must rfl rfl hRm (Nat.le_of_ble_eq_true rfl) (Nat.le_of_ble_eq_true rfl)) (fun x h => kX8_must X.2.1 w P n h) tw_1248 tw_1250 ts_56 rfl (ci := 8) rfl (by decide) rfl rfl (Nat.le_of_ble_eq_true rfl) ⟨Nat.zero_le _, Nat.zero_le _⟩ dX8_read_15 (fun q3 => ?_)
    obtain ⟨x4, s5⟩ := q3
    refine v_jnt (fun (k46 : Int → St → Option (Int × St)) => ∀ (x7 : Int) (s6 : St), V X w 4 P n 0 0 res (k46 x7 s6) s6 46 [(0, A w a0)] [I x7]) ?_ ?_
    · intro x7 s6
      refine v_istore_n C [(3, I x7), (0, A w a0)] dX8_read_46 rfl (by decide) rfl ?_
      refine v_aload_n C dX8_read_47 rfl (j := 1) rfl ?_
      refine v_callV_wV C [] [] (Cee.of (rm := rX8_goOn) tw_1255 tw_9 hX8_goOn rfl rfl hRm (Nat.le_of_ble_eq_true rfl) (Nat.le_of_ble_eq_true rfl)) (fun x h => kX8_goOn X.2.1 w P n h) tw_1252 tw_1254 ts_57 rfl (ci := 8) rfl (by decide) rfl rfl (Nat.le_of_ble_eq_true rfl) ⟨Nat.zero_le _, Nat.zero_le _⟩ dX8_read_48 (fun s8 => ?_)
      refine v_iload_n C dX8_read_51 rfl (j := 0) rfl ?_
      exact v_iret C rfl hO pI dX8_read_52
    intro k46 hk46
    refine v_jnt (fun (k45 : St → Option (Int × St)) => ∀ (s9 : St), V X w 4 P n 0 0 res (k45 s9) s9 45 [(0, A w a0), (1, I a1)] []) ?_ ?_
    · intro s9
      refine v_iload_n C dX8_read_45 rfl (j := 1) rfl ?_
      refine v_sub [(0, A w a0)] [0] rfl ?_
      exact hk46 a1 s9
    intro k45 hk45
    refine v_if_eq (tgt := 45) C dX8_read_18 rfl ?_ ?_
    · skip
      refine v_sub [(0, A w a0), (1, I a1)] [0, 1] rfl ?_
      exact hk45 s5
    · skip
      refine v_aload_n C dX8_read_21 rfl (j := 0) rfl ?_
      refine v_aload_n C dX8_read_22 rfl (j := 0) rfl ?_
      refine v_getI C 7 rfl (T := TX8) rfl inB8 (by decide) (by decide) rfl tw_1147 dX8_read_23 (fun x10 => ?_)
      refine v_iload_n C dX8_read_26 rfl (j := 1) rfl ?_
      refine v_iload_n C dX8_read_27 rfl (j := 2) rfl ?_
      refine v_callS_rI C [I x10, I a1, I a2] [A w a0] (Cee.of (rm := rX8_within) tw_1228 tw_9 hX8_within rfl rfl hRm (Nat.le_of_ble_eq_true rfl) (Nat.le_of_ble_eq_true rfl)) (fun x h => kX8_within X.2.1 w P n h) tw_1226 tw_1227 rfl rfl (Nat.le_of_ble_eq_true rfl) ⟨Nat.zero_le _, Nat.zero_le _⟩ dX8_read_28 (fun x11 => ?_)
      refine v_iconst C dX8_read_31 ?_
      refine v_callV_wI C [I x11, I 4] [] (Cee.of (rm := rX8_must) tw_1251 tw_9 hX8_must rfl rfl hRm (Nat.le_of_ble_eq_true rfl) (Nat.le_of_ble_eq_true rfl)) (fun x h => kX8_must X.2.1 w P n h) tw_1248 tw_1250 ts_56 rfl (ci := 8) rfl (by decide) rfl rfl (Nat.le_of_ble_eq_true rfl) ⟨Nat.zero_le _, Nat.zero_le _⟩ dX8_read_32 (fun q12 => ?_)
      obtain ⟨x13, s14⟩ := q12
      refine v_if_eq (tgt := 45) C dX8_read_35 rfl ?_ ?_
      · skip
        refine v_sub [(0, A w a0), (1, I a1)] [0, 1] rfl ?_
        exact hk45 s14
      · skip
        refine v_aload_n C dX8_read_38 rfl (j := 0) rfl ?_
        refine v_getI C 7 rfl (T := TX8) rfl inB8 (by decide) (by decide) rfl tw_1147 dX8_read_39 (fun x15 => ?_)
        refine v_goto (tgt := 46) C dX8_read_42 rfl ?_
        refine v_sub [(0, A w a0)] [0] rfl ?_
        exact hk46 x15 s14
  intro k14 hk14
  refine v_icmp_ne (tgt := 13) C dX8_read_6 rfl ?_ ?_
  · skip
    refine v_iconst C dX8_read_13 ?_
    exact hk14 0
  · skip
    refine v_iconst C dX8_read_9 ?_
    refine v_goto (tgt := 14) C dX8_read_10 rfl ?_
    exact hk14 1
-- ForesightHubModel.setDefaults
set_option maxRecDepth 100000 in
theorem vX8_setDefaults_L2 {X : Cxt} {w : Wd} {P : Shp} {n : Nat} (res : St) (hRm : X.2.2.2.1 = rX8_setDefaults) (C : Cok X w cX8_setDefaults 2 RX8 (Option.none : Option FieldType)) (hO : Own X w 0 0 (QV w P n res))  (c0 : Int) (kE21 : St → Option (St)) (hE21 : ∀ (se : St), V X w 2 P n 0 0 res (kE21 se) se 21 [(0, A w c0)] []) : ∀ (fuel : Nat) (p1 : Int) (s : St), V X w 2 P n 0 0 res (fX8_setDefaults_L2 P c0 kE21 fuel p1 s) s 2 [(0, A w c0), (1, I p1)] [] := by
  intro fuel
  induction fuel with
  | zero => intro p1 s; exact v_none
  | succ m ih =>
    intro p1 s
    rw [fX8_setDefaults_L2]
    refine v_iload_n C dX8_setDefaults_2 rfl (j := 1) rfl ?_
    refine v_bipush C dX8_setDefaults_3 (by decide) ?_
    refine v_icmp_ge (tgt := 21) C dX8_setDefaults_5 rfl ?_ ?_
    · skip
      refine v_sub [(0, A w c0)] [0] rfl ?_
      exact hE21 s
    · skip
      refine v_aload_n C dX8_setDefaults_8 rfl (j := 0) rfl ?_
      refine v_getR C 10 rfl (T := TX8) rfl inB8 (by decide) (by decide) rfl tw_1150 dX8_setDefaults_9 (fun x1 => ?_)
      refine v_iload_n C dX8_setDefaults_12 rfl (j := 1) rfl ?_
      refine v_iconst C dX8_setDefaults_13 ?_
      refine v_iast C dX8_setDefaults_14 (fun s2 => ?_)
      refine v_iinc C (j := 1) [(0, A w c0)] dX8_setDefaults_15 (by decide) rfl (fun _ => rfl) (fun x3 => ?_)
      refine v_goto (tgt := 2) C dX8_setDefaults_18 rfl ?_
      refine v_sub [(0, A w c0), (1, I x3)] [1, 0] rfl ?_
      exact ih x3 s2
theorem hX8_setDefaults : yX8_setDefaults.cls ≠ "java/lang/invoke/MethodHandle" ∧ yX8_setDefaults.cls ≠ "java/lang/invoke/VarHandle" ∧ (parseMethodDescriptor yX8_setDefaults.desc).map (fun d => d.parameters.length) = some 0 := by decide +kernel
set_option maxRecDepth 100000 in
theorem kX8_setDefaults (l : Launch) (w : Wd) (P : Shp) (n : Nat) {s : St} {a0 : Int} {res : St} (h : fX8_setDefaults P s a0 = some res) : Ct l w yX8_setDefaults cX8_setDefaults 2 (Option.none : Option FieldType) rX8_setDefaults P n [A w a0] s (QV w P n res) :=
  Ct.of h (by decide) (Nat.le_of_ble_eq_true rfl) (lv := [(0, A w a0)]) rfl fun X hl hRm C hO => by
  subst hl
  unfold fX8_setDefaults
  refine v_iconst C dX8_setDefaults_0 ?_
  refine v_istore_n C [(1, I 0), (0, A w a0)] dX8_setDefaults_1 rfl (by decide) rfl ?_
  refine v_sub [(0, A w a0), (1, I 0)] [1, 0] rfl ?_
  refine vX8_setDefaults_L2 res hRm C hO a0 _ ?_ 1000 0 s
  · intro s4
    refine v_aload_n C dX8_setDefaults_21 rfl (j := 0) rfl ?_
    refine v_getR C 10 rfl (T := TX8) rfl inB8 (by decide) (by decide) rfl tw_1150 dX8_setDefaults_22 (fun x5 => ?_)
    refine v_iconst C dX8_setDefaults_25 ?_
    refine v_iconst C dX8_setDefaults_26 ?_
    refine v_iast C dX8_setDefaults_27 (fun s6 => ?_)
    refine v_aload_n C dX8_setDefaults_28 rfl (j := 0) rfl ?_
    refine v_getR C 10 rfl (T := TX8) rfl inB8 (by decide) (by decide) rfl tw_1150 dX8_setDefaults_29 (fun x7 => ?_)
    refine v_iconst C dX8_setDefaults_32 ?_
    refine v_iconst C dX8_setDefaults_33 ?_
    refine v_iast C dX8_setDefaults_34 (fun s8 => ?_)
    refine v_aload_n C dX8_setDefaults_35 rfl (j := 0) rfl ?_
    refine v_getR C 10 rfl (T := TX8) rfl inB8 (by decide) (by decide) rfl tw_1150 dX8_setDefaults_36 (fun x9 => ?_)
    refine v_iconst C dX8_setDefaults_39 ?_
    refine v_bipush C dX8_setDefaults_40 (by decide) ?_
    refine v_iast C dX8_setDefaults_42 (fun s10 => ?_)
    refine v_aload_n C dX8_setDefaults_43 rfl (j := 0) rfl ?_
    refine v_getR C 10 rfl (T := TX8) rfl inB8 (by decide) (by decide) rfl tw_1150 dX8_setDefaults_44 (fun x11 => ?_)
    refine v_bipush C dX8_setDefaults_47 (by decide) ?_
    refine v_iconst C dX8_setDefaults_49 ?_
    refine v_iast C dX8_setDefaults_50 (fun s12 => ?_)
    refine v_aload_n C dX8_setDefaults_51 rfl (j := 0) rfl ?_
    refine v_iconst C dX8_setDefaults_52 ?_
    refine v_putZ C 13 rfl (T := TX8) rfl inB8 (by decide) tyX8_ok nmX8 (by decide) rfl rfl tw_1153 dX8_setDefaults_53 rfl (fun s13 => ?_)
    exact v_vret C rfl hO (fun h => Option.some.inj h) dX8_setDefaults_56
-- ForesightHubModel.nameAt
theorem hX8_nameAt : yX8_nameAt.cls ≠ "java/lang/invoke/MethodHandle" ∧ yX8_nameAt.cls ≠ "java/lang/invoke/VarHandle" ∧ (parseMethodDescriptor yX8_nameAt.desc).map (fun d => d.parameters.length) = some 2 := by decide +kernel
set_option maxRecDepth 100000 in
theorem kX8_nameAt (l : Launch) (w : Wd) (P : Shp) (n : Nat) {s : St} {a0 : Int} {a1 : Int} {res : Int} (h : fX8_nameAt P s a0 a1 = some res) : Ct l w yX8_nameAt cX8_nameAt 2 (some FieldType.int) rX8_nameAt P n [I a0, I a1] s (QI w P n res s) :=
  Ct.of h (by decide) (Nat.le_of_ble_eq_true rfl) (lv := [(0, I a0), (1, I a1)]) rfl fun X hl hRm C hO => by
  subst hl
  unfold fX8_nameAt
  refine v_bipush C dX8_nameAt_0 (by decide) ?_
  refine v_iload_n C dX8_nameAt_2 rfl (j := 0) rfl ?_
  refine v_imul C dX8_nameAt_3 ?_
  refine v_bipush C dX8_nameAt_4 (by decide) ?_
  refine v_iload_n C dX8_nameAt_6 rfl (j := 1) rfl ?_
  refine v_imul C dX8_nameAt_7 ?_
  refine v_iadd C dX8_nameAt_8 ?_
  exact v_iret C rfl hO pS dX8_nameAt_9
-- ForesightHubModel.draftFind
set_option maxRecDepth 100000 in
theorem vX8_draftFind_L28 {X : Cxt} {w : Wd} {P : Shp} {n : Nat} {s : St} (res : Int) (hRm : X.2.2.2.1 = rX8_draftFind) (C : Cok X w cX8_draftFind 6 RX8 (some FieldType.int)) (hO : Own X w 0 0 (QI w P n res s))  (c0 : Int) (c1 : Int) (c2 : Int) (c3 : Int) (kE91 : Int → Option (Int)) (hE91 : ∀ (p4e : Int), V X w 6 P n 0 0 res (kE91 p4e) s 91 [(0, A w c0), (1, I c1), (2, I c2), (3, I c3), (4, I p4e)] []) : ∀ (fuel : Nat) (p4 p5 : Int), V X w 6 P n 0 0 res (fX8_draftFind_L28 P s c0 c1 c2 c3 kE91 fuel p4 p5) s 28 [(0, A w c0), (1, I c1), (2, I c2), (3, I c3), (4, I p4), (5, I p5)] [] := by
  intro fuel
  induction fuel with
  | zero => intro p4 p5; exact v_none
  | succ m ih =>
    intro p4 p5
    rw [fX8_draftFind_L28]
    refine v_iload C dX8_draftFind_28 (j := 5) rfl ?_
    refine v_bipush C dX8_draftFind_30 (by decide) ?_
    refine v_icmp_ge (tgt := 91) C dX8_draftFind_32 rfl ?_ ?_
    · skip
      refine v_sub [(0, A w c0), (1, I c1), (2, I c2), (3, I c3), (4, I p4)] [0, 1, 2, 3, 4] rfl ?_
      exact hE91 p4
    · skip
      refine v_iload C dX8_draftFind_35 (j := 4) rfl ?_
      refine v_jnt (fun (k83 : Int → Option (Int)) => ∀ (x6 : Int), V X w 6 P n 0 0 res (k83 x6) s 83 [(0, A w c0), (1, I c1), (2, I c2), (3, I c3), (5, I p5)] [I x6]) ?_ ?_
      · intro x6
        refine v_istore C [(4, I x6), (0, A w c0), (1, I c1), (2, I c2), (3, I c3), (5, I p5)] dX8_draftFind_83 (by decide) rfl ?_
        refine v_iinc C (j := 5) [(4, I x6), (0, A w c0), (1, I c1), (2, I c2), (3, I c3)] dX8_draftFind_85 (by decide) rfl (fun _ => rfl) (fun x7 => ?_)
        refine v_goto (tgt := 28) C dX8_draftFind_88 rfl ?_
        refine v_sub [(0, A w c0), (1, I c1), (2, I c2), (3, I c3), (4, I x6), (5, I x7)] [2, 3, 4, 5, 1, 0] rfl ?_
        exact ih x6 x7
      intro k83 hk83
      refine v_jnt (fun (k82 : Option (Int)) => V X w 6 P n 0 0 res (k82) s 82 [(0, A w c0), (1, I c1), (2, I c2), (3, I c3), (5, I p5)] []) ?_ ?_
      · skip
        refine v_iconst C dX8_draftFind_82 ?_
        exact hk83 0
      intro k82 hk82
      refine v_if_eq (tgt := 82) C dX8_draftFind_37 rfl ?_ ?_
      · skip
        refine v_sub [(0, A w c0), (1, I c1), (2, I c2), (3, I c3), (5, I p5)] [0, 1, 2, 3, 5] rfl ?_
        exact hk82
      · skip
        refine v_aload_n C dX8_draftFind_40 rfl (j := 0) rfl ?_
        refine v_getR C 12 rfl (T := TX8) rfl inB8 (by decide) (by decide) rfl tw_1152 dX8_draftFind_41 (fun x8 => ?_)
        refine v_iload_n C dX8_draftFind_44 rfl (j := 1) rfl ?_
        refine v_iload_n C dX8_draftFind_45 rfl (j := 3) rfl ?_
        refine v_callS_rI C [I c1, I c3] [A w x8] (Cee.of (rm := rX8_nameAt) tw_1279 tw_9 hX8_nameAt rfl rfl hRm (Nat.le_of_ble_eq_true rfl) (Nat.le_of_ble_eq_true rfl)) (fun x h => kX8_nameAt X.2.1 w P n h) tw_1277 tw_1278 rfl rfl (Nat.le_of_ble_eq_true rfl) ⟨Nat.zero_le _, Nat.zero_le _⟩ dX8_draftFind_46 (fun x9 => ?_)
        refine v_iload C dX8_draftFind_49 (j := 5) rfl ?_
        refine v_iadd C dX8_draftFind_51 ?_
        refine v_bald C dX8_draftFind_52 (fun x10 => ?_)
        refine v_iload C dX8_draftFind_53 (j := 5) rfl ?_
        refine v_iload_n C dX8_draftFind_55 rfl (j := 2) rfl ?_
        refine v_jnt (fun (k75 : Int → Option (Int)) => ∀ (x11 : Int), V X w 6 P n 0 0 res (k75 x11) s 75 [(0, A w c0), (1, I c1), (2, I c2), (3, I c3), (5, I p5)] [I x11, I x10]) ?_ ?_
        · intro x11
          refine v_icmp_ne (tgt := 82) C dX8_draftFind_75 rfl ?_ ?_
          · skip
            exact hk82
          · skip
            refine v_iconst C dX8_draftFind_78 ?_
            refine v_goto (tgt := 83) C dX8_draftFind_79 rfl ?_
            exact hk83 1
        intro k75 hk75
        refine v_icmp_ge (tgt := 74) C dX8_draftFind_56 rfl ?_ ?_
        · skip
          refine v_iconst C dX8_draftFind_74 ?_
          refine v_sub [(0, A w c0), (1, I c1), (2, I c2), (3, I c3), (5, I p5)] [0, 1, 2, 3, 5] rfl ?_
          exact hk75 0
        · skip
          refine v_aload_n C dX8_draftFind_59 rfl (j := 0) rfl ?_
          refine v_getR C 1 rfl (T := TX8) rfl inB8 (by decide) (by decide) rfl tw_1141 dX8_draftFind_60 (fun x12 => ?_)
          refine v_aload_n C dX8_draftFind_63 rfl (j := 0) rfl ?_
          refine v_getI C 4 rfl (T := TX8) rfl inB8 (by decide) (by decide) rfl tw_1144 dX8_draftFind_64 (fun x13 => ?_)
          refine v_iload C dX8_draftFind_67 (j := 5) rfl ?_
          refine v_iadd C dX8_draftFind_69 ?_
          refine v_bald C dX8_draftFind_70 (fun x14 => ?_)
          refine v_goto (tgt := 75) C dX8_draftFind_71 rfl ?_
          refine v_sub [(0, A w c0), (1, I c1), (2, I c2), (3, I c3), (5, I p5)] [0, 1, 2, 3, 5] rfl ?_
          exact hk75 x14
set_option maxRecDepth 100000 in
theorem vX8_draftFind_L12 {X : Cxt} {w : Wd} {P : Shp} {n : Nat} {s : St} (res : Int) (hRm : X.2.2.2.1 = rX8_draftFind) (C : Cok X w cX8_draftFind 6 RX8 (some FieldType.int)) (hO : Own X w 0 0 (QI w P n res s))  (c0 : Int) (c1 : Int) (c2 : Int) (kE104 : Option (Int)) (kE96 : Int → Option (Int)) (hE104 : V X w 6 P n 0 0 res (kE104) s 104 [] []) (hE96 : ∀ (p3e : Int), V X w 6 P n 0 0 res (kE96 p3e) s 96 [(3, I p3e)] []) : ∀ (fuel : Nat) (p3 : Int), V X w 6 P n 0 0 res (fX8_draftFind_L12 P s c0 c1 c2 kE104 kE96 fuel p3) s 12 [(0, A w c0), (1, I c1), (2, I c2), (3, I p3)] [] := by
  intro fuel
  induction fuel with
  | zero => intro p3; exact v_none
  | succ m ih =>
    intro p3
    rw [fX8_draftFind_L12]
    refine v_iload_n C dX8_draftFind_12 rfl (j := 3) rfl ?_
    refine v_aload_n C dX8_draftFind_13 rfl (j := 0) rfl ?_
    refine v_getR C 10 rfl (T := TX8) rfl inB8 (by decide) (by decide) rfl tw_1150 dX8_draftFind_14 (fun x4 => ?_)
    refine v_iload_n C dX8_draftFind_17 rfl (j := 1) rfl ?_
    refine v_iald C dX8_draftFind_18 (fun x5 => ?_)
    refine v_icmp_ge (tgt := 104) C dX8_draftFind_19 rfl ?_ ?_
    · skip
      refine v_sub [] [] rfl ?_
      exact hE104
    · skip
      refine v_iconst C dX8_draftFind_22 ?_
      refine v_istore C [(4, I 1), (0, A w c0), (1, I c1), (2, I c2), (3, I p3)] dX8_draftFind_23 (by decide) rfl ?_
      refine v_iconst C dX8_draftFind_25 ?_
      refine v_istore C [(5, I 0), (4, I 1), (0, A w c0), (1, I c1), (2, I c2), (3, I p3)] dX8_draftFind_26 (by decide) rfl ?_
      refine v_sub [(0, A w c0), (1, I c1), (2, I c2), (3, I p3), (4, I 1), (5, I 0)] [2, 3, 4, 5, 1, 0] rfl ?_
      refine vX8_draftFind_L28 res hRm C hO c0 c1 c2 p3 _ ?_ 1000 1 0
      · intro x15
        refine v_iload C dX8_draftFind_91 (j := 4) rfl ?_
        refine v_if_eq (tgt := 98) C dX8_draftFind_93 rfl ?_ ?_
        · skip
          refine v_iinc C (j := 3) [(0, A w c0), (1, I c1), (2, I c2), (4, I x15)] dX8_draftFind_98 (by decide) rfl (fun _ => rfl) (fun x16 => ?_)
          refine v_goto (tgt := 12) C dX8_draftFind_101 rfl ?_
          refine v_sub [(0, A w c0), (1, I c1), (2, I c2), (3, I x16)] [1, 2, 3, 0] rfl ?_
          exact ih x16
        · skip
          refine v_sub [(3, I p3)] [3] rfl ?_
          exact hE96 p3
theorem hX8_draftFind : yX8_draftFind.cls ≠ "java/lang/invoke/MethodHandle" ∧ yX8_draftFind.cls ≠ "java/lang/invoke/VarHandle" ∧ (parseMethodDescriptor yX8_draftFind.desc).map (fun d => d.parameters.length) = some 1 := by decide +kernel
set_option maxRecDepth 100000 in
theorem kX8_draftFind (l : Launch) (w : Wd) (P : Shp) (n : Nat) {s : St} {a0 : Int} {a1 : Int} {res : Int} (h : fX8_draftFind P s a0 a1 = some res) : Ct l w yX8_draftFind cX8_draftFind 6 (some FieldType.int) rX8_draftFind P n [A w a0, I a1] s (QI w P n res s) :=
  Ct.of h (by decide) (Nat.le_of_ble_eq_true rfl) (lv := [(0, A w a0), (1, I a1)]) rfl fun X hl hRm C hO => by
  subst hl
  unfold fX8_draftFind
  refine v_aload_n C dX8_draftFind_0 rfl (j := 0) rfl ?_
  refine v_getI C 5 rfl (T := TX8) rfl inB8 (by decide) (by decide) rfl tw_1145 dX8_draftFind_1 (fun x1 => ?_)
  refine v_aload_n C dX8_draftFind_4 rfl (j := 0) rfl ?_
  refine v_getI C 4 rfl (T := TX8) rfl inB8 (by decide) (by decide) rfl tw_1144 dX8_draftFind_5 (fun x2 => ?_)
  refine v_isub C dX8_draftFind_8 ?_
  refine v_bdI (fun x3 => ?_)
  refine v_istore_n C [(2, I x3), (0, A w a0), (1, I a1)] dX8_draftFind_9 rfl (by decide) rfl ?_
  refine v_iconst C dX8_draftFind_10 ?_
  refine v_istore_n C [(3, I 0), (2, I x3), (0, A w a0), (1, I a1)] dX8_draftFind_11 rfl (by decide) rfl ?_
  refine v_sub [(0, A w a0), (1, I a1), (2, I x3), (3, I 0)] [2, 3, 1, 0] rfl ?_
  refine vX8_draftFind_L12 res hRm C hO a0 a1 x3 _ _ ?_ ?_ 1000 0
  · skip
    refine v_iconst C dX8_draftFind_104 ?_
    exact v_iret C rfl hO pS dX8_draftFind_105
  · intro x17
    refine v_iload_n C dX8_draftFind_96 rfl (j := 0) rfl ?_
    exact v_iret C rfl hO pS dX8_draftFind_97
-- ForesightHubModel.deviceHere
theorem hX8_deviceHere : yX8_deviceHere.cls ≠ "java/lang/invoke/MethodHandle" ∧ yX8_deviceHere.cls ≠ "java/lang/invoke/VarHandle" ∧ (parseMethodDescriptor yX8_deviceHere.desc).map (fun d => d.parameters.length) = some 0 := by decide +kernel
set_option maxRecDepth 100000 in
theorem kX8_deviceHere (l : Launch) (w : Wd) (P : Shp) (n : Nat) {s : St} {a0 : Int} {res : Int × St} (h : fX8_deviceHere P s a0 = some res) : Ct l w yX8_deviceHere cX8_deviceHere 2 (some FieldType.int) rX8_deviceHere P n [A w a0] s (QI w P n res.1 res.2) :=
  Ct.of h (by decide) (Nat.le_of_ble_eq_true rfl) (lv := [(0, A w a0)]) rfl fun X hl hRm C hO => by
  subst hl
  unfold fX8_deviceHere
  refine v_aload_n C dX8_deviceHere_0 rfl (j := 0) rfl ?_
  refine v_aload_n C dX8_deviceHere_1 rfl (j := 0) rfl ?_
  refine v_getI C 6 rfl (T := TX8) rfl inB8 (by decide) (by decide) rfl tw_1146 dX8_deviceHere_2 (fun x1 => ?_)
  refine v_iconst C dX8_deviceHere_5 ?_
  refine v_jnt (fun (k14 : Int → Option (Int × St)) => ∀ (x2 : Int), V X w 2 P n 0 0 res (k14 x2) s 14 [(0, A w a0)] [I x2, A w a0]) ?_ ?_
  · intro x2
    refine v_iconst C dX8_deviceHere_14 ?_
    refine v_callV_wI C [I x2, I 1] [] (Cee.of (rm := rX8_must) tw_1251 tw_9 hX8_must rfl rfl hRm (Nat.le_of_ble_eq_true rfl) (Nat.le_of_ble_eq_true rfl)) (fun x h => kX8_must X.2.1 w P n h) tw_1248 tw_1250 ts_56 rfl (ci := 8) rfl (by decide) rfl rfl (Nat.le_of_ble_eq_true rfl) ⟨Nat.zero_le _, Nat.zero_le _⟩ dX8_deviceHere_15 (fun q3 => ?_)
    obtain ⟨x4, s5⟩ := q3
    refine v_if_ne (tgt := 23) C dX8_deviceHere_18 rfl ?_ ?_
    · skip
      refine v_aload_n C dX8_deviceHere_23 rfl (j := 0) rfl ?_
      refine v_iconst C dX8_deviceHere_24 ?_
      refine v_callV_rI C [I 1] [] (Cee.of (rm := rX8_draftFind) tw_1276 tw_9 hX8_draftFind rfl rfl hRm (Nat.le_of_ble_eq_true rfl) (Nat.le_of_ble_eq_true rfl)) (fun x h => kX8_draftFind X.2.1 w P n h) tw_1273 tw_1275 ts_62 rfl (ci := 8) rfl (by decide) rfl rfl (Nat.le_of_ble_eq_true rfl) ⟨Nat.zero_le _, Nat.zero_le _⟩ dX8_deviceHere_25 (fun x6 => ?_)
      refine v_istore_n C [(1, I x6), (0, A w a0)] dX8_deviceHere_28 rfl (by decide) rfl ?_
      refine v_aload_n C dX8_deviceHere_29 rfl (j := 1) rfl ?_
      refine v_iload_n C dX8_deviceHere_30 rfl (j := 0) rfl ?_
      refine v_iconst C dX8_deviceHere_31 ?_
      refine v_jnt (fun (k40 : Int → Option (Int × St)) => ∀ (x7 : Int), V X w 2 P n 0 0 res (k40 x7) s5 40 [(0, A w a0), (1, I x6)] [I x7, A w a0]) ?_ ?_
      · intro x7
        refine v_iconst C dX8_deviceHere_40 ?_
        refine v_callV_wI C [I x7, I 2] [] (Cee.of (rm := rX8_must) tw_1251 tw_9 hX8_must rfl rfl hRm (Nat.le_of_ble_eq_true rfl) (Nat.le_of_ble_eq_true rfl)) (fun x h => kX8_must X.2.1 w P n h) tw_1248 tw_1250 ts_56 rfl (ci := 8) rfl (by decide) rfl rfl (Nat.le_of_ble_eq_true rfl) ⟨Nat.zero_le _, Nat.zero_le _⟩ dX8_deviceHere_41 (fun q8 => ?_)
        obtain ⟨x9, s10⟩ := q8
        refine v_if_ne (tgt := 49) C dX8_deviceHere_44 rfl ?_ ?_
        · skip
          refine v_aload_n C dX8_deviceHere_49 rfl (j := 0) rfl ?_
          refine v_callV_wV C [] [] (Cee.of (rm := rX8_goOn) tw_1255 tw_9 hX8_goOn rfl rfl hRm (Nat.le_of_ble_eq_true rfl) (Nat.le_of_ble_eq_true rfl)) (fun x h => kX8_goOn X.2.1 w P n h) tw_1252 tw_1254 ts_57 rfl (ci := 8) rfl (by decide) rfl rfl (Nat.le_of_ble_eq_true rfl) ⟨Nat.zero_le _, Nat.zero_le _⟩ dX8_deviceHere_50 (fun s11 => ?_)
          refine v_iload_n C dX8_deviceHere_53 rfl (j := 1) rfl ?_
          exact v_iret C rfl hO pI dX8_deviceHere_54
        · skip
          refine v_iconst C dX8_deviceHere_47 ?_
          exact v_iret C rfl hO pI dX8_deviceHere_48
      intro k40 hk40
      refine v_icmp_eq (tgt := 39) C dX8_deviceHere_32 rfl ?_ ?_
      · skip
        refine v_iconst C dX8_deviceHere_39 ?_
        refine v_sub [(0, A w a0), (1, I x6)] [1, 0] rfl ?_
        exact hk40 0
      · skip
        refine v_iconst C dX8_deviceHere_35 ?_
        refine v_goto (tgt := 40) C dX8_deviceHere_36 rfl ?_
        refine v_sub [(0, A w a0), (1, I x6)] [1, 0] rfl ?_
        exact hk40 1
    · skip
      refine v_iconst C dX8_deviceHere_21 ?_
      exact v_iret C rfl hO pI dX8_deviceHere_22
  intro k14 hk14
  refine v_icmp_ne (tgt := 13) C dX8_deviceHere_6 rfl ?_ ?_
  · skip
    refine v_iconst C dX8_deviceHere_13 ?_
    exact hk14 0
  · skip
    refine v_iconst C dX8_deviceHere_9 ?_
    refine v_goto (tgt := 14) C dX8_deviceHere_10 rfl ?_
    exact hk14 1
-- ForesightHubModel.begin
set_option maxRecDepth 100000 in
theorem vX8_begin_L87 {X : Cxt} {w : Wd} {P : Shp} {n : Nat} (res : Int × St) (hRm : X.2.2.2.1 = rX8_begin) (C : Cok X w cX8_begin 5 RX8 (some FieldType.boolean)) (hO : Own X w 0 0 (QI w P n res.1 res.2))  (c0 : Int) (c1 : Int) (c3 : Int) (kE140 : St → Option (Int × St)) (hE140 : ∀ (se : St), V X w 5 P n 0 0 res (kE140 se) se 140 [(0, A w c0)] []) : ∀ (fuel : Nat) (p4 : Int) (s : St), V X w 5 P n 0 0 res (fX8_begin_L87 P c0 c1 c3 kE140 fuel p4 s) s 87 [(0, A w c0), (1, I c1), (3, I c3), (4, I p4)] [] := by
  intro fuel
  induction fuel with
  | zero => intro p4 s; exact v_none
  | succ m ih =>
    intro p4 s
    rw [fX8_begin_L87]
    refine v_iload C dX8_begin_87 (j := 3) rfl ?_
    refine v_bipush C dX8_begin_89 (by decide) ?_
    refine v_icmp_ge (tgt := 140) C dX8_begin_91 rfl ?_ ?_
    · skip
      refine v_sub [(0, A w c0)] [0] rfl ?_
      exact hE140 s
    · skip
      refine v_aload_n C dX8_begin_94 rfl (j := 0) rfl ?_
      refine v_getR C 12 rfl (T := TX8) rfl inB8 (by decide) (by decide) rfl tw_1152 dX8_begin_95 (fun x21 => ?_)
      refine v_iload_n C dX8_begin_98 rfl (j := 1) rfl ?_
      refine v_aload_n C dX8_begin_99 rfl (j := 0) rfl ?_
      refine v_getR C 10 rfl (T := TX8) rfl inB8 (by decide) (by decide) rfl tw_1150 dX8_begin_100 (fun x22 => ?_)
      refine v_iload_n C dX8_begin_103 rfl (j := 1) rfl ?_
      refine v_iald C dX8_begin_104 (fun x23 => ?_)
      refine v_callS_rI C [I c1, I x23] [A w x21] (Cee.of (rm := rX8_nameAt) tw_1279 tw_9 hX8_nameAt rfl rfl hRm (Nat.le_of_ble_eq_true rfl) (Nat.le_of_ble_eq_true rfl)) (fun x h => kX8_nameAt X.2.1 w P n h) tw_1277 tw_1278 rfl rfl (Nat.le_of_ble_eq_true rfl) ⟨Nat.zero_le _, Nat.zero_le _⟩ dX8_begin_105 (fun x24 => ?_)
      refine v_iload C dX8_begin_108 (j := 3) rfl ?_
      refine v_iadd C dX8_begin_110 ?_
      refine v_iload C dX8_begin_111 (j := 3) rfl ?_
      refine v_iload_n C dX8_begin_113 rfl (j := 2) rfl ?_
      refine v_jnt (fun (k133 : Int → Option (Int × St)) => ∀ (x25 : Int), V X w 5 P n 0 0 res (k133 x25) s 133 [(0, A w c0), (1, I c1), (3, I c3), (4, I p4)] [I x25, I (x24 + p4), A w x21]) ?_ ?_
      · intro x25
        refine v_bast C dX8_begin_133 (fun s26 => ?_)
        refine v_iinc C (j := 3) [(0, A w c0), (1, I c1), (3, I c3)] dX8_begin_134 (by decide) rfl (fun _ => rfl) (fun x27 => ?_)
        refine v_goto (tgt := 87) C dX8_begin_137 rfl ?_
        refine v_sub [(0, A w c0), (1, I c1), (3, I c3), (4, I x27)] [1, 2, 3, 0] rfl ?_
        exact ih x27 s26
      intro k133 hk133
      refine v_icmp_ge (tgt := 132) C dX8_begin_114 rfl ?_ ?_
      · skip
        refine v_iconst C dX8_begin_132 ?_
        exact hk133 0
      · skip
        refine v_aload_n C dX8_begin_117 rfl (j := 0) rfl ?_
        refine v_getR C 1 rfl (T := TX8) rfl inB8 (by decide) (by decide) rfl tw_1141 dX8_begin_118 (fun x28 => ?_)
        refine v_aload_n C dX8_begin_121 rfl (j := 0) rfl ?_
        refine v_getI C 4 rfl (T := TX8) rfl inB8 (by decide) (by decide) rfl tw_1144 dX8_begin_122 (fun x29 => ?_)
        refine v_iload C dX8_begin_125 (j := 3) rfl ?_
        refine v_iadd C dX8_begin_127 ?_
        refine v_bald C dX8_begin_128 (fun x30 => ?_)
        refine v_goto (tgt := 133) C dX8_begin_129 rfl ?_
        exact hk133 x30
theorem hX8_begin : yX8_begin.cls ≠ "java/lang/invoke/MethodHandle" ∧ yX8_begin.cls ≠ "java/lang/invoke/VarHandle" ∧ (parseMethodDescriptor yX8_begin.desc).map (fun d => d.parameters.length) = some 2 := by decide +kernel
set_option maxRecDepth 100000 in
theorem kX8_begin (l : Launch) (w : Wd) (P : Shp) (n : Nat) {s : St} {a0 : Int} {a1 : Int} {a2 : Int} {res : Int × St} (h : fX8_begin P s a0 a1 a2 = some res) : Ct l w yX8_begin cX8_begin 5 (some FieldType.boolean) rX8_begin P n [A w a0, I a1, I a2] s (QI w P n res.1 res.2) :=
  Ct.of h (by decide) (Nat.le_of_ble_eq_true rfl) (lv := [(0, A w a0), (1, I a1), (2, I a2)]) rfl fun X hl hRm C hO => by
  subst hl
  unfold fX8_begin
  refine v_aload_n C dX8_begin_0 rfl (j := 0) rfl ?_
  refine v_aload_n C dX8_begin_1 rfl (j := 0) rfl ?_
  refine v_getR C 10 rfl (T := TX8) rfl inB8 (by decide) (by decide) rfl tw_1150 dX8_begin_2 (fun x1 => ?_)
  refine v_iload_n C dX8_begin_5 rfl (j := 1) rfl ?_
  refine v_iald C dX8_begin_6 (fun x2 => ?_)
  refine v_iload_n C dX8_begin_7 rfl (j := 2) rfl ?_
  refine v_jnt (fun (k16 : Int → Option (Int × St)) => ∀ (x3 : Int), V X w 5 P n 0 0 res (k16 x3) s 16 [(0, A w a0), (1, I a1)] [I x3, A w a0]) ?_ ?_
  · intro x3
    refine v_iconst C dX8_begin_16 ?_
    refine v_callV_wI C [I x3, I 5] [] (Cee.of (rm := rX8_must) tw_1251 tw_9 hX8_must rfl rfl hRm (Nat.le_of_ble_eq_true rfl) (Nat.le_of_ble_eq_true rfl)) (fun x h => kX8_must X.2.1 w P n h) tw_1248 tw_1250 ts_56 rfl (ci := 8) rfl (by decide) rfl rfl (Nat.le_of_ble_eq_true rfl) ⟨Nat.zero_le _, Nat.zero_le _⟩ dX8_begin_17 (fun q4 => ?_)
    obtain ⟨x5, s6⟩ := q4
    refine v_if_ne (tgt := 25) C dX8_begin_20 rfl ?_ ?_
    · skip
      refine v_aload_n C dX8_begin_25 rfl (j := 0) rfl ?_
      refine v_callV_wV C [] [] (Cee.of (rm := rX8_goOn) tw_1255 tw_9 hX8_goOn rfl rfl hRm (Nat.le_of_ble_eq_true rfl) (Nat.le_of_ble_eq_true rfl)) (fun x h => kX8_goOn X.2.1 w P n h) tw_1252 tw_1254 ts_57 rfl (ci := 8) rfl (by decide) rfl rfl (Nat.le_of_ble_eq_true rfl) ⟨Nat.zero_le _, Nat.zero_le _⟩ dX8_begin_26 (fun s7 => ?_)
      refine v_aload_n C dX8_begin_29 rfl (j := 0) rfl ?_
      refine v_aload_n C dX8_begin_30 rfl (j := 0) rfl ?_
      refine v_getI C 6 rfl (T := TX8) rfl inB8 (by decide) (by decide) rfl tw_1146 dX8_begin_31 (fun x8 => ?_)
      refine v_iconst C dX8_begin_34 ?_
      refine v_jnt (fun (k43 : Int → Option (Int × St)) => ∀ (x9 : Int), V X w 5 P n 0 0 res (k43 x9) s7 43 [(0, A w a0), (1, I a1)] [I x9, A w a0]) ?_ ?_
      · intro x9
        refine v_iconst C dX8_begin_43 ?_
        refine v_callV_wI C [I x9, I 1] [] (Cee.of (rm := rX8_must) tw_1251 tw_9 hX8_must rfl rfl hRm (Nat.le_of_ble_eq_true rfl) (Nat.le_of_ble_eq_true rfl)) (fun x h => kX8_must X.2.1 w P n h) tw_1248 tw_1250 ts_56 rfl (ci := 8) rfl (by decide) rfl rfl (Nat.le_of_ble_eq_true rfl) ⟨Nat.zero_le _, Nat.zero_le _⟩ dX8_begin_44 (fun q10 => ?_)
        obtain ⟨x11, s12⟩ := q10
        refine v_if_eq (tgt := 72) C dX8_begin_47 rfl ?_ ?_
        · skip
          refine v_iconst C dX8_begin_72 ?_
          exact v_zret C rfl hO pI dX8_begin_73
        · skip
          refine v_aload_n C dX8_begin_50 rfl (j := 0) rfl ?_
          refine v_aload_n C dX8_begin_51 rfl (j := 0) rfl ?_
          refine v_iload_n C dX8_begin_52 rfl (j := 1) rfl ?_
          refine v_callV_rI C [I a1] [A w a0] (Cee.of (rm := rX8_draftFind) tw_1276 tw_9 hX8_draftFind rfl rfl hRm (Nat.le_of_ble_eq_true rfl) (Nat.le_of_ble_eq_true rfl)) (fun x h => kX8_draftFind X.2.1 w P n h) tw_1273 tw_1275 ts_62 rfl (ci := 8) rfl (by decide) rfl rfl (Nat.le_of_ble_eq_true rfl) ⟨Nat.zero_le _, Nat.zero_le _⟩ dX8_begin_53 (fun x13 => ?_)
          refine v_iconst C dX8_begin_56 ?_
          refine v_jnt (fun (k65 : Int → Option (Int × St)) => ∀ (x14 : Int), V X w 5 P n 0 0 res (k65 x14) s12 65 [(0, A w a0), (1, I a1)] [I x14, A w a0]) ?_ ?_
          · intro x14
            refine v_iconst C dX8_begin_65 ?_
            refine v_callV_wI C [I x14, I 3] [] (Cee.of (rm := rX8_must) tw_1251 tw_9 hX8_must rfl rfl hRm (Nat.le_of_ble_eq_true rfl) (Nat.le_of_ble_eq_true rfl)) (fun x h => kX8_must X.2.1 w P n h) tw_1248 tw_1250 ts_56 rfl (ci := 8) rfl (by decide) rfl rfl (Nat.le_of_ble_eq_true rfl) ⟨Nat.zero_le _, Nat.zero_le _⟩ dX8_begin_66 (fun q15 => ?_)
            obtain ⟨x16, s17⟩ := q15
            refine v_if_ne (tgt := 74) C dX8_begin_69 rfl ?_ ?_
            · skip
              refine v_aload_n C dX8_begin_74 rfl (j := 0) rfl ?_
              refine v_getI C 5 rfl (T := TX8) rfl inB8 (by decide) (by decide) rfl tw_1145 dX8_begin_75 (fun x18 => ?_)
              refine v_aload_n C dX8_begin_78 rfl (j := 0) rfl ?_
              refine v_getI C 4 rfl (T := TX8) rfl inB8 (by decide) (by decide) rfl tw_1144 dX8_begin_79 (fun x19 => ?_)
              refine v_isub C dX8_begin_82 ?_
              refine v_bdI (fun x20 => ?_)
              refine v_istore_n C [(3, I x20), (0, A w a0), (1, I a1)] dX8_begin_83 rfl (by decide) rfl ?_
              refine v_iconst C dX8_begin_84 ?_
              refine v_istore C [(4, I 0), (3, I x20), (0, A w a0), (1, I a1)] dX8_begin_85 (by decide) rfl ?_
              refine v_sub [(0, A w a0), (1, I a1), (3, I x20), (4, I 0)] [2, 3, 1, 0] rfl ?_
              refine vX8_begin_L87 res hRm C hO a0 a1 x20 _ ?_ 1000 0 s17
              · intro s31
                refine v_aload_n C dX8_begin_140 rfl (j := 0) rfl ?_
                refine v_callV_wV C [] [] (Cee.of (rm := rX8_goOn) tw_1255 tw_9 hX8_goOn rfl rfl hRm (Nat.le_of_ble_eq_true rfl) (Nat.le_of_ble_eq_true rfl)) (fun x h => kX8_goOn X.2.1 w P n h) tw_1252 tw_1254 ts_57 rfl (ci := 8) rfl (by decide) rfl rfl (Nat.le_of_ble_eq_true rfl) ⟨Nat.zero_le _, Nat.zero_le _⟩ dX8_begin_141 (fun s32 => ?_)
                refine v_iconst C dX8_begin_144 ?_
                exact v_zret C rfl hO pI dX8_begin_145
            · skip
              refine v_iconst C dX8_begin_72 ?_
              exact v_zret C rfl hO pI dX8_begin_73
          intro k65 hk65
          refine v_icmp_ne (tgt := 64) C dX8_begin_57 rfl ?_ ?_
          · skip
            refine v_iconst C dX8_begin_64 ?_
            exact hk65 0
          · skip
            refine v_iconst C dX8_begin_60 ?_
            refine v_goto (tgt := 65) C dX8_begin_61 rfl ?_
            exact hk65 1
      intro k43 hk43
      refine v_icmp_ne (tgt := 42) C dX8_begin_35 rfl ?_ ?_
      · skip
        refine v_iconst C dX8_begin_42 ?_
        exact hk43 0
      · skip
        refine v_iconst C dX8_begin_38 ?_
        refine v_goto (tgt := 43) C dX8_begin_39 rfl ?_
        exact hk43 1
    · skip
      refine v_iconst C dX8_begin_23 ?_
      exact v_zret C rfl hO pI dX8_begin_24
  intro k16 hk16
  refine v_icmp_ge (tgt := 15) C dX8_begin_8 rfl ?_ ?_
  · skip
    refine v_iconst C dX8_begin_15 ?_
    refine v_sub [(0, A w a0), (1, I a1)] [0, 1] rfl ?_
    exact hk16 0
  · skip
    refine v_iconst C dX8_begin_11 ?_
    refine v_goto (tgt := 16) C dX8_begin_12 rfl ?_
    refine v_sub [(0, A w a0), (1, I a1)] [0, 1] rfl ?_
    exact hk16 1
-- ForesightHubModel.kindHere
theorem hX8_kindHere : yX8_kindHere.cls ≠ "java/lang/invoke/MethodHandle" ∧ yX8_kindHere.cls ≠ "java/lang/invoke/VarHandle" ∧ (parseMethodDescriptor yX8_kindHere.desc).map (fun d => d.parameters.length) = some 0 := by decide +kernel
set_option maxRecDepth 100000 in
theorem kX8_kindHere (l : Launch) (w : Wd) (P : Shp) (n : Nat) {s : St} {a0 : Int} {res : Int} (h : fX8_kindHere P s a0 = some res) : Ct l w yX8_kindHere cX8_kindHere 1 (some FieldType.int) rX8_kindHere P n [A w a0] s (QI w P n res s) :=
  Ct.of h (by decide) (Nat.le_of_ble_eq_true rfl) (lv := [(0, A w a0)]) rfl fun X hl hRm C hO => by
  subst hl
  unfold fX8_kindHere
  refine v_aload_n C dX8_kindHere_0 rfl (j := 0) rfl ?_
  refine v_ldcS (own := RX8) (idx := 125) (tx := "crc") (i := 6) (z := (-8)) C (by decide) dX8_kindHere_1 (by decide) ?_
  refine v_callV_rI C [A w ((-8))] [] (Cee.of (rm := rX8_isWord) tw_1245 tw_9 hX8_isWord rfl rfl hRm (Nat.le_of_ble_eq_true rfl) (Nat.le_of_ble_eq_true rfl)) (fun x h => kX8_isWord X.2.1 w P n h) tw_1242 tw_1244 ts_55 rfl (ci := 8) rfl (by decide) rfl rfl (Nat.le_of_ble_eq_true rfl) ⟨Nat.zero_le _, Nat.zero_le _⟩ dX8_kindHere_3 (fun x1 => ?_)
  refine v_if_eq (tgt := 13) C dX8_kindHere_6 rfl ?_ ?_
  · skip
    refine v_aload_n C dX8_kindHere_13 rfl (j := 0) rfl ?_
    refine v_ldcS (own := RX8) (idx := 131) (tx := "stall") (i := 7) (z := (-9)) C (by decide) dX8_kindHere_14 (by decide) ?_
    refine v_callV_rI C [A w ((-9))] [] (Cee.of (rm := rX8_isWord) tw_1245 tw_9 hX8_isWord rfl rfl hRm (Nat.le_of_ble_eq_true rfl) (Nat.le_of_ble_eq_true rfl)) (fun x h => kX8_isWord X.2.1 w P n h) tw_1242 tw_1244 ts_55 rfl (ci := 8) rfl (by decide) rfl rfl (Nat.le_of_ble_eq_true rfl) ⟨Nat.zero_le _, Nat.zero_le _⟩ dX8_kindHere_16 (fun x2 => ?_)
    refine v_if_eq (tgt := 26) C dX8_kindHere_19 rfl ?_ ?_
    · skip
      refine v_aload_n C dX8_kindHere_26 rfl (j := 0) rfl ?_
      refine v_ldcS (own := RX8) (idx := 133) (tx := "jitter") (i := 8) (z := (-10)) C (by decide) dX8_kindHere_27 (by decide) ?_
      refine v_callV_rI C [A w ((-10))] [] (Cee.of (rm := rX8_isWord) tw_1245 tw_9 hX8_isWord rfl rfl hRm (Nat.le_of_ble_eq_true rfl) (Nat.le_of_ble_eq_true rfl)) (fun x h => kX8_isWord X.2.1 w P n h) tw_1242 tw_1244 ts_55 rfl (ci := 8) rfl (by decide) rfl rfl (Nat.le_of_ble_eq_true rfl) ⟨Nat.zero_le _, Nat.zero_le _⟩ dX8_kindHere_29 (fun x3 => ?_)
      refine v_if_eq (tgt := 39) C dX8_kindHere_32 rfl ?_ ?_
      · skip
        refine v_aload_n C dX8_kindHere_39 rfl (j := 0) rfl ?_
        refine v_ldcS (own := RX8) (idx := 135) (tx := "power") (i := 9) (z := (-11)) C (by decide) dX8_kindHere_40 (by decide) ?_
        refine v_callV_rI C [A w ((-11))] [] (Cee.of (rm := rX8_isWord) tw_1245 tw_9 hX8_isWord rfl rfl hRm (Nat.le_of_ble_eq_true rfl) (Nat.le_of_ble_eq_true rfl)) (fun x h => kX8_isWord X.2.1 w P n h) tw_1242 tw_1244 ts_55 rfl (ci := 8) rfl (by decide) rfl rfl (Nat.le_of_ble_eq_true rfl) ⟨Nat.zero_le _, Nat.zero_le _⟩ dX8_kindHere_42 (fun x4 => ?_)
        refine v_if_eq (tgt := 52) C dX8_kindHere_45 rfl ?_ ?_
        · skip
          refine v_iconst C dX8_kindHere_52 ?_
          exact v_iret C rfl hO pS dX8_kindHere_53
        · skip
          refine v_iconst C dX8_kindHere_48 ?_
          refine v_goto (tgt := 53) C dX8_kindHere_49 rfl ?_
          exact v_iret C rfl hO pS dX8_kindHere_53
      · skip
        refine v_iconst C dX8_kindHere_35 ?_
        refine v_goto (tgt := 53) C dX8_kindHere_36 rfl ?_
        exact v_iret C rfl hO pS dX8_kindHere_53
    · skip
      refine v_iconst C dX8_kindHere_22 ?_
      refine v_goto (tgt := 53) C dX8_kindHere_23 rfl ?_
      exact v_iret C rfl hO pS dX8_kindHere_53
  · skip
    refine v_iconst C dX8_kindHere_9 ?_
    refine v_goto (tgt := 53) C dX8_kindHere_10 rfl ?_
    exact v_iret C rfl hO pS dX8_kindHere_53
-- ForesightHubModel.patternLine
set_option maxRecDepth 100000 in
theorem vX8_patternLine_L57 {X : Cxt} {w : Wd} {P : Shp} {n : Nat} (res : St) (hRm : X.2.2.2.1 = rX8_patternLine) (C : Cok X w cX8_patternLine 4 RX8 (Option.none : Option FieldType)) (hO : Own X w 0 0 (QV w P n res))  (c0 : Int) (c1 : Int) (c2 : Int) (kE78 : St → Option (St)) (hE78 : ∀ (se : St), V X w 4 P n 0 0 res (kE78 se) se 78 [(0, A w c0), (1, I c1), (2, I c2)] []) : ∀ (fuel : Nat) (p3 : Int) (s : St), V X w 4 P n 0 0 res (fX8_patternLine_L57 P c0 c1 c2 kE78 fuel p3 s) s 57 [(0, A w c0), (1, I c1), (2, I c2), (3, I p3)] [] := by
  intro fuel
  induction fuel with
  | zero => intro p3 s; exact v_none
  | succ m ih =>
    intro p3 s
    rw [fX8_patternLine_L57]
    refine v_iload_n C dX8_patternLine_57 rfl (j := 3) rfl ?_
    refine v_bipush C dX8_patternLine_58 (by decide) ?_
    refine v_icmp_ge (tgt := 78) C dX8_patternLine_60 rfl ?_ ?_
    · skip
      refine v_sub [(0, A w c0), (1, I c1), (2, I c2)] [0, 1, 2] rfl ?_
      exact hE78 s
    · skip
      refine v_aload_n C dX8_patternLine_63 rfl (j := 0) rfl ?_
      refine v_getR C 10 rfl (T := TX8) rfl inB8 (by decide) (by decide) rfl tw_1150 dX8_patternLine_64 (fun x17 => ?_)
      refine v_iload_n C dX8_patternLine_67 rfl (j := 1) rfl ?_
      refine v_iload_n C dX8_patternLine_68 rfl (j := 3) rfl ?_
      refine v_iadd C dX8_patternLine_69 ?_
      refine v_iconst C dX8_patternLine_70 ?_
      refine v_iast C dX8_patternLine_71 (fun s18 => ?_)
      refine v_iinc C (j := 3) [(0, A w c0), (1, I c1), (2, I c2)] dX8_patternLine_72 (by decide) rfl (fun _ => rfl) (fun x19 => ?_)
      refine v_goto (tgt := 57) C dX8_patternLine_75 rfl ?_
      refine v_sub [(0, A w c0), (1, I c1), (2, I c2), (3, I x19)] [1, 2, 3, 0] rfl ?_
      exact ih x19 s18
set_option maxRecDepth 100000 in
theorem vX8_patternLine_L78 {X : Cxt} {w : Wd} {P : Shp} {n : Nat} (res : St) (hRm : X.2.2.2.1 = rX8_patternLine) (C : Cok X w cX8_patternLine 4 RX8 (Option.none : Option FieldType)) (hO : Own X w 0 0 (QV w P n res))  (c0 : Int) (c1 : Int) (kE160 : Int → St → Option (St)) (kE138 : St → Option (St)) (hE160 : ∀ (p2e : Int) (se : St), V X w 4 P n 0 0 res (kE160 p2e se) se 160 [(0, A w c0), (1, I c1), (2, I p2e)] []) (hE138 : ∀ (se : St), V X w 4 P n 0 0 res (kE138 se) se 138 [] []) : ∀ (fuel : Nat) (p2 : Int) (s : St), V X w 4 P n 0 0 res (fX8_patternLine_L78 P c0 c1 kE160 kE138 fuel p2 s) s 78 [(0, A w c0), (1, I c1), (2, I p2)] [] := by
  intro fuel
  induction fuel with
  | zero => intro p2 s; exact v_none
  | succ m ih =>
    intro p2 s
    rw [fX8_patternLine_L78]
    refine v_aload_n C dX8_patternLine_78 rfl (j := 0) rfl ?_
    refine v_getI C 8 rfl (T := TX8) rfl inB8 (by decide) (by decide) rfl tw_1148 dX8_patternLine_79 (fun x21 => ?_)
    refine v_if_ne (tgt := 160) C dX8_patternLine_82 rfl ?_ ?_
    · skip
      exact hE160 p2 s
    · skip
      refine v_iload_n C dX8_patternLine_85 rfl (j := 2) rfl ?_
      refine v_jnt (fun (k97 : Option (St)) => V X w 4 P n 0 0 res (k97) s 97 [(0, A w c0), (1, I c1), (2, I p2)] []) ?_ ?_
      · skip
        refine v_aload_n C dX8_patternLine_97 rfl (j := 0) rfl ?_
        refine v_callV_rI C [] [] (Cee.of (rm := rX8_kindHere) tw_1283 tw_9 hX8_kindHere rfl rfl hRm (Nat.le_of_ble_eq_true rfl) (Nat.le_of_ble_eq_true rfl)) (fun x h => kX8_kindHere X.2.1 w P n h) tw_1280 tw_1282 ts_63 rfl (ci := 8) rfl (by decide) rfl rfl (Nat.le_of_ble_eq_true rfl) ⟨Nat.zero_le _, Nat.zero_le _⟩ dX8_patternLine_98 (fun x22 => ?_)
        refine v_istore_n C [(3, I x22), (0, A w c0), (1, I c1), (2, I p2)] dX8_patternLine_101 rfl (by decide) rfl ?_
        refine v_aload_n C dX8_patternLine_102 rfl (j := 1) rfl ?_
        refine v_iload_n C dX8_patternLine_103 rfl (j := 0) rfl ?_
        refine v_iconst C dX8_patternLine_104 ?_
        refine v_jnt (fun (k113 : Int → Option (St)) => ∀ (x23 : Int), V X w 4 P n 0 0 res (k113 x23) s 113 [(0, A w c0), (1, I c1), (2, I p2), (3, I x22)] [I x23, A w c0]) ?_ ?_
        · intro x23
          refine v_iconst C dX8_patternLine_113 ?_
          refine v_callV_wI C [I x23, I 1] [] (Cee.of (rm := rX8_must) tw_1251 tw_9 hX8_must rfl rfl hRm (Nat.le_of_ble_eq_true rfl) (Nat.le_of_ble_eq_true rfl)) (fun x h => kX8_must X.2.1 w P n h) tw_1248 tw_1250 ts_56 rfl (ci := 8) rfl (by decide) rfl rfl (Nat.le_of_ble_eq_true rfl) ⟨Nat.zero_le _, Nat.zero_le _⟩ dX8_patternLine_114 (fun q24 => ?_)
          obtain ⟨x25, s26⟩ := q24
          refine v_if_eq (tgt := 138) C dX8_patternLine_117 rfl ?_ ?_
          · skip
            refine v_sub [] [] rfl ?_
            exact hE138 s26
          · skip
            refine v_aload_n C dX8_patternLine_120 rfl (j := 0) rfl ?_
            refine v_iload_n C dX8_patternLine_121 rfl (j := 2) rfl ?_
            refine v_iconst C dX8_patternLine_122 ?_
            refine v_jnt (fun (k131 : Int → Option (St)) => ∀ (x27 : Int), V X w 4 P n 0 0 res (k131 x27) s26 131 [(0, A w c0), (1, I c1), (2, I p2), (3, I x22)] [I x27, A w c0]) ?_ ?_
            · intro x27
              refine v_iconst C dX8_patternLine_131 ?_
              refine v_callV_wI C [I x27, I 5] [] (Cee.of (rm := rX8_must) tw_1251 tw_9 hX8_must rfl rfl hRm (Nat.le_of_ble_eq_true rfl) (Nat.le_of_ble_eq_true rfl)) (fun x h => kX8_must X.2.1 w P n h) tw_1248 tw_1250 ts_56 rfl (ci := 8) rfl (by decide) rfl rfl (Nat.le_of_ble_eq_true rfl) ⟨Nat.zero_le _, Nat.zero_le _⟩ dX8_patternLine_132 (fun q28 => ?_)
              obtain ⟨x29, s30⟩ := q28
              refine v_if_ne (tgt := 139) C dX8_patternLine_135 rfl ?_ ?_
              · skip
                refine v_aload_n C dX8_patternLine_139 rfl (j := 0) rfl ?_
                refine v_getR C 10 rfl (T := TX8) rfl inB8 (by decide) (by decide) rfl tw_1150 dX8_patternLine_140 (fun x31 => ?_)
                refine v_iload_n C dX8_patternLine_143 rfl (j := 1) rfl ?_
                refine v_iconst C dX8_patternLine_144 ?_
                refine v_iadd C dX8_patternLine_145 ?_
                refine v_iload_n C dX8_patternLine_146 rfl (j := 2) rfl ?_
                refine v_iadd C dX8_patternLine_147 ?_
                refine v_iload_n C dX8_patternLine_148 rfl (j := 3) rfl ?_
                refine v_iast C dX8_patternLine_149 (fun s32 => ?_)
                refine v_iinc C (j := 2) [(0, A w c0), (1, I c1), (3, I x22)] dX8_patternLine_150 (by decide) rfl (fun _ => rfl) (fun x33 => ?_)
                refine v_aload_n C dX8_patternLine_153 rfl (j := 1) rfl ?_
                refine v_callV_wV C [] [] (Cee.of (rm := rX8_goOn) tw_1255 tw_9 hX8_goOn rfl rfl hRm (Nat.le_of_ble_eq_true rfl) (Nat.le_of_ble_eq_true rfl)) (fun x h => kX8_goOn X.2.1 w P n h) tw_1252 tw_1254 ts_57 rfl (ci := 8) rfl (by decide) rfl rfl (Nat.le_of_ble_eq_true rfl) ⟨Nat.zero_le _, Nat.zero_le _⟩ dX8_patternLine_154 (fun s34 => ?_)
                refine v_goto (tgt := 78) C dX8_patternLine_157 rfl ?_
                refine v_sub [(0, A w c0), (1, I c1), (2, I x33)] [1, 2, 0] rfl ?_
                exact ih x33 s34
              · skip
                refine v_sub [] [] rfl ?_
                exact hE138 s30
            intro k131 hk131
            refine v_icmp_ge (tgt := 130) C dX8_patternLine_123 rfl ?_ ?_
            · skip
              refine v_iconst C dX8_patternLine_130 ?_
              exact hk131 0
            · skip
              refine v_iconst C dX8_patternLine_126 ?_
              refine v_goto (tgt := 131) C dX8_patternLine_127 rfl ?_
              exact hk131 1
        intro k113 hk113
        refine v_icmp_eq (tgt := 112) C dX8_patternLine_105 rfl ?_ ?_
        · skip
          refine v_iconst C dX8_patternLine_112 ?_
          refine v_sub [(0, A w c0), (1, I c1), (2, I p2), (3, I x22)] [1, 2, 3, 0] rfl ?_
          exact hk113 0
        · skip
          refine v_iconst C dX8_patternLine_108 ?_
          refine v_goto (tgt := 113) C dX8_patternLine_109 rfl ?_
          refine v_sub [(0, A w c0), (1, I c1), (2, I p2), (3, I x22)] [1, 2, 3, 0] rfl ?_
          exact hk113 1
      intro k97 hk97
      refine v_if_eq (tgt := 97) C dX8_patternLine_86 rfl ?_ ?_
      · skip
        exact hk97
      · skip
        refine v_aload_n C dX8_patternLine_89 rfl (j := 0) rfl ?_
        refine v_getI C 6 rfl (T := TX8) rfl inB8 (by decide) (by decide) rfl tw_1146 dX8_patternLine_90 (fun x35 => ?_)
        refine v_iconst C dX8_patternLine_93 ?_
        refine v_icmp_ne (tgt := 160) C dX8_patternLine_94 rfl ?_ ?_
        · skip
          exact hE160 p2 s
        · skip
          exact hk97
theorem hX8_patternLine : yX8_patternLine.cls ≠ "java/lang/invoke/MethodHandle" ∧ yX8_patternLine.cls ≠ "java/lang/invoke/VarHandle" ∧ (parseMethodDescriptor yX8_patternLine.desc).map (fun d => d.parameters.length) = some 0 := by decide +kernel
set_option maxRecDepth 100000 in
theorem kX8_patternLine (l : Launch) (w : Wd) (P : Shp) (n : Nat) {s : St} {a0 : Int} {res : St} (h : fX8_patternLine P s a0 = some res) : Ct l w yX8_patternLine cX8_patternLine 4 (Option.none : Option FieldType) rX8_patternLine P n [A w a0] s (QV w P n res) :=
  Ct.of h (by decide) (Nat.le_of_ble_eq_true rfl) (lv := [(0, A w a0)]) rfl fun X hl hRm C hO => by
  subst hl
  unfold fX8_patternLine
  refine v_aload_n C dX8_patternLine_0 rfl (j := 0) rfl ?_
  refine v_iconst C dX8_patternLine_1 ?_
  refine v_bipush C dX8_patternLine_2 (by decide) ?_
  refine v_callV_wI C [I 0, I 6] [] (Cee.of (rm := rX8_begin) tw_1272 tw_9 hX8_begin rfl rfl hRm (Nat.le_of_ble_eq_true rfl) (Nat.le_of_ble_eq_true rfl)) (fun x h => kX8_begin X.2.1 w P n h) tw_1269 tw_1271 ts_61 rfl (ci := 8) rfl (by decide) rfl rfl (Nat.le_of_ble_eq_true rfl) ⟨Nat.zero_le _, Nat.zero_le _⟩ dX8_patternLine_4 (fun q1 => ?_)
  obtain ⟨x2, s3⟩ := q1
  refine v_if_ne (tgt := 11) C dX8_patternLine_7 rfl ?_ ?_
  · skip
    refine v_bipush C dX8_patternLine_11 (by decide) ?_
    refine v_bipush C dX8_patternLine_13 (by decide) ?_
    refine v_aload_n C dX8_patternLine_15 rfl (j := 0) rfl ?_
    refine v_getR C 10 rfl (T := TX8) rfl inB8 (by decide) (by decide) rfl tw_1150 dX8_patternLine_16 (fun x4 => ?_)
    refine v_iconst C dX8_patternLine_19 ?_
    refine v_iald C dX8_patternLine_20 (fun x5 => ?_)
    refine v_imul C dX8_patternLine_21 ?_
    refine v_iadd C dX8_patternLine_22 ?_
    refine v_bdI (fun x6 => ?_)
    refine v_istore_n C [(1, I x6), (0, A w a0)] dX8_patternLine_23 rfl (by decide) rfl ?_
    refine v_aload_n C dX8_patternLine_24 rfl (j := 1) rfl ?_
    refine v_getR C 10 rfl (T := TX8) rfl inB8 (by decide) (by decide) rfl tw_1150 dX8_patternLine_25 (fun x7 => ?_)
    refine v_iload_n C dX8_patternLine_28 rfl (j := 0) rfl ?_
    refine v_aload_n C dX8_patternLine_29 rfl (j := 1) rfl ?_
    refine v_iconst C dX8_patternLine_30 ?_
    refine v_bipush C dX8_patternLine_31 (by decide) ?_
    refine v_callV_wI C [I 1, I 99] [I x6, A w x7] (Cee.of (rm := rX8_read) tw_1259 tw_9 hX8_read rfl rfl hRm (Nat.le_of_ble_eq_true rfl) (Nat.le_of_ble_eq_true rfl)) (fun x h => kX8_read X.2.1 w P n h) tw_1256 tw_1258 ts_58 rfl (ci := 8) rfl (by decide) rfl rfl (Nat.le_of_ble_eq_true rfl) ⟨Nat.zero_le _, Nat.zero_le _⟩ dX8_patternLine_33 (fun q8 => ?_)
    obtain ⟨x9, s10⟩ := q8
    refine v_iast C dX8_patternLine_36 (fun s11 => ?_)
    refine v_aload_n C dX8_patternLine_37 rfl (j := 1) rfl ?_
    refine v_getR C 10 rfl (T := TX8) rfl inB8 (by decide) (by decide) rfl tw_1150 dX8_patternLine_38 (fun x12 => ?_)
    refine v_iload_n C dX8_patternLine_41 rfl (j := 0) rfl ?_
    refine v_iconst C dX8_patternLine_42 ?_
    refine v_iadd C dX8_patternLine_43 ?_
    refine v_aload_n C dX8_patternLine_44 rfl (j := 1) rfl ?_
    refine v_iconst C dX8_patternLine_45 ?_
    refine v_sipush C dX8_patternLine_46 (by decide) ?_
    refine v_callV_wI C [I 1, I 200] [I (x6 + 1), A w x12] (Cee.of (rm := rX8_read) tw_1259 tw_9 hX8_read rfl rfl hRm (Nat.le_of_ble_eq_true rfl) (Nat.le_of_ble_eq_true rfl)) (fun x h => kX8_read X.2.1 w P n h) tw_1256 tw_1258 ts_58 rfl (ci := 8) rfl (by decide) rfl rfl (Nat.le_of_ble_eq_true rfl) ⟨Nat.zero_le _, Nat.zero_le _⟩ dX8_patternLine_49 (fun q13 => ?_)
    obtain ⟨x14, s15⟩ := q13
    refine v_iast C dX8_patternLine_52 (fun s16 => ?_)
    refine v_iconst C dX8_patternLine_53 ?_
    refine v_istore_n C [(2, I 0), (1, I x6), (0, A w a0)] dX8_patternLine_54 rfl (by decide) rfl ?_
    refine v_iconst C dX8_patternLine_55 ?_
    refine v_istore_n C [(3, I 3), (2, I 0), (1, I x6), (0, A w a0)] dX8_patternLine_56 rfl (by decide) rfl ?_
    refine v_sub [(0, A w a0), (1, I x6), (2, I 0), (3, I 3)] [3, 2, 1, 0] rfl ?_
    refine vX8_patternLine_L57 res hRm C hO a0 x6 0 _ ?_ 1000 3 s16
    · intro s20
      refine vX8_patternLine_L78 res hRm C hO a0 x6 _ _ ?_ ?_ 1000 0 s20
      · intro x36 s37
        refine v_aload_n C dX8_patternLine_160 rfl (j := 0) rfl ?_
        refine v_getR C 10 rfl (T := TX8) rfl inB8 (by decide) (by decide) rfl tw_1150 dX8_patternLine_161 (fun x38 => ?_)
        refine v_iload_n C dX8_patternLine_164 rfl (j := 1) rfl ?_
        refine v_iconst C dX8_patternLine_165 ?_
        refine v_iadd C dX8_patternLine_166 ?_
        refine v_iload_n C dX8_patternLine_167 rfl (j := 2) rfl ?_
        refine v_iast C dX8_patternLine_168 (fun s39 => ?_)
        refine v_aload_n C dX8_patternLine_169 rfl (j := 0) rfl ?_
        refine v_getI C 8 rfl (T := TX8) rfl inB8 (by decide) (by decide) rfl tw_1148 dX8_patternLine_170 (fun x40 => ?_)
        refine v_if_ne (tgt := 186) C dX8_patternLine_173 rfl ?_ ?_
        · skip
          exact v_vret C rfl hO (fun h => Option.some.inj h) dX8_patternLine_186
        · skip
          refine v_aload_n C dX8_patternLine_176 rfl (j := 0) rfl ?_
          refine v_getR C 10 rfl (T := TX8) rfl inB8 (by decide) (by decide) rfl tw_1150 dX8_patternLine_177 (fun x41 => ?_)
          refine v_iconst C dX8_patternLine_180 ?_
          refine v_dup2 C dX8_patternLine_181 rfl rfl ?_
          refine v_iald C dX8_patternLine_182 (fun x42 => ?_)
          refine v_iconst C dX8_patternLine_183 ?_
          refine v_iadd C dX8_patternLine_184 ?_
          refine v_iast C dX8_patternLine_185 (fun s43 => ?_)
          exact v_vret C rfl hO (fun h => Option.some.inj h) dX8_patternLine_186
      · intro s44
        exact v_vret C rfl hO (fun h => Option.some.inj h) dX8_patternLine_138
  · skip
    exact v_vret C rfl hO (fun h => Option.some.inj h) dX8_patternLine_10
-- ForesightHubModel.isTaken
set_option maxRecDepth 100000 in
theorem vX8_isTaken_L2 {X : Cxt} {w : Wd} {P : Shp} {n : Nat} {s : St} (res : Int) (hRm : X.2.2.2.1 = rX8_isTaken) (C : Cok X w cX8_isTaken 3 RX8 (some FieldType.boolean)) (hO : Own X w 0 0 (QI w P n res s))  (c0 : Int) (c1 : Int) (kE33 : Option (Int)) (kE25 : Option (Int)) (hE33 : V X w 3 P n 0 0 res (kE33) s 33 [] []) (hE25 : V X w 3 P n 0 0 res (kE25) s 25 [] []) : ∀ (fuel : Nat) (p2 : Int), V X w 3 P n 0 0 res (fX8_isTaken_L2 P s c0 c1 kE33 kE25 fuel p2) s 2 [(0, A w c0), (1, I c1), (2, I p2)] [] := by
  intro fuel
  induction fuel with
  | zero => intro p2; exact v_none
  | succ m ih =>
    intro p2
    rw [fX8_isTaken_L2]
    refine v_iload_n C dX8_isTaken_2 rfl (j := 2) rfl ?_
    refine v_aload_n C dX8_isTaken_3 rfl (j := 0) rfl ?_
    refine v_getR C 10 rfl (T := TX8) rfl inB8 (by decide) (by decide) rfl tw_1150 dX8_isTaken_4 (fun x1 => ?_)
    refine v_iconst C dX8_isTaken_7 ?_
    refine v_iald C dX8_isTaken_8 (fun x2 => ?_)
    refine v_icmp_ge (tgt := 33) C dX8_isTaken_9 rfl ?_ ?_
    · skip
      refine v_sub [] [] rfl ?_
      exact hE33
    · skip
      refine v_aload_n C dX8_isTaken_12 rfl (j := 0) rfl ?_
      refine v_getR C 10 rfl (T := TX8) rfl inB8 (by decide) (by decide) rfl tw_1150 dX8_isTaken_13 (fun x3 => ?_)
      refine v_bipush C dX8_isTaken_16 (by decide) ?_
      refine v_iload_n C dX8_isTaken_18 rfl (j := 2) rfl ?_
      refine v_iadd C dX8_isTaken_19 ?_
      refine v_iald C dX8_isTaken_20 (fun x4 => ?_)
      refine v_iload_n C dX8_isTaken_21 rfl (j := 1) rfl ?_
      refine v_icmp_ne (tgt := 27) C dX8_isTaken_22 rfl ?_ ?_
      · skip
        refine v_iinc C (j := 2) [(0, A w c0), (1, I c1)] dX8_isTaken_27 (by decide) rfl (fun _ => rfl) (fun x5 => ?_)
        refine v_goto (tgt := 2) C dX8_isTaken_30 rfl ?_
        refine v_sub [(0, A w c0), (1, I c1), (2, I x5)] [1, 2, 0] rfl ?_
        exact ih x5
      · skip
        refine v_sub [] [] rfl ?_
        exact hE25
theorem hX8_isTaken : yX8_isTaken.cls ≠ "java/lang/invoke/MethodHandle" ∧ yX8_isTaken.cls ≠ "java/lang/invoke/VarHandle" ∧ (parseMethodDescriptor yX8_isTaken.desc).map (fun d => d.parameters.length) = some 1 := by decide +kernel
set_option maxRecDepth 100000 in
theorem kX8_isTaken (l : Launch) (w : Wd) (P : Shp) (n : Nat) {s : St} {a0 : Int} {a1 : Int} {res : Int} (h : fX8_isTaken P s a0 a1 = some res) : Ct l w yX8_isTaken cX8_isTaken 3 (some FieldType.boolean) rX8_isTaken P n [A w a0, I a1] s (QI w P n res s) :=
  Ct.of h (by decide) (Nat.le_of_ble_eq_true rfl) (lv := [(0, A w a0), (1, I a1)]) rfl fun X hl hRm C hO => by
  subst hl
  unfold fX8_isTaken
  refine v_iconst C dX8_isTaken_0 ?_
  refine v_istore_n C [(2, I 0), (0, A w a0), (1, I a1)] dX8_isTaken_1 rfl (by decide) rfl ?_
  refine v_sub [(0, A w a0), (1, I a1), (2, I 0)] [1, 2, 0] rfl ?_
  refine vX8_isTaken_L2 res hRm C hO a0 a1 _ _ ?_ ?_ 1000 0
  · skip
    refine v_iconst C dX8_isTaken_33 ?_
    exact v_zret C rfl hO pS dX8_isTaken_34
  · skip
    refine v_iconst C dX8_isTaken_25 ?_
    exact v_zret C rfl hO pS dX8_isTaken_26
-- ForesightHubModel.deviceLine
theorem hX8_deviceLine : yX8_deviceLine.cls ≠ "java/lang/invoke/MethodHandle" ∧ yX8_deviceLine.cls ≠ "java/lang/invoke/VarHandle" ∧ (parseMethodDescriptor yX8_deviceLine.desc).map (fun d => d.parameters.length) = some 0 := by decide +kernel
set_option maxRecDepth 100000 in
theorem kX8_deviceLine (l : Launch) (w : Wd) (P : Shp) (n : Nat) {s : St} {a0 : Int} {res : St} (h : fX8_deviceLine P s a0 = some res) : Ct l w yX8_deviceLine cX8_deviceLine 2 (Option.none : Option FieldType) rX8_deviceLine P n [A w a0] s (QV w P n res) :=
  Ct.of h (by decide) (Nat.le_of_ble_eq_true rfl) (lv := [(0, A w a0)]) rfl fun X hl hRm C hO => by
  subst hl
  unfold fX8_deviceLine
  refine v_aload_n C dX8_deviceLine_0 rfl (j := 0) rfl ?_
  refine v_iconst C dX8_deviceLine_1 ?_
  refine v_bipush C dX8_deviceLine_2 (by decide) ?_
  refine v_callV_wI C [I 1, I 8] [] (Cee.of (rm := rX8_begin) tw_1272 tw_9 hX8_begin rfl rfl hRm (Nat.le_of_ble_eq_true rfl) (Nat.le_of_ble_eq_true rfl)) (fun x h => kX8_begin X.2.1 w P n h) tw_1269 tw_1271 ts_61 rfl (ci := 8) rfl (by decide) rfl rfl (Nat.le_of_ble_eq_true rfl) ⟨Nat.zero_le _, Nat.zero_le _⟩ dX8_deviceLine_4 (fun q1 => ?_)
  obtain ⟨x2, s3⟩ := q1
  refine v_if_ne (tgt := 11) C dX8_deviceLine_7 rfl ?_ ?_
  · skip
    refine v_aload_n C dX8_deviceLine_11 rfl (j := 0) rfl ?_
    refine v_getR C 10 rfl (T := TX8) rfl inB8 (by decide) (by decide) rfl tw_1150 dX8_deviceLine_12 (fun x4 => ?_)
    refine v_iconst C dX8_deviceLine_15 ?_
    refine v_iald C dX8_deviceLine_16 (fun x5 => ?_)
    refine v_istore_n C [(1, I x5), (0, A w a0)] dX8_deviceLine_17 rfl (by decide) rfl ?_
    refine v_aload_n C dX8_deviceLine_18 rfl (j := 1) rfl ?_
    refine v_aload_n C dX8_deviceLine_19 rfl (j := 1) rfl ?_
    refine v_getI C 6 rfl (T := TX8) rfl inB8 (by decide) (by decide) rfl tw_1146 dX8_deviceLine_20 (fun x6 => ?_)
    refine v_iconst C dX8_deviceLine_23 ?_
    refine v_jnt (fun (k32 : Int → Option (St)) => ∀ (x7 : Int), V X w 2 P n 0 0 res (k32 x7) s3 32 [(0, A w a0), (1, I x5)] [I x7, A w a0]) ?_ ?_
    · intro x7
      refine v_iconst C dX8_deviceLine_32 ?_
      refine v_callV_wI C [I x7, I 1] [] (Cee.of (rm := rX8_must) tw_1251 tw_9 hX8_must rfl rfl hRm (Nat.le_of_ble_eq_true rfl) (Nat.le_of_ble_eq_true rfl)) (fun x h => kX8_must X.2.1 w P n h) tw_1248 tw_1250 ts_56 rfl (ci := 8) rfl (by decide) rfl rfl (Nat.le_of_ble_eq_true rfl) ⟨Nat.zero_le _, Nat.zero_le _⟩ dX8_deviceLine_33 (fun q8 => ?_)
      obtain ⟨x9, s10⟩ := q8
      refine v_jnt (fun (k61 : St → Option (St)) => ∀ (s11 : St), V X w 2 P n 0 0 res (k61 s11) s11 61 [(0, A w a0), (1, I x5)] []) ?_ ?_
      · intro s11
        refine v_aload_n C dX8_deviceLine_61 rfl (j := 0) rfl ?_
        refine v_getR C 10 rfl (T := TX8) rfl inB8 (by decide) (by decide) rfl tw_1150 dX8_deviceLine_62 (fun x12 => ?_)
        refine v_bipush C dX8_deviceLine_65 (by decide) ?_
        refine v_iload_n C dX8_deviceLine_67 rfl (j := 1) rfl ?_
        refine v_iadd C dX8_deviceLine_68 ?_
        refine v_aload_n C dX8_deviceLine_69 rfl (j := 0) rfl ?_
        refine v_iconst C dX8_deviceLine_70 ?_
        refine v_aload_n C dX8_deviceLine_71 rfl (j := 0) rfl ?_
        refine v_getR C 10 rfl (T := TX8) rfl inB8 (by decide) (by decide) rfl tw_1150 dX8_deviceLine_72 (fun x13 => ?_)
        refine v_iconst C dX8_deviceLine_75 ?_
        refine v_iald C dX8_deviceLine_76 (fun x14 => ?_)
        refine v_iconst C dX8_deviceLine_77 ?_
        refine v_isub C dX8_deviceLine_78 ?_
        refine v_callV_wI C [I 0, I (x14 - 1)] [I (55 + x5), A w x12] (Cee.of (rm := rX8_read) tw_1259 tw_9 hX8_read rfl rfl hRm (Nat.le_of_ble_eq_true rfl) (Nat.le_of_ble_eq_true rfl)) (fun x h => kX8_read X.2.1 w P n h) tw_1256 tw_1258 ts_58 rfl (ci := 8) rfl (by decide) rfl rfl (Nat.le_of_ble_eq_true rfl) ⟨Nat.zero_le _, Nat.zero_le _⟩ dX8_deviceLine_79 (fun q15 => ?_)
        obtain ⟨x16, s17⟩ := q15
        refine v_iast C dX8_deviceLine_82 (fun s18 => ?_)
        refine v_aload_n C dX8_deviceLine_83 rfl (j := 0) rfl ?_
        refine v_getR C 10 rfl (T := TX8) rfl inB8 (by decide) (by decide) rfl tw_1150 dX8_deviceLine_84 (fun x19 => ?_)
        refine v_bipush C dX8_deviceLine_87 (by decide) ?_
        refine v_iload_n C dX8_deviceLine_89 rfl (j := 1) rfl ?_
        refine v_iadd C dX8_deviceLine_90 ?_
        refine v_iconst C dX8_deviceLine_91 ?_
        refine v_iast C dX8_deviceLine_92 (fun s20 => ?_)
        refine v_aload_n C dX8_deviceLine_93 rfl (j := 0) rfl ?_
        refine v_ldcS (own := RX8) (idx := 151) (tx := "heir") (i := 5) (z := (-7)) C (by decide) dX8_deviceLine_94 (by decide) ?_
        refine v_callV_rI C [A w ((-7))] [] (Cee.of (rm := rX8_isWord) tw_1245 tw_9 hX8_isWord rfl rfl hRm (Nat.le_of_ble_eq_true rfl) (Nat.le_of_ble_eq_true rfl)) (fun x h => kX8_isWord X.2.1 w P n h) tw_1242 tw_1244 ts_55 rfl (ci := 8) rfl (by decide) rfl rfl (Nat.le_of_ble_eq_true rfl) ⟨Nat.zero_le _, Nat.zero_le _⟩ dX8_deviceLine_96 (fun x21 => ?_)
        refine v_jnt (fun (k119 : St → Option (St)) => ∀ (s22 : St), V X w 2 P n 0 0 res (k119 s22) s22 119 [(0, A w a0)] []) ?_ ?_
        · intro s22
          refine v_aload_n C dX8_deviceLine_119 rfl (j := 0) rfl ?_
          refine v_getI C 8 rfl (T := TX8) rfl inB8 (by decide) (by decide) rfl tw_1148 dX8_deviceLine_120 (fun x23 => ?_)
          refine v_if_ne (tgt := 136) C dX8_deviceLine_123 rfl ?_ ?_
          · skip
            exact v_vret C rfl hO (fun h => Option.some.inj h) dX8_deviceLine_136
          · skip
            refine v_aload_n C dX8_deviceLine_126 rfl (j := 0) rfl ?_
            refine v_getR C 10 rfl (T := TX8) rfl inB8 (by decide) (by decide) rfl tw_1150 dX8_deviceLine_127 (fun x24 => ?_)
            refine v_iconst C dX8_deviceLine_130 ?_
            refine v_dup2 C dX8_deviceLine_131 rfl rfl ?_
            refine v_iald C dX8_deviceLine_132 (fun x25 => ?_)
            refine v_iconst C dX8_deviceLine_133 ?_
            refine v_iadd C dX8_deviceLine_134 ?_
            refine v_iast C dX8_deviceLine_135 (fun s26 => ?_)
            exact v_vret C rfl hO (fun h => Option.some.inj h) dX8_deviceLine_136
        intro k119 hk119
        refine v_if_eq (tgt := 119) C dX8_deviceLine_99 rfl ?_ ?_
        · skip
          refine v_sub [(0, A w a0)] [0] rfl ?_
          exact hk119 s20
        · skip
          refine v_aload_n C dX8_deviceLine_102 rfl (j := 0) rfl ?_
          refine v_callV_wV C [] [] (Cee.of (rm := rX8_goOn) tw_1255 tw_9 hX8_goOn rfl rfl hRm (Nat.le_of_ble_eq_true rfl) (Nat.le_of_ble_eq_true rfl)) (fun x h => kX8_goOn X.2.1 w P n h) tw_1252 tw_1254 ts_57 rfl (ci := 8) rfl (by decide) rfl rfl (Nat.le_of_ble_eq_true rfl) ⟨Nat.zero_le _, Nat.zero_le _⟩ dX8_deviceLine_103 (fun s27 => ?_)
          refine v_aload_n C dX8_deviceLine_106 rfl (j := 0) rfl ?_
          refine v_getR C 10 rfl (T := TX8) rfl inB8 (by decide) (by decide) rfl tw_1150 dX8_deviceLine_107 (fun x28 => ?_)
          refine v_bipush C dX8_deviceLine_110 (by decide) ?_
          refine v_iload_n C dX8_deviceLine_112 rfl (j := 1) rfl ?_
          refine v_iadd C dX8_deviceLine_113 ?_
          refine v_aload_n C dX8_deviceLine_114 rfl (j := 0) rfl ?_
          refine v_callV_wI C [] [I (63 + x5), A w x28] (Cee.of (rm := rX8_deviceHere) tw_1301 tw_9 hX8_deviceHere rfl rfl hRm (Nat.le_of_ble_eq_true rfl) (Nat.le_of_ble_eq_true rfl)) (fun x h => kX8_deviceHere X.2.1 w P n h) tw_1298 tw_1300 ts_66 rfl (ci := 8) rfl (by decide) rfl rfl (Nat.le_of_ble_eq_true rfl) ⟨Nat.zero_le _, Nat.zero_le _⟩ dX8_deviceLine_115 (fun q29 => ?_)
          obtain ⟨x30, s31⟩ := q29
          refine v_iast C dX8_deviceLine_118 (fun s32 => ?_)
          refine v_sub [(0, A w a0)] [0] rfl ?_
          exact hk119 s32
      intro k61 hk61
      refine v_if_eq (tgt := 61) C dX8_deviceLine_36 rfl ?_ ?_
      · skip
        exact hk61 s10
      · skip
        refine v_aload_n C dX8_deviceLine_39 rfl (j := 0) rfl ?_
        refine v_aload_n C dX8_deviceLine_40 rfl (j := 0) rfl ?_
        refine v_aload_n C dX8_deviceLine_41 rfl (j := 0) rfl ?_
        refine v_getI C 7 rfl (T := TX8) rfl inB8 (by decide) (by decide) rfl tw_1147 dX8_deviceLine_42 (fun x33 => ?_)
        refine v_callV_rI C [I x33] [A w a0] (Cee.of (rm := rX8_isTaken) tw_1296 tw_9 hX8_isTaken rfl rfl hRm (Nat.le_of_ble_eq_true rfl) (Nat.le_of_ble_eq_true rfl)) (fun x h => kX8_isTaken X.2.1 w P n h) tw_1293 tw_1295 ts_65 rfl (ci := 8) rfl (by decide) rfl rfl (Nat.le_of_ble_eq_true rfl) ⟨Nat.zero_le _, Nat.zero_le _⟩ dX8_deviceLine_45 (fun x34 => ?_)
        refine v_jnt (fun (k56 : Int → Option (St)) => ∀ (x35 : Int), V X w 2 P n 0 0 res (k56 x35) s10 56 [(0, A w a0), (1, I x5)] [I x35, A w a0]) ?_ ?_
        · intro x35
          refine v_iconst C dX8_deviceLine_56 ?_
          refine v_callV_wI C [I x35, I 3] [] (Cee.of (rm := rX8_must) tw_1251 tw_9 hX8_must rfl rfl hRm (Nat.le_of_ble_eq_true rfl) (Nat.le_of_ble_eq_true rfl)) (fun x h => kX8_must X.2.1 w P n h) tw_1248 tw_1250 ts_56 rfl (ci := 8) rfl (by decide) rfl rfl (Nat.le_of_ble_eq_true rfl) ⟨Nat.zero_le _, Nat.zero_le _⟩ dX8_deviceLine_57 (fun q36 => ?_)
          obtain ⟨x37, s38⟩ := q36
          refine v_pop C dX8_deviceLine_60 rfl ?_
          exact hk61 s38
        intro k56 hk56
        refine v_if_ne (tgt := 55) C dX8_deviceLine_48 rfl ?_ ?_
        · skip
          refine v_iconst C dX8_deviceLine_55 ?_
          exact hk56 0
        · skip
          refine v_iconst C dX8_deviceLine_51 ?_
          refine v_goto (tgt := 56) C dX8_deviceLine_52 rfl ?_
          exact hk56 1
    intro k32 hk32
    refine v_icmp_ne (tgt := 31) C dX8_deviceLine_24 rfl ?_ ?_
    · skip
      refine v_iconst C dX8_deviceLine_31 ?_
      refine v_sub [(0, A w a0), (1, I x5)] [1, 0] rfl ?_
      exact hk32 0
    · skip
      refine v_iconst C dX8_deviceLine_27 ?_
      refine v_goto (tgt := 32) C dX8_deviceLine_28 rfl ?_
      refine v_sub [(0, A w a0), (1, I x5)] [1, 0] rfl ?_
      exact hk32 1
  · skip
    exact v_vret C rfl hO (fun h => Option.some.inj h) dX8_deviceLine_10
-- ForesightHubModel.streamLine
theorem hX8_streamLine : yX8_streamLine.cls ≠ "java/lang/invoke/MethodHandle" ∧ yX8_streamLine.cls ≠ "java/lang/invoke/VarHandle" ∧ (parseMethodDescriptor yX8_streamLine.desc).map (fun d => d.parameters.length) = some 0 := by decide +kernel
set_option maxRecDepth 100000 in
theorem kX8_streamLine (l : Launch) (w : Wd) (P : Shp) (n : Nat) {s : St} {a0 : Int} {res : St} (h : fX8_streamLine P s a0 = some res) : Ct l w yX8_streamLine cX8_streamLine 2 (Option.none : Option FieldType) rX8_streamLine P n [A w a0] s (QV w P n res) :=
  Ct.of h (by decide) (Nat.le_of_ble_eq_true rfl) (lv := [(0, A w a0)]) rfl fun X hl hRm C hO => by
  subst hl
  unfold fX8_streamLine
  refine v_aload_n C dX8_streamLine_0 rfl (j := 0) rfl ?_
  refine v_iconst C dX8_streamLine_1 ?_
  refine v_bipush C dX8_streamLine_2 (by decide) ?_
  refine v_callV_wI C [I 2, I 12] [] (Cee.of (rm := rX8_begin) tw_1272 tw_9 hX8_begin rfl rfl hRm (Nat.le_of_ble_eq_true rfl) (Nat.le_of_ble_eq_true rfl)) (fun x h => kX8_begin X.2.1 w P n h) tw_1269 tw_1271 ts_61 rfl (ci := 8) rfl (by decide) rfl rfl (Nat.le_of_ble_eq_true rfl) ⟨Nat.zero_le _, Nat.zero_le _⟩ dX8_streamLine_4 (fun q1 => ?_)
  obtain ⟨x2, s3⟩ := q1
  refine v_if_ne (tgt := 11) C dX8_streamLine_7 rfl ?_ ?_
  · skip
    refine v_bipush C dX8_streamLine_11 (by decide) ?_
    refine v_iconst C dX8_streamLine_13 ?_
    refine v_aload_n C dX8_streamLine_14 rfl (j := 0) rfl ?_
    refine v_getR C 10 rfl (T := TX8) rfl inB8 (by decide) (by decide) rfl tw_1150 dX8_streamLine_15 (fun x4 => ?_)
    refine v_iconst C dX8_streamLine_18 ?_
    refine v_iald C dX8_streamLine_19 (fun x5 => ?_)
    refine v_imul C dX8_streamLine_20 ?_
    refine v_iadd C dX8_streamLine_21 ?_
    refine v_bdI (fun x6 => ?_)
    refine v_istore_n C [(1, I x6), (0, A w a0)] dX8_streamLine_22 rfl (by decide) rfl ?_
    refine v_aload_n C dX8_streamLine_23 rfl (j := 1) rfl ?_
    refine v_getR C 10 rfl (T := TX8) rfl inB8 (by decide) (by decide) rfl tw_1150 dX8_streamLine_24 (fun x7 => ?_)
    refine v_iload_n C dX8_streamLine_27 rfl (j := 0) rfl ?_
    refine v_aload_n C dX8_streamLine_28 rfl (j := 1) rfl ?_
    refine v_callV_wI C [] [I x6, A w x7] (Cee.of (rm := rX8_deviceHere) tw_1301 tw_9 hX8_deviceHere rfl rfl hRm (Nat.le_of_ble_eq_true rfl) (Nat.le_of_ble_eq_true rfl)) (fun x h => kX8_deviceHere X.2.1 w P n h) tw_1298 tw_1300 ts_66 rfl (ci := 8) rfl (by decide) rfl rfl (Nat.le_of_ble_eq_true rfl) ⟨Nat.zero_le _, Nat.zero_le _⟩ dX8_streamLine_29 (fun q8 => ?_)
    obtain ⟨x9, s10⟩ := q8
    refine v_iast C dX8_streamLine_32 (fun s11 => ?_)
    refine v_aload_n C dX8_streamLine_33 rfl (j := 1) rfl ?_
    refine v_getR C 10 rfl (T := TX8) rfl inB8 (by decide) (by decide) rfl tw_1150 dX8_streamLine_34 (fun x12 => ?_)
    refine v_iload_n C dX8_streamLine_37 rfl (j := 0) rfl ?_
    refine v_iconst C dX8_streamLine_38 ?_
    refine v_iadd C dX8_streamLine_39 ?_
    refine v_aload_n C dX8_streamLine_40 rfl (j := 1) rfl ?_
    refine v_iconst C dX8_streamLine_41 ?_
    refine v_aload_n C dX8_streamLine_42 rfl (j := 1) rfl ?_
    refine v_getR C 10 rfl (T := TX8) rfl inB8 (by decide) (by decide) rfl tw_1150 dX8_streamLine_43 (fun x13 => ?_)
    refine v_iconst C dX8_streamLine_46 ?_
    refine v_iald C dX8_streamLine_47 (fun x14 => ?_)
    refine v_callV_wI C [I 1, I x14] [I (x6 + 1), A w x12] (Cee.of (rm := rX8_read) tw_1259 tw_9 hX8_read rfl rfl hRm (Nat.le_of_ble_eq_true rfl) (Nat.le_of_ble_eq_true rfl)) (fun x h => kX8_read X.2.1 w P n h) tw_1256 tw_1258 ts_58 rfl (ci := 8) rfl (by decide) rfl rfl (Nat.le_of_ble_eq_true rfl) ⟨Nat.zero_le _, Nat.zero_le _⟩ dX8_streamLine_48 (fun q15 => ?_)
    obtain ⟨x16, s17⟩ := q15
    refine v_iast C dX8_streamLine_51 (fun s18 => ?_)
    refine v_aload_n C dX8_streamLine_52 rfl (j := 1) rfl ?_
    refine v_getR C 10 rfl (T := TX8) rfl inB8 (by decide) (by decide) rfl tw_1150 dX8_streamLine_53 (fun x19 => ?_)
    refine v_iload_n C dX8_streamLine_56 rfl (j := 0) rfl ?_
    refine v_iconst C dX8_streamLine_57 ?_
    refine v_iadd C dX8_streamLine_58 ?_
    refine v_aload_n C dX8_streamLine_59 rfl (j := 1) rfl ?_
    refine v_iconst C dX8_streamLine_60 ?_
    refine v_sipush C dX8_streamLine_61 (by decide) ?_
    refine v_callV_wI C [I 1, I 9999] [I (x6 + 2), A w x19] (Cee.of (rm := rX8_read) tw_1259 tw_9 hX8_read rfl rfl hRm (Nat.le_of_ble_eq_true rfl) (Nat.le_of_ble_eq_true rfl)) (fun x h => kX8_read X.2.1 w P n h) tw_1256 tw_1258 ts_58 rfl (ci := 8) rfl (by decide) rfl rfl (Nat.le_of_ble_eq_true rfl) ⟨Nat.zero_le _, Nat.zero_le _⟩ dX8_streamLine_64 (fun q20 => ?_)
    obtain ⟨x21, s22⟩ := q20
    refine v_iast C dX8_streamLine_67 (fun s23 => ?_)
    refine v_aload_n C dX8_streamLine_68 rfl (j := 1) rfl ?_
    refine v_getI C 8 rfl (T := TX8) rfl inB8 (by decide) (by decide) rfl tw_1148 dX8_streamLine_69 (fun x24 => ?_)
    refine v_if_ne (tgt := 85) C dX8_streamLine_72 rfl ?_ ?_
    · skip
      exact v_vret C rfl hO (fun h => Option.some.inj h) dX8_streamLine_85
    · skip
      refine v_aload_n C dX8_streamLine_75 rfl (j := 1) rfl ?_
      refine v_getR C 10 rfl (T := TX8) rfl inB8 (by decide) (by decide) rfl tw_1150 dX8_streamLine_76 (fun x25 => ?_)
      refine v_iconst C dX8_streamLine_79 ?_
      refine v_dup2 C dX8_streamLine_80 rfl rfl ?_
      refine v_iald C dX8_streamLine_81 (fun x26 => ?_)
      refine v_iconst C dX8_streamLine_82 ?_
      refine v_iadd C dX8_streamLine_83 ?_
      refine v_iast C dX8_streamLine_84 (fun s27 => ?_)
      exact v_vret C rfl hO (fun h => Option.some.inj h) dX8_streamLine_85
  · skip
    exact v_vret C rfl hO (fun h => Option.some.inj h) dX8_streamLine_10
-- ForesightHubModel.alarmLine
theorem hX8_alarmLine : yX8_alarmLine.cls ≠ "java/lang/invoke/MethodHandle" ∧ yX8_alarmLine.cls ≠ "java/lang/invoke/VarHandle" ∧ (parseMethodDescriptor yX8_alarmLine.desc).map (fun d => d.parameters.length) = some 0 := by decide +kernel
set_option maxRecDepth 100000 in
theorem kX8_alarmLine (l : Launch) (w : Wd) (P : Shp) (n : Nat) {s : St} {a0 : Int} {res : St} (h : fX8_alarmLine P s a0 = some res) : Ct l w yX8_alarmLine cX8_alarmLine 1 (Option.none : Option FieldType) rX8_alarmLine P n [A w a0] s (QV w P n res) :=
  Ct.of h (by decide) (Nat.le_of_ble_eq_true rfl) (lv := [(0, A w a0)]) rfl fun X hl hRm C hO => by
  subst hl
  unfold fX8_alarmLine
  refine v_aload_n C dX8_alarmLine_0 rfl (j := 0) rfl ?_
  refine v_aload_n C dX8_alarmLine_1 rfl (j := 0) rfl ?_
  refine v_getI C 13 rfl (T := TX8) rfl inB8 (by decide) (by decide) rfl tw_1153 dX8_alarmLine_2 (fun x1 => ?_)
  refine v_jnt (fun (k13 : Int → Option (St)) => ∀ (x2 : Int), V X w 1 P n 0 0 res (k13 x2) s 13 [(0, A w a0)] [I x2, A w a0]) ?_ ?_
  · intro x2
    refine v_iconst C dX8_alarmLine_13 ?_
    refine v_callV_wI C [I x2, I 3] [] (Cee.of (rm := rX8_must) tw_1251 tw_9 hX8_must rfl rfl hRm (Nat.le_of_ble_eq_true rfl) (Nat.le_of_ble_eq_true rfl)) (fun x h => kX8_must X.2.1 w P n h) tw_1248 tw_1250 ts_56 rfl (ci := 8) rfl (by decide) rfl rfl (Nat.le_of_ble_eq_true rfl) ⟨Nat.zero_le _, Nat.zero_le _⟩ dX8_alarmLine_14 (fun q3 => ?_)
    obtain ⟨x4, s5⟩ := q3
    refine v_if_ne (tgt := 21) C dX8_alarmLine_17 rfl ?_ ?_
    · skip
      refine v_aload_n C dX8_alarmLine_21 rfl (j := 0) rfl ?_
      refine v_iconst C dX8_alarmLine_22 ?_
      refine v_putZ C 13 rfl (T := TX8) rfl inB8 (by decide) tyX8_ok nmX8 (by decide) rfl rfl tw_1153 dX8_alarmLine_23 rfl (fun s6 => ?_)
      refine v_aload_n C dX8_alarmLine_26 rfl (j := 0) rfl ?_
      refine v_callV_wV C [] [] (Cee.of (rm := rX8_goOn) tw_1255 tw_9 hX8_goOn rfl rfl hRm (Nat.le_of_ble_eq_true rfl) (Nat.le_of_ble_eq_true rfl)) (fun x h => kX8_goOn X.2.1 w P n h) tw_1252 tw_1254 ts_57 rfl (ci := 8) rfl (by decide) rfl rfl (Nat.le_of_ble_eq_true rfl) ⟨Nat.zero_le _, Nat.zero_le _⟩ dX8_alarmLine_27 (fun s7 => ?_)
      refine v_aload_n C dX8_alarmLine_30 rfl (j := 0) rfl ?_
      refine v_getR C 10 rfl (T := TX8) rfl inB8 (by decide) (by decide) rfl tw_1150 dX8_alarmLine_31 (fun x8 => ?_)
      refine v_iconst C dX8_alarmLine_34 ?_
      refine v_aload_n C dX8_alarmLine_35 rfl (j := 0) rfl ?_
      refine v_iconst C dX8_alarmLine_36 ?_
      refine v_sipush C dX8_alarmLine_37 (by decide) ?_
      refine v_callV_wI C [I 1, I 999] [I 5, A w x8] (Cee.of (rm := rX8_read) tw_1259 tw_9 hX8_read rfl rfl hRm (Nat.le_of_ble_eq_true rfl) (Nat.le_of_ble_eq_true rfl)) (fun x h => kX8_read X.2.1 w P n h) tw_1256 tw_1258 ts_58 rfl (ci := 8) rfl (by decide) rfl rfl (Nat.le_of_ble_eq_true rfl) ⟨Nat.zero_le _, Nat.zero_le _⟩ dX8_alarmLine_40 (fun q9 => ?_)
      obtain ⟨x10, s11⟩ := q9
      refine v_iast C dX8_alarmLine_43 (fun s12 => ?_)
      refine v_aload_n C dX8_alarmLine_44 rfl (j := 0) rfl ?_
      refine v_getR C 10 rfl (T := TX8) rfl inB8 (by decide) (by decide) rfl tw_1150 dX8_alarmLine_45 (fun x13 => ?_)
      refine v_bipush C dX8_alarmLine_48 (by decide) ?_
      refine v_aload_n C dX8_alarmLine_50 rfl (j := 0) rfl ?_
      refine v_iconst C dX8_alarmLine_51 ?_
      refine v_bipush C dX8_alarmLine_52 (by decide) ?_
      refine v_callV_wI C [I 1, I 99] [I 6, A w x13] (Cee.of (rm := rX8_read) tw_1259 tw_9 hX8_read rfl rfl hRm (Nat.le_of_ble_eq_true rfl) (Nat.le_of_ble_eq_true rfl)) (fun x h => kX8_read X.2.1 w P n h) tw_1256 tw_1258 ts_58 rfl (ci := 8) rfl (by decide) rfl rfl (Nat.le_of_ble_eq_true rfl) ⟨Nat.zero_le _, Nat.zero_le _⟩ dX8_alarmLine_54 (fun q14 => ?_)
      obtain ⟨x15, s16⟩ := q14
      refine v_iast C dX8_alarmLine_57 (fun s17 => ?_)
      exact v_vret C rfl hO (fun h => Option.some.inj h) dX8_alarmLine_58
    · skip
      exact v_vret C rfl hO (fun h => Option.some.inj h) dX8_alarmLine_20
  intro k13 hk13
  refine v_if_ne (tgt := 12) C dX8_alarmLine_5 rfl ?_ ?_
  · skip
    refine v_iconst C dX8_alarmLine_12 ?_
    exact hk13 0
  · skip
    refine v_iconst C dX8_alarmLine_8 ?_
    refine v_goto (tgt := 13) C dX8_alarmLine_9 rfl ?_
    exact hk13 1
-- ForesightHubModel.statement
theorem hX8_statement : yX8_statement.cls ≠ "java/lang/invoke/MethodHandle" ∧ yX8_statement.cls ≠ "java/lang/invoke/VarHandle" ∧ (parseMethodDescriptor yX8_statement.desc).map (fun d => d.parameters.length) = some 0 := by decide +kernel
set_option maxRecDepth 100000 in
theorem kX8_statement (l : Launch) (w : Wd) (P : Shp) (n : Nat) {s : St} {a0 : Int} {res : St} (h : fX8_statement P s a0 = some res) : Ct l w yX8_statement cX8_statement 1 (Option.none : Option FieldType) rX8_statement P n [A w a0] s (QV w P n res) :=
  Ct.of h (by decide) (Nat.le_of_ble_eq_true rfl) (lv := [(0, A w a0)]) rfl fun X hl hRm C hO => by
  subst hl
  unfold fX8_statement
  refine v_aload_n C dX8_statement_0 rfl (j := 0) rfl ?_
  refine v_ldcS (own := RX8) (idx := 156) (tx := "pattern") (i := 1) (z := (-3)) C (by decide) dX8_statement_1 (by decide) ?_
  refine v_callV_rI C [A w ((-3))] [] (Cee.of (rm := rX8_isWord) tw_1245 tw_9 hX8_isWord rfl rfl hRm (Nat.le_of_ble_eq_true rfl) (Nat.le_of_ble_eq_true rfl)) (fun x h => kX8_isWord X.2.1 w P n h) tw_1242 tw_1244 ts_55 rfl (ci := 8) rfl (by decide) rfl rfl (Nat.le_of_ble_eq_true rfl) ⟨Nat.zero_le _, Nat.zero_le _⟩ dX8_statement_3 (fun x1 => ?_)
  refine v_jnt (fun (k71 : St → Option (St)) => ∀ (s2 : St), V X w 1 P n 0 0 res (k71 s2) s2 71 [(0, A w a0)] []) ?_ ?_
  · intro s2
    refine v_aload_n C dX8_statement_71 rfl (j := 0) rfl ?_
    refine v_aload_n C dX8_statement_72 rfl (j := 0) rfl ?_
    refine v_getI C 6 rfl (T := TX8) rfl inB8 (by decide) (by decide) rfl tw_1146 dX8_statement_73 (fun x3 => ?_)
    refine v_iconst C dX8_statement_76 ?_
    refine v_jnt (fun (k85 : Int → Option (St)) => ∀ (x4 : Int), V X w 1 P n 0 0 res (k85 x4) s2 85 [(0, A w a0)] [I x4, A w a0]) ?_ ?_
    · intro x4
      refine v_iconst C dX8_statement_85 ?_
      refine v_callV_wI C [I x4, I 1] [] (Cee.of (rm := rX8_must) tw_1251 tw_9 hX8_must rfl rfl hRm (Nat.le_of_ble_eq_true rfl) (Nat.le_of_ble_eq_true rfl)) (fun x h => kX8_must X.2.1 w P n h) tw_1248 tw_1250 ts_56 rfl (ci := 8) rfl (by decide) rfl rfl (Nat.le_of_ble_eq_true rfl) ⟨Nat.zero_le _, Nat.zero_le _⟩ dX8_statement_86 (fun q5 => ?_)
      obtain ⟨x6, s7⟩ := q5
      refine v_if_eq (tgt := 96) C dX8_statement_89 rfl ?_ ?_
      · skip
        exact v_vret C rfl hO (fun h => Option.some.inj h) dX8_statement_96
      · skip
        refine v_aload_n C dX8_statement_92 rfl (j := 0) rfl ?_
        refine v_callV_wV C [] [] (Cee.of (rm := rX8_nextToken) tw_1236 tw_9 hX8_nextToken rfl rfl hRm (Nat.le_of_ble_eq_true rfl) (Nat.le_of_ble_eq_true rfl)) (fun x h => kX8_nextToken X.2.1 w P n h) tw_1233 tw_1235 ts_53 rfl (ci := 8) rfl (by decide) rfl rfl (Nat.le_of_ble_eq_true rfl) ⟨Nat.zero_le _, Nat.zero_le _⟩ dX8_statement_93 (fun s8 => ?_)
        exact v_vret C rfl hO (fun h => Option.some.inj h) dX8_statement_96
    intro k85 hk85
    refine v_icmp_ne (tgt := 84) C dX8_statement_77 rfl ?_ ?_
    · skip
      refine v_iconst C dX8_statement_84 ?_
      exact hk85 0
    · skip
      refine v_iconst C dX8_statement_80 ?_
      refine v_goto (tgt := 85) C dX8_statement_81 rfl ?_
      exact hk85 1
  intro k71 hk71
  refine v_if_eq (tgt := 16) C dX8_statement_6 rfl ?_ ?_
  · skip
    refine v_aload_n C dX8_statement_16 rfl (j := 0) rfl ?_
    refine v_ldcS (own := RX8) (idx := 161) (tx := "device") (i := 2) (z := (-4)) C (by decide) dX8_statement_17 (by decide) ?_
    refine v_callV_rI C [A w ((-4))] [] (Cee.of (rm := rX8_isWord) tw_1245 tw_9 hX8_isWord rfl rfl hRm (Nat.le_of_ble_eq_true rfl) (Nat.le_of_ble_eq_true rfl)) (fun x h => kX8_isWord X.2.1 w P n h) tw_1242 tw_1244 ts_55 rfl (ci := 8) rfl (by decide) rfl rfl (Nat.le_of_ble_eq_true rfl) ⟨Nat.zero_le _, Nat.zero_le _⟩ dX8_statement_19 (fun x9 => ?_)
    refine v_if_eq (tgt := 32) C dX8_statement_22 rfl ?_ ?_
    · skip
      refine v_aload_n C dX8_statement_32 rfl (j := 0) rfl ?_
      refine v_ldcS (own := RX8) (idx := 166) (tx := "stream") (i := 3) (z := (-5)) C (by decide) dX8_statement_33 (by decide) ?_
      refine v_callV_rI C [A w ((-5))] [] (Cee.of (rm := rX8_isWord) tw_1245 tw_9 hX8_isWord rfl rfl hRm (Nat.le_of_ble_eq_true rfl) (Nat.le_of_ble_eq_true rfl)) (fun x h => kX8_isWord X.2.1 w P n h) tw_1242 tw_1244 ts_55 rfl (ci := 8) rfl (by decide) rfl rfl (Nat.le_of_ble_eq_true rfl) ⟨Nat.zero_le _, Nat.zero_le _⟩ dX8_statement_35 (fun x10 => ?_)
      refine v_if_eq (tgt := 48) C dX8_statement_38 rfl ?_ ?_
      · skip
        refine v_aload_n C dX8_statement_48 rfl (j := 0) rfl ?_
        refine v_ldcS (own := RX8) (idx := 171) (tx := "alarm") (i := 4) (z := (-6)) C (by decide) dX8_statement_49 (by decide) ?_
        refine v_callV_rI C [A w ((-6))] [] (Cee.of (rm := rX8_isWord) tw_1245 tw_9 hX8_isWord rfl rfl hRm (Nat.le_of_ble_eq_true rfl) (Nat.le_of_ble_eq_true rfl)) (fun x h => kX8_isWord X.2.1 w P n h) tw_1242 tw_1244 ts_55 rfl (ci := 8) rfl (by decide) rfl rfl (Nat.le_of_ble_eq_true rfl) ⟨Nat.zero_le _, Nat.zero_le _⟩ dX8_statement_51 (fun x11 => ?_)
        refine v_if_eq (tgt := 64) C dX8_statement_54 rfl ?_ ?_
        · skip
          refine v_aload_n C dX8_statement_64 rfl (j := 0) rfl ?_
          refine v_iconst C dX8_statement_65 ?_
          refine v_iconst C dX8_statement_66 ?_
          refine v_callV_wI C [I 0, I 1] [] (Cee.of (rm := rX8_must) tw_1251 tw_9 hX8_must rfl rfl hRm (Nat.le_of_ble_eq_true rfl) (Nat.le_of_ble_eq_true rfl)) (fun x h => kX8_must X.2.1 w P n h) tw_1248 tw_1250 ts_56 rfl (ci := 8) rfl (by decide) rfl rfl (Nat.le_of_ble_eq_true rfl) ⟨Nat.zero_le _, Nat.zero_le _⟩ dX8_statement_67 (fun q12 => ?_)
          obtain ⟨x13, s14⟩ := q12
          refine v_pop C dX8_statement_70 rfl ?_
          exact hk71 s14
        · skip
          refine v_aload_n C dX8_statement_57 rfl (j := 0) rfl ?_
          refine v_callV_wV C [] [] (Cee.of (rm := rX8_alarmLine) tw_1311 tw_9 hX8_alarmLine rfl rfl hRm (Nat.le_of_ble_eq_true rfl) (Nat.le_of_ble_eq_true rfl)) (fun x h => kX8_alarmLine X.2.1 w P n h) tw_1308 tw_1310 ts_68 rfl (ci := 8) rfl (by decide) rfl rfl (Nat.le_of_ble_eq_true rfl) ⟨Nat.zero_le _, Nat.zero_le _⟩ dX8_statement_58 (fun s15 => ?_)
          refine v_goto (tgt := 71) C dX8_statement_61 rfl ?_
          exact hk71 s15
      · skip
        refine v_aload_n C dX8_statement_41 rfl (j := 0) rfl ?_
        refine v_callV_wV C [] [] (Cee.of (rm := rX8_streamLine) tw_1306 tw_9 hX8_streamLine rfl rfl hRm (Nat.le_of_ble_eq_true rfl) (Nat.le_of_ble_eq_true rfl)) (fun x h => kX8_streamLine X.2.1 w P n h) tw_1303 tw_1305 ts_67 rfl (ci := 8) rfl (by decide) rfl rfl (Nat.le_of_ble_eq_true rfl) ⟨Nat.zero_le _, Nat.zero_le _⟩ dX8_statement_42 (fun s16 => ?_)
        refine v_goto (tgt := 71) C dX8_statement_45 rfl ?_
        exact hk71 s16
    · skip
      refine v_aload_n C dX8_statement_25 rfl (j := 0) rfl ?_
      refine v_callV_wV C [] [] (Cee.of (rm := rX8_deviceLine) tw_1292 tw_9 hX8_deviceLine rfl rfl hRm (Nat.le_of_ble_eq_true rfl) (Nat.le_of_ble_eq_true rfl)) (fun x h => kX8_deviceLine X.2.1 w P n h) tw_1289 tw_1291 ts_64 rfl (ci := 8) rfl (by decide) rfl rfl (Nat.le_of_ble_eq_true rfl) ⟨Nat.zero_le _, Nat.zero_le _⟩ dX8_statement_26 (fun s17 => ?_)
      refine v_goto (tgt := 71) C dX8_statement_29 rfl ?_
      exact hk71 s17
  · skip
    refine v_aload_n C dX8_statement_9 rfl (j := 0) rfl ?_
    refine v_callV_wV C [] [] (Cee.of (rm := rX8_patternLine) tw_1268 tw_9 hX8_patternLine rfl rfl hRm (Nat.le_of_ble_eq_true rfl) (Nat.le_of_ble_eq_true rfl)) (fun x h => kX8_patternLine X.2.1 w P n h) tw_1265 tw_1267 ts_60 rfl (ci := 8) rfl (by decide) rfl rfl (Nat.le_of_ble_eq_true rfl) ⟨Nat.zero_le _, Nat.zero_le _⟩ dX8_statement_10 (fun s18 => ?_)
    refine v_goto (tgt := 71) C dX8_statement_13 rfl ?_
    exact hk71 s18
-- ForesightHubModel.devices
theorem hX8_devices : yX8_devices.cls ≠ "java/lang/invoke/MethodHandle" ∧ yX8_devices.cls ≠ "java/lang/invoke/VarHandle" ∧ (parseMethodDescriptor yX8_devices.desc).map (fun d => d.parameters.length) = some 0 := by decide +kernel
set_option maxRecDepth 100000 in
theorem kX8_devices (l : Launch) (w : Wd) (P : Shp) (n : Nat) {s : St} {a0 : Int} {res : Int} (h : fX8_devices P s a0 = some res) : Ct l w yX8_devices cX8_devices 1 (some FieldType.int) rX8_devices P n [A w a0] s (QI w P n res s) :=
  Ct.of h (by decide) (Nat.le_of_ble_eq_true rfl) (lv := [(0, A w a0)]) rfl fun X hl hRm C hO => by
  subst hl
  unfold fX8_devices
  refine v_aload_n C dX8_devices_0 rfl (j := 0) rfl ?_
  refine v_getR C 11 rfl (T := TX8) rfl inB8 (by decide) (by decide) rfl tw_1151 dX8_devices_1 (fun x1 => ?_)
  refine v_iconst C dX8_devices_4 ?_
  refine v_iald C dX8_devices_5 (fun x2 => ?_)
  exact v_iret C rfl hO pS dX8_devices_6
-- ForesightHubModel.at
theorem hX8_at : yX8_at.cls ≠ "java/lang/invoke/MethodHandle" ∧ yX8_at.cls ≠ "java/lang/invoke/VarHandle" ∧ (parseMethodDescriptor yX8_at.desc).map (fun d => d.parameters.length) = some 1 := by decide +kernel
set_option maxRecDepth 100000 in
theorem kX8_at (l : Launch) (w : Wd) (P : Shp) (n : Nat) {s : St} {a0 : Int} {res : Int} (h : fX8_at P s a0 = some res) : Ct l w yX8_at cX8_at 1 (some FieldType.int) rX8_at P n [I a0] s (QI w P n res s) :=
  Ct.of h (by decide) (Nat.le_of_ble_eq_true rfl) (lv := [(0, I a0)]) rfl fun X hl hRm C hO => by
  subst hl
  unfold fX8_at
  refine v_bipush C dX8_at_0 (by decide) ?_
  refine v_bipush C dX8_at_2 (by decide) ?_
  refine v_iload_n C dX8_at_4 rfl (j := 0) rfl ?_
  refine v_imul C dX8_at_5 ?_
  refine v_iadd C dX8_at_6 ?_
  exact v_iret C rfl hO pS dX8_at_7
-- ForesightHubModel.streams
theorem hX8_streams : yX8_streams.cls ≠ "java/lang/invoke/MethodHandle" ∧ yX8_streams.cls ≠ "java/lang/invoke/VarHandle" ∧ (parseMethodDescriptor yX8_streams.desc).map (fun d => d.parameters.length) = some 0 := by decide +kernel
set_option maxRecDepth 100000 in
theorem kX8_streams (l : Launch) (w : Wd) (P : Shp) (n : Nat) {s : St} {a0 : Int} {res : Int} (h : fX8_streams P s a0 = some res) : Ct l w yX8_streams cX8_streams 1 (some FieldType.int) rX8_streams P n [A w a0] s (QI w P n res s) :=
  Ct.of h (by decide) (Nat.le_of_ble_eq_true rfl) (lv := [(0, A w a0)]) rfl fun X hl hRm C hO => by
  subst hl
  unfold fX8_streams
  refine v_aload_n C dX8_streams_0 rfl (j := 0) rfl ?_
  refine v_getR C 11 rfl (T := TX8) rfl inB8 (by decide) (by decide) rfl tw_1151 dX8_streams_1 (fun x1 => ?_)
  refine v_iconst C dX8_streams_4 ?_
  refine v_iald C dX8_streams_5 (fun x2 => ?_)
  exact v_iret C rfl hO pS dX8_streams_6
-- ForesightHubModel.in
theorem hX8_in : yX8_in.cls ≠ "java/lang/invoke/MethodHandle" ∧ yX8_in.cls ≠ "java/lang/invoke/VarHandle" ∧ (parseMethodDescriptor yX8_in.desc).map (fun d => d.parameters.length) = some 1 := by decide +kernel
set_option maxRecDepth 100000 in
theorem kX8_in (l : Launch) (w : Wd) (P : Shp) (n : Nat) {s : St} {a0 : Int} {res : Int} (h : fX8_in P s a0 = some res) : Ct l w yX8_in cX8_in 1 (some FieldType.int) rX8_in P n [I a0] s (QI w P n res s) :=
  Ct.of h (by decide) (Nat.le_of_ble_eq_true rfl) (lv := [(0, I a0)]) rfl fun X hl hRm C hO => by
  subst hl
  unfold fX8_in
  refine v_sipush C dX8_in_0 (by decide) ?_
  refine v_iconst C dX8_in_3 ?_
  refine v_iload_n C dX8_in_4 rfl (j := 0) rfl ?_
  refine v_imul C dX8_in_5 ?_
  refine v_iadd C dX8_in_6 ?_
  exact v_iret C rfl hO pS dX8_in_7
-- ForesightHubModel.homeOf
theorem hX8_homeOf : yX8_homeOf.cls ≠ "java/lang/invoke/MethodHandle" ∧ yX8_homeOf.cls ≠ "java/lang/invoke/VarHandle" ∧ (parseMethodDescriptor yX8_homeOf.desc).map (fun d => d.parameters.length) = some 1 := by decide +kernel
set_option maxRecDepth 100000 in
theorem kX8_homeOf (l : Launch) (w : Wd) (P : Shp) (n : Nat) {s : St} {a0 : Int} {a1 : Int} {res : Int} (h : fX8_homeOf P s a0 a1 = some res) : Ct l w yX8_homeOf cX8_homeOf 2 (some FieldType.int) rX8_homeOf P n [A w a0, I a1] s (QI w P n res s) :=
  Ct.of h (by decide) (Nat.le_of_ble_eq_true rfl) (lv := [(0, A w a0), (1, I a1)]) rfl fun X hl hRm C hO => by
  subst hl
  unfold fX8_homeOf
  refine v_aload_n C dX8_homeOf_0 rfl (j := 0) rfl ?_
  refine v_getR C 11 rfl (T := TX8) rfl inB8 (by decide) (by decide) rfl tw_1151 dX8_homeOf_1 (fun x1 => ?_)
  refine v_bipush C dX8_homeOf_4 (by decide) ?_
  refine v_iconst C dX8_homeOf_6 ?_
  refine v_iload_n C dX8_homeOf_7 rfl (j := 1) rfl ?_
  refine v_imul C dX8_homeOf_8 ?_
  refine v_iadd C dX8_homeOf_9 ?_
  refine v_iald C dX8_homeOf_10 (fun x2 => ?_)
  exact v_iret C rfl hO pS dX8_homeOf_11
-- ForesightHubModel.isPlugged
theorem hX8_isPlugged : yX8_isPlugged.cls ≠ "java/lang/invoke/MethodHandle" ∧ yX8_isPlugged.cls ≠ "java/lang/invoke/VarHandle" ∧ (parseMethodDescriptor yX8_isPlugged.desc).map (fun d => d.parameters.length) = some 1 := by decide +kernel
set_option maxRecDepth 100000 in
theorem kX8_isPlugged (l : Launch) (w : Wd) (P : Shp) (n : Nat) {s : St} {a0 : Int} {a1 : Int} {res : Int} (h : fX8_isPlugged P s a0 a1 = some res) : Ct l w yX8_isPlugged cX8_isPlugged 2 (some FieldType.boolean) rX8_isPlugged P n [A w a0, I a1] s (QI w P n res s) :=
  Ct.of h (by decide) (Nat.le_of_ble_eq_true rfl) (lv := [(0, A w a0), (1, I a1)]) rfl fun X hl hRm C hO => by
  subst hl
  unfold fX8_isPlugged
  refine v_aload_n C dX8_isPlugged_0 rfl (j := 0) rfl ?_
  refine v_getR C 14 rfl (T := TX8) rfl inB8 (by decide) (by decide) rfl tw_1154 dX8_isPlugged_1 (fun x1 => ?_)
  refine v_iload_n C dX8_isPlugged_4 rfl (j := 1) rfl ?_
  refine v_callS_rI C [I a1] [A w x1] (Cee.of (rm := rX8_at) tw_1088 tw_9 hX8_at rfl rfl hRm (Nat.le_of_ble_eq_true rfl) (Nat.le_of_ble_eq_true rfl)) (fun x h => kX8_at X.2.1 w P n h) tw_1086 tw_1087 rfl rfl (Nat.le_of_ble_eq_true rfl) ⟨Nat.zero_le _, Nat.zero_le _⟩ dX8_isPlugged_5 (fun x2 => ?_)
  refine v_iconst C dX8_isPlugged_8 ?_
  refine v_iadd C dX8_isPlugged_9 ?_
  refine v_iald C dX8_isPlugged_10 (fun x3 => ?_)
  refine v_iconst C dX8_isPlugged_11 ?_
  refine v_icmp_eq (tgt := 19) C dX8_isPlugged_12 rfl ?_ ?_
  · skip
    refine v_iconst C dX8_isPlugged_19 ?_
    exact v_zret C rfl hO pS dX8_isPlugged_20
  · skip
    refine v_iconst C dX8_isPlugged_15 ?_
    refine v_goto (tgt := 20) C dX8_isPlugged_16 rfl ?_
    exact v_zret C rfl hO pS dX8_isPlugged_20
-- ForesightHubModel.isAlarmed
theorem hX8_isAlarmed : yX8_isAlarmed.cls ≠ "java/lang/invoke/MethodHandle" ∧ yX8_isAlarmed.cls ≠ "java/lang/invoke/VarHandle" ∧ (parseMethodDescriptor yX8_isAlarmed.desc).map (fun d => d.parameters.length) = some 1 := by decide +kernel
set_option maxRecDepth 100000 in
theorem kX8_isAlarmed (l : Launch) (w : Wd) (P : Shp) (n : Nat) {s : St} {a0 : Int} {a1 : Int} {res : Int} (h : fX8_isAlarmed P s a0 a1 = some res) : Ct l w yX8_isAlarmed cX8_isAlarmed 2 (some FieldType.boolean) rX8_isAlarmed P n [A w a0, I a1] s (QI w P n res s) :=
  Ct.of h (by decide) (Nat.le_of_ble_eq_true rfl) (lv := [(0, A w a0), (1, I a1)]) rfl fun X hl hRm C hO => by
  subst hl
  unfold fX8_isAlarmed
  refine v_aload_n C dX8_isAlarmed_0 rfl (j := 0) rfl ?_
  refine v_getR C 14 rfl (T := TX8) rfl inB8 (by decide) (by decide) rfl tw_1154 dX8_isAlarmed_1 (fun x1 => ?_)
  refine v_iload_n C dX8_isAlarmed_4 rfl (j := 1) rfl ?_
  refine v_callS_rI C [I a1] [A w x1] (Cee.of (rm := rX8_at) tw_1088 tw_9 hX8_at rfl rfl hRm (Nat.le_of_ble_eq_true rfl) (Nat.le_of_ble_eq_true rfl)) (fun x h => kX8_at X.2.1 w P n h) tw_1086 tw_1087 rfl rfl (Nat.le_of_ble_eq_true rfl) ⟨Nat.zero_le _, Nat.zero_le _⟩ dX8_isAlarmed_5 (fun x2 => ?_)
  refine v_iconst C dX8_isAlarmed_8 ?_
  refine v_iadd C dX8_isAlarmed_9 ?_
  refine v_iald C dX8_isAlarmed_10 (fun x3 => ?_)
  refine v_iconst C dX8_isAlarmed_11 ?_
  refine v_icmp_ne (tgt := 19) C dX8_isAlarmed_12 rfl ?_ ?_
  · skip
    refine v_iconst C dX8_isAlarmed_19 ?_
    exact v_zret C rfl hO pS dX8_isAlarmed_20
  · skip
    refine v_iconst C dX8_isAlarmed_15 ?_
    refine v_goto (tgt := 20) C dX8_isAlarmed_16 rfl ?_
    exact v_zret C rfl hO pS dX8_isAlarmed_20
-- ForesightHubModel.isGood
theorem hX8_isGood : yX8_isGood.cls ≠ "java/lang/invoke/MethodHandle" ∧ yX8_isGood.cls ≠ "java/lang/invoke/VarHandle" ∧ (parseMethodDescriptor yX8_isGood.desc).map (fun d => d.parameters.length) = some 1 := by decide +kernel
set_option maxRecDepth 100000 in
theorem kX8_isGood (l : Launch) (w : Wd) (P : Shp) (n : Nat) {s : St} {a0 : Int} {a1 : Int} {res : Int} (h : fX8_isGood P s a0 a1 = some res) : Ct l w yX8_isGood cX8_isGood 2 (some FieldType.boolean) rX8_isGood P n [A w a0, I a1] s (QI w P n res s) :=
  Ct.of h (by decide) (Nat.le_of_ble_eq_true rfl) (lv := [(0, A w a0), (1, I a1)]) rfl fun X hl hRm C hO => by
  subst hl
  unfold fX8_isGood
  refine v_aload_n C dX8_isGood_0 rfl (j := 0) rfl ?_
  refine v_iload_n C dX8_isGood_1 rfl (j := 1) rfl ?_
  refine v_callV_rI C [I a1] [] (Cee.of (rm := rX8_isPlugged) tw_1119 tw_9 hX8_isPlugged rfl rfl hRm (Nat.le_of_ble_eq_true rfl) (Nat.le_of_ble_eq_true rfl)) (fun x h => kX8_isPlugged X.2.1 w P n h) tw_1116 tw_1118 ts_45 rfl (ci := 8) rfl (by decide) rfl rfl (Nat.le_of_ble_eq_true rfl) ⟨Nat.zero_le _, Nat.zero_le _⟩ dX8_isGood_2 (fun x1 => ?_)
  refine v_if_eq (tgt := 20) C dX8_isGood_5 rfl ?_ ?_
  · skip
    refine v_iconst C dX8_isGood_20 ?_
    exact v_zret C rfl hO pS dX8_isGood_21
  · skip
    refine v_aload_n C dX8_isGood_8 rfl (j := 0) rfl ?_
    refine v_iload_n C dX8_isGood_9 rfl (j := 1) rfl ?_
    refine v_callV_rI C [I a1] [] (Cee.of (rm := rX8_isAlarmed) tw_1123 tw_9 hX8_isAlarmed rfl rfl hRm (Nat.le_of_ble_eq_true rfl) (Nat.le_of_ble_eq_true rfl)) (fun x h => kX8_isAlarmed X.2.1 w P n h) tw_1120 tw_1122 ts_46 rfl (ci := 8) rfl (by decide) rfl rfl (Nat.le_of_ble_eq_true rfl) ⟨Nat.zero_le _, Nat.zero_le _⟩ dX8_isGood_10 (fun x2 => ?_)
    refine v_if_ne (tgt := 20) C dX8_isGood_13 rfl ?_ ?_
    · skip
      refine v_iconst C dX8_isGood_20 ?_
      exact v_zret C rfl hO pS dX8_isGood_21
    · skip
      refine v_iconst C dX8_isGood_16 ?_
      refine v_goto (tgt := 21) C dX8_isGood_17 rfl ?_
      exact v_zret C rfl hO pS dX8_isGood_21
-- ForesightHubModel.wanted
theorem hX8_wanted : yX8_wanted.cls ≠ "java/lang/invoke/MethodHandle" ∧ yX8_wanted.cls ≠ "java/lang/invoke/VarHandle" ∧ (parseMethodDescriptor yX8_wanted.desc).map (fun d => d.parameters.length) = some 1 := by decide +kernel
set_option maxRecDepth 100000 in
theorem kX8_wanted (l : Launch) (w : Wd) (P : Shp) (n : Nat) {s : St} {a0 : Int} {a1 : Int} {res : Int} (h : fX8_wanted P s a0 a1 = some res) : Ct l w yX8_wanted cX8_wanted 4 (some FieldType.int) rX8_wanted P n [A w a0, I a1] s (QI w P n res s) :=
  Ct.of h (by decide) (Nat.le_of_ble_eq_true rfl) (lv := [(0, A w a0), (1, I a1)]) rfl fun X hl hRm C hO => by
  subst hl
  unfold fX8_wanted
  refine v_aload_n C dX8_wanted_0 rfl (j := 0) rfl ?_
  refine v_iload_n C dX8_wanted_1 rfl (j := 1) rfl ?_
  refine v_callV_rI C [I a1] [] (Cee.of (rm := rX8_homeOf) tw_1111 tw_9 hX8_homeOf rfl rfl hRm (Nat.le_of_ble_eq_true rfl) (Nat.le_of_ble_eq_true rfl)) (fun x h => kX8_homeOf X.2.1 w P n h) tw_1108 tw_1110 ts_43 rfl (ci := 8) rfl (by decide) rfl rfl (Nat.le_of_ble_eq_true rfl) ⟨Nat.zero_le _, Nat.zero_le _⟩ dX8_wanted_2 (fun x1 => ?_)
  refine v_istore_n C [(2, I x1), (0, A w a0), (1, I a1)] dX8_wanted_5 rfl (by decide) rfl ?_
  refine v_aload_n C dX8_wanted_6 rfl (j := 1) rfl ?_
  refine v_iload_n C dX8_wanted_7 rfl (j := 0) rfl ?_
  refine v_callV_rI C [I x1] [] (Cee.of (rm := rX8_isGood) tw_1115 tw_9 hX8_isGood rfl rfl hRm (Nat.le_of_ble_eq_true rfl) (Nat.le_of_ble_eq_true rfl)) (fun x h => kX8_isGood X.2.1 w P n h) tw_1112 tw_1114 ts_44 rfl (ci := 8) rfl (by decide) rfl rfl (Nat.le_of_ble_eq_true rfl) ⟨Nat.zero_le _, Nat.zero_le _⟩ dX8_wanted_8 (fun x2 => ?_)
  refine v_if_eq (tgt := 16) C dX8_wanted_11 rfl ?_ ?_
  · skip
    refine v_aload_n C dX8_wanted_16 rfl (j := 1) rfl ?_
    refine v_getR C 11 rfl (T := TX8) rfl inB8 (by decide) (by decide) rfl tw_1151 dX8_wanted_17 (fun x3 => ?_)
    refine v_bipush C dX8_wanted_20 (by decide) ?_
    refine v_iload_n C dX8_wanted_22 rfl (j := 0) rfl ?_
    refine v_iadd C dX8_wanted_23 ?_
    refine v_iald C dX8_wanted_24 (fun x4 => ?_)
    refine v_istore_n C [(3, I x4), (2, I x1), (0, A w a0), (1, I a1)] dX8_wanted_25 rfl (by decide) rfl ?_
    refine v_iload_n C dX8_wanted_26 rfl (j := 0) rfl ?_
    refine v_iconst C dX8_wanted_27 ?_
    refine v_icmp_eq (tgt := 43) C dX8_wanted_28 rfl ?_ ?_
    · skip
      refine v_iconst C dX8_wanted_43 ?_
      exact v_iret C rfl hO pS dX8_wanted_44
    · skip
      refine v_aload_n C dX8_wanted_31 rfl (j := 2) rfl ?_
      refine v_iload_n C dX8_wanted_32 rfl (j := 0) rfl ?_
      refine v_callV_rI C [I x4] [] (Cee.of (rm := rX8_isGood) tw_1115 tw_9 hX8_isGood rfl rfl hRm (Nat.le_of_ble_eq_true rfl) (Nat.le_of_ble_eq_true rfl)) (fun x h => kX8_isGood X.2.1 w P n h) tw_1112 tw_1114 ts_44 rfl (ci := 8) rfl (by decide) rfl rfl (Nat.le_of_ble_eq_true rfl) ⟨Nat.zero_le _, Nat.zero_le _⟩ dX8_wanted_33 (fun x5 => ?_)
      refine v_if_eq (tgt := 43) C dX8_wanted_36 rfl ?_ ?_
      · skip
        refine v_iconst C dX8_wanted_43 ?_
        exact v_iret C rfl hO pS dX8_wanted_44
      · skip
        refine v_iload_n C dX8_wanted_39 rfl (j := 0) rfl ?_
        refine v_goto (tgt := 44) C dX8_wanted_40 rfl ?_
        exact v_iret C rfl hO pS dX8_wanted_44
  · skip
    refine v_iload_n C dX8_wanted_14 rfl (j := 0) rfl ?_
    exact v_iret C rfl hO pS dX8_wanted_15
-- ForesightHubModel.becomes
theorem hX8_becomes : yX8_becomes.cls ≠ "java/lang/invoke/MethodHandle" ∧ yX8_becomes.cls ≠ "java/lang/invoke/VarHandle" ∧ (parseMethodDescriptor yX8_becomes.desc).map (fun d => d.parameters.length) = some 3 := by decide +kernel
set_option maxRecDepth 100000 in
theorem kX8_becomes (l : Launch) (w : Wd) (P : Shp) (n : Nat) {s : St} {a0 : Int} {a1 : Int} {a2 : Int} {a3 : Int} {res : St} (h : fX8_becomes P s a0 a1 a2 a3 = some res) : Ct l w yX8_becomes cX8_becomes 4 (Option.none : Option FieldType) rX8_becomes P n [A w a0, I a1, I a2, I a3] s (QV w P n res) :=
  Ct.of h (by decide) (Nat.le_of_ble_eq_true rfl) (lv := [(0, A w a0), (1, I a1), (2, I a2), (3, I a3)]) rfl fun X hl hRm C hO => by
  subst hl
  unfold fX8_becomes
  refine v_aload_n C dX8_becomes_0 rfl (j := 0) rfl ?_
  refine v_getR C 14 rfl (T := TX8) rfl inB8 (by decide) (by decide) rfl tw_1154 dX8_becomes_1 (fun x1 => ?_)
  refine v_iload_n C dX8_becomes_4 rfl (j := 1) rfl ?_
  refine v_callS_rI C [I a1] [A w x1] (Cee.of (rm := rX8_in) tw_1095 tw_9 hX8_in rfl rfl hRm (Nat.le_of_ble_eq_true rfl) (Nat.le_of_ble_eq_true rfl)) (fun x h => kX8_in X.2.1 w P n h) tw_1093 tw_1094 rfl rfl (Nat.le_of_ble_eq_true rfl) ⟨Nat.zero_le _, Nat.zero_le _⟩ dX8_becomes_5 (fun x2 => ?_)
  refine v_iload_n C dX8_becomes_8 rfl (j := 2) rfl ?_
  refine v_iast C dX8_becomes_9 (fun s3 => ?_)
  refine v_aload_n C dX8_becomes_10 rfl (j := 0) rfl ?_
  refine v_getR C 14 rfl (T := TX8) rfl inB8 (by decide) (by decide) rfl tw_1154 dX8_becomes_11 (fun x4 => ?_)
  refine v_iload_n C dX8_becomes_14 rfl (j := 1) rfl ?_
  refine v_callS_rI C [I a1] [A w x4] (Cee.of (rm := rX8_in) tw_1095 tw_9 hX8_in rfl rfl hRm (Nat.le_of_ble_eq_true rfl) (Nat.le_of_ble_eq_true rfl)) (fun x h => kX8_in X.2.1 w P n h) tw_1093 tw_1094 rfl rfl (Nat.le_of_ble_eq_true rfl) ⟨Nat.zero_le _, Nat.zero_le _⟩ dX8_becomes_15 (fun x5 => ?_)
  refine v_iconst C dX8_becomes_18 ?_
  refine v_iadd C dX8_becomes_19 ?_
  refine v_iload_n C dX8_becomes_20 rfl (j := 3) rfl ?_
  refine v_iast C dX8_becomes_21 (fun s6 => ?_)
  exact v_vret C rfl hO (fun h => Option.some.inj h) dX8_becomes_22
-- ForesightHubModel.happens
theorem hX8_happens : yX8_happens.cls ≠ "java/lang/invoke/MethodHandle" ∧ yX8_happens.cls ≠ "java/lang/invoke/VarHandle" ∧ (parseMethodDescriptor yX8_happens.desc).map (fun d => d.parameters.length) = some 2 := by decide +kernel
set_option maxRecDepth 100000 in
theorem kX8_happens (l : Launch) (w : Wd) (P : Shp) (n : Nat) {s : St} {a0 : Int} {a1 : Int} {a2 : Int} {res : St} (h : fX8_happens P s a0 a1 a2 = some res) : Ct l w yX8_happens cX8_happens 4 (Option.none : Option FieldType) rX8_happens P n [A w a0, I a1, I a2] s (QV w P n res) :=
  Ct.of h (by decide) (Nat.le_of_ble_eq_true rfl) (lv := [(0, A w a0), (1, I a1), (2, I a2)]) rfl fun X hl hRm C hO => by
  subst hl
  unfold fX8_happens
  refine v_sipush C dX8_happens_0 (by decide) ?_
  refine v_iconst C dX8_happens_3 ?_
  refine v_aload_n C dX8_happens_4 rfl (j := 0) rfl ?_
  refine v_getR C 14 rfl (T := TX8) rfl inB8 (by decide) (by decide) rfl tw_1154 dX8_happens_5 (fun x1 => ?_)
  refine v_bipush C dX8_happens_8 (by decide) ?_
  refine v_iald C dX8_happens_10 (fun x2 => ?_)
  refine v_bipush C dX8_happens_11 (by decide) ?_
  refine v_irem C dX8_happens_13 (fun x3 => ?_)
  refine v_imul C dX8_happens_14 ?_
  refine v_iadd C dX8_happens_15 ?_
  refine v_bdI (fun x4 => ?_)
  refine v_istore_n C [(3, I x4), (0, A w a0), (1, I a1), (2, I a2)] dX8_happens_16 rfl (by decide) rfl ?_
  refine v_aload_n C dX8_happens_17 rfl (j := 1) rfl ?_
  refine v_getR C 14 rfl (T := TX8) rfl inB8 (by decide) (by decide) rfl tw_1154 dX8_happens_18 (fun x5 => ?_)
  refine v_iload_n C dX8_happens_21 rfl (j := 0) rfl ?_
  refine v_iload_n C dX8_happens_22 rfl (j := 2) rfl ?_
  refine v_iast C dX8_happens_23 (fun s6 => ?_)
  refine v_aload_n C dX8_happens_24 rfl (j := 1) rfl ?_
  refine v_getR C 14 rfl (T := TX8) rfl inB8 (by decide) (by decide) rfl tw_1154 dX8_happens_25 (fun x7 => ?_)
  refine v_iload_n C dX8_happens_28 rfl (j := 0) rfl ?_
  refine v_iconst C dX8_happens_29 ?_
  refine v_iadd C dX8_happens_30 ?_
  refine v_iload_n C dX8_happens_31 rfl (j := 3) rfl ?_
  refine v_iast C dX8_happens_32 (fun s8 => ?_)
  refine v_aload_n C dX8_happens_33 rfl (j := 1) rfl ?_
  refine v_getR C 14 rfl (T := TX8) rfl inB8 (by decide) (by decide) rfl tw_1154 dX8_happens_34 (fun x9 => ?_)
  refine v_iload_n C dX8_happens_37 rfl (j := 0) rfl ?_
  refine v_iconst C dX8_happens_38 ?_
  refine v_iadd C dX8_happens_39 ?_
  refine v_aload_n C dX8_happens_40 rfl (j := 1) rfl ?_
  refine v_getR C 14 rfl (T := TX8) rfl inB8 (by decide) (by decide) rfl tw_1154 dX8_happens_41 (fun x10 => ?_)
  refine v_iconst C dX8_happens_44 ?_
  refine v_iald C dX8_happens_45 (fun x11 => ?_)
  refine v_iast C dX8_happens_46 (fun s12 => ?_)
  refine v_aload_n C dX8_happens_47 rfl (j := 1) rfl ?_
  refine v_getR C 14 rfl (T := TX8) rfl inB8 (by decide) (by decide) rfl tw_1154 dX8_happens_48 (fun x13 => ?_)
  refine v_bipush C dX8_happens_51 (by decide) ?_
  refine v_dup2 C dX8_happens_53 rfl rfl ?_
  refine v_iald C dX8_happens_54 (fun x14 => ?_)
  refine v_iconst C dX8_happens_55 ?_
  refine v_iadd C dX8_happens_56 ?_
  refine v_iast C dX8_happens_57 (fun s15 => ?_)
  refine v_aload_n C dX8_happens_58 rfl (j := 1) rfl ?_
  refine v_getR C 14 rfl (T := TX8) rfl inB8 (by decide) (by decide) rfl tw_1154 dX8_happens_59 (fun x16 => ?_)
  refine v_iconst C dX8_happens_62 ?_
  refine v_iload_n C dX8_happens_63 rfl (j := 2) rfl ?_
  refine v_iadd C dX8_happens_64 ?_
  refine v_bdI (fun x17 => ?_)
  refine v_dup2 C dX8_happens_65 rfl rfl ?_
  refine v_iald C dX8_happens_66 (fun x18 => ?_)
  refine v_iconst C dX8_happens_67 ?_
  refine v_iadd C dX8_happens_68 ?_
  refine v_iast C dX8_happens_69 (fun s19 => ?_)
  exact v_vret C rfl hO (fun h => Option.some.inj h) dX8_happens_70
-- ForesightHubModel.settlesHeld
theorem hX8_settlesHeld : yX8_settlesHeld.cls ≠ "java/lang/invoke/MethodHandle" ∧ yX8_settlesHeld.cls ≠ "java/lang/invoke/VarHandle" ∧ (parseMethodDescriptor yX8_settlesHeld.desc).map (fun d => d.parameters.length) = some 1 := by decide +kernel
set_option maxRecDepth 100000 in
theorem kX8_settlesHeld (l : Launch) (w : Wd) (P : Shp) (n : Nat) {s : St} {a0 : Int} {a1 : Int} {res : St} (h : fX8_settlesHeld P s a0 a1 = some res) : Ct l w yX8_settlesHeld cX8_settlesHeld 3 (Option.none : Option FieldType) rX8_settlesHeld P n [A w a0, I a1] s (QV w P n res) :=
  Ct.of h (by decide) (Nat.le_of_ble_eq_true rfl) (lv := [(0, A w a0), (1, I a1)]) rfl fun X hl hRm C hO => by
  subst hl
  unfold fX8_settlesHeld
  refine v_aload_n C dX8_settlesHeld_0 rfl (j := 0) rfl ?_
  refine v_iload_n C dX8_settlesHeld_1 rfl (j := 1) rfl ?_
  refine v_callV_rI C [I a1] [] (Cee.of (rm := rX8_wanted) tw_1107 tw_9 hX8_wanted rfl rfl hRm (Nat.le_of_ble_eq_true rfl) (Nat.le_of_ble_eq_true rfl)) (fun x h => kX8_wanted X.2.1 w P n h) tw_1104 tw_1106 ts_42 rfl (ci := 8) rfl (by decide) rfl rfl (Nat.le_of_ble_eq_true rfl) ⟨Nat.zero_le _, Nat.zero_le _⟩ dX8_settlesHeld_2 (fun x1 => ?_)
  refine v_istore_n C [(2, I x1), (0, A w a0), (1, I a1)] dX8_settlesHeld_5 rfl (by decide) rfl ?_
  refine v_aload_n C dX8_settlesHeld_6 rfl (j := 1) rfl ?_
  refine v_getR C 14 rfl (T := TX8) rfl inB8 (by decide) (by decide) rfl tw_1154 dX8_settlesHeld_7 (fun x2 => ?_)
  refine v_iload_n C dX8_settlesHeld_10 rfl (j := 2) rfl ?_
  refine v_callS_rI C [I a1] [A w x2] (Cee.of (rm := rX8_in) tw_1095 tw_9 hX8_in rfl rfl hRm (Nat.le_of_ble_eq_true rfl) (Nat.le_of_ble_eq_true rfl)) (fun x h => kX8_in X.2.1 w P n h) tw_1093 tw_1094 rfl rfl (Nat.le_of_ble_eq_true rfl) ⟨Nat.zero_le _, Nat.zero_le _⟩ dX8_settlesHeld_11 (fun x3 => ?_)
  refine v_iconst C dX8_settlesHeld_14 ?_
  refine v_iadd C dX8_settlesHeld_15 ?_
  refine v_iald C dX8_settlesHeld_16 (fun x4 => ?_)
  refine v_iload_n C dX8_settlesHeld_17 rfl (j := 0) rfl ?_
  refine v_icmp_ne (tgt := 32) C dX8_settlesHeld_18 rfl ?_ ?_
  · skip
    refine v_aload_n C dX8_settlesHeld_32 rfl (j := 1) rfl ?_
    refine v_getR C 14 rfl (T := TX8) rfl inB8 (by decide) (by decide) rfl tw_1154 dX8_settlesHeld_33 (fun x5 => ?_)
    refine v_iload_n C dX8_settlesHeld_36 rfl (j := 2) rfl ?_
    refine v_callS_rI C [I a1] [A w x5] (Cee.of (rm := rX8_in) tw_1095 tw_9 hX8_in rfl rfl hRm (Nat.le_of_ble_eq_true rfl) (Nat.le_of_ble_eq_true rfl)) (fun x h => kX8_in X.2.1 w P n h) tw_1093 tw_1094 rfl rfl (Nat.le_of_ble_eq_true rfl) ⟨Nat.zero_le _, Nat.zero_le _⟩ dX8_settlesHeld_37 (fun x6 => ?_)
    refine v_iconst C dX8_settlesHeld_40 ?_
    refine v_iast C dX8_settlesHeld_41 (fun s7 => ?_)
    refine v_aload_n C dX8_settlesHeld_42 rfl (j := 1) rfl ?_
    refine v_getR C 14 rfl (T := TX8) rfl inB8 (by decide) (by decide) rfl tw_1154 dX8_settlesHeld_43 (fun x8 => ?_)
    refine v_iload_n C dX8_settlesHeld_46 rfl (j := 2) rfl ?_
    refine v_callS_rI C [I a1] [A w x8] (Cee.of (rm := rX8_in) tw_1095 tw_9 hX8_in rfl rfl hRm (Nat.le_of_ble_eq_true rfl) (Nat.le_of_ble_eq_true rfl)) (fun x h => kX8_in X.2.1 w P n h) tw_1093 tw_1094 rfl rfl (Nat.le_of_ble_eq_true rfl) ⟨Nat.zero_le _, Nat.zero_le _⟩ dX8_settlesHeld_47 (fun x9 => ?_)
    refine v_iconst C dX8_settlesHeld_50 ?_
    refine v_iadd C dX8_settlesHeld_51 ?_
    refine v_iald C dX8_settlesHeld_52 (fun x10 => ?_)
    refine v_if_le (tgt := 57) C dX8_settlesHeld_53 rfl ?_ ?_
    · skip
      refine v_aload_n C dX8_settlesHeld_57 rfl (j := 1) rfl ?_
      refine v_iload_n C dX8_settlesHeld_58 rfl (j := 2) rfl ?_
      refine v_iload_n C dX8_settlesHeld_59 rfl (j := 0) rfl ?_
      refine v_iconst C dX8_settlesHeld_60 ?_
      refine v_jnt (fun (k69 : Int → Option (St)) => ∀ (x11 : Int), V X w 3 P n 0 0 res (k69 x11) s7 69 [(0, A w a0), (1, I a1), (2, I x1)] [I x11, I a1, A w a0]) ?_ ?_
      · intro x11
        refine v_iload_n C dX8_settlesHeld_69 rfl (j := 2) rfl ?_
        refine v_callV_wV C [I a1, I x11, I x1] [] (Cee.of (rm := rX8_becomes) tw_1127 tw_9 hX8_becomes rfl rfl hRm (Nat.le_of_ble_eq_true rfl) (Nat.le_of_ble_eq_true rfl)) (fun x h => kX8_becomes X.2.1 w P n h) tw_1124 tw_1126 ts_47 rfl (ci := 8) rfl (by decide) rfl rfl (Nat.le_of_ble_eq_true rfl) ⟨Nat.zero_le _, Nat.zero_le _⟩ dX8_settlesHeld_70 (fun s12 => ?_)
        refine v_aload_n C dX8_settlesHeld_73 rfl (j := 0) rfl ?_
        refine v_iload_n C dX8_settlesHeld_74 rfl (j := 2) rfl ?_
        refine v_iconst C dX8_settlesHeld_75 ?_
        refine v_jnt (fun (k84 : Int → Option (St)) => ∀ (x13 : Int), V X w 3 P n 0 0 res (k84 x13) s12 84 [(1, I a1)] [I x13, A w a0]) ?_ ?_
        · intro x13
          refine v_iload_n C dX8_settlesHeld_84 rfl (j := 0) rfl ?_
          refine v_callV_wV C [I x13, I a1] [] (Cee.of (rm := rX8_happens) tw_1131 tw_9 hX8_happens rfl rfl hRm (Nat.le_of_ble_eq_true rfl) (Nat.le_of_ble_eq_true rfl)) (fun x h => kX8_happens X.2.1 w P n h) tw_1128 tw_1130 ts_48 rfl (ci := 8) rfl (by decide) rfl rfl (Nat.le_of_ble_eq_true rfl) ⟨Nat.zero_le _, Nat.zero_le _⟩ dX8_settlesHeld_85 (fun s14 => ?_)
          exact v_vret C rfl hO (fun h => Option.some.inj h) dX8_settlesHeld_88
        intro k84 hk84
        refine v_icmp_ne (tgt := 83) C dX8_settlesHeld_76 rfl ?_ ?_
        · skip
          refine v_iconst C dX8_settlesHeld_83 ?_
          refine v_sub [(1, I a1)] [1] rfl ?_
          exact hk84 4
        · skip
          refine v_iconst C dX8_settlesHeld_79 ?_
          refine v_goto (tgt := 84) C dX8_settlesHeld_80 rfl ?_
          refine v_sub [(1, I a1)] [1] rfl ?_
          exact hk84 5
      intro k69 hk69
      refine v_icmp_ne (tgt := 68) C dX8_settlesHeld_61 rfl ?_ ?_
      · skip
        refine v_iconst C dX8_settlesHeld_68 ?_
        refine v_sub [(0, A w a0), (1, I a1), (2, I x1)] [1, 2, 0] rfl ?_
        exact hk69 1
      · skip
        refine v_iconst C dX8_settlesHeld_64 ?_
        refine v_goto (tgt := 69) C dX8_settlesHeld_65 rfl ?_
        refine v_sub [(0, A w a0), (1, I a1), (2, I x1)] [1, 2, 0] rfl ?_
        exact hk69 0
    · skip
      exact v_vret C rfl hO (fun h => Option.some.inj h) dX8_settlesHeld_56
  · skip
    refine v_aload_n C dX8_settlesHeld_21 rfl (j := 1) rfl ?_
    refine v_getR C 14 rfl (T := TX8) rfl inB8 (by decide) (by decide) rfl tw_1154 dX8_settlesHeld_22 (fun x15 => ?_)
    refine v_iload_n C dX8_settlesHeld_25 rfl (j := 2) rfl ?_
    refine v_callS_rI C [I a1] [A w x15] (Cee.of (rm := rX8_in) tw_1095 tw_9 hX8_in rfl rfl hRm (Nat.le_of_ble_eq_true rfl) (Nat.le_of_ble_eq_true rfl)) (fun x h => kX8_in X.2.1 w P n h) tw_1093 tw_1094 rfl rfl (Nat.le_of_ble_eq_true rfl) ⟨Nat.zero_le _, Nat.zero_le _⟩ dX8_settlesHeld_26 (fun x16 => ?_)
    refine v_iconst C dX8_settlesHeld_29 ?_
    refine v_iast C dX8_settlesHeld_30 (fun s17 => ?_)
    exact v_vret C rfl hO (fun h => Option.some.inj h) dX8_settlesHeld_31
-- ForesightHubModel.rateOf
theorem hX8_rateOf : yX8_rateOf.cls ≠ "java/lang/invoke/MethodHandle" ∧ yX8_rateOf.cls ≠ "java/lang/invoke/VarHandle" ∧ (parseMethodDescriptor yX8_rateOf.desc).map (fun d => d.parameters.length) = some 1 := by decide +kernel
set_option maxRecDepth 100000 in
theorem kX8_rateOf (l : Launch) (w : Wd) (P : Shp) (n : Nat) {s : St} {a0 : Int} {a1 : Int} {res : Int} (h : fX8_rateOf P s a0 a1 = some res) : Ct l w yX8_rateOf cX8_rateOf 2 (some FieldType.int) rX8_rateOf P n [A w a0, I a1] s (QI w P n res s) :=
  Ct.of h (by decide) (Nat.le_of_ble_eq_true rfl) (lv := [(0, A w a0), (1, I a1)]) rfl fun X hl hRm C hO => by
  subst hl
  unfold fX8_rateOf
  refine v_aload_n C dX8_rateOf_0 rfl (j := 0) rfl ?_
  refine v_getR C 11 rfl (T := TX8) rfl inB8 (by decide) (by decide) rfl tw_1151 dX8_rateOf_1 (fun x1 => ?_)
  refine v_bipush C dX8_rateOf_4 (by decide) ?_
  refine v_iconst C dX8_rateOf_6 ?_
  refine v_iload_n C dX8_rateOf_7 rfl (j := 1) rfl ?_
  refine v_imul C dX8_rateOf_8 ?_
  refine v_iadd C dX8_rateOf_9 ?_
  refine v_iconst C dX8_rateOf_10 ?_
  refine v_iadd C dX8_rateOf_11 ?_
  refine v_iald C dX8_rateOf_12 (fun x2 => ?_)
  exact v_iret C rfl hO pS dX8_rateOf_13
-- ForesightHubModel.reserved
set_option maxRecDepth 100000 in
theorem vX8_reserved_L4 {X : Cxt} {w : Wd} {P : Shp} {n : Nat} {s : St} (res : Int) (hRm : X.2.2.2.1 = rX8_reserved) (C : Cok X w cX8_reserved 3 RX8 (some FieldType.int)) (hO : Own X w 0 0 (QI w P n res s))  (c0 : Int) (kE42 : Int → Option (Int)) (hE42 : ∀ (p1e : Int), V X w 3 P n 0 0 res (kE42 p1e) s 42 [(1, I p1e)] []) : ∀ (fuel : Nat) (p1 p2 : Int), V X w 3 P n 0 0 res (fX8_reserved_L4 P s c0 kE42 fuel p1 p2) s 4 [(0, A w c0), (1, I p1), (2, I p2)] [] := by
  intro fuel
  induction fuel with
  | zero => intro p1 p2; exact v_none
  | succ m ih =>
    intro p1 p2
    rw [fX8_reserved_L4]
    refine v_iload_n C dX8_reserved_4 rfl (j := 2) rfl ?_
    refine v_aload_n C dX8_reserved_5 rfl (j := 0) rfl ?_
    refine v_callV_rI C [] [I p2] (Cee.of (rm := rX8_streams) tw_1092 tw_9 hX8_streams rfl rfl hRm (Nat.le_of_ble_eq_true rfl) (Nat.le_of_ble_eq_true rfl)) (fun x h => kX8_streams X.2.1 w P n h) tw_1089 tw_1091 ts_39 rfl (ci := 8) rfl (by decide) rfl rfl (Nat.le_of_ble_eq_true rfl) ⟨Nat.zero_le _, Nat.zero_le _⟩ dX8_reserved_6 (fun x1 => ?_)
    refine v_icmp_ge (tgt := 42) C dX8_reserved_9 rfl ?_ ?_
    · skip
      refine v_sub [(1, I p1)] [1] rfl ?_
      exact hE42 p1
    · skip
      refine v_iload_n C dX8_reserved_12 rfl (j := 1) rfl ?_
      refine v_aload_n C dX8_reserved_13 rfl (j := 0) rfl ?_
      refine v_getR C 14 rfl (T := TX8) rfl inB8 (by decide) (by decide) rfl tw_1154 dX8_reserved_14 (fun x2 => ?_)
      refine v_iload_n C dX8_reserved_17 rfl (j := 2) rfl ?_
      refine v_callS_rI C [I p2] [A w x2, I p1] (Cee.of (rm := rX8_in) tw_1095 tw_9 hX8_in rfl rfl hRm (Nat.le_of_ble_eq_true rfl) (Nat.le_of_ble_eq_true rfl)) (fun x h => kX8_in X.2.1 w P n h) tw_1093 tw_1094 rfl rfl (Nat.le_of_ble_eq_true rfl) ⟨Nat.zero_le _, Nat.zero_le _⟩ dX8_reserved_18 (fun x3 => ?_)
      refine v_iald C dX8_reserved_21 (fun x4 => ?_)
      refine v_jnt (fun (k34 : Int → Option (Int)) => ∀ (x5 : Int), V X w 3 P n 0 0 res (k34 x5) s 34 [(0, A w c0), (2, I p2)] [I x5, I p1]) ?_ ?_
      · intro x5
        refine v_iadd C dX8_reserved_34 ?_
        refine v_bdI (fun x6 => ?_)
        refine v_istore_n C [(1, I x6), (0, A w c0), (2, I p2)] dX8_reserved_35 rfl (by decide) rfl ?_
        refine v_iinc C (j := 2) [(1, I x6), (0, A w c0)] dX8_reserved_36 (by decide) rfl (fun _ => rfl) (fun x7 => ?_)
        refine v_goto (tgt := 4) C dX8_reserved_39 rfl ?_
        refine v_sub [(0, A w c0), (1, I x6), (2, I x7)] [2, 1, 0] rfl ?_
        exact ih x6 x7
      intro k34 hk34
      refine v_if_ne (tgt := 29) C dX8_reserved_22 rfl ?_ ?_
      · skip
        refine v_aload_n C dX8_reserved_29 rfl (j := 0) rfl ?_
        refine v_iload_n C dX8_reserved_30 rfl (j := 2) rfl ?_
        refine v_callV_rI C [I p2] [I p1] (Cee.of (rm := rX8_rateOf) tw_1135 tw_9 hX8_rateOf rfl rfl hRm (Nat.le_of_ble_eq_true rfl) (Nat.le_of_ble_eq_true rfl)) (fun x h => kX8_rateOf X.2.1 w P n h) tw_1132 tw_1134 ts_49 rfl (ci := 8) rfl (by decide) rfl rfl (Nat.le_of_ble_eq_true rfl) ⟨Nat.zero_le _, Nat.zero_le _⟩ dX8_reserved_31 (fun x8 => ?_)
        refine v_sub [(0, A w c0), (2, I p2)] [0, 2] rfl ?_
        exact hk34 x8
      · skip
        refine v_iconst C dX8_reserved_25 ?_
        refine v_goto (tgt := 34) C dX8_reserved_26 rfl ?_
        refine v_sub [(0, A w c0), (2, I p2)] [0, 2] rfl ?_
        exact hk34 0
theorem hX8_reserved : yX8_reserved.cls ≠ "java/lang/invoke/MethodHandle" ∧ yX8_reserved.cls ≠ "java/lang/invoke/VarHandle" ∧ (parseMethodDescriptor yX8_reserved.desc).map (fun d => d.parameters.length) = some 0 := by decide +kernel
set_option maxRecDepth 100000 in
theorem kX8_reserved (l : Launch) (w : Wd) (P : Shp) (n : Nat) {s : St} {a0 : Int} {res : Int} (h : fX8_reserved P s a0 = some res) : Ct l w yX8_reserved cX8_reserved 3 (some FieldType.int) rX8_reserved P n [A w a0] s (QI w P n res s) :=
  Ct.of h (by decide) (Nat.le_of_ble_eq_true rfl) (lv := [(0, A w a0)]) rfl fun X hl hRm C hO => by
  subst hl
  unfold fX8_reserved
  refine v_iconst C dX8_reserved_0 ?_
  refine v_istore_n C [(1, I 0), (0, A w a0)] dX8_reserved_1 rfl (by decide) rfl ?_
  refine v_iconst C dX8_reserved_2 ?_
  refine v_istore_n C [(2, I 0), (1, I 0), (0, A w a0)] dX8_reserved_3 rfl (by decide) rfl ?_
  refine v_sub [(0, A w a0), (1, I 0), (2, I 0)] [2, 1, 0] rfl ?_
  refine vX8_reserved_L4 res hRm C hO a0 _ ?_ 1000 0 0
  · intro x9
    refine v_iload_n C dX8_reserved_42 rfl (j := 0) rfl ?_
    exact v_iret C rfl hO pS dX8_reserved_43
