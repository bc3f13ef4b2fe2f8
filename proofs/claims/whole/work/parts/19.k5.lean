/-! CONTRACTS (laid by wip/whole/gen/write.py) -/
-- ForesightHub$Hub.reserved
set_option maxRecDepth 100000 in
theorem vX2_reserved_L4 {X : Cxt} {w : Wd} {P : Shp} {n : Nat} {s : St} (res : Int) (hRm : X.2.2.2.1 = rX2_reserved) (C : Cok X w cX2_reserved 3 RX2 (some FieldType.int)) (hO : Own X w 0 0 (QI w P n res s))  (c0 : Int) (kE45 : Int → Option (Int)) (hE45 : ∀ (p1e : Int), V X w 3 P n 0 0 res (kE45 p1e) s 45 [(1, I p1e)] []) : ∀ (fuel : Nat) (p1 p2 : Int), V X w 3 P n 0 0 res (fX2_reserved_L4 P s c0 kE45 fuel p1 p2) s 4 [(0, A w c0), (1, I p1), (2, I p2)] [] := by
  intro fuel
  induction fuel with
  | zero => intro p1 p2; exact v_none
  | succ m ih =>
    intro p1 p2
    rw [fX2_reserved_L4]
    refine v_iload_n C dX2_reserved_4 rfl (j := 2) rfl ?_
    refine v_aload_n C dX2_reserved_5 rfl (j := 0) rfl ?_
    refine v_getR C 0 rfl (T := TX2) rfl inB2 (by decide) (by decide) rfl tw_304 dX2_reserved_6 (fun x1 => ?_)
    refine v_getI C 6 rfl (T := TX4) rfl inB4 (by decide) (by decide) rfl tw_73 dX2_reserved_9 (fun x2 => ?_)
    refine v_icmp_ge (tgt := 45) C dX2_reserved_12 rfl ?_ ?_
    · skip
      refine v_sub [(1, I p1)] [1] rfl ?_
      exact hE45 p1
    · skip
      refine v_aload_n C dX2_reserved_15 rfl (j := 0) rfl ?_
      refine v_getR C 1 rfl (T := TX2) rfl inB2 (by decide) (by decide) rfl tw_306 dX2_reserved_16 (fun x3 => ?_)
      refine v_getR C 5 rfl (T := TX6) rfl inB6 (by decide) (by decide) rfl tw_270 dX2_reserved_19 (fun x4 => ?_)
      refine v_iload_n C dX2_reserved_22 rfl (j := 2) rfl ?_
      refine v_iald C dX2_reserved_23 (fun x5 => ?_)
      refine v_jnt (fun (k39 : Int → Option (Int)) => ∀ (x6 : Int), V X w 3 P n 0 0 res (k39 x6) s 39 [(0, A w c0), (1, I x6), (2, I p2)] []) ?_ ?_
      · intro x6
        refine v_iinc C (j := 2) [(0, A w c0), (1, I x6)] dX2_reserved_39 (by decide) rfl (fun _ => rfl) (fun x7 => ?_)
        refine v_goto (tgt := 4) C dX2_reserved_42 rfl ?_
        refine v_sub [(0, A w c0), (1, I x6), (2, I x7)] [1, 2, 0] rfl ?_
        exact ih x6 x7
      intro k39 hk39
      refine v_if_eq (tgt := 39) C dX2_reserved_24 rfl ?_ ?_
      · skip
        exact hk39 p1
      · skip
        refine v_iload_n C dX2_reserved_27 rfl (j := 1) rfl ?_
        refine v_aload_n C dX2_reserved_28 rfl (j := 0) rfl ?_
        refine v_getR C 0 rfl (T := TX2) rfl inB2 (by decide) (by decide) rfl tw_304 dX2_reserved_29 (fun x8 => ?_)
        refine v_getR C 14 rfl (T := TX4) rfl inB4 (by decide) (by decide) rfl tw_100 dX2_reserved_32 (fun x9 => ?_)
        refine v_iload_n C dX2_reserved_35 rfl (j := 2) rfl ?_
        refine v_iald C dX2_reserved_36 (fun x10 => ?_)
        refine v_iadd C dX2_reserved_37 ?_
        refine v_bdI (fun x11 => ?_)
        refine v_istore_n C [(1, I x11), (0, A w c0), (2, I p2)] dX2_reserved_38 rfl (by decide) rfl ?_
        refine v_sub [(0, A w c0), (1, I x11), (2, I p2)] [1, 0, 2] rfl ?_
        exact hk39 x11
theorem hX2_reserved : yX2_reserved.cls ≠ "java/lang/invoke/MethodHandle" ∧ yX2_reserved.cls ≠ "java/lang/invoke/VarHandle" ∧ (parseMethodDescriptor yX2_reserved.desc).map (fun d => d.parameters.length) = some 0 := by decide +kernel
set_option maxRecDepth 100000 in
theorem kX2_reserved (l : Launch) (w : Wd) (P : Shp) (n : Nat) {s : St} {a0 : Int} {res : Int} (h : fX2_reserved P s a0 = some res) : Ct l w yX2_reserved cX2_reserved 3 (some FieldType.int) rX2_reserved P n [A w a0] s (QI w P n res s) :=
  Ct.of h (by decide) (Nat.le_of_ble_eq_true rfl) (lv := [(0, A w a0)]) rfl fun X hl hRm C hO => by
  subst hl
  unfold fX2_reserved
  refine v_iconst C dX2_reserved_0 ?_
  refine v_istore_n C [(1, I 0), (0, A w a0)] dX2_reserved_1 rfl (by decide) rfl ?_
  refine v_iconst C dX2_reserved_2 ?_
  refine v_istore_n C [(2, I 0), (1, I 0), (0, A w a0)] dX2_reserved_3 rfl (by decide) rfl ?_
  refine v_sub [(0, A w a0), (1, I 0), (2, I 0)] [2, 1, 0] rfl ?_
  refine vX2_reserved_L4 res hRm C hO a0 _ ?_ 1000 0 0
  · intro x12
    refine v_iload_n C dX2_reserved_45 rfl (j := 0) rfl ?_
    exact v_iret C rfl hO pS dX2_reserved_46
-- ForesightHub$Hub.settle
set_option maxRecDepth 100000 in
theorem vX2_settle_L2 {X : Cxt} {w : Wd} {P : Shp} {n : Nat} (res : St) (hRm : X.2.2.2.1 = rX2_settle) (C : Cok X w cX2_settle 5 RX2 (Option.none : Option FieldType)) (hO : Own X w 0 0 (QV w P n res))  (c0 : Int) (kE36 : St → Option (St)) (hE36 : ∀ (se : St), V X w 5 P n 0 0 res (kE36 se) se 36 [(0, A w c0)] []) : ∀ (fuel : Nat) (p1 : Int) (s : St), V X w 5 P n 0 0 res (fX2_settle_L2 P c0 kE36 fuel p1 s) s 2 [(0, A w c0), (1, I p1)] [] := by
  intro fuel
  induction fuel with
  | zero => intro p1 s; exact v_none
  | succ m ih =>
    intro p1 s
    rw [fX2_settle_L2]
    refine v_iload_n C dX2_settle_2 rfl (j := 1) rfl ?_
    refine v_aload_n C dX2_settle_3 rfl (j := 0) rfl ?_
    refine v_getR C 0 rfl (T := TX2) rfl inB2 (by decide) (by decide) rfl tw_304 dX2_settle_4 (fun x1 => ?_)
    refine v_getI C 6 rfl (T := TX4) rfl inB4 (by decide) (by decide) rfl tw_73 dX2_settle_7 (fun x2 => ?_)
    refine v_icmp_ge (tgt := 36) C dX2_settle_10 rfl ?_ ?_
    · skip
      refine v_sub [(0, A w c0)] [0] rfl ?_
      exact hE36 s
    · skip
      refine v_aload_n C dX2_settle_13 rfl (j := 0) rfl ?_
      refine v_getR C 1 rfl (T := TX2) rfl inB2 (by decide) (by decide) rfl tw_306 dX2_settle_14 (fun x3 => ?_)
      refine v_getR C 5 rfl (T := TX6) rfl inB6 (by decide) (by decide) rfl tw_270 dX2_settle_17 (fun x4 => ?_)
      refine v_iload_n C dX2_settle_20 rfl (j := 1) rfl ?_
      refine v_iald C dX2_settle_21 (fun x5 => ?_)
      refine v_jnt (fun (k30 : St → Option (St)) => ∀ (s6 : St), V X w 5 P n 0 0 res (k30 s6) s6 30 [(0, A w c0), (1, I p1)] []) ?_ ?_
      · intro s6
        refine v_iinc C (j := 1) [(0, A w c0)] dX2_settle_30 (by decide) rfl (fun _ => rfl) (fun x7 => ?_)
        refine v_goto (tgt := 2) C dX2_settle_33 rfl ?_
        refine v_sub [(0, A w c0), (1, I x7)] [1, 0] rfl ?_
        exact ih x7 s6
      intro k30 hk30
      refine v_if_eq (tgt := 30) C dX2_settle_22 rfl ?_ ?_
      · skip
        exact hk30 s
      · skip
        refine v_aload_n C dX2_settle_25 rfl (j := 0) rfl ?_
        refine v_iload_n C dX2_settle_26 rfl (j := 1) rfl ?_
        refine v_callV_wV C [I p1] [] (Cee.of (rm := rX2_settleHeld) tw_704 tw_4 hX2_settleHeld rfl rfl hRm (Nat.le_of_ble_eq_true rfl) (Nat.le_of_ble_eq_true rfl)) (fun x h => kX2_settleHeld X.2.1 w P n h) tw_701 tw_703 ts_21 rfl (ci := 2) rfl (by decide) rfl rfl (Nat.le_of_ble_eq_true rfl) ⟨Nat.zero_le _, Nat.zero_le _⟩ dX2_settle_27 (fun s8 => ?_)
        exact hk30 s8
set_option maxRecDepth 100000 in
theorem vX2_settle_L51 {X : Cxt} {w : Wd} {P : Shp} {n : Nat} (res : St) (hRm : X.2.2.2.1 = rX2_settle) (C : Cok X w cX2_settle 5 RX2 (Option.none : Option FieldType)) (hO : Own X w 0 0 (QV w P n res))  (c0 : Int) (kE168 : St → Option (St)) (hE168 : ∀ (se : St), V X w 5 P n 0 0 res (kE168 se) se 168 [] []) : ∀ (fuel : Nat) (p1 p2 : Int) (s : St), V X w 5 P n 0 0 res (fX2_settle_L51 P c0 kE168 fuel p1 p2 s) s 51 [(0, A w c0), (1, I p1), (2, I p2)] [] := by
  intro fuel
  induction fuel with
  | zero => intro p1 p2 s; exact v_none
  | succ m ih =>
    intro p1 p2 s
    rw [fX2_settle_L51]
    refine v_iload_n C dX2_settle_51 rfl (j := 2) rfl ?_
    refine v_aload_n C dX2_settle_52 rfl (j := 0) rfl ?_
    refine v_getR C 0 rfl (T := TX2) rfl inB2 (by decide) (by decide) rfl tw_304 dX2_settle_53 (fun x14 => ?_)
    refine v_getI C 6 rfl (T := TX4) rfl inB4 (by decide) (by decide) rfl tw_73 dX2_settle_56 (fun x15 => ?_)
    refine v_icmp_ge (tgt := 168) C dX2_settle_59 rfl ?_ ?_
    · skip
      refine v_sub [] [] rfl ?_
      exact hE168 s
    · skip
      refine v_aload_n C dX2_settle_62 rfl (j := 0) rfl ?_
      refine v_iload_n C dX2_settle_63 rfl (j := 2) rfl ?_
      refine v_callV_rI C [I p2] [] (Cee.of (rm := rX2_wantedHolder) tw_708 tw_4 hX2_wantedHolder rfl rfl hRm (Nat.le_of_ble_eq_true rfl) (Nat.le_of_ble_eq_true rfl)) (fun x h => kX2_wantedHolder X.2.1 w P n h) tw_705 tw_706 tw_707 rfl (ci := 2) rfl (by decide) rfl rfl (Nat.le_of_ble_eq_true rfl) ⟨Nat.zero_le _, Nat.zero_le _⟩ dX2_settle_64 (fun x16 => ?_)
      refine v_istore_n C [(3, I x16), (0, A w c0), (1, I p1), (2, I p2)] dX2_settle_67 rfl (by decide) rfl ?_
      refine v_aload_n C dX2_settle_68 rfl (j := 1) rfl ?_
      refine v_getR C 1 rfl (T := TX2) rfl inB2 (by decide) (by decide) rfl tw_306 dX2_settle_69 (fun x17 => ?_)
      refine v_getR C 5 rfl (T := TX6) rfl inB6 (by decide) (by decide) rfl tw_270 dX2_settle_72 (fun x18 => ?_)
      refine v_iload_n C dX2_settle_75 rfl (j := 3) rfl ?_
      refine v_iald C dX2_settle_76 (fun x19 => ?_)
      refine v_jnt (fun (k85 : Int → Option (St)) => ∀ (x20 : Int), V X w 5 P n 0 0 res (k85 x20) s 85 [(0, A w c0), (1, I p1), (2, I p2), (3, I x16)] [I x20]) ?_ ?_
      · intro x20
        refine v_istore C [(4, I x20), (0, A w c0), (1, I p1), (2, I p2), (3, I x16)] dX2_settle_85 (by decide) rfl ?_
        refine v_iload C dX2_settle_87 (j := 0) rfl ?_
        refine v_jnt (fun (k162 : Int → St → Option (St)) => ∀ (x21 : Int) (s22 : St), V X w 5 P n 0 0 res (k162 x21 s22) s22 162 [(0, A w c0), (1, I x21), (2, I p2)] []) ?_ ?_
        · intro x21 s22
          refine v_iinc C (j := 2) [(0, A w c0), (1, I x21)] dX2_settle_162 (by decide) rfl (fun _ => rfl) (fun x23 => ?_)
          refine v_goto (tgt := 51) C dX2_settle_165 rfl ?_
          refine v_sub [(0, A w c0), (1, I x21), (2, I x23)] [1, 2, 0] rfl ?_
          exact ih x21 x23 s22
        intro k162 hk162
        refine v_if_eq (tgt := 162) C dX2_settle_89 rfl ?_ ?_
        · skip
          refine v_sub [(0, A w c0), (1, I p1), (2, I p2)] [1, 2, 3] rfl ?_
          exact hk162 p1 s
        · skip
          refine v_iload_n C dX2_settle_92 rfl (j := 4) rfl ?_
          refine v_iconst C dX2_settle_93 ?_
          refine v_icmp_eq (tgt := 162) C dX2_settle_94 rfl ?_ ?_
          · skip
            refine v_sub [(0, A w c0), (1, I p1), (2, I p2)] [1, 2, 3] rfl ?_
            exact hk162 p1 s
          · skip
            refine v_aload_n C dX2_settle_97 rfl (j := 1) rfl ?_
            refine v_getR C 0 rfl (T := TX2) rfl inB2 (by decide) (by decide) rfl tw_304 dX2_settle_98 (fun x24 => ?_)
            refine v_getR C 14 rfl (T := TX4) rfl inB4 (by decide) (by decide) rfl tw_100 dX2_settle_101 (fun x25 => ?_)
            refine v_iload_n C dX2_settle_104 rfl (j := 3) rfl ?_
            refine v_iald C dX2_settle_105 (fun x26 => ?_)
            refine v_iload_n C dX2_settle_106 rfl (j := 2) rfl ?_
            refine v_icmp_gt (tgt := 162) C dX2_settle_107 rfl ?_ ?_
            · skip
              refine v_sub [(0, A w c0), (1, I p1), (2, I p2)] [1, 2, 3] rfl ?_
              exact hk162 p1 s
            · skip
              refine v_iload_n C dX2_settle_110 rfl (j := 2) rfl ?_
              refine v_aload_n C dX2_settle_111 rfl (j := 1) rfl ?_
              refine v_getR C 0 rfl (T := TX2) rfl inB2 (by decide) (by decide) rfl tw_304 dX2_settle_112 (fun x27 => ?_)
              refine v_getR C 14 rfl (T := TX4) rfl inB4 (by decide) (by decide) rfl tw_100 dX2_settle_115 (fun x28 => ?_)
              refine v_iload_n C dX2_settle_118 rfl (j := 3) rfl ?_
              refine v_iald C dX2_settle_119 (fun x29 => ?_)
              refine v_isub C dX2_settle_120 ?_
              refine v_bdI (fun x30 => ?_)
              refine v_istore_n C [(1, I x30), (4, I x20), (0, A w c0), (2, I p2), (3, I x16)] dX2_settle_121 rfl (by decide) rfl ?_
              refine v_aload_n C dX2_settle_122 rfl (j := 2) rfl ?_
              refine v_getR C 1 rfl (T := TX2) rfl inB2 (by decide) (by decide) rfl tw_306 dX2_settle_123 (fun x31 => ?_)
              refine v_getR C 4 rfl (T := TX6) rfl inB6 (by decide) (by decide) rfl tw_267 dX2_settle_126 (fun x32 => ?_)
              refine v_iload_n C dX2_settle_129 rfl (j := 3) rfl ?_
              refine v_iload_n C dX2_settle_130 rfl (j := 4) rfl ?_
              refine v_iast C dX2_settle_131 (fun s33 => ?_)
              refine v_aload_n C dX2_settle_132 rfl (j := 2) rfl ?_
              refine v_getR C 1 rfl (T := TX2) rfl inB2 (by decide) (by decide) rfl tw_306 dX2_settle_133 (fun x34 => ?_)
              refine v_getR C 5 rfl (T := TX6) rfl inB6 (by decide) (by decide) rfl tw_270 dX2_settle_136 (fun x35 => ?_)
              refine v_iload_n C dX2_settle_139 rfl (j := 3) rfl ?_
              refine v_iconst C dX2_settle_140 ?_
              refine v_iast C dX2_settle_141 (fun s36 => ?_)
              refine v_aload_n C dX2_settle_142 rfl (j := 2) rfl ?_
              refine v_getR C 1 rfl (T := TX2) rfl inB2 (by decide) (by decide) rfl tw_306 dX2_settle_143 (fun x37 => ?_)
              refine v_getR C 9 rfl (T := TX6) rfl inB6 (by decide) (by decide) rfl tw_282 dX2_settle_146 (fun x38 => ?_)
              refine v_bipush C dX2_settle_149 (by decide) ?_
              refine v_iload_n C dX2_settle_151 rfl (j := 3) rfl ?_
              refine v_aload_n C dX2_settle_152 rfl (j := 2) rfl ?_
              refine v_getR C 1 rfl (T := TX2) rfl inB2 (by decide) (by decide) rfl tw_306 dX2_settle_153 (fun x39 => ?_)
              refine v_getI C 0 rfl (T := TX6) rfl inB6 (by decide) (by decide) rfl tw_256 dX2_settle_156 (fun x40 => ?_)
              refine v_callV_wV C [I 6, I p2, I x40] [] (Cee.of (rm := rX3_add) tw_720 tw_7 hX3_add rfl rfl hRm (Nat.le_of_ble_eq_true rfl) (Nat.le_of_ble_eq_true rfl)) (fun x h => kX3_add X.2.1 w P n h) tw_717 tw_718 tw_719 rfl (ci := 3) rfl (by decide) rfl rfl (Nat.le_of_ble_eq_true rfl) ⟨Nat.zero_le _, Nat.zero_le _⟩ dX2_settle_159 (fun s41 => ?_)
              refine v_sub [(0, A w c0), (1, I x30), (2, I p2)] [2, 0, 3] rfl ?_
              exact hk162 x30 s41
      intro k85 hk85
      refine v_if_ne (tgt := 84) C dX2_settle_77 rfl ?_ ?_
      · skip
        refine v_iconst C dX2_settle_84 ?_
        refine v_sub [(0, A w c0), (1, I p1), (2, I p2), (3, I x16)] [1, 2, 3, 0] rfl ?_
        exact hk85 0
      · skip
        refine v_iconst C dX2_settle_80 ?_
        refine v_goto (tgt := 85) C dX2_settle_81 rfl ?_
        refine v_sub [(0, A w c0), (1, I p1), (2, I p2), (3, I x16)] [1, 2, 3, 0] rfl ?_
        exact hk85 1
theorem hX2_settle : yX2_settle.cls ≠ "java/lang/invoke/MethodHandle" ∧ yX2_settle.cls ≠ "java/lang/invoke/VarHandle" ∧ (parseMethodDescriptor yX2_settle.desc).map (fun d => d.parameters.length) = some 0 := by decide +kernel
set_option maxRecDepth 100000 in
theorem kX2_settle (l : Launch) (w : Wd) (P : Shp) (n : Nat) {s : St} {a0 : Int} {res : St} (h : fX2_settle P s a0 = some res) : Ct l w yX2_settle cX2_settle 5 (Option.none : Option FieldType) rX2_settle P n [A w a0] s (QV w P n res) :=
  Ct.of h (by decide) (Nat.le_of_ble_eq_true rfl) (lv := [(0, A w a0)]) rfl fun X hl hRm C hO => by
  subst hl
  unfold fX2_settle
  refine v_iconst C dX2_settle_0 ?_
  refine v_istore_n C [(1, I 0), (0, A w a0)] dX2_settle_1 rfl (by decide) rfl ?_
  refine v_sub [(0, A w a0), (1, I 0)] [1, 0] rfl ?_
  refine vX2_settle_L2 res hRm C hO a0 _ ?_ 1000 0 s
  · intro s9
    refine v_aload_n C dX2_settle_36 rfl (j := 0) rfl ?_
    refine v_getR C 0 rfl (T := TX2) rfl inB2 (by decide) (by decide) rfl tw_304 dX2_settle_37 (fun x10 => ?_)
    refine v_getI C 0 rfl (T := TX4) rfl inB4 (by decide) (by decide) rfl tw_50 dX2_settle_40 (fun x11 => ?_)
    refine v_aload_n C dX2_settle_43 rfl (j := 0) rfl ?_
    refine v_callV_rI C [] [I x11] (Cee.of (rm := rX2_reserved) tw_725 tw_4 hX2_reserved rfl rfl hRm (Nat.le_of_ble_eq_true rfl) (Nat.le_of_ble_eq_true rfl)) (fun x h => kX2_reserved X.2.1 w P n h) tw_722 tw_723 tw_724 rfl (ci := 2) rfl (by decide) rfl rfl (Nat.le_of_ble_eq_true rfl) ⟨Nat.zero_le _, Nat.zero_le _⟩ dX2_settle_44 (fun x12 => ?_)
    refine v_isub C dX2_settle_47 ?_
    refine v_bdI (fun x13 => ?_)
    refine v_istore_n C [(1, I x13), (0, A w a0)] dX2_settle_48 rfl (by decide) rfl ?_
    refine v_iconst C dX2_settle_49 ?_
    refine v_istore_n C [(2, I 0), (1, I x13), (0, A w a0)] dX2_settle_50 rfl (by decide) rfl ?_
    refine v_sub [(0, A w a0), (1, I x13), (2, I 0)] [2, 1, 0] rfl ?_
    refine vX2_settle_L51 res hRm C hO a0 _ ?_ 1000 x13 0 s9
    · intro s42
      exact v_vret C rfl hO (fun h => Option.some.inj h) dX2_settle_168
-- ForesightHub$Hub.begin
theorem hX2_begin : yX2_begin.cls ≠ "java/lang/invoke/MethodHandle" ∧ yX2_begin.cls ≠ "java/lang/invoke/VarHandle" ∧ (parseMethodDescriptor yX2_begin.desc).map (fun d => d.parameters.length) = some 1 := by decide +kernel
set_option maxRecDepth 100000 in
theorem kX2_begin (l : Launch) (w : Wd) (P : Shp) (n : Nat) {s : St} {a0 : Int} {a1 : Int} {res : St} (h : fX2_begin P s a0 a1 = some res) : Ct l w yX2_begin cX2_begin 2 (Option.none : Option FieldType) rX2_begin P n [A w a0, A w a1] s (QV w P n res) :=
  Ct.of h (by decide) (Nat.le_of_ble_eq_true rfl) (lv := [(0, A w a0), (1, A w a1)]) rfl fun X hl hRm C hO => by
  subst hl
  unfold fX2_begin
  refine v_aload_n C dX2_begin_0 rfl (j := 0) rfl ?_
  refine v_aload_n C dX2_begin_1 rfl (j := 1) rfl ?_
  refine v_putR C 0 rfl (T := TX2) rfl inB2 (by decide) tyX2_ok nmX2 (by decide) rfl rfl tw_304 dX2_begin_2 (Or.inl ⟨_, rfl⟩) (fun s1 => ?_)
  refine v_aload_n C dX2_begin_5 rfl (j := 0) rfl ?_
  refine v_getR C 1 rfl (T := TX2) rfl inB2 (by decide) (by decide) rfl tw_306 dX2_begin_6 (fun x2 => ?_)
  refine v_aload_n C dX2_begin_9 rfl (j := 1) rfl ?_
  refine v_callV_wV C [A w a1] [] (Cee.of (rm := rX6_begin) tw_688 tw_5 hX6_begin rfl rfl hRm (Nat.le_of_ble_eq_true rfl) (Nat.le_of_ble_eq_true rfl)) (fun x h => kX6_begin X.2.1 w P n h) tw_685 tw_686 tw_687 rfl (ci := 6) rfl (by decide) rfl rfl (Nat.le_of_ble_eq_true rfl) ⟨Nat.zero_le _, Nat.zero_le _⟩ dX2_begin_10 (fun s3 => ?_)
  refine v_aload_n C dX2_begin_13 rfl (j := 0) rfl ?_
  refine v_callV_wV C [] [] (Cee.of (rm := rX2_settle) tw_700 tw_4 hX2_settle rfl rfl hRm (Nat.le_of_ble_eq_true rfl) (Nat.le_of_ble_eq_true rfl)) (fun x h => kX2_settle X.2.1 w P n h) tw_697 tw_698 tw_699 rfl (ci := 2) rfl (by decide) rfl rfl (Nat.le_of_ble_eq_true rfl) ⟨Nat.zero_le _, Nat.zero_le _⟩ dX2_begin_14 (fun s4 => ?_)
  exact v_vret C rfl hO (fun h => Option.some.inj h) dX2_begin_17
-- ForesightHub$Hub.inAlarm
theorem hX2_inAlarm : yX2_inAlarm.cls ≠ "java/lang/invoke/MethodHandle" ∧ yX2_inAlarm.cls ≠ "java/lang/invoke/VarHandle" ∧ (parseMethodDescriptor yX2_inAlarm.desc).map (fun d => d.parameters.length) = some 1 := by decide +kernel
set_option maxRecDepth 100000 in
theorem kX2_inAlarm (l : Launch) (w : Wd) (P : Shp) (n : Nat) {s : St} {a0 : Int} {a1 : Int} {res : Int} (h : fX2_inAlarm P s a0 a1 = some res) : Ct l w yX2_inAlarm cX2_inAlarm 2 (some FieldType.boolean) rX2_inAlarm P n [A w a0, I a1] s (QI w P n res s) :=
  Ct.of h (by decide) (Nat.le_of_ble_eq_true rfl) (lv := [(0, A w a0), (1, I a1)]) rfl fun X hl hRm C hO => by
  subst hl
  unfold fX2_inAlarm
  refine v_aload_n C dX2_inAlarm_0 rfl (j := 0) rfl ?_
  refine v_iload_n C dX2_inAlarm_1 rfl (j := 1) rfl ?_
  refine v_callV_rI C [I a1] [] (Cee.of (rm := rX2_isDevice) tw_379 tw_4 hX2_isDevice rfl rfl hRm (Nat.le_of_ble_eq_true rfl) (Nat.le_of_ble_eq_true rfl)) (fun x h => kX2_isDevice X.2.1 w P n h) tw_376 tw_377 tw_378 rfl (ci := 2) rfl (by decide) rfl rfl (Nat.le_of_ble_eq_true rfl) ⟨Nat.zero_le _, Nat.zero_le _⟩ dX2_inAlarm_2 (fun x1 => ?_)
  refine v_if_eq (tgt := 25) C dX2_inAlarm_5 rfl ?_ ?_
  · skip
    refine v_iconst C dX2_inAlarm_25 ?_
    exact v_zret C rfl hO pS dX2_inAlarm_26
  · skip
    refine v_aload_n C dX2_inAlarm_8 rfl (j := 0) rfl ?_
    refine v_getR C 1 rfl (T := TX2) rfl inB2 (by decide) (by decide) rfl tw_306 dX2_inAlarm_9 (fun x2 => ?_)
    refine v_getR C 3 rfl (T := TX6) rfl inB6 (by decide) (by decide) rfl tw_264 dX2_inAlarm_12 (fun x3 => ?_)
    refine v_iload_n C dX2_inAlarm_15 rfl (j := 1) rfl ?_
    refine v_iald C dX2_inAlarm_16 (fun x4 => ?_)
    refine v_iconst C dX2_inAlarm_17 ?_
    refine v_icmp_eq (tgt := 25) C dX2_inAlarm_18 rfl ?_ ?_
    · skip
      refine v_iconst C dX2_inAlarm_25 ?_
      exact v_zret C rfl hO pS dX2_inAlarm_26
    · skip
      refine v_iconst C dX2_inAlarm_21 ?_
      refine v_goto (tgt := 26) C dX2_inAlarm_22 rfl ?_
      exact v_zret C rfl hO pS dX2_inAlarm_26
-- ForesightHub$Hub.pluggedInAt
set_option maxRecDepth 100000 in
theorem vX2_pluggedInAt_L2 {X : Cxt} {w : Wd} {P : Shp} {n : Nat} {s : St} (res : Int) (hRm : X.2.2.2.1 = rX2_pluggedInAt) (C : Cok X w cX2_pluggedInAt 3 RX2 (some FieldType.int)) (hO : Own X w 0 0 (QI w P n res s))  (c0 : Int) (c1 : Int) (kE34 : Option (Int)) (kE26 : Int → Option (Int)) (hE34 : V X w 3 P n 0 0 res (kE34) s 34 [] []) (hE26 : ∀ (p2e : Int), V X w 3 P n 0 0 res (kE26 p2e) s 26 [(2, I p2e)] []) : ∀ (fuel : Nat) (p2 : Int), V X w 3 P n 0 0 res (fX2_pluggedInAt_L2 P s c0 c1 kE34 kE26 fuel p2) s 2 [(0, A w c0), (1, I c1), (2, I p2)] [] := by
  intro fuel
  induction fuel with
  | zero => intro p2; exact v_none
  | succ m ih =>
    intro p2
    rw [fX2_pluggedInAt_L2]
    refine v_iload_n C dX2_pluggedInAt_2 rfl (j := 2) rfl ?_
    refine v_aload_n C dX2_pluggedInAt_3 rfl (j := 0) rfl ?_
    refine v_getR C 0 rfl (T := TX2) rfl inB2 (by decide) (by decide) rfl tw_304 dX2_pluggedInAt_4 (fun x1 => ?_)
    refine v_getI C 5 rfl (T := TX4) rfl inB4 (by decide) (by decide) rfl tw_68 dX2_pluggedInAt_7 (fun x2 => ?_)
    refine v_icmp_ge (tgt := 34) C dX2_pluggedInAt_10 rfl ?_ ?_
    · skip
      refine v_sub [] [] rfl ?_
      exact hE34
    · skip
      refine v_aload_n C dX2_pluggedInAt_13 rfl (j := 0) rfl ?_
      refine v_getR C 1 rfl (T := TX2) rfl inB2 (by decide) (by decide) rfl tw_306 dX2_pluggedInAt_14 (fun x3 => ?_)
      refine v_getR C 2 rfl (T := TX6) rfl inB6 (by decide) (by decide) rfl tw_261 dX2_pluggedInAt_17 (fun x4 => ?_)
      refine v_iload_n C dX2_pluggedInAt_20 rfl (j := 2) rfl ?_
      refine v_iald C dX2_pluggedInAt_21 (fun x5 => ?_)
      refine v_iload_n C dX2_pluggedInAt_22 rfl (j := 1) rfl ?_
      refine v_icmp_ne (tgt := 28) C dX2_pluggedInAt_23 rfl ?_ ?_
      · skip
        refine v_iinc C (j := 2) [(0, A w c0), (1, I c1)] dX2_pluggedInAt_28 (by decide) rfl (fun _ => rfl) (fun x6 => ?_)
        refine v_goto (tgt := 2) C dX2_pluggedInAt_31 rfl ?_
        refine v_sub [(0, A w c0), (1, I c1), (2, I x6)] [1, 2, 0] rfl ?_
        exact ih x6
      · skip
        refine v_sub [(2, I p2)] [2] rfl ?_
        exact hE26 p2
theorem hX2_pluggedInAt : yX2_pluggedInAt.cls ≠ "java/lang/invoke/MethodHandle" ∧ yX2_pluggedInAt.cls ≠ "java/lang/invoke/VarHandle" ∧ (parseMethodDescriptor yX2_pluggedInAt.desc).map (fun d => d.parameters.length) = some 1 := by decide +kernel
set_option maxRecDepth 100000 in
theorem kX2_pluggedInAt (l : Launch) (w : Wd) (P : Shp) (n : Nat) {s : St} {a0 : Int} {a1 : Int} {res : Int} (h : fX2_pluggedInAt P s a0 a1 = some res) : Ct l w yX2_pluggedInAt cX2_pluggedInAt 3 (some FieldType.int) rX2_pluggedInAt P n [A w a0, I a1] s (QI w P n res s) :=
  Ct.of h (by decide) (Nat.le_of_ble_eq_true rfl) (lv := [(0, A w a0), (1, I a1)]) rfl fun X hl hRm C hO => by
  subst hl
  unfold fX2_pluggedInAt
  refine v_iconst C dX2_pluggedInAt_0 ?_
  refine v_istore_n C [(2, I 0), (0, A w a0), (1, I a1)] dX2_pluggedInAt_1 rfl (by decide) rfl ?_
  refine v_sub [(0, A w a0), (1, I a1), (2, I 0)] [1, 2, 0] rfl ?_
  refine vX2_pluggedInAt_L2 res hRm C hO a0 a1 _ _ ?_ ?_ 1000 0
  · skip
    refine v_iconst C dX2_pluggedInAt_34 ?_
    exact v_iret C rfl hO pS dX2_pluggedInAt_35
  · intro x7
    refine v_iload_n C dX2_pluggedInAt_26 rfl (j := 0) rfl ?_
    exact v_iret C rfl hO pS dX2_pluggedInAt_27
-- ForesightHub$Hub.heldBits
set_option maxRecDepth 100000 in
theorem vX2_heldBits_L4 {X : Cxt} {w : Wd} {P : Shp} {n : Nat} {s : St} (res : Int) (hRm : X.2.2.2.1 = rX2_heldBits) (C : Cok X w cX2_heldBits 4 RX2 (some FieldType.int)) (hO : Own X w 0 0 (QI w P n res s))  (c0 : Int) (c1 : Int) (kE40 : Int → Option (Int)) (hE40 : ∀ (p2e : Int), V X w 4 P n 0 0 res (kE40 p2e) s 40 [(2, I p2e)] []) : ∀ (fuel : Nat) (p2 p3 : Int), V X w 4 P n 0 0 res (fX2_heldBits_L4 P s c0 c1 kE40 fuel p2 p3) s 4 [(0, A w c0), (1, I c1), (2, I p2), (3, I p3)] [] := by
  intro fuel
  induction fuel with
  | zero => intro p2 p3; exact v_none
  | succ m ih =>
    intro p2 p3
    rw [fX2_heldBits_L4]
    refine v_iload_n C dX2_heldBits_4 rfl (j := 3) rfl ?_
    refine v_aload_n C dX2_heldBits_5 rfl (j := 0) rfl ?_
    refine v_getR C 0 rfl (T := TX2) rfl inB2 (by decide) (by decide) rfl tw_304 dX2_heldBits_6 (fun x1 => ?_)
    refine v_getI C 6 rfl (T := TX4) rfl inB4 (by decide) (by decide) rfl tw_73 dX2_heldBits_9 (fun x2 => ?_)
    refine v_icmp_ge (tgt := 40) C dX2_heldBits_12 rfl ?_ ?_
    · skip
      refine v_sub [(2, I p2)] [2] rfl ?_
      exact hE40 p2
    · skip
      refine v_aload_n C dX2_heldBits_15 rfl (j := 0) rfl ?_
      refine v_getR C 1 rfl (T := TX2) rfl inB2 (by decide) (by decide) rfl tw_306 dX2_heldBits_16 (fun x3 => ?_)
      refine v_getR C 4 rfl (T := TX6) rfl inB6 (by decide) (by decide) rfl tw_267 dX2_heldBits_19 (fun x4 => ?_)
      refine v_iload_n C dX2_heldBits_22 rfl (j := 3) rfl ?_
      refine v_iald C dX2_heldBits_23 (fun x5 => ?_)
      refine v_iload_n C dX2_heldBits_24 rfl (j := 1) rfl ?_
      refine v_jnt (fun (k34 : Int → Option (Int)) => ∀ (x6 : Int), V X w 4 P n 0 0 res (k34 x6) s 34 [(0, A w c0), (1, I c1), (2, I x6), (3, I p3)] []) ?_ ?_
      · intro x6
        refine v_iinc C (j := 3) [(0, A w c0), (1, I c1), (2, I x6)] dX2_heldBits_34 (by decide) rfl (fun _ => rfl) (fun x7 => ?_)
        refine v_goto (tgt := 4) C dX2_heldBits_37 rfl ?_
        refine v_sub [(0, A w c0), (1, I c1), (2, I x6), (3, I x7)] [1, 2, 3, 0] rfl ?_
        exact ih x6 x7
      intro k34 hk34
      refine v_icmp_ne (tgt := 34) C dX2_heldBits_25 rfl ?_ ?_
      · skip
        exact hk34 p2
      · skip
        refine v_iload_n C dX2_heldBits_28 rfl (j := 2) rfl ?_
        refine v_iconst C dX2_heldBits_29 ?_
        refine v_iload_n C dX2_heldBits_30 rfl (j := 3) rfl ?_
        refine v_ishl C dX2_heldBits_31 ?_
        refine v_ior C dX2_heldBits_32 ?_
        refine v_bdI (fun x8 => ?_)
        refine v_istore_n C [(2, I x8), (0, A w c0), (1, I c1), (3, I p3)] dX2_heldBits_33 rfl (by decide) rfl ?_
        refine v_sub [(0, A w c0), (1, I c1), (2, I x8), (3, I p3)] [1, 2, 0, 3] rfl ?_
        exact hk34 x8
theorem hX2_heldBits : yX2_heldBits.cls ≠ "java/lang/invoke/MethodHandle" ∧ yX2_heldBits.cls ≠ "java/lang/invoke/VarHandle" ∧ (parseMethodDescriptor yX2_heldBits.desc).map (fun d => d.parameters.length) = some 1 := by decide +kernel
set_option maxRecDepth 100000 in
theorem kX2_heldBits (l : Launch) (w : Wd) (P : Shp) (n : Nat) {s : St} {a0 : Int} {a1 : Int} {res : Int} (h : fX2_heldBits P s a0 a1 = some res) : Ct l w yX2_heldBits cX2_heldBits 4 (some FieldType.int) rX2_heldBits P n [A w a0, I a1] s (QI w P n res s) :=
  Ct.of h (by decide) (Nat.le_of_ble_eq_true rfl) (lv := [(0, A w a0), (1, I a1)]) rfl fun X hl hRm C hO => by
  subst hl
  unfold fX2_heldBits
  refine v_iconst C dX2_heldBits_0 ?_
  refine v_istore_n C [(2, I 0), (0, A w a0), (1, I a1)] dX2_heldBits_1 rfl (by decide) rfl ?_
  refine v_iconst C dX2_heldBits_2 ?_
  refine v_istore_n C [(3, I 0), (2, I 0), (0, A w a0), (1, I a1)] dX2_heldBits_3 rfl (by decide) rfl ?_
  refine v_sub [(0, A w a0), (1, I a1), (2, I 0), (3, I 0)] [2, 3, 1, 0] rfl ?_
  refine vX2_heldBits_L4 res hRm C hO a0 a1 _ ?_ 1000 0 0
  · intro x9
    refine v_iload_n C dX2_heldBits_40 rfl (j := 0) rfl ?_
    exact v_iret C rfl hO pS dX2_heldBits_41
-- ForesightHub$Hub.reservedFor
set_option maxRecDepth 100000 in
theorem vX2_reservedFor_L4 {X : Cxt} {w : Wd} {P : Shp} {n : Nat} {s : St} (res : Int) (hRm : X.2.2.2.1 = rX2_reservedFor) (C : Cok X w cX2_reservedFor 4 RX2 (some FieldType.int)) (hO : Own X w 0 0 (QI w P n res s))  (c0 : Int) (c1 : Int) (kE46 : Int → Option (Int)) (hE46 : ∀ (p2e : Int), V X w 4 P n 0 0 res (kE46 p2e) s 46 [(2, I p2e)] []) : ∀ (fuel : Nat) (p2 p3 : Int), V X w 4 P n 0 0 res (fX2_reservedFor_L4 P s c0 c1 kE46 fuel p2 p3) s 4 [(0, A w c0), (1, I c1), (2, I p2), (3, I p3)] [] := by
  intro fuel
  induction fuel with
  | zero => intro p2 p3; exact v_none
  | succ m ih =>
    intro p2 p3
    rw [fX2_reservedFor_L4]
    refine v_iload_n C dX2_reservedFor_4 rfl (j := 3) rfl ?_
    refine v_aload_n C dX2_reservedFor_5 rfl (j := 0) rfl ?_
    refine v_getR C 0 rfl (T := TX2) rfl inB2 (by decide) (by decide) rfl tw_304 dX2_reservedFor_6 (fun x1 => ?_)
    refine v_getI C 6 rfl (T := TX4) rfl inB4 (by decide) (by decide) rfl tw_73 dX2_reservedFor_9 (fun x2 => ?_)
    refine v_icmp_ge (tgt := 46) C dX2_reservedFor_12 rfl ?_ ?_
    · skip
      refine v_sub [(2, I p2)] [2] rfl ?_
      exact hE46 p2
    · skip
      refine v_aload_n C dX2_reservedFor_15 rfl (j := 0) rfl ?_
      refine v_getR C 1 rfl (T := TX2) rfl inB2 (by decide) (by decide) rfl tw_306 dX2_reservedFor_16 (fun x3 => ?_)
      refine v_getR C 4 rfl (T := TX6) rfl inB6 (by decide) (by decide) rfl tw_267 dX2_reservedFor_19 (fun x4 => ?_)
      refine v_iload_n C dX2_reservedFor_22 rfl (j := 3) rfl ?_
      refine v_iald C dX2_reservedFor_23 (fun x5 => ?_)
      refine v_iload_n C dX2_reservedFor_24 rfl (j := 1) rfl ?_
      refine v_jnt (fun (k40 : Int → Option (Int)) => ∀ (x6 : Int), V X w 4 P n 0 0 res (k40 x6) s 40 [(0, A w c0), (1, I c1), (2, I x6), (3, I p3)] []) ?_ ?_
      · intro x6
        refine v_iinc C (j := 3) [(0, A w c0), (1, I c1), (2, I x6)] dX2_reservedFor_40 (by decide) rfl (fun _ => rfl) (fun x7 => ?_)
        refine v_goto (tgt := 4) C dX2_reservedFor_43 rfl ?_
        refine v_sub [(0, A w c0), (1, I c1), (2, I x6), (3, I x7)] [1, 2, 3, 0] rfl ?_
        exact ih x6 x7
      intro k40 hk40
      refine v_icmp_ne (tgt := 40) C dX2_reservedFor_25 rfl ?_ ?_
      · skip
        exact hk40 p2
      · skip
        refine v_iload_n C dX2_reservedFor_28 rfl (j := 2) rfl ?_
        refine v_aload_n C dX2_reservedFor_29 rfl (j := 0) rfl ?_
        refine v_getR C 0 rfl (T := TX2) rfl inB2 (by decide) (by decide) rfl tw_304 dX2_reservedFor_30 (fun x8 => ?_)
        refine v_getR C 14 rfl (T := TX4) rfl inB4 (by decide) (by decide) rfl tw_100 dX2_reservedFor_33 (fun x9 => ?_)
        refine v_iload_n C dX2_reservedFor_36 rfl (j := 3) rfl ?_
        refine v_iald C dX2_reservedFor_37 (fun x10 => ?_)
        refine v_iadd C dX2_reservedFor_38 ?_
        refine v_bdI (fun x11 => ?_)
        refine v_istore_n C [(2, I x11), (0, A w c0), (1, I c1), (3, I p3)] dX2_reservedFor_39 rfl (by decide) rfl ?_
        refine v_sub [(0, A w c0), (1, I c1), (2, I x11), (3, I p3)] [1, 2, 0, 3] rfl ?_
        exact hk40 x11
theorem hX2_reservedFor : yX2_reservedFor.cls ≠ "java/lang/invoke/MethodHandle" ∧ yX2_reservedFor.cls ≠ "java/lang/invoke/VarHandle" ∧ (parseMethodDescriptor yX2_reservedFor.desc).map (fun d => d.parameters.length) = some 1 := by decide +kernel
set_option maxRecDepth 100000 in
theorem kX2_reservedFor (l : Launch) (w : Wd) (P : Shp) (n : Nat) {s : St} {a0 : Int} {a1 : Int} {res : Int} (h : fX2_reservedFor P s a0 a1 = some res) : Ct l w yX2_reservedFor cX2_reservedFor 4 (some FieldType.int) rX2_reservedFor P n [A w a0, I a1] s (QI w P n res s) :=
  Ct.of h (by decide) (Nat.le_of_ble_eq_true rfl) (lv := [(0, A w a0), (1, I a1)]) rfl fun X hl hRm C hO => by
  subst hl
  unfold fX2_reservedFor
  refine v_iconst C dX2_reservedFor_0 ?_
  refine v_istore_n C [(2, I 0), (0, A w a0), (1, I a1)] dX2_reservedFor_1 rfl (by decide) rfl ?_
  refine v_iconst C dX2_reservedFor_2 ?_
  refine v_istore_n C [(3, I 0), (2, I 0), (0, A w a0), (1, I a1)] dX2_reservedFor_3 rfl (by decide) rfl ?_
  refine v_sub [(0, A w a0), (1, I a1), (2, I 0), (3, I 0)] [2, 3, 1, 0] rfl ?_
  refine vX2_reservedFor_L4 res hRm C hO a0 a1 _ ?_ 1000 0 0
  · intro x12
    refine v_iload_n C dX2_reservedFor_46 rfl (j := 0) rfl ?_
    exact v_iret C rfl hO pS dX2_reservedFor_47
-- ForesightHub$Hub.unitsAtStake
set_option maxRecDepth 100000 in
theorem vX2_unitsAtStake_L4 {X : Cxt} {w : Wd} {P : Shp} {n : Nat} {s : St} (res : Int) (hRm : X.2.2.2.1 = rX2_unitsAtStake) (C : Cok X w cX2_unitsAtStake 4 RX2 (some FieldType.int)) (hO : Own X w 0 0 (QI w P n res s))  (c0 : Int) (c1 : Int) (kE46 : Int → Option (Int)) (hE46 : ∀ (p2e : Int), V X w 4 P n 0 0 res (kE46 p2e) s 46 [(2, I p2e)] []) : ∀ (fuel : Nat) (p2 p3 : Int), V X w 4 P n 0 0 res (fX2_unitsAtStake_L4 P s c0 c1 kE46 fuel p2 p3) s 4 [(0, A w c0), (1, I c1), (2, I p2), (3, I p3)] [] := by
  intro fuel
  induction fuel with
  | zero => intro p2 p3; exact v_none
  | succ m ih =>
    intro p2 p3
    rw [fX2_unitsAtStake_L4]
    refine v_iload_n C dX2_unitsAtStake_4 rfl (j := 3) rfl ?_
    refine v_aload_n C dX2_unitsAtStake_5 rfl (j := 0) rfl ?_
    refine v_getR C 0 rfl (T := TX2) rfl inB2 (by decide) (by decide) rfl tw_304 dX2_unitsAtStake_6 (fun x1 => ?_)
    refine v_getI C 6 rfl (T := TX4) rfl inB4 (by decide) (by decide) rfl tw_73 dX2_unitsAtStake_9 (fun x2 => ?_)
    refine v_icmp_ge (tgt := 46) C dX2_unitsAtStake_12 rfl ?_ ?_
    · skip
      refine v_sub [(2, I p2)] [2] rfl ?_
      exact hE46 p2
    · skip
      refine v_aload_n C dX2_unitsAtStake_15 rfl (j := 0) rfl ?_
      refine v_getR C 1 rfl (T := TX2) rfl inB2 (by decide) (by decide) rfl tw_306 dX2_unitsAtStake_16 (fun x3 => ?_)
      refine v_getR C 4 rfl (T := TX6) rfl inB6 (by decide) (by decide) rfl tw_267 dX2_unitsAtStake_19 (fun x4 => ?_)
      refine v_iload_n C dX2_unitsAtStake_22 rfl (j := 3) rfl ?_
      refine v_iald C dX2_unitsAtStake_23 (fun x5 => ?_)
      refine v_iload_n C dX2_unitsAtStake_24 rfl (j := 1) rfl ?_
      refine v_jnt (fun (k40 : Int → Option (Int)) => ∀ (x6 : Int), V X w 4 P n 0 0 res (k40 x6) s 40 [(0, A w c0), (1, I c1), (2, I x6), (3, I p3)] []) ?_ ?_
      · intro x6
        refine v_iinc C (j := 3) [(0, A w c0), (1, I c1), (2, I x6)] dX2_unitsAtStake_40 (by decide) rfl (fun _ => rfl) (fun x7 => ?_)
        refine v_goto (tgt := 4) C dX2_unitsAtStake_43 rfl ?_
        refine v_sub [(0, A w c0), (1, I c1), (2, I x6), (3, I x7)] [1, 2, 3, 0] rfl ?_
        exact ih x6 x7
      intro k40 hk40
      refine v_icmp_ne (tgt := 40) C dX2_unitsAtStake_25 rfl ?_ ?_
      · skip
        exact hk40 p2
      · skip
        refine v_iload_n C dX2_unitsAtStake_28 rfl (j := 2) rfl ?_
        refine v_aload_n C dX2_unitsAtStake_29 rfl (j := 0) rfl ?_
        refine v_getR C 1 rfl (T := TX2) rfl inB2 (by decide) (by decide) rfl tw_306 dX2_unitsAtStake_30 (fun x8 => ?_)
        refine v_getR C 6 rfl (T := TX6) rfl inB6 (by decide) (by decide) rfl tw_273 dX2_unitsAtStake_33 (fun x9 => ?_)
        refine v_iload_n C dX2_unitsAtStake_36 rfl (j := 3) rfl ?_
        refine v_iald C dX2_unitsAtStake_37 (fun x10 => ?_)
        refine v_iadd C dX2_unitsAtStake_38 ?_
        refine v_bdI (fun x11 => ?_)
        refine v_istore_n C [(2, I x11), (0, A w c0), (1, I c1), (3, I p3)] dX2_unitsAtStake_39 rfl (by decide) rfl ?_
        refine v_sub [(0, A w c0), (1, I c1), (2, I x11), (3, I p3)] [1, 2, 0, 3] rfl ?_
        exact hk40 x11
theorem hX2_unitsAtStake : yX2_unitsAtStake.cls ≠ "java/lang/invoke/MethodHandle" ∧ yX2_unitsAtStake.cls ≠ "java/lang/invoke/VarHandle" ∧ (parseMethodDescriptor yX2_unitsAtStake.desc).map (fun d => d.parameters.length) = some 1 := by decide +kernel
set_option maxRecDepth 100000 in
theorem kX2_unitsAtStake (l : Launch) (w : Wd) (P : Shp) (n : Nat) {s : St} {a0 : Int} {a1 : Int} {res : Int} (h : fX2_unitsAtStake P s a0 a1 = some res) : Ct l w yX2_unitsAtStake cX2_unitsAtStake 4 (some FieldType.int) rX2_unitsAtStake P n [A w a0, I a1] s (QI w P n res s) :=
  Ct.of h (by decide) (Nat.le_of_ble_eq_true rfl) (lv := [(0, A w a0), (1, I a1)]) rfl fun X hl hRm C hO => by
  subst hl
  unfold fX2_unitsAtStake
  refine v_iconst C dX2_unitsAtStake_0 ?_
  refine v_istore_n C [(2, I 0), (0, A w a0), (1, I a1)] dX2_unitsAtStake_1 rfl (by decide) rfl ?_
  refine v_iconst C dX2_unitsAtStake_2 ?_
  refine v_istore_n C [(3, I 0), (2, I 0), (0, A w a0), (1, I a1)] dX2_unitsAtStake_3 rfl (by decide) rfl ?_
  refine v_sub [(0, A w a0), (1, I a1), (2, I 0), (3, I 0)] [2, 3, 1, 0] rfl ?_
  refine vX2_unitsAtStake_L4 res hRm C hO a0 a1 _ ?_ 1000 0 0
  · intro x12
    refine v_iload_n C dX2_unitsAtStake_46 rfl (j := 0) rfl ?_
    exact v_iret C rfl hO pS dX2_unitsAtStake_47
-- ForesightHub$Hub.framesToPacketEnd
theorem hX2_framesToPacketEnd : yX2_framesToPacketEnd.cls ≠ "java/lang/invoke/MethodHandle" ∧ yX2_framesToPacketEnd.cls ≠ "java/lang/invoke/VarHandle" ∧ (parseMethodDescriptor yX2_framesToPacketEnd.desc).map (fun d => d.parameters.length) = some 1 := by decide +kernel
set_option maxRecDepth 100000 in
theorem kX2_framesToPacketEnd (l : Launch) (w : Wd) (P : Shp) (n : Nat) {s : St} {a0 : Int} {a1 : Int} {res : Int} (h : fX2_framesToPacketEnd P s a0 a1 = some res) : Ct l w yX2_framesToPacketEnd cX2_framesToPacketEnd 4 (some FieldType.int) rX2_framesToPacketEnd P n [A w a0, I a1] s (QI w P n res s) :=
  Ct.of h (by decide) (Nat.le_of_ble_eq_true rfl) (lv := [(0, A w a0), (1, I a1)]) rfl fun X hl hRm C hO => by
  subst hl
  unfold fX2_framesToPacketEnd
  refine v_aload_n C dX2_framesToPacketEnd_0 rfl (j := 0) rfl ?_
  refine v_getR C 0 rfl (T := TX2) rfl inB2 (by decide) (by decide) rfl tw_304 dX2_framesToPacketEnd_1 (fun x1 => ?_)
  refine v_getR C 14 rfl (T := TX4) rfl inB4 (by decide) (by decide) rfl tw_100 dX2_framesToPacketEnd_4 (fun x2 => ?_)
  refine v_iload_n C dX2_framesToPacketEnd_7 rfl (j := 1) rfl ?_
  refine v_iald C dX2_framesToPacketEnd_8 (fun x3 => ?_)
  refine v_istore_n C [(2, I x3), (0, A w a0), (1, I a1)] dX2_framesToPacketEnd_9 rfl (by decide) rfl ?_
  refine v_aload_n C dX2_framesToPacketEnd_10 rfl (j := 1) rfl ?_
  refine v_getR C 0 rfl (T := TX2) rfl inB2 (by decide) (by decide) rfl tw_304 dX2_framesToPacketEnd_11 (fun x4 => ?_)
  refine v_getR C 15 rfl (T := TX4) rfl inB4 (by decide) (by decide) rfl tw_104 dX2_framesToPacketEnd_14 (fun x5 => ?_)
  refine v_iload_n C dX2_framesToPacketEnd_17 rfl (j := 2) rfl ?_
  refine v_iald C dX2_framesToPacketEnd_18 (fun x6 => ?_)
  refine v_aload_n C dX2_framesToPacketEnd_19 rfl (j := 1) rfl ?_
  refine v_getR C 1 rfl (T := TX2) rfl inB2 (by decide) (by decide) rfl tw_306 dX2_framesToPacketEnd_20 (fun x7 => ?_)
  refine v_getR C 6 rfl (T := TX6) rfl inB6 (by decide) (by decide) rfl tw_273 dX2_framesToPacketEnd_23 (fun x8 => ?_)
  refine v_iload_n C dX2_framesToPacketEnd_26 rfl (j := 2) rfl ?_
  refine v_iald C dX2_framesToPacketEnd_27 (fun x9 => ?_)
  refine v_isub C dX2_framesToPacketEnd_28 ?_
  refine v_bdI (fun x10 => ?_)
  refine v_istore_n C [(3, I x10), (2, I x3), (0, A w a0), (1, I a1)] dX2_framesToPacketEnd_29 rfl (by decide) rfl ?_
  refine v_iload_n C dX2_framesToPacketEnd_30 rfl (j := 1) rfl ?_
  refine v_if_le (tgt := 44) C dX2_framesToPacketEnd_31 rfl ?_ ?_
  · skip
    refine v_iconst C dX2_framesToPacketEnd_44 ?_
    exact v_iret C rfl hO pS dX2_framesToPacketEnd_45
  · skip
    refine v_iload_n C dX2_framesToPacketEnd_34 rfl (j := 0) rfl ?_
    refine v_iload_n C dX2_framesToPacketEnd_35 rfl (j := 1) rfl ?_
    refine v_iadd C dX2_framesToPacketEnd_36 ?_
    refine v_iconst C dX2_framesToPacketEnd_37 ?_
    refine v_isub C dX2_framesToPacketEnd_38 ?_
    refine v_iload_n C dX2_framesToPacketEnd_39 rfl (j := 1) rfl ?_
    refine v_idiv C dX2_framesToPacketEnd_40 (fun x11 => ?_)
    refine v_goto (tgt := 45) C dX2_framesToPacketEnd_41 rfl ?_
    exact v_iret C rfl hO pS dX2_framesToPacketEnd_45
-- ForesightHub$Hub.clearingFrames
set_option maxRecDepth 100000 in
theorem vX2_clearingFrames_L4 {X : Cxt} {w : Wd} {P : Shp} {n : Nat} {s : St} (res : Int) (hRm : X.2.2.2.1 = rX2_clearingFrames) (C : Cok X w cX2_clearingFrames 4 RX2 (some FieldType.int)) (hO : Own X w 0 0 (QI w P n res s))  (c0 : Int) (c1 : Int) (kE56 : Int → Option (Int)) (hE56 : ∀ (p2e : Int), V X w 4 P n 0 0 res (kE56 p2e) s 56 [(2, I p2e)] []) : ∀ (fuel : Nat) (p2 p3 : Int), V X w 4 P n 0 0 res (fX2_clearingFrames_L4 P s c0 c1 kE56 fuel p2 p3) s 4 [(0, A w c0), (1, I c1), (2, I p2), (3, I p3)] [] := by
  intro fuel
  induction fuel with
  | zero => intro p2 p3; exact v_none
  | succ m ih =>
    intro p2 p3
    rw [fX2_clearingFrames_L4]
    refine v_iload_n C dX2_clearingFrames_4 rfl (j := 3) rfl ?_
    refine v_aload_n C dX2_clearingFrames_5 rfl (j := 0) rfl ?_
    refine v_getR C 0 rfl (T := TX2) rfl inB2 (by decide) (by decide) rfl tw_304 dX2_clearingFrames_6 (fun x1 => ?_)
    refine v_getI C 6 rfl (T := TX4) rfl inB4 (by decide) (by decide) rfl tw_73 dX2_clearingFrames_9 (fun x2 => ?_)
    refine v_icmp_ge (tgt := 56) C dX2_clearingFrames_12 rfl ?_ ?_
    · skip
      refine v_sub [(2, I p2)] [2] rfl ?_
      exact hE56 p2
    · skip
      refine v_aload_n C dX2_clearingFrames_15 rfl (j := 0) rfl ?_
      refine v_getR C 1 rfl (T := TX2) rfl inB2 (by decide) (by decide) rfl tw_306 dX2_clearingFrames_16 (fun x3 => ?_)
      refine v_getR C 4 rfl (T := TX6) rfl inB6 (by decide) (by decide) rfl tw_267 dX2_clearingFrames_19 (fun x4 => ?_)
      refine v_iload_n C dX2_clearingFrames_22 rfl (j := 3) rfl ?_
      refine v_iald C dX2_clearingFrames_23 (fun x5 => ?_)
      refine v_iload_n C dX2_clearingFrames_24 rfl (j := 1) rfl ?_
      refine v_jnt (fun (k50 : Int → Option (Int)) => ∀ (x6 : Int), V X w 4 P n 0 0 res (k50 x6) s 50 [(0, A w c0), (1, I c1), (2, I x6), (3, I p3)] []) ?_ ?_
      · intro x6
        refine v_iinc C (j := 3) [(0, A w c0), (1, I c1), (2, I x6)] dX2_clearingFrames_50 (by decide) rfl (fun _ => rfl) (fun x7 => ?_)
        refine v_goto (tgt := 4) C dX2_clearingFrames_53 rfl ?_
        refine v_sub [(0, A w c0), (1, I c1), (2, I x6), (3, I x7)] [1, 2, 3, 0] rfl ?_
        exact ih x6 x7
      intro k50 hk50
      refine v_icmp_ne (tgt := 50) C dX2_clearingFrames_25 rfl ?_ ?_
      · skip
        exact hk50 p2
      · skip
        refine v_aload_n C dX2_clearingFrames_28 rfl (j := 0) rfl ?_
        refine v_getR C 1 rfl (T := TX2) rfl inB2 (by decide) (by decide) rfl tw_306 dX2_clearingFrames_29 (fun x8 => ?_)
        refine v_getR C 6 rfl (T := TX6) rfl inB6 (by decide) (by decide) rfl tw_273 dX2_clearingFrames_32 (fun x9 => ?_)
        refine v_iload_n C dX2_clearingFrames_35 rfl (j := 3) rfl ?_
        refine v_iald C dX2_clearingFrames_36 (fun x10 => ?_)
        refine v_if_le (tgt := 50) C dX2_clearingFrames_37 rfl ?_ ?_
        · skip
          exact hk50 p2
        · skip
          refine v_iload_n C dX2_clearingFrames_40 rfl (j := 2) rfl ?_
          refine v_aload_n C dX2_clearingFrames_41 rfl (j := 0) rfl ?_
          refine v_iload_n C dX2_clearingFrames_42 rfl (j := 3) rfl ?_
          refine v_callV_rI C [I p3] [I p2] (Cee.of (rm := rX2_framesToPacketEnd) tw_876 tw_4 hX2_framesToPacketEnd rfl rfl hRm (Nat.le_of_ble_eq_true rfl) (Nat.le_of_ble_eq_true rfl)) (fun x h => kX2_framesToPacketEnd X.2.1 w P n h) tw_873 tw_875 ts_28 rfl (ci := 2) rfl (by decide) rfl rfl (Nat.le_of_ble_eq_true rfl) ⟨Nat.zero_le _, Nat.zero_le _⟩ dX2_clearingFrames_43 (fun x11 => ?_)
          refine v_mx C tw_877 tw_541 tw_14 tw_542 (by rw [hRm]; exact Nat.le_of_ble_eq_true rfl) (by rw [hRm]; exact Nat.le_of_ble_eq_true rfl) (Nat.le_of_ble_eq_true rfl) ⟨Nat.zero_le _, Nat.zero_le _⟩ dX2_clearingFrames_46 (fun x12 => ?_)
          refine v_istore_n C [(2, I x12), (0, A w c0), (1, I c1), (3, I p3)] dX2_clearingFrames_49 rfl (by decide) rfl ?_
          refine v_sub [(0, A w c0), (1, I c1), (2, I x12), (3, I p3)] [1, 2, 0, 3] rfl ?_
          exact hk50 x12
theorem hX2_clearingFrames : yX2_clearingFrames.cls ≠ "java/lang/invoke/MethodHandle" ∧ yX2_clearingFrames.cls ≠ "java/lang/invoke/VarHandle" ∧ (parseMethodDescriptor yX2_clearingFrames.desc).map (fun d => d.parameters.length) = some 1 := by decide +kernel
set_option maxRecDepth 100000 in
theorem kX2_clearingFrames (l : Launch) (w : Wd) (P : Shp) (n : Nat) {s : St} {a0 : Int} {a1 : Int} {res : Int} (h : fX2_clearingFrames P s a0 a1 = some res) : Ct l w yX2_clearingFrames cX2_clearingFrames 4 (some FieldType.int) rX2_clearingFrames P n [A w a0, I a1] s (QI w P n res s) :=
  Ct.of h (by decide) (Nat.le_of_ble_eq_true rfl) (lv := [(0, A w a0), (1, I a1)]) rfl fun X hl hRm C hO => by
  subst hl
  unfold fX2_clearingFrames
  refine v_iconst C dX2_clearingFrames_0 ?_
  refine v_istore_n C [(2, I 0), (0, A w a0), (1, I a1)] dX2_clearingFrames_1 rfl (by decide) rfl ?_
  refine v_iconst C dX2_clearingFrames_2 ?_
  refine v_istore_n C [(3, I 0), (2, I 0), (0, A w a0), (1, I a1)] dX2_clearingFrames_3 rfl (by decide) rfl ?_
  refine v_sub [(0, A w a0), (1, I a1), (2, I 0), (3, I 0)] [2, 3, 1, 0] rfl ?_
  refine vX2_clearingFrames_L4 res hRm C hO a0 a1 _ ?_ 1000 0 0
  · intro x13
    refine v_iload_n C dX2_clearingFrames_56 rfl (j := 0) rfl ?_
    exact v_iret C rfl hO pS dX2_clearingFrames_57
-- ForesightHub$Hub.fearedKind
set_option maxRecDepth 100000 in
theorem vX2_fearedKind_L12 {X : Cxt} {w : Wd} {P : Shp} {n : Nat} {s : St} (res : Int) (hRm : X.2.2.2.1 = rX2_fearedKind) (C : Cok X w cX2_fearedKind 3 RX2 (some FieldType.int)) (hO : Own X w 0 0 (QI w P n res s))  (c0 : Int) (c1 : Int) (kE41 : Option (Int)) (kE33 : Int → Option (Int)) (hE41 : V X w 3 P n 0 0 res (kE41) s 41 [] []) (hE33 : ∀ (p2e : Int), V X w 3 P n 0 0 res (kE33 p2e) s 33 [(2, I p2e)] []) : ∀ (fuel : Nat) (p2 : Int), V X w 3 P n 0 0 res (fX2_fearedKind_L12 P s c0 c1 kE41 kE33 fuel p2) s 12 [(0, A w c0), (1, I c1), (2, I p2)] [] := by
  intro fuel
  induction fuel with
  | zero => intro p2; exact v_none
  | succ m ih =>
    intro p2
    rw [fX2_fearedKind_L12]
    refine v_iload_n C dX2_fearedKind_12 rfl (j := 2) rfl ?_
    refine v_iconst C dX2_fearedKind_13 ?_
    refine v_icmp_ge (tgt := 41) C dX2_fearedKind_14 rfl ?_ ?_
    · skip
      refine v_sub [] [] rfl ?_
      exact hE41
    · skip
      refine v_aload_n C dX2_fearedKind_17 rfl (j := 0) rfl ?_
      refine v_iload_n C dX2_fearedKind_18 rfl (j := 1) rfl ?_
      refine v_iload_n C dX2_fearedKind_19 rfl (j := 2) rfl ?_
      refine v_callV_rI C [I c1, I p2] [] (Cee.of (rm := rX2_scoreOf) tw_383 tw_4 hX2_scoreOf rfl rfl hRm (Nat.le_of_ble_eq_true rfl) (Nat.le_of_ble_eq_true rfl)) (fun x h => kX2_scoreOf X.2.1 w P n h) tw_380 tw_381 tw_382 rfl (ci := 2) rfl (by decide) rfl rfl (Nat.le_of_ble_eq_true rfl) ⟨Nat.zero_le _, Nat.zero_le _⟩ dX2_fearedKind_20 (fun x2 => ?_)
      refine v_aload_n C dX2_fearedKind_23 rfl (j := 0) rfl ?_
      refine v_getR C 1 rfl (T := TX2) rfl inB2 (by decide) (by decide) rfl tw_306 dX2_fearedKind_24 (fun x3 => ?_)
      refine v_getI C 1 rfl (T := TX6) rfl inB6 (by decide) (by decide) rfl tw_257 dX2_fearedKind_27 (fun x4 => ?_)
      refine v_icmp_lt (tgt := 35) C dX2_fearedKind_30 rfl ?_ ?_
      · skip
        refine v_iinc C (j := 2) [(0, A w c0), (1, I c1)] dX2_fearedKind_35 (by decide) rfl (fun _ => rfl) (fun x5 => ?_)
        refine v_goto (tgt := 12) C dX2_fearedKind_38 rfl ?_
        refine v_sub [(0, A w c0), (1, I c1), (2, I x5)] [1, 2, 0] rfl ?_
        exact ih x5
      · skip
        refine v_sub [(2, I p2)] [2] rfl ?_
        exact hE33 p2
theorem hX2_fearedKind : yX2_fearedKind.cls ≠ "java/lang/invoke/MethodHandle" ∧ yX2_fearedKind.cls ≠ "java/lang/invoke/VarHandle" ∧ (parseMethodDescriptor yX2_fearedKind.desc).map (fun d => d.parameters.length) = some 1 := by decide +kernel
set_option maxRecDepth 100000 in
theorem kX2_fearedKind (l : Launch) (w : Wd) (P : Shp) (n : Nat) {s : St} {a0 : Int} {a1 : Int} {res : Int} (h : fX2_fearedKind P s a0 a1 = some res) : Ct l w yX2_fearedKind cX2_fearedKind 3 (some FieldType.int) rX2_fearedKind P n [A w a0, I a1] s (QI w P n res s) :=
  Ct.of h (by decide) (Nat.le_of_ble_eq_true rfl) (lv := [(0, A w a0), (1, I a1)]) rfl fun X hl hRm C hO => by
  subst hl
  unfold fX2_fearedKind
  refine v_aload_n C dX2_fearedKind_0 rfl (j := 0) rfl ?_
  refine v_iload_n C dX2_fearedKind_1 rfl (j := 1) rfl ?_
  refine v_callV_rI C [I a1] [] (Cee.of (rm := rX2_canHold) tw_712 tw_4 hX2_canHold rfl rfl hRm (Nat.le_of_ble_eq_true rfl) (Nat.le_of_ble_eq_true rfl)) (fun x h => kX2_canHold X.2.1 w P n h) tw_709 tw_711 ts_22 rfl (ci := 2) rfl (by decide) rfl rfl (Nat.le_of_ble_eq_true rfl) ⟨Nat.zero_le _, Nat.zero_le _⟩ dX2_fearedKind_2 (fun x1 => ?_)
  refine v_if_ne (tgt := 10) C dX2_fearedKind_5 rfl ?_ ?_
  · skip
    refine v_iconst C dX2_fearedKind_10 ?_
    refine v_istore_n C [(2, I 0), (0, A w a0), (1, I a1)] dX2_fearedKind_11 rfl (by decide) rfl ?_
    refine v_sub [(0, A w a0), (1, I a1), (2, I 0)] [1, 2, 0] rfl ?_
    refine vX2_fearedKind_L12 res hRm C hO a0 a1 _ _ ?_ ?_ 1000 0
    · skip
      refine v_iconst C dX2_fearedKind_41 ?_
      exact v_iret C rfl hO pS dX2_fearedKind_42
    · intro x6
      refine v_iload_n C dX2_fearedKind_33 rfl (j := 0) rfl ?_
      exact v_iret C rfl hO pS dX2_fearedKind_34
  · skip
    refine v_iconst C dX2_fearedKind_8 ?_
    exact v_iret C rfl hO pS dX2_fearedKind_9
-- ForesightHub$Hub.beginAlarm
theorem hX2_beginAlarm : yX2_beginAlarm.cls ≠ "java/lang/invoke/MethodHandle" ∧ yX2_beginAlarm.cls ≠ "java/lang/invoke/VarHandle" ∧ (parseMethodDescriptor yX2_beginAlarm.desc).map (fun d => d.parameters.length) = some 1 := by decide +kernel
set_option maxRecDepth 100000 in
theorem kX2_beginAlarm (l : Launch) (w : Wd) (P : Shp) (n : Nat) {s : St} {a0 : Int} {a1 : Int} {res : St} (h : fX2_beginAlarm P s a0 a1 = some res) : Ct l w yX2_beginAlarm cX2_beginAlarm 2 (Option.none : Option FieldType) rX2_beginAlarm P n [A w a0, I a1] s (QV w P n res) :=
  Ct.of h (by decide) (Nat.le_of_ble_eq_true rfl) (lv := [(0, A w a0), (1, I a1)]) rfl fun X hl hRm C hO => by
  subst hl
  unfold fX2_beginAlarm
  refine v_aload_n C dX2_beginAlarm_0 rfl (j := 0) rfl ?_
  refine v_iload_n C dX2_beginAlarm_1 rfl (j := 1) rfl ?_
  refine v_callV_rI C [I a1] [] (Cee.of (rm := rX2_isDevice) tw_379 tw_4 hX2_isDevice rfl rfl hRm (Nat.le_of_ble_eq_true rfl) (Nat.le_of_ble_eq_true rfl)) (fun x h => kX2_isDevice X.2.1 w P n h) tw_376 tw_377 tw_378 rfl (ci := 2) rfl (by decide) rfl rfl (Nat.le_of_ble_eq_true rfl) ⟨Nat.zero_le _, Nat.zero_le _⟩ dX2_beginAlarm_2 (fun x1 => ?_)
  refine v_if_eq (tgt := 43) C dX2_beginAlarm_5 rfl ?_ ?_
  · skip
    exact v_vret C rfl hO (fun h => Option.some.inj h) dX2_beginAlarm_43
  · skip
    refine v_aload_n C dX2_beginAlarm_8 rfl (j := 0) rfl ?_
    refine v_getR C 1 rfl (T := TX2) rfl inB2 (by decide) (by decide) rfl tw_306 dX2_beginAlarm_9 (fun x2 => ?_)
    refine v_getR C 3 rfl (T := TX6) rfl inB6 (by decide) (by decide) rfl tw_264 dX2_beginAlarm_12 (fun x3 => ?_)
    refine v_iload_n C dX2_beginAlarm_15 rfl (j := 1) rfl ?_
    refine v_aload_n C dX2_beginAlarm_16 rfl (j := 0) rfl ?_
    refine v_getR C 1 rfl (T := TX2) rfl inB2 (by decide) (by decide) rfl tw_306 dX2_beginAlarm_17 (fun x4 => ?_)
    refine v_getI C 0 rfl (T := TX6) rfl inB6 (by decide) (by decide) rfl tw_256 dX2_beginAlarm_20 (fun x5 => ?_)
    refine v_iast C dX2_beginAlarm_23 (fun s6 => ?_)
    refine v_aload_n C dX2_beginAlarm_24 rfl (j := 0) rfl ?_
    refine v_getR C 1 rfl (T := TX2) rfl inB2 (by decide) (by decide) rfl tw_306 dX2_beginAlarm_25 (fun x7 => ?_)
    refine v_getR C 9 rfl (T := TX6) rfl inB6 (by decide) (by decide) rfl tw_282 dX2_beginAlarm_28 (fun x8 => ?_)
    refine v_iconst C dX2_beginAlarm_31 ?_
    refine v_iload_n C dX2_beginAlarm_32 rfl (j := 1) rfl ?_
    refine v_aload_n C dX2_beginAlarm_33 rfl (j := 0) rfl ?_
    refine v_getR C 1 rfl (T := TX2) rfl inB2 (by decide) (by decide) rfl tw_306 dX2_beginAlarm_34 (fun x9 => ?_)
    refine v_getI C 0 rfl (T := TX6) rfl inB6 (by decide) (by decide) rfl tw_256 dX2_beginAlarm_37 (fun x10 => ?_)
    refine v_callV_wV C [I 0, I a1, I x10] [] (Cee.of (rm := rX3_add) tw_720 tw_7 hX3_add rfl rfl hRm (Nat.le_of_ble_eq_true rfl) (Nat.le_of_ble_eq_true rfl)) (fun x h => kX3_add X.2.1 w P n h) tw_717 tw_718 tw_719 rfl (ci := 3) rfl (by decide) rfl rfl (Nat.le_of_ble_eq_true rfl) ⟨Nat.zero_le _, Nat.zero_le _⟩ dX2_beginAlarm_40 (fun s11 => ?_)
    exact v_vret C rfl hO (fun h => Option.some.inj h) dX2_beginAlarm_43
-- ForesightHub$Hub.takeError
theorem hX2_takeError : yX2_takeError.cls ≠ "java/lang/invoke/MethodHandle" ∧ yX2_takeError.cls ≠ "java/lang/invoke/VarHandle" ∧ (parseMethodDescriptor yX2_takeError.desc).map (fun d => d.parameters.length) = some 2 := by decide +kernel
set_option maxRecDepth 100000 in
theorem kX2_takeError (l : Launch) (w : Wd) (P : Shp) (n : Nat) {s : St} {a0 : Int} {a1 : Int} {a2 : Int} {res : St} (h : fX2_takeError P s a0 a1 a2 = some res) : Ct l w yX2_takeError cX2_takeError 3 (Option.none : Option FieldType) rX2_takeError P n [A w a0, I a1, I a2] s (QV w P n res) :=
  Ct.of h (by decide) (Nat.le_of_ble_eq_true rfl) (lv := [(0, A w a0), (1, I a1), (2, I a2)]) rfl fun X hl hRm C hO => by
  subst hl
  unfold fX2_takeError
  refine v_aload_n C dX2_takeError_0 rfl (j := 0) rfl ?_
  refine v_getR C 1 rfl (T := TX2) rfl inB2 (by decide) (by decide) rfl tw_306 dX2_takeError_1 (fun x1 => ?_)
  refine v_getR C 8 rfl (T := TX6) rfl inB6 (by decide) (by decide) rfl tw_279 dX2_takeError_4 (fun x2 => ?_)
  refine v_iload_n C dX2_takeError_7 rfl (j := 1) rfl ?_
  refine v_iload_n C dX2_takeError_8 rfl (j := 2) rfl ?_
  refine v_aload_n C dX2_takeError_9 rfl (j := 0) rfl ?_
  refine v_getR C 1 rfl (T := TX2) rfl inB2 (by decide) (by decide) rfl tw_306 dX2_takeError_10 (fun x3 => ?_)
  refine v_getI C 0 rfl (T := TX6) rfl inB6 (by decide) (by decide) rfl tw_256 dX2_takeError_13 (fun x4 => ?_)
  refine v_callV_wV C [I a1, I a2, I x4] [] (Cee.of (rm := rX0_add) tw_994 tw_6 hX0_add rfl rfl hRm (Nat.le_of_ble_eq_true rfl) (Nat.le_of_ble_eq_true rfl)) (fun x h => kX0_add X.2.1 w P n h) tw_991 tw_992 tw_993 rfl (ci := 0) rfl (by decide) rfl rfl (Nat.le_of_ble_eq_true rfl) ⟨Nat.zero_le _, Nat.zero_le _⟩ dX2_takeError_16 (fun s5 => ?_)
  refine v_aload_n C dX2_takeError_19 rfl (j := 0) rfl ?_
  refine v_getR C 1 rfl (T := TX2) rfl inB2 (by decide) (by decide) rfl tw_306 dX2_takeError_20 (fun x6 => ?_)
  refine v_getR C 9 rfl (T := TX6) rfl inB6 (by decide) (by decide) rfl tw_282 dX2_takeError_23 (fun x7 => ?_)
  refine v_getR C 5 rfl (T := TX3) rfl inB3 (by decide) (by decide) rfl tw_240 dX2_takeError_26 (fun x8 => ?_)
  refine v_bipush C dX2_takeError_29 (by decide) ?_
  refine v_dup2 C dX2_takeError_31 rfl rfl ?_
  refine v_iald C dX2_takeError_32 (fun x9 => ?_)
  refine v_iconst C dX2_takeError_33 ?_
  refine v_iadd C dX2_takeError_34 ?_
  refine v_iast C dX2_takeError_35 (fun s10 => ?_)
  refine v_aload_n C dX2_takeError_36 rfl (j := 0) rfl ?_
  refine v_iload_n C dX2_takeError_37 rfl (j := 1) rfl ?_
  refine v_callV_rI C [I a1] [] (Cee.of (rm := rX2_inAlarm) tw_783 tw_4 hX2_inAlarm rfl rfl hRm (Nat.le_of_ble_eq_true rfl) (Nat.le_of_ble_eq_true rfl)) (fun x h => kX2_inAlarm X.2.1 w P n h) tw_950 tw_781 tw_782 rfl (ci := 2) rfl (by decide) rfl rfl (Nat.le_of_ble_eq_true rfl) ⟨Nat.zero_le _, Nat.zero_le _⟩ dX2_takeError_38 (fun x11 => ?_)
  refine v_if_ne (tgt := 69) C dX2_takeError_41 rfl ?_ ?_
  · skip
    exact v_vret C rfl hO (fun h => Option.some.inj h) dX2_takeError_69
  · skip
    refine v_aload_n C dX2_takeError_44 rfl (j := 0) rfl ?_
    refine v_iload_n C dX2_takeError_45 rfl (j := 1) rfl ?_
    refine v_iconst C dX2_takeError_46 ?_
    refine v_callV_rI C [I a1, I ((-1))] [] (Cee.of (rm := rX2_scoreOf) tw_383 tw_4 hX2_scoreOf rfl rfl hRm (Nat.le_of_ble_eq_true rfl) (Nat.le_of_ble_eq_true rfl)) (fun x h => kX2_scoreOf X.2.1 w P n h) tw_380 tw_381 tw_382 rfl (ci := 2) rfl (by decide) rfl rfl (Nat.le_of_ble_eq_true rfl) ⟨Nat.zero_le _, Nat.zero_le _⟩ dX2_takeError_47 (fun x12 => ?_)
    refine v_aload_n C dX2_takeError_50 rfl (j := 0) rfl ?_
    refine v_getR C 1 rfl (T := TX2) rfl inB2 (by decide) (by decide) rfl tw_306 dX2_takeError_51 (fun x13 => ?_)
    refine v_getI C 1 rfl (T := TX6) rfl inB6 (by decide) (by decide) rfl tw_257 dX2_takeError_54 (fun x14 => ?_)
    refine v_icmp_lt (tgt := 69) C dX2_takeError_57 rfl ?_ ?_
    · skip
      exact v_vret C rfl hO (fun h => Option.some.inj h) dX2_takeError_69
    · skip
      refine v_aload_n C dX2_takeError_60 rfl (j := 0) rfl ?_
      refine v_iload_n C dX2_takeError_61 rfl (j := 1) rfl ?_
      refine v_callV_wV C [I a1] [] (Cee.of (rm := rX2_beginAlarm) tw_1006 tw_4 hX2_beginAlarm rfl rfl hRm (Nat.le_of_ble_eq_true rfl) (Nat.le_of_ble_eq_true rfl)) (fun x h => kX2_beginAlarm X.2.1 w P n h) tw_1003 tw_1004 tw_1005 rfl (ci := 2) rfl (by decide) rfl rfl (Nat.le_of_ble_eq_true rfl) ⟨Nat.zero_le _, Nat.zero_le _⟩ dX2_takeError_62 (fun s15 => ?_)
      refine v_aload_n C dX2_takeError_65 rfl (j := 0) rfl ?_
      refine v_callV_wV C [] [] (Cee.of (rm := rX2_settle) tw_700 tw_4 hX2_settle rfl rfl hRm (Nat.le_of_ble_eq_true rfl) (Nat.le_of_ble_eq_true rfl)) (fun x h => kX2_settle X.2.1 w P n h) tw_697 tw_698 tw_699 rfl (ci := 2) rfl (by decide) rfl rfl (Nat.le_of_ble_eq_true rfl) ⟨Nat.zero_le _, Nat.zero_le _⟩ dX2_takeError_66 (fun s16 => ?_)
      exact v_vret C rfl hO (fun h => Option.some.inj h) dX2_takeError_69
-- ForesightHub$Hub.endWrongAlarm
theorem hX2_endWrongAlarm : yX2_endWrongAlarm.cls ≠ "java/lang/invoke/MethodHandle" ∧ yX2_endWrongAlarm.cls ≠ "java/lang/invoke/VarHandle" ∧ (parseMethodDescriptor yX2_endWrongAlarm.desc).map (fun d => d.parameters.length) = some 1 := by decide +kernel
set_option maxRecDepth 100000 in
theorem kX2_endWrongAlarm (l : Launch) (w : Wd) (P : Shp) (n : Nat) {s : St} {a0 : Int} {a1 : Int} {res : St} (h : fX2_endWrongAlarm P s a0 a1 = some res) : Ct l w yX2_endWrongAlarm cX2_endWrongAlarm 2 (Option.none : Option FieldType) rX2_endWrongAlarm P n [A w a0, I a1] s (QV w P n res) :=
  Ct.of h (by decide) (Nat.le_of_ble_eq_true rfl) (lv := [(0, A w a0), (1, I a1)]) rfl fun X hl hRm C hO => by
  subst hl
  unfold fX2_endWrongAlarm
  refine v_aload_n C dX2_endWrongAlarm_0 rfl (j := 0) rfl ?_
  refine v_iload_n C dX2_endWrongAlarm_1 rfl (j := 1) rfl ?_
  refine v_callV_rI C [I a1] [] (Cee.of (rm := rX2_isDevice) tw_379 tw_4 hX2_isDevice rfl rfl hRm (Nat.le_of_ble_eq_true rfl) (Nat.le_of_ble_eq_true rfl)) (fun x h => kX2_isDevice X.2.1 w P n h) tw_376 tw_377 tw_378 rfl (ci := 2) rfl (by decide) rfl rfl (Nat.le_of_ble_eq_true rfl) ⟨Nat.zero_le _, Nat.zero_le _⟩ dX2_endWrongAlarm_2 (fun x1 => ?_)
  refine v_if_eq (tgt := 48) C dX2_endWrongAlarm_5 rfl ?_ ?_
  · skip
    exact v_vret C rfl hO (fun h => Option.some.inj h) dX2_endWrongAlarm_48
  · skip
    refine v_aload_n C dX2_endWrongAlarm_8 rfl (j := 0) rfl ?_
    refine v_getR C 1 rfl (T := TX2) rfl inB2 (by decide) (by decide) rfl tw_306 dX2_endWrongAlarm_9 (fun x2 => ?_)
    refine v_getR C 3 rfl (T := TX6) rfl inB6 (by decide) (by decide) rfl tw_264 dX2_endWrongAlarm_12 (fun x3 => ?_)
    refine v_iload_n C dX2_endWrongAlarm_15 rfl (j := 1) rfl ?_
    refine v_iconst C dX2_endWrongAlarm_16 ?_
    refine v_iast C dX2_endWrongAlarm_17 (fun s4 => ?_)
    refine v_aload_n C dX2_endWrongAlarm_18 rfl (j := 0) rfl ?_
    refine v_getR C 1 rfl (T := TX2) rfl inB2 (by decide) (by decide) rfl tw_306 dX2_endWrongAlarm_19 (fun x5 => ?_)
    refine v_getR C 8 rfl (T := TX6) rfl inB6 (by decide) (by decide) rfl tw_279 dX2_endWrongAlarm_22 (fun x6 => ?_)
    refine v_iload_n C dX2_endWrongAlarm_25 rfl (j := 1) rfl ?_
    refine v_callV_wV C [I a1] [] (Cee.of (rm := rX0_forget) tw_958 tw_6 hX0_forget rfl rfl hRm (Nat.le_of_ble_eq_true rfl) (Nat.le_of_ble_eq_true rfl)) (fun x h => kX0_forget X.2.1 w P n h) tw_955 tw_956 tw_957 rfl (ci := 0) rfl (by decide) rfl rfl (Nat.le_of_ble_eq_true rfl) ⟨Nat.zero_le _, Nat.zero_le _⟩ dX2_endWrongAlarm_26 (fun s7 => ?_)
    refine v_aload_n C dX2_endWrongAlarm_29 rfl (j := 0) rfl ?_
    refine v_getR C 1 rfl (T := TX2) rfl inB2 (by decide) (by decide) rfl tw_306 dX2_endWrongAlarm_30 (fun x8 => ?_)
    refine v_getR C 9 rfl (T := TX6) rfl inB6 (by decide) (by decide) rfl tw_282 dX2_endWrongAlarm_33 (fun x9 => ?_)
    refine v_iconst C dX2_endWrongAlarm_36 ?_
    refine v_iload_n C dX2_endWrongAlarm_37 rfl (j := 1) rfl ?_
    refine v_aload_n C dX2_endWrongAlarm_38 rfl (j := 0) rfl ?_
    refine v_getR C 1 rfl (T := TX2) rfl inB2 (by decide) (by decide) rfl tw_306 dX2_endWrongAlarm_39 (fun x10 => ?_)
    refine v_getI C 0 rfl (T := TX6) rfl inB6 (by decide) (by decide) rfl tw_256 dX2_endWrongAlarm_42 (fun x11 => ?_)
    refine v_callV_wV C [I 1, I a1, I x11] [] (Cee.of (rm := rX3_add) tw_720 tw_7 hX3_add rfl rfl hRm (Nat.le_of_ble_eq_true rfl) (Nat.le_of_ble_eq_true rfl)) (fun x h => kX3_add X.2.1 w P n h) tw_717 tw_718 tw_719 rfl (ci := 3) rfl (by decide) rfl rfl (Nat.le_of_ble_eq_true rfl) ⟨Nat.zero_le _, Nat.zero_le _⟩ dX2_endWrongAlarm_45 (fun s12 => ?_)
    exact v_vret C rfl hO (fun h => Option.some.inj h) dX2_endWrongAlarm_48
-- ForesightHub$Hub.isWrongAlarm
theorem hX2_isWrongAlarm : yX2_isWrongAlarm.cls ≠ "java/lang/invoke/MethodHandle" ∧ yX2_isWrongAlarm.cls ≠ "java/lang/invoke/VarHandle" ∧ (parseMethodDescriptor yX2_isWrongAlarm.desc).map (fun d => d.parameters.length) = some 1 := by decide +kernel
set_option maxRecDepth 100000 in
theorem kX2_isWrongAlarm (l : Launch) (w : Wd) (P : Shp) (n : Nat) {s : St} {a0 : Int} {a1 : Int} {res : Int} (h : fX2_isWrongAlarm P s a0 a1 = some res) : Ct l w yX2_isWrongAlarm cX2_isWrongAlarm 2 (some FieldType.boolean) rX2_isWrongAlarm P n [A w a0, I a1] s (QI w P n res s) :=
  Ct.of h (by decide) (Nat.le_of_ble_eq_true rfl) (lv := [(0, A w a0), (1, I a1)]) rfl fun X hl hRm C hO => by
  subst hl
  unfold fX2_isWrongAlarm
  refine v_aload_n C dX2_isWrongAlarm_0 rfl (j := 0) rfl ?_
  refine v_iload_n C dX2_isWrongAlarm_1 rfl (j := 1) rfl ?_
  refine v_callV_rI C [I a1] [] (Cee.of (rm := rX2_inAlarm) tw_783 tw_4 hX2_inAlarm rfl rfl hRm (Nat.le_of_ble_eq_true rfl) (Nat.le_of_ble_eq_true rfl)) (fun x h => kX2_inAlarm X.2.1 w P n h) tw_950 tw_781 tw_782 rfl (ci := 2) rfl (by decide) rfl rfl (Nat.le_of_ble_eq_true rfl) ⟨Nat.zero_le _, Nat.zero_le _⟩ dX2_isWrongAlarm_2 (fun x1 => ?_)
  refine v_if_eq (tgt := 35) C dX2_isWrongAlarm_5 rfl ?_ ?_
  · skip
    refine v_iconst C dX2_isWrongAlarm_35 ?_
    exact v_zret C rfl hO pS dX2_isWrongAlarm_36
  · skip
    refine v_aload_n C dX2_isWrongAlarm_8 rfl (j := 0) rfl ?_
    refine v_getR C 1 rfl (T := TX2) rfl inB2 (by decide) (by decide) rfl tw_306 dX2_isWrongAlarm_9 (fun x2 => ?_)
    refine v_getI C 0 rfl (T := TX6) rfl inB6 (by decide) (by decide) rfl tw_256 dX2_isWrongAlarm_12 (fun x3 => ?_)
    refine v_aload_n C dX2_isWrongAlarm_15 rfl (j := 0) rfl ?_
    refine v_getR C 1 rfl (T := TX2) rfl inB2 (by decide) (by decide) rfl tw_306 dX2_isWrongAlarm_16 (fun x4 => ?_)
    refine v_getR C 3 rfl (T := TX6) rfl inB6 (by decide) (by decide) rfl tw_264 dX2_isWrongAlarm_19 (fun x5 => ?_)
    refine v_iload_n C dX2_isWrongAlarm_22 rfl (j := 1) rfl ?_
    refine v_iald C dX2_isWrongAlarm_23 (fun x6 => ?_)
    refine v_isub C dX2_isWrongAlarm_24 ?_
    refine v_aload_n C dX2_isWrongAlarm_25 rfl (j := 0) rfl ?_
    refine v_getR C 0 rfl (T := TX2) rfl inB2 (by decide) (by decide) rfl tw_304 dX2_isWrongAlarm_26 (fun x7 => ?_)
    refine v_getI C 3 rfl (T := TX4) rfl inB4 (by decide) (by decide) rfl tw_61 dX2_isWrongAlarm_29 (fun x8 => ?_)
    refine v_icmp_ge (tgt := 37) C dX2_isWrongAlarm_32 rfl ?_ ?_
    · skip
      refine v_aload_n C dX2_isWrongAlarm_37 rfl (j := 0) rfl ?_
      refine v_getR C 1 rfl (T := TX2) rfl inB2 (by decide) (by decide) rfl tw_306 dX2_isWrongAlarm_38 (fun x9 => ?_)
      refine v_getR C 8 rfl (T := TX6) rfl inB6 (by decide) (by decide) rfl tw_279 dX2_isWrongAlarm_41 (fun x10 => ?_)
      refine v_getR C 0 rfl (T := TX0) rfl inB0 (by decide) (by decide) rfl tw_208 dX2_isWrongAlarm_44 (fun x11 => ?_)
      refine v_iload_n C dX2_isWrongAlarm_47 rfl (j := 1) rfl ?_
      refine v_iald C dX2_isWrongAlarm_48 (fun x12 => ?_)
      refine v_if_eq (tgt := 82) C dX2_isWrongAlarm_49 rfl ?_ ?_
      · skip
        refine v_iconst C dX2_isWrongAlarm_82 ?_
        refine v_goto (tgt := 87) C dX2_isWrongAlarm_83 rfl ?_
        exact v_zret C rfl hO pS dX2_isWrongAlarm_87
      · skip
        refine v_aload_n C dX2_isWrongAlarm_52 rfl (j := 0) rfl ?_
        refine v_getR C 1 rfl (T := TX2) rfl inB2 (by decide) (by decide) rfl tw_306 dX2_isWrongAlarm_53 (fun x13 => ?_)
        refine v_getI C 0 rfl (T := TX6) rfl inB6 (by decide) (by decide) rfl tw_256 dX2_isWrongAlarm_56 (fun x14 => ?_)
        refine v_aload_n C dX2_isWrongAlarm_59 rfl (j := 0) rfl ?_
        refine v_getR C 1 rfl (T := TX2) rfl inB2 (by decide) (by decide) rfl tw_306 dX2_isWrongAlarm_60 (fun x15 => ?_)
        refine v_getR C 8 rfl (T := TX6) rfl inB6 (by decide) (by decide) rfl tw_279 dX2_isWrongAlarm_63 (fun x16 => ?_)
        refine v_iload_n C dX2_isWrongAlarm_66 rfl (j := 1) rfl ?_
        refine v_iconst C dX2_isWrongAlarm_67 ?_
        refine v_callV_rI C [I a1, I 0] [I x14] (Cee.of (rm := rX0_timeOf) tw_402 tw_6 hX0_timeOf rfl rfl hRm (Nat.le_of_ble_eq_true rfl) (Nat.le_of_ble_eq_true rfl)) (fun x h => kX0_timeOf X.2.1 w P n h) tw_399 tw_400 tw_401 rfl (ci := 0) rfl (by decide) rfl rfl (Nat.le_of_ble_eq_true rfl) ⟨Nat.zero_le _, Nat.zero_le _⟩ dX2_isWrongAlarm_68 (fun x17 => ?_)
        refine v_isub C dX2_isWrongAlarm_71 ?_
        refine v_aload_n C dX2_isWrongAlarm_72 rfl (j := 0) rfl ?_
        refine v_getR C 0 rfl (T := TX2) rfl inB2 (by decide) (by decide) rfl tw_304 dX2_isWrongAlarm_73 (fun x18 => ?_)
        refine v_getI C 3 rfl (T := TX4) rfl inB4 (by decide) (by decide) rfl tw_61 dX2_isWrongAlarm_76 (fun x19 => ?_)
        refine v_icmp_lt (tgt := 86) C dX2_isWrongAlarm_79 rfl ?_ ?_
        · skip
          refine v_iconst C dX2_isWrongAlarm_86 ?_
          exact v_zret C rfl hO pS dX2_isWrongAlarm_87
        · skip
          refine v_iconst C dX2_isWrongAlarm_82 ?_
          refine v_goto (tgt := 87) C dX2_isWrongAlarm_83 rfl ?_
          exact v_zret C rfl hO pS dX2_isWrongAlarm_87
    · skip
      refine v_iconst C dX2_isWrongAlarm_35 ?_
      exact v_zret C rfl hO pS dX2_isWrongAlarm_36
-- ForesightHub$Hub.dropStream
theorem hX2_dropStream : yX2_dropStream.cls ≠ "java/lang/invoke/MethodHandle" ∧ yX2_dropStream.cls ≠ "java/lang/invoke/VarHandle" ∧ (parseMethodDescriptor yX2_dropStream.desc).map (fun d => d.parameters.length) = some 1 := by decide +kernel
set_option maxRecDepth 100000 in
theorem kX2_dropStream (l : Launch) (w : Wd) (P : Shp) (n : Nat) {s : St} {a0 : Int} {a1 : Int} {res : Int × St} (h : fX2_dropStream P s a0 a1 = some res) : Ct l w yX2_dropStream cX2_dropStream 3 (some FieldType.int) rX2_dropStream P n [A w a0, I a1] s (QI w P n res.1 res.2) :=
  Ct.of h (by decide) (Nat.le_of_ble_eq_true rfl) (lv := [(0, A w a0), (1, I a1)]) rfl fun X hl hRm C hO => by
  subst hl
  unfold fX2_dropStream
  refine v_aload_n C dX2_dropStream_0 rfl (j := 0) rfl ?_
  refine v_getR C 1 rfl (T := TX2) rfl inB2 (by decide) (by decide) rfl tw_306 dX2_dropStream_1 (fun x1 => ?_)
  refine v_getR C 6 rfl (T := TX6) rfl inB6 (by decide) (by decide) rfl tw_273 dX2_dropStream_4 (fun x2 => ?_)
  refine v_iload_n C dX2_dropStream_7 rfl (j := 1) rfl ?_
  refine v_iald C dX2_dropStream_8 (fun x3 => ?_)
  refine v_istore_n C [(2, I x3), (0, A w a0), (1, I a1)] dX2_dropStream_9 rfl (by decide) rfl ?_
  refine v_iload_n C dX2_dropStream_10 rfl (j := 0) rfl ?_
  refine v_jnt (fun (k34 : St → Option (Int × St)) => ∀ (s4 : St), V X w 3 P n 0 0 res (k34 s4) s4 34 [(0, A w a0), (1, I a1), (2, I x3)] []) ?_ ?_
  · intro s4
    refine v_aload_n C dX2_dropStream_34 rfl (j := 0) rfl ?_
    refine v_getR C 1 rfl (T := TX2) rfl inB2 (by decide) (by decide) rfl tw_306 dX2_dropStream_35 (fun x5 => ?_)
    refine v_getR C 6 rfl (T := TX6) rfl inB6 (by decide) (by decide) rfl tw_273 dX2_dropStream_38 (fun x6 => ?_)
    refine v_iload_n C dX2_dropStream_41 rfl (j := 1) rfl ?_
    refine v_iconst C dX2_dropStream_42 ?_
    refine v_iast C dX2_dropStream_43 (fun s7 => ?_)
    refine v_aload_n C dX2_dropStream_44 rfl (j := 0) rfl ?_
    refine v_getR C 1 rfl (T := TX2) rfl inB2 (by decide) (by decide) rfl tw_306 dX2_dropStream_45 (fun x8 => ?_)
    refine v_getR C 4 rfl (T := TX6) rfl inB6 (by decide) (by decide) rfl tw_267 dX2_dropStream_48 (fun x9 => ?_)
    refine v_iload_n C dX2_dropStream_51 rfl (j := 1) rfl ?_
    refine v_iconst C dX2_dropStream_52 ?_
    refine v_iast C dX2_dropStream_53 (fun s10 => ?_)
    refine v_aload_n C dX2_dropStream_54 rfl (j := 0) rfl ?_
    refine v_getR C 1 rfl (T := TX2) rfl inB2 (by decide) (by decide) rfl tw_306 dX2_dropStream_55 (fun x11 => ?_)
    refine v_getR C 5 rfl (T := TX6) rfl inB6 (by decide) (by decide) rfl tw_270 dX2_dropStream_58 (fun x12 => ?_)
    refine v_iload_n C dX2_dropStream_61 rfl (j := 1) rfl ?_
    refine v_iconst C dX2_dropStream_62 ?_
    refine v_iast C dX2_dropStream_63 (fun s13 => ?_)
    refine v_iload_n C dX2_dropStream_64 rfl (j := 2) rfl ?_
    exact v_iret C rfl hO pI dX2_dropStream_65
  intro k34 hk34
  refine v_if_le (tgt := 34) C dX2_dropStream_11 rfl ?_ ?_
  · skip
    refine v_sub [(0, A w a0), (1, I a1), (2, I x3)] [1, 2, 0] rfl ?_
    exact hk34 s
  · skip
    refine v_aload_n C dX2_dropStream_14 rfl (j := 1) rfl ?_
    refine v_getR C 1 rfl (T := TX2) rfl inB2 (by decide) (by decide) rfl tw_306 dX2_dropStream_15 (fun x14 => ?_)
    refine v_getR C 9 rfl (T := TX6) rfl inB6 (by decide) (by decide) rfl tw_282 dX2_dropStream_18 (fun x15 => ?_)
    refine v_bipush C dX2_dropStream_21 (by decide) ?_
    refine v_iload_n C dX2_dropStream_23 rfl (j := 2) rfl ?_
    refine v_aload_n C dX2_dropStream_24 rfl (j := 1) rfl ?_
    refine v_getR C 1 rfl (T := TX2) rfl inB2 (by decide) (by decide) rfl tw_306 dX2_dropStream_25 (fun x16 => ?_)
    refine v_getI C 0 rfl (T := TX6) rfl inB6 (by decide) (by decide) rfl tw_256 dX2_dropStream_28 (fun x17 => ?_)
    refine v_callV_wV C [I 7, I a1, I x17] [] (Cee.of (rm := rX3_add) tw_720 tw_7 hX3_add rfl rfl hRm (Nat.le_of_ble_eq_true rfl) (Nat.le_of_ble_eq_true rfl)) (fun x h => kX3_add X.2.1 w P n h) tw_717 tw_718 tw_719 rfl (ci := 3) rfl (by decide) rfl rfl (Nat.le_of_ble_eq_true rfl) ⟨Nat.zero_le _, Nat.zero_le _⟩ dX2_dropStream_31 (fun s18 => ?_)
    refine v_sub [(0, A w a0), (1, I a1), (2, I x3)] [1, 2, 0] rfl ?_
    exact hk34 s18
-- ForesightHub$Hub.pullOut
set_option maxRecDepth 100000 in
theorem vX2_pullOut_L76 {X : Cxt} {w : Wd} {P : Shp} {n : Nat} (res : Int × St) (hRm : X.2.2.2.1 = rX2_pullOut) (C : Cok X w cX2_pullOut 4 RX2 (some FieldType.int)) (hO : Own X w 0 0 (QI w P n res.1 res.2))  (c0 : Int) (c1 : Int) (kE114 : Int → St → Option (Int × St)) (hE114 : ∀ (p2e : Int) (se : St), V X w 4 P n 0 0 res (kE114 p2e se) se 114 [(0, A w c0), (2, I p2e)] []) : ∀ (fuel : Nat) (p2 p3 : Int) (s : St), V X w 4 P n 0 0 res (fX2_pullOut_L76 P c0 c1 kE114 fuel p2 p3 s) s 76 [(0, A w c0), (1, I c1), (2, I p2), (3, I p3)] [] := by
  intro fuel
  induction fuel with
  | zero => intro p2 p3 s; exact v_none
  | succ m ih =>
    intro p2 p3 s
    rw [fX2_pullOut_L76]
    refine v_iload_n C dX2_pullOut_76 rfl (j := 3) rfl ?_
    refine v_aload_n C dX2_pullOut_77 rfl (j := 0) rfl ?_
    refine v_getR C 0 rfl (T := TX2) rfl inB2 (by decide) (by decide) rfl tw_304 dX2_pullOut_78 (fun x18 => ?_)
    refine v_getI C 6 rfl (T := TX4) rfl inB4 (by decide) (by decide) rfl tw_73 dX2_pullOut_81 (fun x19 => ?_)
    refine v_icmp_ge (tgt := 114) C dX2_pullOut_84 rfl ?_ ?_
    · skip
      refine v_sub [(0, A w c0), (2, I p2)] [0, 2] rfl ?_
      exact hE114 p2 s
    · skip
      refine v_aload_n C dX2_pullOut_87 rfl (j := 0) rfl ?_
      refine v_getR C 1 rfl (T := TX2) rfl inB2 (by decide) (by decide) rfl tw_306 dX2_pullOut_88 (fun x20 => ?_)
      refine v_getR C 4 rfl (T := TX6) rfl inB6 (by decide) (by decide) rfl tw_267 dX2_pullOut_91 (fun x21 => ?_)
      refine v_iload_n C dX2_pullOut_94 rfl (j := 3) rfl ?_
      refine v_iald C dX2_pullOut_95 (fun x22 => ?_)
      refine v_iload_n C dX2_pullOut_96 rfl (j := 1) rfl ?_
      refine v_jnt (fun (k108 : Int → St → Option (Int × St)) => ∀ (x23 : Int) (s24 : St), V X w 4 P n 0 0 res (k108 x23 s24) s24 108 [(0, A w c0), (1, I c1), (2, I x23), (3, I p3)] []) ?_ ?_
      · intro x23 s24
        refine v_iinc C (j := 3) [(0, A w c0), (1, I c1), (2, I x23)] dX2_pullOut_108 (by decide) rfl (fun _ => rfl) (fun x25 => ?_)
        refine v_goto (tgt := 76) C dX2_pullOut_111 rfl ?_
        refine v_sub [(0, A w c0), (1, I c1), (2, I x23), (3, I x25)] [1, 2, 3, 0] rfl ?_
        exact ih x23 x25 s24
      intro k108 hk108
      refine v_icmp_ne (tgt := 108) C dX2_pullOut_97 rfl ?_ ?_
      · skip
        exact hk108 p2 s
      · skip
        refine v_iload_n C dX2_pullOut_100 rfl (j := 2) rfl ?_
        refine v_aload_n C dX2_pullOut_101 rfl (j := 0) rfl ?_
        refine v_iload_n C dX2_pullOut_102 rfl (j := 3) rfl ?_
        refine v_callV_wI C [I p3] [I p2] (Cee.of (rm := rX2_dropStream) tw_1046 tw_4 hX2_dropStream rfl rfl hRm (Nat.le_of_ble_eq_true rfl) (Nat.le_of_ble_eq_true rfl)) (fun x h => kX2_dropStream X.2.1 w P n h) tw_1043 tw_1045 ts_35 rfl (ci := 2) rfl (by decide) rfl rfl (Nat.le_of_ble_eq_true rfl) ⟨Nat.zero_le _, Nat.zero_le _⟩ dX2_pullOut_103 (fun q26 => ?_)
        obtain ⟨x27, s28⟩ := q26
        refine v_iadd C dX2_pullOut_106 ?_
        refine v_bdI (fun x29 => ?_)
        refine v_istore_n C [(2, I x29), (0, A w c0), (1, I c1), (3, I p3)] dX2_pullOut_107 rfl (by decide) rfl ?_
        refine v_sub [(0, A w c0), (1, I c1), (2, I x29), (3, I p3)] [1, 2, 0, 3] rfl ?_
        exact hk108 x29 s28
theorem hX2_pullOut : yX2_pullOut.cls ≠ "java/lang/invoke/MethodHandle" ∧ yX2_pullOut.cls ≠ "java/lang/invoke/VarHandle" ∧ (parseMethodDescriptor yX2_pullOut.desc).map (fun d => d.parameters.length) = some 1 := by decide +kernel
set_option maxRecDepth 100000 in
theorem kX2_pullOut (l : Launch) (w : Wd) (P : Shp) (n : Nat) {s : St} {a0 : Int} {a1 : Int} {res : Int × St} (h : fX2_pullOut P s a0 a1 = some res) : Ct l w yX2_pullOut cX2_pullOut 4 (some FieldType.int) rX2_pullOut P n [A w a0, I a1] s (QI w P n res.1 res.2) :=
  Ct.of h (by decide) (Nat.le_of_ble_eq_true rfl) (lv := [(0, A w a0), (1, I a1)]) rfl fun X hl hRm C hO => by
  subst hl
  unfold fX2_pullOut
  refine v_aload_n C dX2_pullOut_0 rfl (j := 0) rfl ?_
  refine v_iload_n C dX2_pullOut_1 rfl (j := 1) rfl ?_
  refine v_callV_rI C [I a1] [] (Cee.of (rm := rX2_isDevice) tw_379 tw_4 hX2_isDevice rfl rfl hRm (Nat.le_of_ble_eq_true rfl) (Nat.le_of_ble_eq_true rfl)) (fun x h => kX2_isDevice X.2.1 w P n h) tw_376 tw_377 tw_378 rfl (ci := 2) rfl (by decide) rfl rfl (Nat.le_of_ble_eq_true rfl) ⟨Nat.zero_le _, Nat.zero_le _⟩ dX2_pullOut_2 (fun x1 => ?_)
  refine v_if_ne (tgt := 10) C dX2_pullOut_5 rfl ?_ ?_
  · skip
    refine v_aload_n C dX2_pullOut_10 rfl (j := 0) rfl ?_
    refine v_getR C 1 rfl (T := TX2) rfl inB2 (by decide) (by decide) rfl tw_306 dX2_pullOut_11 (fun x2 => ?_)
    refine v_getR C 9 rfl (T := TX6) rfl inB6 (by decide) (by decide) rfl tw_282 dX2_pullOut_14 (fun x3 => ?_)
    refine v_aload_n C dX2_pullOut_17 rfl (j := 0) rfl ?_
    refine v_iload_n C dX2_pullOut_18 rfl (j := 1) rfl ?_
    refine v_callV_rI C [I a1] [A w x3] (Cee.of (rm := rX2_inAlarm) tw_783 tw_4 hX2_inAlarm rfl rfl hRm (Nat.le_of_ble_eq_true rfl) (Nat.le_of_ble_eq_true rfl)) (fun x h => kX2_inAlarm X.2.1 w P n h) tw_950 tw_781 tw_782 rfl (ci := 2) rfl (by decide) rfl rfl (Nat.le_of_ble_eq_true rfl) ⟨Nat.zero_le _, Nat.zero_le _⟩ dX2_pullOut_19 (fun x4 => ?_)
    refine v_jnt (fun (k30 : Int → Option (Int × St)) => ∀ (x5 : Int), V X w 4 P n 0 0 res (k30 x5) s 30 [(0, A w a0), (1, I a1)] [I x5, A w x3]) ?_ ?_
    · intro x5
      refine v_iload_n C dX2_pullOut_30 rfl (j := 1) rfl ?_
      refine v_aload_n C dX2_pullOut_31 rfl (j := 0) rfl ?_
      refine v_getR C 1 rfl (T := TX2) rfl inB2 (by decide) (by decide) rfl tw_306 dX2_pullOut_32 (fun x6 => ?_)
      refine v_getI C 0 rfl (T := TX6) rfl inB6 (by decide) (by decide) rfl tw_256 dX2_pullOut_35 (fun x7 => ?_)
      refine v_callV_wV C [I x5, I a1, I x7] [] (Cee.of (rm := rX3_add) tw_720 tw_7 hX3_add rfl rfl hRm (Nat.le_of_ble_eq_true rfl) (Nat.le_of_ble_eq_true rfl)) (fun x h => kX3_add X.2.1 w P n h) tw_717 tw_718 tw_719 rfl (ci := 3) rfl (by decide) rfl rfl (Nat.le_of_ble_eq_true rfl) ⟨Nat.zero_le _, Nat.zero_le _⟩ dX2_pullOut_38 (fun s8 => ?_)
      refine v_aload_n C dX2_pullOut_41 rfl (j := 0) rfl ?_
      refine v_getR C 1 rfl (T := TX2) rfl inB2 (by decide) (by decide) rfl tw_306 dX2_pullOut_42 (fun x9 => ?_)
      refine v_getR C 2 rfl (T := TX6) rfl inB6 (by decide) (by decide) rfl tw_261 dX2_pullOut_45 (fun x10 => ?_)
      refine v_iload_n C dX2_pullOut_48 rfl (j := 1) rfl ?_
      refine v_iconst C dX2_pullOut_49 ?_
      refine v_iast C dX2_pullOut_50 (fun s11 => ?_)
      refine v_aload_n C dX2_pullOut_51 rfl (j := 0) rfl ?_
      refine v_getR C 1 rfl (T := TX2) rfl inB2 (by decide) (by decide) rfl tw_306 dX2_pullOut_52 (fun x12 => ?_)
      refine v_getR C 3 rfl (T := TX6) rfl inB6 (by decide) (by decide) rfl tw_264 dX2_pullOut_55 (fun x13 => ?_)
      refine v_iload_n C dX2_pullOut_58 rfl (j := 1) rfl ?_
      refine v_iconst C dX2_pullOut_59 ?_
      refine v_iast C dX2_pullOut_60 (fun s14 => ?_)
      refine v_aload_n C dX2_pullOut_61 rfl (j := 0) rfl ?_
      refine v_getR C 1 rfl (T := TX2) rfl inB2 (by decide) (by decide) rfl tw_306 dX2_pullOut_62 (fun x15 => ?_)
      refine v_getR C 8 rfl (T := TX6) rfl inB6 (by decide) (by decide) rfl tw_279 dX2_pullOut_65 (fun x16 => ?_)
      refine v_iload_n C dX2_pullOut_68 rfl (j := 1) rfl ?_
      refine v_callV_wV C [I a1] [] (Cee.of (rm := rX0_forget) tw_958 tw_6 hX0_forget rfl rfl hRm (Nat.le_of_ble_eq_true rfl) (Nat.le_of_ble_eq_true rfl)) (fun x h => kX0_forget X.2.1 w P n h) tw_955 tw_956 tw_957 rfl (ci := 0) rfl (by decide) rfl rfl (Nat.le_of_ble_eq_true rfl) ⟨Nat.zero_le _, Nat.zero_le _⟩ dX2_pullOut_69 (fun s17 => ?_)
      refine v_iconst C dX2_pullOut_72 ?_
      refine v_istore_n C [(2, I 0), (0, A w a0), (1, I a1)] dX2_pullOut_73 rfl (by decide) rfl ?_
      refine v_iconst C dX2_pullOut_74 ?_
      refine v_istore_n C [(3, I 0), (2, I 0), (0, A w a0), (1, I a1)] dX2_pullOut_75 rfl (by decide) rfl ?_
      refine v_sub [(0, A w a0), (1, I a1), (2, I 0), (3, I 0)] [2, 3, 1, 0] rfl ?_
      refine vX2_pullOut_L76 res hRm C hO a0 a1 _ ?_ 1000 0 0 s17
      · intro x30 s31
        refine v_aload_n C dX2_pullOut_114 rfl (j := 0) rfl ?_
        refine v_getR C 1 rfl (T := TX2) rfl inB2 (by decide) (by decide) rfl tw_306 dX2_pullOut_115 (fun x32 => ?_)
        refine v_getR C 9 rfl (T := TX6) rfl inB6 (by decide) (by decide) rfl tw_282 dX2_pullOut_118 (fun x33 => ?_)
        refine v_getR C 5 rfl (T := TX3) rfl inB3 (by decide) (by decide) rfl tw_240 dX2_pullOut_121 (fun x34 => ?_)
        refine v_bipush C dX2_pullOut_124 (by decide) ?_
        refine v_dup2 C dX2_pullOut_126 rfl rfl ?_
        refine v_iald C dX2_pullOut_127 (fun x35 => ?_)
        refine v_iload_n C dX2_pullOut_128 rfl (j := 1) rfl ?_
        refine v_iadd C dX2_pullOut_129 ?_
        refine v_iast C dX2_pullOut_130 (fun s36 => ?_)
        refine v_aload_n C dX2_pullOut_131 rfl (j := 0) rfl ?_
        refine v_callV_wV C [] [] (Cee.of (rm := rX2_settle) tw_700 tw_4 hX2_settle rfl rfl hRm (Nat.le_of_ble_eq_true rfl) (Nat.le_of_ble_eq_true rfl)) (fun x h => kX2_settle X.2.1 w P n h) tw_697 tw_698 tw_699 rfl (ci := 2) rfl (by decide) rfl rfl (Nat.le_of_ble_eq_true rfl) ⟨Nat.zero_le _, Nat.zero_le _⟩ dX2_pullOut_132 (fun s37 => ?_)
        refine v_iload_n C dX2_pullOut_135 rfl (j := 1) rfl ?_
        exact v_iret C rfl hO pI dX2_pullOut_136
    intro k30 hk30
    refine v_if_eq (tgt := 29) C dX2_pullOut_22 rfl ?_ ?_
    · skip
      refine v_iconst C dX2_pullOut_29 ?_
      exact hk30 3
    · skip
      refine v_iconst C dX2_pullOut_25 ?_
      refine v_goto (tgt := 30) C dX2_pullOut_26 rfl ?_
      exact hk30 2
  · skip
    refine v_iconst C dX2_pullOut_8 ?_
    exact v_iret C rfl hO pI dX2_pullOut_9
-- ForesightHub$Hub.putIn
theorem hX2_putIn : yX2_putIn.cls ≠ "java/lang/invoke/MethodHandle" ∧ yX2_putIn.cls ≠ "java/lang/invoke/VarHandle" ∧ (parseMethodDescriptor yX2_putIn.desc).map (fun d => d.parameters.length) = some 2 := by decide +kernel
set_option maxRecDepth 100000 in
theorem kX2_putIn (l : Launch) (w : Wd) (P : Shp) (n : Nat) {s : St} {a0 : Int} {a1 : Int} {a2 : Int} {res : St} (h : fX2_putIn P s a0 a1 a2 = some res) : Ct l w yX2_putIn cX2_putIn 3 (Option.none : Option FieldType) rX2_putIn P n [A w a0, I a1, I a2] s (QV w P n res) :=
  Ct.of h (by decide) (Nat.le_of_ble_eq_true rfl) (lv := [(0, A w a0), (1, I a1), (2, I a2)]) rfl fun X hl hRm C hO => by
  subst hl
  unfold fX2_putIn
  refine v_aload_n C dX2_putIn_0 rfl (j := 0) rfl ?_
  refine v_iload_n C dX2_putIn_1 rfl (j := 1) rfl ?_
  refine v_callV_rI C [I a1] [] (Cee.of (rm := rX2_isDevice) tw_379 tw_4 hX2_isDevice rfl rfl hRm (Nat.le_of_ble_eq_true rfl) (Nat.le_of_ble_eq_true rfl)) (fun x h => kX2_isDevice X.2.1 w P n h) tw_376 tw_377 tw_378 rfl (ci := 2) rfl (by decide) rfl rfl (Nat.le_of_ble_eq_true rfl) ⟨Nat.zero_le _, Nat.zero_le _⟩ dX2_putIn_2 (fun x1 => ?_)
  refine v_if_eq (tgt := 32) C dX2_putIn_5 rfl ?_ ?_
  · skip
    exact v_vret C rfl hO (fun h => Option.some.inj h) dX2_putIn_32
  · skip
    refine v_aload_n C dX2_putIn_8 rfl (j := 0) rfl ?_
    refine v_getR C 1 rfl (T := TX2) rfl inB2 (by decide) (by decide) rfl tw_306 dX2_putIn_9 (fun x2 => ?_)
    refine v_getR C 2 rfl (T := TX6) rfl inB6 (by decide) (by decide) rfl tw_261 dX2_putIn_12 (fun x3 => ?_)
    refine v_iload_n C dX2_putIn_15 rfl (j := 1) rfl ?_
    refine v_iload_n C dX2_putIn_16 rfl (j := 2) rfl ?_
    refine v_iast C dX2_putIn_17 (fun s4 => ?_)
    refine v_aload_n C dX2_putIn_18 rfl (j := 0) rfl ?_
    refine v_getR C 1 rfl (T := TX2) rfl inB2 (by decide) (by decide) rfl tw_306 dX2_putIn_19 (fun x5 => ?_)
    refine v_getR C 3 rfl (T := TX6) rfl inB6 (by decide) (by decide) rfl tw_264 dX2_putIn_22 (fun x6 => ?_)
    refine v_iload_n C dX2_putIn_25 rfl (j := 1) rfl ?_
    refine v_iconst C dX2_putIn_26 ?_
    refine v_iast C dX2_putIn_27 (fun s7 => ?_)
    refine v_aload_n C dX2_putIn_28 rfl (j := 0) rfl ?_
    refine v_callV_wV C [] [] (Cee.of (rm := rX2_settle) tw_700 tw_4 hX2_settle rfl rfl hRm (Nat.le_of_ble_eq_true rfl) (Nat.le_of_ble_eq_true rfl)) (fun x h => kX2_settle X.2.1 w P n h) tw_697 tw_698 tw_699 rfl (ci := 2) rfl (by decide) rfl rfl (Nat.le_of_ble_eq_true rfl) ⟨Nat.zero_le _, Nat.zero_le _⟩ dX2_putIn_29 (fun s8 => ?_)
    exact v_vret C rfl hO (fun h => Option.some.inj h) dX2_putIn_32
-- ForesightHub$Hub.reasonNotToRun
theorem hX2_reasonNotToRun : yX2_reasonNotToRun.cls ≠ "java/lang/invoke/MethodHandle" ∧ yX2_reasonNotToRun.cls ≠ "java/lang/invoke/VarHandle" ∧ (parseMethodDescriptor yX2_reasonNotToRun.desc).map (fun d => d.parameters.length) = some 1 := by decide +kernel
set_option maxRecDepth 100000 in
theorem kX2_reasonNotToRun (l : Launch) (w : Wd) (P : Shp) (n : Nat) {s : St} {a0 : Int} {a1 : Int} {res : Int} (h : fX2_reasonNotToRun P s a0 a1 = some res) : Ct l w yX2_reasonNotToRun cX2_reasonNotToRun 2 (some FieldType.int) rX2_reasonNotToRun P n [A w a0, I a1] s (QI w P n res s) :=
  Ct.of h (by decide) (Nat.le_of_ble_eq_true rfl) (lv := [(0, A w a0), (1, I a1)]) rfl fun X hl hRm C hO => by
  subst hl
  unfold fX2_reasonNotToRun
  refine v_aload_n C dX2_reasonNotToRun_0 rfl (j := 0) rfl ?_
  refine v_getR C 1 rfl (T := TX2) rfl inB2 (by decide) (by decide) rfl tw_306 dX2_reasonNotToRun_1 (fun x1 => ?_)
  refine v_getR C 5 rfl (T := TX6) rfl inB6 (by decide) (by decide) rfl tw_270 dX2_reasonNotToRun_4 (fun x2 => ?_)
  refine v_iload_n C dX2_reasonNotToRun_7 rfl (j := 1) rfl ?_
  refine v_iald C dX2_reasonNotToRun_8 (fun x3 => ?_)
  refine v_iconst C dX2_reasonNotToRun_9 ?_
  refine v_icmp_ne (tgt := 15) C dX2_reasonNotToRun_10 rfl ?_ ?_
  · skip
    refine v_aload_n C dX2_reasonNotToRun_15 rfl (j := 0) rfl ?_
    refine v_iload_n C dX2_reasonNotToRun_16 rfl (j := 1) rfl ?_
    refine v_callV_rI C [I a1] [] (Cee.of (rm := rX2_wantedHolder) tw_708 tw_4 hX2_wantedHolder rfl rfl hRm (Nat.le_of_ble_eq_true rfl) (Nat.le_of_ble_eq_true rfl)) (fun x h => kX2_wantedHolder X.2.1 w P n h) tw_705 tw_706 tw_707 rfl (ci := 2) rfl (by decide) rfl rfl (Nat.le_of_ble_eq_true rfl) ⟨Nat.zero_le _, Nat.zero_le _⟩ dX2_reasonNotToRun_17 (fun x4 => ?_)
    refine v_iconst C dX2_reasonNotToRun_20 ?_
    refine v_icmp_ne (tgt := 39) C dX2_reasonNotToRun_21 rfl ?_ ?_
    · skip
      refine v_aload_n C dX2_reasonNotToRun_39 rfl (j := 0) rfl ?_
      refine v_getR C 1 rfl (T := TX2) rfl inB2 (by decide) (by decide) rfl tw_306 dX2_reasonNotToRun_40 (fun x5 => ?_)
      refine v_getR C 5 rfl (T := TX6) rfl inB6 (by decide) (by decide) rfl tw_270 dX2_reasonNotToRun_43 (fun x6 => ?_)
      refine v_iload_n C dX2_reasonNotToRun_46 rfl (j := 1) rfl ?_
      refine v_iald C dX2_reasonNotToRun_47 (fun x7 => ?_)
      refine v_if_ne (tgt := 55) C dX2_reasonNotToRun_48 rfl ?_ ?_
      · skip
        refine v_iconst C dX2_reasonNotToRun_55 ?_
        exact v_iret C rfl hO pS dX2_reasonNotToRun_56
      · skip
        refine v_iconst C dX2_reasonNotToRun_51 ?_
        refine v_goto (tgt := 56) C dX2_reasonNotToRun_52 rfl ?_
        exact v_iret C rfl hO pS dX2_reasonNotToRun_56
    · skip
      refine v_aload_n C dX2_reasonNotToRun_24 rfl (j := 0) rfl ?_
      refine v_iload_n C dX2_reasonNotToRun_25 rfl (j := 1) rfl ?_
      refine v_callV_rI C [I a1] [] (Cee.of (rm := rX2_heirOfHome) tw_716 tw_4 hX2_heirOfHome rfl rfl hRm (Nat.le_of_ble_eq_true rfl) (Nat.le_of_ble_eq_true rfl)) (fun x h => kX2_heirOfHome X.2.1 w P n h) tw_713 tw_715 ts_23 rfl (ci := 2) rfl (by decide) rfl rfl (Nat.le_of_ble_eq_true rfl) ⟨Nat.zero_le _, Nat.zero_le _⟩ dX2_reasonNotToRun_26 (fun x8 => ?_)
      refine v_iconst C dX2_reasonNotToRun_29 ?_
      refine v_icmp_ne (tgt := 37) C dX2_reasonNotToRun_30 rfl ?_ ?_
      · skip
        refine v_iconst C dX2_reasonNotToRun_37 ?_
        exact v_iret C rfl hO pS dX2_reasonNotToRun_38
      · skip
        refine v_iconst C dX2_reasonNotToRun_33 ?_
        refine v_goto (tgt := 38) C dX2_reasonNotToRun_34 rfl ?_
        exact v_iret C rfl hO pS dX2_reasonNotToRun_38
  · skip
    refine v_iconst C dX2_reasonNotToRun_13 ?_
    exact v_iret C rfl hO pS dX2_reasonNotToRun_14
-- ForesightHub$Hub.sendOn
theorem hX2_sendOn : yX2_sendOn.cls ≠ "java/lang/invoke/MethodHandle" ∧ yX2_sendOn.cls ≠ "java/lang/invoke/VarHandle" ∧ (parseMethodDescriptor yX2_sendOn.desc).map (fun d => d.parameters.length) = some 1 := by decide +kernel
set_option maxRecDepth 100000 in
theorem kX2_sendOn (l : Launch) (w : Wd) (P : Shp) (n : Nat) {s : St} {a0 : Int} {a1 : Int} {res : St} (h : fX2_sendOn P s a0 a1 = some res) : Ct l w yX2_sendOn cX2_sendOn 4 (Option.none : Option FieldType) rX2_sendOn P n [A w a0, I a1] s (QV w P n res) :=
  Ct.of h (by decide) (Nat.le_of_ble_eq_true rfl) (lv := [(0, A w a0), (1, I a1)]) rfl fun X hl hRm C hO => by
  subst hl
  unfold fX2_sendOn
  refine v_aload_n C dX2_sendOn_0 rfl (j := 0) rfl ?_
  refine v_getR C 1 rfl (T := TX2) rfl inB2 (by decide) (by decide) rfl tw_306 dX2_sendOn_1 (fun x1 => ?_)
  refine v_getR C 6 rfl (T := TX6) rfl inB6 (by decide) (by decide) rfl tw_273 dX2_sendOn_4 (fun x2 => ?_)
  refine v_iload_n C dX2_sendOn_7 rfl (j := 1) rfl ?_
  refine v_iald C dX2_sendOn_8 (fun x3 => ?_)
  refine v_aload_n C dX2_sendOn_9 rfl (j := 0) rfl ?_
  refine v_getR C 0 rfl (T := TX2) rfl inB2 (by decide) (by decide) rfl tw_304 dX2_sendOn_10 (fun x4 => ?_)
  refine v_getR C 14 rfl (T := TX4) rfl inB4 (by decide) (by decide) rfl tw_100 dX2_sendOn_13 (fun x5 => ?_)
  refine v_iload_n C dX2_sendOn_16 rfl (j := 1) rfl ?_
  refine v_iald C dX2_sendOn_17 (fun x6 => ?_)
  refine v_iadd C dX2_sendOn_18 ?_
  refine v_bdI (fun x7 => ?_)
  refine v_istore_n C [(2, I x7), (0, A w a0), (1, I a1)] dX2_sendOn_19 rfl (by decide) rfl ?_
  refine v_aload_n C dX2_sendOn_20 rfl (j := 1) rfl ?_
  refine v_getR C 0 rfl (T := TX2) rfl inB2 (by decide) (by decide) rfl tw_304 dX2_sendOn_21 (fun x8 => ?_)
  refine v_getR C 15 rfl (T := TX4) rfl inB4 (by decide) (by decide) rfl tw_104 dX2_sendOn_24 (fun x9 => ?_)
  refine v_iload_n C dX2_sendOn_27 rfl (j := 2) rfl ?_
  refine v_iald C dX2_sendOn_28 (fun x10 => ?_)
  refine v_istore_n C [(3, I x10), (2, I x7), (0, A w a0), (1, I a1)] dX2_sendOn_29 rfl (by decide) rfl ?_
  refine v_iload_n C dX2_sendOn_30 rfl (j := 0) rfl ?_
  refine v_if_le (tgt := 62) C dX2_sendOn_31 rfl ?_ ?_
  · skip
    exact v_vret C rfl hO (fun h => Option.some.inj h) dX2_sendOn_62
  · skip
    refine v_aload_n C dX2_sendOn_34 rfl (j := 2) rfl ?_
    refine v_getR C 1 rfl (T := TX2) rfl inB2 (by decide) (by decide) rfl tw_306 dX2_sendOn_35 (fun x11 => ?_)
    refine v_getR C 7 rfl (T := TX6) rfl inB6 (by decide) (by decide) rfl tw_276 dX2_sendOn_38 (fun x12 => ?_)
    refine v_iload_n C dX2_sendOn_41 rfl (j := 3) rfl ?_
    refine v_dup2 C dX2_sendOn_42 rfl rfl ?_
    refine v_lald C dX2_sendOn_43 (fun x13 => ?_)
    refine v_iload_n C dX2_sendOn_44 rfl (j := 1) rfl ?_
    refine v_iload_n C dX2_sendOn_45 rfl (j := 0) rfl ?_
    refine v_idiv C dX2_sendOn_46 (fun x14 => ?_)
    refine v_i2l C dX2_sendOn_47 (fun x15 => ?_)
    refine v_ladd C dX2_sendOn_48 ?_
    refine v_last C dX2_sendOn_49 (fun s16 => ?_)
    refine v_aload_n C dX2_sendOn_50 rfl (j := 2) rfl ?_
    refine v_getR C 1 rfl (T := TX2) rfl inB2 (by decide) (by decide) rfl tw_306 dX2_sendOn_51 (fun x17 => ?_)
    refine v_getR C 6 rfl (T := TX6) rfl inB6 (by decide) (by decide) rfl tw_273 dX2_sendOn_54 (fun x18 => ?_)
    refine v_iload_n C dX2_sendOn_57 rfl (j := 3) rfl ?_
    refine v_iload_n C dX2_sendOn_58 rfl (j := 1) rfl ?_
    refine v_iload_n C dX2_sendOn_59 rfl (j := 0) rfl ?_
    refine v_irem C dX2_sendOn_60 (fun x19 => ?_)
    refine v_iast C dX2_sendOn_61 (fun s20 => ?_)
    exact v_vret C rfl hO (fun h => Option.some.inj h) dX2_sendOn_62
-- ForesightHub$Hub.sendToPacketEnd
theorem hX2_sendToPacketEnd : yX2_sendToPacketEnd.cls ≠ "java/lang/invoke/MethodHandle" ∧ yX2_sendToPacketEnd.cls ≠ "java/lang/invoke/VarHandle" ∧ (parseMethodDescriptor yX2_sendToPacketEnd.desc).map (fun d => d.parameters.length) = some 1 := by decide +kernel
set_option maxRecDepth 100000 in
theorem kX2_sendToPacketEnd (l : Launch) (w : Wd) (P : Shp) (n : Nat) {s : St} {a0 : Int} {a1 : Int} {res : St} (h : fX2_sendToPacketEnd P s a0 a1 = some res) : Ct l w yX2_sendToPacketEnd cX2_sendToPacketEnd 3 (Option.none : Option FieldType) rX2_sendToPacketEnd P n [A w a0, I a1] s (QV w P n res) :=
  Ct.of h (by decide) (Nat.le_of_ble_eq_true rfl) (lv := [(0, A w a0), (1, I a1)]) rfl fun X hl hRm C hO => by
  subst hl
  unfold fX2_sendToPacketEnd
  refine v_aload_n C dX2_sendToPacketEnd_0 rfl (j := 0) rfl ?_
  refine v_getR C 1 rfl (T := TX2) rfl inB2 (by decide) (by decide) rfl tw_306 dX2_sendToPacketEnd_1 (fun x1 => ?_)
  refine v_getR C 6 rfl (T := TX6) rfl inB6 (by decide) (by decide) rfl tw_273 dX2_sendToPacketEnd_4 (fun x2 => ?_)
  refine v_iload_n C dX2_sendToPacketEnd_7 rfl (j := 1) rfl ?_
  refine v_iald C dX2_sendToPacketEnd_8 (fun x3 => ?_)
  refine v_aload_n C dX2_sendToPacketEnd_9 rfl (j := 0) rfl ?_
  refine v_getR C 0 rfl (T := TX2) rfl inB2 (by decide) (by decide) rfl tw_304 dX2_sendToPacketEnd_10 (fun x4 => ?_)
  refine v_getR C 14 rfl (T := TX4) rfl inB4 (by decide) (by decide) rfl tw_100 dX2_sendToPacketEnd_13 (fun x5 => ?_)
  refine v_iload_n C dX2_sendToPacketEnd_16 rfl (j := 1) rfl ?_
  refine v_iald C dX2_sendToPacketEnd_17 (fun x6 => ?_)
  refine v_iadd C dX2_sendToPacketEnd_18 ?_
  refine v_bdI (fun x7 => ?_)
  refine v_istore_n C [(2, I x7), (0, A w a0), (1, I a1)] dX2_sendToPacketEnd_19 rfl (by decide) rfl ?_
  refine v_iload_n C dX2_sendToPacketEnd_20 rfl (j := 0) rfl ?_
  refine v_aload_n C dX2_sendToPacketEnd_21 rfl (j := 1) rfl ?_
  refine v_getR C 0 rfl (T := TX2) rfl inB2 (by decide) (by decide) rfl tw_304 dX2_sendToPacketEnd_22 (fun x8 => ?_)
  refine v_getR C 15 rfl (T := TX4) rfl inB4 (by decide) (by decide) rfl tw_104 dX2_sendToPacketEnd_25 (fun x9 => ?_)
  refine v_iload_n C dX2_sendToPacketEnd_28 rfl (j := 2) rfl ?_
  refine v_iald C dX2_sendToPacketEnd_29 (fun x10 => ?_)
  refine v_jnt (fun (k48 : Int → St → Option (St)) => ∀ (x11 : Int) (s12 : St), V X w 3 P n 0 0 res (k48 x11 s12) s12 48 [(0, A w a0), (1, I a1), (2, I x11)] []) ?_ ?_
  · intro x11 s12
    refine v_aload_n C dX2_sendToPacketEnd_48 rfl (j := 0) rfl ?_
    refine v_getR C 1 rfl (T := TX2) rfl inB2 (by decide) (by decide) rfl tw_306 dX2_sendToPacketEnd_49 (fun x13 => ?_)
    refine v_getR C 6 rfl (T := TX6) rfl inB6 (by decide) (by decide) rfl tw_273 dX2_sendToPacketEnd_52 (fun x14 => ?_)
    refine v_iload_n C dX2_sendToPacketEnd_55 rfl (j := 1) rfl ?_
    refine v_iload_n C dX2_sendToPacketEnd_56 rfl (j := 2) rfl ?_
    refine v_iast C dX2_sendToPacketEnd_57 (fun s15 => ?_)
    exact v_vret C rfl hO (fun h => Option.some.inj h) dX2_sendToPacketEnd_58
  intro k48 hk48
  refine v_icmp_lt (tgt := 48) C dX2_sendToPacketEnd_30 rfl ?_ ?_
  · skip
    refine v_sub [(0, A w a0), (1, I a1), (2, I x7)] [1, 2, 0] rfl ?_
    exact hk48 x7 s
  · skip
    refine v_aload_n C dX2_sendToPacketEnd_33 rfl (j := 1) rfl ?_
    refine v_getR C 1 rfl (T := TX2) rfl inB2 (by decide) (by decide) rfl tw_306 dX2_sendToPacketEnd_34 (fun x16 => ?_)
    refine v_getR C 7 rfl (T := TX6) rfl inB6 (by decide) (by decide) rfl tw_276 dX2_sendToPacketEnd_37 (fun x17 => ?_)
    refine v_iload_n C dX2_sendToPacketEnd_40 rfl (j := 2) rfl ?_
    refine v_dup2 C dX2_sendToPacketEnd_41 rfl rfl ?_
    refine v_lald C dX2_sendToPacketEnd_42 (fun x18 => ?_)
    refine v_lconst (z := 1) C dX2_sendToPacketEnd_43 rfl ?_
    refine v_ladd C dX2_sendToPacketEnd_44 ?_
    refine v_last C dX2_sendToPacketEnd_45 (fun s19 => ?_)
    refine v_iconst C dX2_sendToPacketEnd_46 ?_
    refine v_istore_n C [(2, I 0), (0, A w a0), (1, I a1)] dX2_sendToPacketEnd_47 rfl (by decide) rfl ?_
    refine v_sub [(0, A w a0), (1, I a1), (2, I 0)] [1, 2, 0] rfl ?_
    exact hk48 0 s19
-- ForesightHub$Hub.passFrame
set_option maxRecDepth 100000 in
theorem vX2_passFrame_L15 {X : Cxt} {w : Wd} {P : Shp} {n : Nat} (res : St) (hRm : X.2.2.2.1 = rX2_passFrame) (C : Cok X w cX2_passFrame 2 RX2 (Option.none : Option FieldType)) (hO : Own X w 0 0 (QV w P n res))  (c0 : Int) (kE71 : St → Option (St)) (hE71 : ∀ (se : St), V X w 2 P n 0 0 res (kE71 se) se 71 [(0, A w c0)] []) : ∀ (fuel : Nat) (p1 : Int) (s : St), V X w 2 P n 0 0 res (fX2_passFrame_L15 P c0 kE71 fuel p1 s) s 15 [(0, A w c0), (1, I p1)] [] := by
  intro fuel
  induction fuel with
  | zero => intro p1 s; exact v_none
  | succ m ih =>
    intro p1 s
    rw [fX2_passFrame_L15]
    refine v_iload_n C dX2_passFrame_15 rfl (j := 1) rfl ?_
    refine v_aload_n C dX2_passFrame_16 rfl (j := 0) rfl ?_
    refine v_getR C 0 rfl (T := TX2) rfl inB2 (by decide) (by decide) rfl tw_304 dX2_passFrame_17 (fun x4 => ?_)
    refine v_getI C 6 rfl (T := TX4) rfl inB4 (by decide) (by decide) rfl tw_73 dX2_passFrame_20 (fun x5 => ?_)
    refine v_icmp_ge (tgt := 71) C dX2_passFrame_23 rfl ?_ ?_
    · skip
      refine v_sub [(0, A w c0)] [0] rfl ?_
      exact hE71 s
    · skip
      refine v_aload_n C dX2_passFrame_26 rfl (j := 0) rfl ?_
      refine v_getR C 1 rfl (T := TX2) rfl inB2 (by decide) (by decide) rfl tw_306 dX2_passFrame_27 (fun x6 => ?_)
      refine v_getR C 5 rfl (T := TX6) rfl inB6 (by decide) (by decide) rfl tw_270 dX2_passFrame_30 (fun x7 => ?_)
      refine v_iload_n C dX2_passFrame_33 rfl (j := 1) rfl ?_
      refine v_iald C dX2_passFrame_34 (fun x8 => ?_)
      refine v_iconst C dX2_passFrame_35 ?_
      refine v_jnt (fun (k65 : St → Option (St)) => ∀ (s9 : St), V X w 2 P n 0 0 res (k65 s9) s9 65 [(0, A w c0), (1, I p1)] []) ?_ ?_
      · intro s9
        refine v_iinc C (j := 1) [(0, A w c0)] dX2_passFrame_65 (by decide) rfl (fun _ => rfl) (fun x10 => ?_)
        refine v_goto (tgt := 15) C dX2_passFrame_68 rfl ?_
        refine v_sub [(0, A w c0), (1, I x10)] [1, 0] rfl ?_
        exact ih x10 s9
      intro k65 hk65
      refine v_icmp_ne (tgt := 47) C dX2_passFrame_36 rfl ?_ ?_
      · skip
        refine v_aload_n C dX2_passFrame_47 rfl (j := 0) rfl ?_
        refine v_getR C 1 rfl (T := TX2) rfl inB2 (by decide) (by decide) rfl tw_306 dX2_passFrame_48 (fun x11 => ?_)
        refine v_getR C 5 rfl (T := TX6) rfl inB6 (by decide) (by decide) rfl tw_270 dX2_passFrame_51 (fun x12 => ?_)
        refine v_iload_n C dX2_passFrame_54 rfl (j := 1) rfl ?_
        refine v_iald C dX2_passFrame_55 (fun x13 => ?_)
        refine v_iconst C dX2_passFrame_56 ?_
        refine v_icmp_ne (tgt := 65) C dX2_passFrame_57 rfl ?_ ?_
        · skip
          exact hk65 s
        · skip
          refine v_aload_n C dX2_passFrame_60 rfl (j := 0) rfl ?_
          refine v_iload_n C dX2_passFrame_61 rfl (j := 1) rfl ?_
          refine v_callV_wV C [I p1] [] (Cee.of (rm := rX2_sendToPacketEnd) tw_945 tw_4 hX2_sendToPacketEnd rfl rfl hRm (Nat.le_of_ble_eq_true rfl) (Nat.le_of_ble_eq_true rfl)) (fun x h => kX2_sendToPacketEnd X.2.1 w P n h) tw_942 tw_944 ts_30 rfl (ci := 2) rfl (by decide) rfl rfl (Nat.le_of_ble_eq_true rfl) ⟨Nat.zero_le _, Nat.zero_le _⟩ dX2_passFrame_62 (fun s14 => ?_)
          exact hk65 s14
      · skip
        refine v_aload_n C dX2_passFrame_39 rfl (j := 0) rfl ?_
        refine v_iload_n C dX2_passFrame_40 rfl (j := 1) rfl ?_
        refine v_callV_wV C [I p1] [] (Cee.of (rm := rX2_sendOn) tw_941 tw_4 hX2_sendOn rfl rfl hRm (Nat.le_of_ble_eq_true rfl) (Nat.le_of_ble_eq_true rfl)) (fun x h => kX2_sendOn X.2.1 w P n h) tw_938 tw_940 ts_29 rfl (ci := 2) rfl (by decide) rfl rfl (Nat.le_of_ble_eq_true rfl) ⟨Nat.zero_le _, Nat.zero_le _⟩ dX2_passFrame_41 (fun s15 => ?_)
        refine v_goto (tgt := 65) C dX2_passFrame_44 rfl ?_
        exact hk65 s15
set_option maxRecDepth 100000 in
theorem vX2_passFrame_L73 {X : Cxt} {w : Wd} {P : Shp} {n : Nat} (res : St) (hRm : X.2.2.2.1 = rX2_passFrame) (C : Cok X w cX2_passFrame 2 RX2 (Option.none : Option FieldType)) (hO : Own X w 0 0 (QV w P n res))  (c0 : Int) (kE103 : St → Option (St)) (hE103 : ∀ (se : St), V X w 2 P n 0 0 res (kE103 se) se 103 [(0, A w c0)] []) : ∀ (fuel : Nat) (p1 : Int) (s : St), V X w 2 P n 0 0 res (fX2_passFrame_L73 P c0 kE103 fuel p1 s) s 73 [(0, A w c0), (1, I p1)] [] := by
  intro fuel
  induction fuel with
  | zero => intro p1 s; exact v_none
  | succ m ih =>
    intro p1 s
    rw [fX2_passFrame_L73]
    refine v_iload_n C dX2_passFrame_73 rfl (j := 1) rfl ?_
    refine v_aload_n C dX2_passFrame_74 rfl (j := 0) rfl ?_
    refine v_getR C 0 rfl (T := TX2) rfl inB2 (by decide) (by decide) rfl tw_304 dX2_passFrame_75 (fun x17 => ?_)
    refine v_getI C 5 rfl (T := TX4) rfl inB4 (by decide) (by decide) rfl tw_68 dX2_passFrame_78 (fun x18 => ?_)
    refine v_icmp_ge (tgt := 103) C dX2_passFrame_81 rfl ?_ ?_
    · skip
      refine v_sub [(0, A w c0)] [0] rfl ?_
      exact hE103 s
    · skip
      refine v_aload_n C dX2_passFrame_84 rfl (j := 0) rfl ?_
      refine v_iload_n C dX2_passFrame_85 rfl (j := 1) rfl ?_
      refine v_callV_rI C [I p1] [] (Cee.of (rm := rX2_isWrongAlarm) tw_949 tw_4 hX2_isWrongAlarm rfl rfl hRm (Nat.le_of_ble_eq_true rfl) (Nat.le_of_ble_eq_true rfl)) (fun x h => kX2_isWrongAlarm X.2.1 w P n h) tw_946 tw_948 ts_31 rfl (ci := 2) rfl (by decide) rfl rfl (Nat.le_of_ble_eq_true rfl) ⟨Nat.zero_le _, Nat.zero_le _⟩ dX2_passFrame_86 (fun x19 => ?_)
      refine v_jnt (fun (k97 : St → Option (St)) => ∀ (s20 : St), V X w 2 P n 0 0 res (k97 s20) s20 97 [(0, A w c0), (1, I p1)] []) ?_ ?_
      · intro s20
        refine v_iinc C (j := 1) [(0, A w c0)] dX2_passFrame_97 (by decide) rfl (fun _ => rfl) (fun x21 => ?_)
        refine v_goto (tgt := 73) C dX2_passFrame_100 rfl ?_
        refine v_sub [(0, A w c0), (1, I x21)] [1, 0] rfl ?_
        exact ih x21 s20
      intro k97 hk97
      refine v_if_eq (tgt := 97) C dX2_passFrame_89 rfl ?_ ?_
      · skip
        exact hk97 s
      · skip
        refine v_aload_n C dX2_passFrame_92 rfl (j := 0) rfl ?_
        refine v_iload_n C dX2_passFrame_93 rfl (j := 1) rfl ?_
        refine v_callV_wV C [I p1] [] (Cee.of (rm := rX2_endWrongAlarm) tw_954 tw_4 hX2_endWrongAlarm rfl rfl hRm (Nat.le_of_ble_eq_true rfl) (Nat.le_of_ble_eq_true rfl)) (fun x h => kX2_endWrongAlarm X.2.1 w P n h) tw_951 tw_952 tw_953 rfl (ci := 2) rfl (by decide) rfl rfl (Nat.le_of_ble_eq_true rfl) ⟨Nat.zero_le _, Nat.zero_le _⟩ dX2_passFrame_94 (fun s22 => ?_)
        exact hk97 s22
theorem hX2_passFrame : yX2_passFrame.cls ≠ "java/lang/invoke/MethodHandle" ∧ yX2_passFrame.cls ≠ "java/lang/invoke/VarHandle" ∧ (parseMethodDescriptor yX2_passFrame.desc).map (fun d => d.parameters.length) = some 0 := by decide +kernel
set_option maxRecDepth 100000 in
theorem kX2_passFrame (l : Launch) (w : Wd) (P : Shp) (n : Nat) {s : St} {a0 : Int} {res : St} (h : fX2_passFrame P s a0 = some res) : Ct l w yX2_passFrame cX2_passFrame 2 (Option.none : Option FieldType) rX2_passFrame P n [A w a0] s (QV w P n res) :=
  Ct.of h (by decide) (Nat.le_of_ble_eq_true rfl) (lv := [(0, A w a0)]) rfl fun X hl hRm C hO => by
  subst hl
  unfold fX2_passFrame
  refine v_aload_n C dX2_passFrame_0 rfl (j := 0) rfl ?_
  refine v_getR C 1 rfl (T := TX2) rfl inB2 (by decide) (by decide) rfl tw_306 dX2_passFrame_1 (fun x1 => ?_)
  refine v_dup C dX2_passFrame_4 rfl ?_
  refine v_getI C 0 rfl (T := TX6) rfl inB6 (by decide) (by decide) rfl tw_256 dX2_passFrame_5 (fun x2 => ?_)
  refine v_iconst C dX2_passFrame_8 ?_
  refine v_iadd C dX2_passFrame_9 ?_
  refine v_putI C 0 rfl (T := TX6) rfl inB6 (by decide) tyX6_ok nmX6 (by decide) rfl rfl tw_256 dX2_passFrame_10 rfl (fun s3 => ?_)
  refine v_iconst C dX2_passFrame_13 ?_
  refine v_istore_n C [(1, I 0), (0, A w a0)] dX2_passFrame_14 rfl (by decide) rfl ?_
  refine v_sub [(0, A w a0), (1, I 0)] [1, 0] rfl ?_
  refine vX2_passFrame_L15 res hRm C hO a0 _ ?_ 1000 0 s3
  · intro s16
    refine v_iconst C dX2_passFrame_71 ?_
    refine v_istore_n C [(1, I 0), (0, A w a0)] dX2_passFrame_72 rfl (by decide) rfl ?_
    refine v_sub [(0, A w a0), (1, I 0)] [1, 0] rfl ?_
    refine vX2_passFrame_L73 res hRm C hO a0 _ ?_ 1000 0 s16
    · intro s23
      refine v_aload_n C dX2_passFrame_103 rfl (j := 0) rfl ?_
      refine v_callV_wV C [] [] (Cee.of (rm := rX2_settle) tw_700 tw_4 hX2_settle rfl rfl hRm (Nat.le_of_ble_eq_true rfl) (Nat.le_of_ble_eq_true rfl)) (fun x h => kX2_settle X.2.1 w P n h) tw_697 tw_698 tw_699 rfl (ci := 2) rfl (by decide) rfl rfl (Nat.le_of_ble_eq_true rfl) ⟨Nat.zero_le _, Nat.zero_le _⟩ dX2_passFrame_104 (fun s24 => ?_)
      exact v_vret C rfl hO (fun h => Option.some.inj h) dX2_passFrame_107
-- ForesightHub$Log.partOf
theorem hX3_partOf : yX3_partOf.cls ≠ "java/lang/invoke/MethodHandle" ∧ yX3_partOf.cls ≠ "java/lang/invoke/VarHandle" ∧ (parseMethodDescriptor yX3_partOf.desc).map (fun d => d.parameters.length) = some 2 := by decide +kernel
set_option maxRecDepth 100000 in
theorem kX3_partOf (l : Launch) (w : Wd) (P : Shp) (n : Nat) {s : St} {a0 : Int} {a1 : Int} {a2 : Int} {res : Int} (h : fX3_partOf P s a0 a1 a2 = some res) : Ct l w yX3_partOf cX3_partOf 4 (some FieldType.int) rX3_partOf P n [A w a0, I a1, I a2] s (QI w P n res s) :=
  Ct.of h (by decide) (Nat.le_of_ble_eq_true rfl) (lv := [(0, A w a0), (1, I a1), (2, I a2)]) rfl fun X hl hRm C hO => by
  subst hl
  unfold fX3_partOf
  refine v_iload_n C dX3_partOf_0 rfl (j := 1) rfl ?_
  refine v_if_lt (tgt := 12) C dX3_partOf_1 rfl ?_ ?_
  · skip
    refine v_iconst C dX3_partOf_12 ?_
    exact v_iret C rfl hO pS dX3_partOf_13
  · skip
    refine v_iload_n C dX3_partOf_4 rfl (j := 1) rfl ?_
    refine v_aload_n C dX3_partOf_5 rfl (j := 0) rfl ?_
    refine v_getI C 0 rfl (T := TX3) rfl inB3 (by decide) (by decide) rfl tw_233 dX3_partOf_6 (fun x1 => ?_)
    refine v_icmp_lt (tgt := 14) C dX3_partOf_9 rfl ?_ ?_
    · skip
      refine v_aload_n C dX3_partOf_14 rfl (j := 0) rfl ?_
      refine v_getI C 1 rfl (T := TX3) rfl inB3 (by decide) (by decide) rfl tw_234 dX3_partOf_15 (fun x2 => ?_)
      refine v_iconst C dX3_partOf_18 ?_
      refine v_isub C dX3_partOf_19 ?_
      refine v_iload_n C dX3_partOf_20 rfl (j := 1) rfl ?_
      refine v_isub C dX3_partOf_21 ?_
      refine v_bipush C dX3_partOf_22 (by decide) ?_
      refine v_callS_rI C [I ((x2 - 1) - a1), I 24] [] (Cee.of (rm := rJ9_floorMod_7cf53) tw_429 tw_14 hJ9_floorMod_7cf53 rfl rfl hRm (Nat.le_of_ble_eq_true rfl) (Nat.le_of_ble_eq_true rfl)) (fun x h => kJ9_floorMod_7cf53 X.2.1 w P n h) tw_912 tw_428 rfl rfl (Nat.le_of_ble_eq_true rfl) ⟨Nat.zero_le _, Nat.zero_le _⟩ dX3_partOf_24 (fun x3 => ?_)
      refine v_istore_n C [(3, I x3), (0, A w a0), (1, I a1), (2, I a2)] dX3_partOf_27 rfl (by decide) rfl ?_
      refine v_iload_n C dX3_partOf_28 rfl (j := 3) rfl ?_
      refine v_lsw C (vals := [0, 1]) (tgts := [56, 63]) (dt := 70) dX3_partOf_29 rfl (by decide) rfl (by decide) ?_ ?_
      · skip
        refine v_sw_cons ?_ ?_
        · skip
          refine v_aload_n C dX3_partOf_56 rfl (j := 1) rfl ?_
          refine v_getR C 2 rfl (T := TX3) rfl inB3 (by decide) (by decide) rfl tw_235 dX3_partOf_57 (fun x4 => ?_)
          refine v_iload_n C dX3_partOf_60 rfl (j := 0) rfl ?_
          refine v_iald C dX3_partOf_61 (fun x5 => ?_)
          exact v_iret C rfl hO pS dX3_partOf_62
        refine v_sw_cons ?_ ?_
        · skip
          refine v_aload_n C dX3_partOf_63 rfl (j := 1) rfl ?_
          refine v_getR C 3 rfl (T := TX3) rfl inB3 (by decide) (by decide) rfl tw_236 dX3_partOf_64 (fun x6 => ?_)
          refine v_iload_n C dX3_partOf_67 rfl (j := 0) rfl ?_
          refine v_iald C dX3_partOf_68 (fun x7 => ?_)
          exact v_iret C rfl hO pS dX3_partOf_69
        exact v_sw_nil
      · skip
        refine v_aload_n C dX3_partOf_70 rfl (j := 1) rfl ?_
        refine v_getR C 4 rfl (T := TX3) rfl inB3 (by decide) (by decide) rfl tw_237 dX3_partOf_71 (fun x8 => ?_)
        refine v_iload_n C dX3_partOf_74 rfl (j := 0) rfl ?_
        refine v_iald C dX3_partOf_75 (fun x9 => ?_)
        exact v_iret C rfl hO pS dX3_partOf_76
    · skip
      refine v_iconst C dX3_partOf_12 ?_
      exact v_iret C rfl hO pS dX3_partOf_13
-- ForesightHub$Plan.clear
theorem hX4_clear : yX4_clear.cls ≠ "java/lang/invoke/MethodHandle" ∧ yX4_clear.cls ≠ "java/lang/invoke/VarHandle" ∧ (parseMethodDescriptor yX4_clear.desc).map (fun d => d.parameters.length) = some 0 := by decide +kernel
set_option maxRecDepth 100000 in
theorem kX4_clear (l : Launch) (w : Wd) (P : Shp) (n : Nat) {s : St} {a0 : Int} {res : St} (h : fX4_clear P s a0 = some res) : Ct l w yX4_clear cX4_clear 1 (Option.none : Option FieldType) rX4_clear P n [A w a0] s (QV w P n res) :=
  Ct.of h (by decide) (Nat.le_of_ble_eq_true rfl) (lv := [(0, A w a0)]) rfl fun X hl hRm C hO => by
  subst hl
  unfold fX4_clear
  refine v_aload_n C dX4_clear_0 rfl (j := 0) rfl ?_
  refine v_iconst C dX4_clear_1 ?_
  refine v_putI C 0 rfl (T := TX4) rfl inB4 (by decide) tyX4_ok nmX4 (by decide) rfl rfl tw_47 dX4_clear_2 rfl (fun s1 => ?_)
  refine v_aload_n C dX4_clear_5 rfl (j := 0) rfl ?_
  refine v_iconst C dX4_clear_6 ?_
  refine v_putI C 1 rfl (T := TX4) rfl inB4 (by decide) tyX4_ok nmX4 (by decide) rfl rfl tw_51 dX4_clear_7 rfl (fun s2 => ?_)
  refine v_aload_n C dX4_clear_10 rfl (j := 0) rfl ?_
  refine v_bipush C dX4_clear_11 (by decide) ?_
  refine v_putI C 2 rfl (T := TX4) rfl inB4 (by decide) tyX4_ok nmX4 (by decide) rfl rfl tw_56 dX4_clear_13 rfl (fun s3 => ?_)
  refine v_aload_n C dX4_clear_16 rfl (j := 0) rfl ?_
  refine v_iconst C dX4_clear_17 ?_
  refine v_putI C 3 rfl (T := TX4) rfl inB4 (by decide) tyX4_ok nmX4 (by decide) rfl rfl tw_58 dX4_clear_18 rfl (fun s4 => ?_)
  refine v_aload_n C dX4_clear_21 rfl (j := 0) rfl ?_
  refine v_iconst C dX4_clear_22 ?_
  refine v_putI C 4 rfl (T := TX4) rfl inB4 (by decide) tyX4_ok nmX4 (by decide) rfl rfl tw_62 dX4_clear_23 rfl (fun s5 => ?_)
  refine v_aload_n C dX4_clear_26 rfl (j := 0) rfl ?_
  refine v_iconst C dX4_clear_27 ?_
  refine v_putI C 5 rfl (T := TX4) rfl inB4 (by decide) tyX4_ok nmX4 (by decide) rfl rfl tw_66 dX4_clear_28 rfl (fun s6 => ?_)
  refine v_aload_n C dX4_clear_31 rfl (j := 0) rfl ?_
  refine v_iconst C dX4_clear_32 ?_
  refine v_putI C 6 rfl (T := TX4) rfl inB4 (by decide) tyX4_ok nmX4 (by decide) rfl rfl tw_71 dX4_clear_33 rfl (fun s7 => ?_)
  exact v_vret C rfl hO (fun h => Option.some.inj h) dX4_clear_36
-- ForesightHub$Reader.exchangePlan
theorem hX5_exchangePlan : yX5_exchangePlan.cls ≠ "java/lang/invoke/MethodHandle" ∧ yX5_exchangePlan.cls ≠ "java/lang/invoke/VarHandle" ∧ (parseMethodDescriptor yX5_exchangePlan.desc).map (fun d => d.parameters.length) = some 1 := by decide +kernel
set_option maxRecDepth 100000 in
theorem kX5_exchangePlan (l : Launch) (w : Wd) (P : Shp) (n : Nat) {s : St} {a0 : Int} {a1 : Int} {res : Int × St} (h : fX5_exchangePlan P s a0 a1 = some res) : Ct l w yX5_exchangePlan cX5_exchangePlan 3 (some (FieldType.object "ForesightHub$Plan")) rX5_exchangePlan P n [A w a0, A w a1] s (QR w P n res.1 res.2) :=
  Ct.of h (by decide) (Nat.le_of_ble_eq_true rfl) (lv := [(0, A w a0), (1, A w a1)]) rfl fun X hl hRm C hO => by
  subst hl
  unfold fX5_exchangePlan
  refine v_aload_n C dX5_exchangePlan_0 rfl (j := 0) rfl ?_
  refine v_getR C 9 rfl (T := TX5) rfl inB5 (by decide) (by decide) rfl tw_151 dX5_exchangePlan_1 (fun x1 => ?_)
  refine v_astore_n C [(2, A w x1), (0, A w a0), (1, A w a1)] dX5_exchangePlan_4 rfl (by decide) rfl ?_
  refine v_aload_n C dX5_exchangePlan_5 rfl (j := 1) rfl ?_
  refine v_aload_n C dX5_exchangePlan_6 rfl (j := 2) rfl ?_
  refine v_putR C 9 rfl (T := TX5) rfl inB5 (by decide) tyX5_ok nmX5 (by decide) rfl rfl tw_151 dX5_exchangePlan_7 (Or.inl ⟨_, rfl⟩) (fun s2 => ?_)
  refine v_aload_n C dX5_exchangePlan_10 rfl (j := 0) rfl ?_
  exact v_aret C rfl hO pI dX5_exchangePlan_11
-- ForesightHub$Reader.faultAnswer
theorem hX5_faultAnswer : yX5_faultAnswer.cls ≠ "java/lang/invoke/MethodHandle" ∧ yX5_faultAnswer.cls ≠ "java/lang/invoke/VarHandle" ∧ (parseMethodDescriptor yX5_faultAnswer.desc).map (fun d => d.parameters.length) = some 0 := by decide +kernel
set_option maxRecDepth 100000 in
theorem kX5_faultAnswer (l : Launch) (w : Wd) (P : Shp) (n : Nat) {s : St} {a0 : Int} {res : Int} (h : fX5_faultAnswer P s a0 = some res) : Ct l w yX5_faultAnswer cX5_faultAnswer 1 (some FieldType.int) rX5_faultAnswer P n [A w a0] s (QI w P n res s) :=
  Ct.of h (by decide) (Nat.le_of_ble_eq_true rfl) (lv := [(0, A w a0)]) rfl fun X hl hRm C hO => by
  subst hl
  unfold fX5_faultAnswer
  refine v_bipush C dX5_faultAnswer_0 (by decide) ?_
  refine v_bipush C dX5_faultAnswer_2 (by decide) ?_
  refine v_aload_n C dX5_faultAnswer_4 rfl (j := 0) rfl ?_
  refine v_getI C 7 rfl (T := TX5) rfl inB5 (by decide) (by decide) rfl tw_149 dX5_faultAnswer_5 (fun x1 => ?_)
  refine v_imul C dX5_faultAnswer_8 ?_
  refine v_aload_n C dX5_faultAnswer_9 rfl (j := 0) rfl ?_
  refine v_getI C 8 rfl (T := TX5) rfl inB5 (by decide) (by decide) rfl tw_150 dX5_faultAnswer_10 (fun x2 => ?_)
  refine v_iadd C dX5_faultAnswer_13 ?_
  refine v_isub C dX5_faultAnswer_14 ?_
  exact v_iret C rfl hO pS dX5_faultAnswer_15
-- ForesightHub$Reader.kindOfSign
theorem hX5_kindOfSign : yX5_kindOfSign.cls ≠ "java/lang/invoke/MethodHandle" ∧ yX5_kindOfSign.cls ≠ "java/lang/invoke/VarHandle" ∧ (parseMethodDescriptor yX5_kindOfSign.desc).map (fun d => d.parameters.length) = some 1 := by decide +kernel
set_option maxRecDepth 100000 in
theorem kX5_kindOfSign (l : Launch) (w : Wd) (P : Shp) (n : Nat) {s : St} {a0 : Int} {res : Int} (h : fX5_kindOfSign P s a0 = some res) : Ct l w yX5_kindOfSign cX5_kindOfSign 1 (some FieldType.int) rX5_kindOfSign P n [I a0] s (QI w P n res s) :=
  Ct.of h (by decide) (Nat.le_of_ble_eq_true rfl) (lv := [(0, I a0)]) rfl fun X hl hRm C hO => by
  subst hl
  unfold fX5_kindOfSign
  refine v_iload_n C dX5_kindOfSign_0 rfl (j := 0) rfl ?_
  refine v_bipush C dX5_kindOfSign_1 (by decide) ?_
  refine v_icmp_eq (tgt := 12) C dX5_kindOfSign_3 rfl ?_ ?_
  · skip
    refine v_iconst C dX5_kindOfSign_12 ?_
    exact v_iret C rfl hO pS dX5_kindOfSign_13
  · skip
    refine v_iload_n C dX5_kindOfSign_6 rfl (j := 0) rfl ?_
    refine v_bipush C dX5_kindOfSign_7 (by decide) ?_
    refine v_icmp_ne (tgt := 14) C dX5_kindOfSign_9 rfl ?_ ?_
    · skip
      refine v_iload_n C dX5_kindOfSign_14 rfl (j := 0) rfl ?_
      refine v_bipush C dX5_kindOfSign_15 (by decide) ?_
      refine v_jnt (fun (k28 : Option (Int)) => V X w 1 P n 0 0 res (k28) s 28 [(0, I a0)] []) ?_ ?_
      · skip
        refine v_iload_n C dX5_kindOfSign_28 rfl (j := 0) rfl ?_
        refine v_bipush C dX5_kindOfSign_29 (by decide) ?_
        refine v_jnt (fun (k42 : Option (Int)) => V X w 1 P n 0 0 res (k42) s 42 [(0, I a0)] []) ?_ ?_
        · skip
          refine v_iload_n C dX5_kindOfSign_42 rfl (j := 0) rfl ?_
          refine v_bipush C dX5_kindOfSign_43 (by decide) ?_
          refine v_icmp_ne (tgt := 52) C dX5_kindOfSign_45 rfl ?_ ?_
          · skip
            refine v_iconst C dX5_kindOfSign_52 ?_
            exact v_iret C rfl hO pS dX5_kindOfSign_53
          · skip
            refine v_iconst C dX5_kindOfSign_48 ?_
            refine v_goto (tgt := 53) C dX5_kindOfSign_49 rfl ?_
            exact v_iret C rfl hO pS dX5_kindOfSign_53
        intro k42 hk42
        refine v_icmp_lt (tgt := 42) C dX5_kindOfSign_31 rfl ?_ ?_
        · skip
          exact hk42
        · skip
          refine v_iload_n C dX5_kindOfSign_34 rfl (j := 0) rfl ?_
          refine v_bipush C dX5_kindOfSign_35 (by decide) ?_
          refine v_icmp_gt (tgt := 42) C dX5_kindOfSign_37 rfl ?_ ?_
          · skip
            exact hk42
          · skip
            refine v_iconst C dX5_kindOfSign_40 ?_
            exact v_iret C rfl hO pS dX5_kindOfSign_41
      intro k28 hk28
      refine v_icmp_lt (tgt := 28) C dX5_kindOfSign_17 rfl ?_ ?_
      · skip
        exact hk28
      · skip
        refine v_iload_n C dX5_kindOfSign_20 rfl (j := 0) rfl ?_
        refine v_bipush C dX5_kindOfSign_21 (by decide) ?_
        refine v_icmp_gt (tgt := 28) C dX5_kindOfSign_23 rfl ?_ ?_
        · skip
          exact hk28
        · skip
          refine v_iconst C dX5_kindOfSign_26 ?_
          exact v_iret C rfl hO pS dX5_kindOfSign_27
    · skip
      refine v_iconst C dX5_kindOfSign_12 ?_
      exact v_iret C rfl hO pS dX5_kindOfSign_13
-- ForesightHub$Reader.advance
set_option maxRecDepth 100000 in
theorem vX5_advance_L0 {X : Cxt} {w : Wd} {P : Shp} {n : Nat} (res : St) (hRm : X.2.2.2.1 = rX5_advance) (C : Cok X w cX5_advance 3 RX5 (Option.none : Option FieldType)) (hO : Own X w 0 0 (QV w P n res))  (c0 : Int) (kE40 : St → Option (St)) (hE40 : ∀ (se : St), V X w 3 P n 0 0 res (kE40 se) se 40 [(0, A w c0)] []) : ∀ (fuel : Nat) (s : St), V X w 3 P n 0 0 res (fX5_advance_L0 P c0 kE40 fuel s) s 0 [(0, A w c0)] [] := by
  intro fuel
  induction fuel with
  | zero => intro s; exact v_none
  | succ m ih =>
    intro s
    rw [fX5_advance_L0]
    refine v_aload_n C dX5_advance_0 rfl (j := 0) rfl ?_
    refine v_getI C 3 rfl (T := TX5) rfl inB5 (by decide) (by decide) rfl tw_145 dX5_advance_1 (fun x1 => ?_)
    refine v_aload_n C dX5_advance_4 rfl (j := 0) rfl ?_
    refine v_getI C 2 rfl (T := TX5) rfl inB5 (by decide) (by decide) rfl tw_144 dX5_advance_5 (fun x2 => ?_)
    refine v_icmp_ge (tgt := 40) C dX5_advance_8 rfl ?_ ?_
    · skip
      exact hE40 s
    · skip
      refine v_aload_n C dX5_advance_11 rfl (j := 0) rfl ?_
      refine v_getR C 0 rfl (T := TX5) rfl inB5 (by decide) (by decide) rfl tw_141 dX5_advance_12 (fun x3 => ?_)
      refine v_aload_n C dX5_advance_15 rfl (j := 0) rfl ?_
      refine v_getI C 3 rfl (T := TX5) rfl inB5 (by decide) (by decide) rfl tw_145 dX5_advance_16 (fun x4 => ?_)
      refine v_bald C dX5_advance_19 (fun x5 => ?_)
      refine v_callS_rI C [I x5] [] (Cee.of (rm := rX5_kindOfSign) tw_550 tw_2 hX5_kindOfSign rfl rfl hRm (Nat.le_of_ble_eq_true rfl) (Nat.le_of_ble_eq_true rfl)) (fun x h => kX5_kindOfSign X.2.1 w P n h) tw_548 tw_549 rfl rfl (Nat.le_of_ble_eq_true rfl) ⟨Nat.zero_le _, Nat.zero_le _⟩ dX5_advance_20 (fun x6 => ?_)
      refine v_iconst C dX5_advance_23 ?_
      refine v_icmp_ne (tgt := 40) C dX5_advance_24 rfl ?_ ?_
      · skip
        exact hE40 s
      · skip
        refine v_aload_n C dX5_advance_27 rfl (j := 0) rfl ?_
        refine v_dup C dX5_advance_28 rfl ?_
        refine v_getI C 3 rfl (T := TX5) rfl inB5 (by decide) (by decide) rfl tw_145 dX5_advance_29 (fun x7 => ?_)
        refine v_iconst C dX5_advance_32 ?_
        refine v_iadd C dX5_advance_33 ?_
        refine v_putI C 3 rfl (T := TX5) rfl inB5 (by decide) tyX5_ok nmX5 (by decide) rfl rfl tw_145 dX5_advance_34 rfl (fun s8 => ?_)
        refine v_goto (tgt := 0) C dX5_advance_37 rfl ?_
        exact ih s8
set_option maxRecDepth 100000 in
theorem vX5_advance_L150 {X : Cxt} {w : Wd} {P : Shp} {n : Nat} (res : St) (hRm : X.2.2.2.1 = rX5_advance) (C : Cok X w cX5_advance 3 RX5 (Option.none : Option FieldType)) (hO : Own X w 0 0 (QV w P n res))  (c0 : Int) (c1 : Int) (c2 : Int) (kE217 : St → Option (St)) (hE217 : ∀ (se : St), V X w 3 P n 0 0 res (kE217 se) se 217 [(0, A w c0)] []) : ∀ (fuel : Nat) (s : St), V X w 3 P n 0 0 res (fX5_advance_L150 P c0 c1 c2 kE217 fuel s) s 150 [(0, A w c0), (1, I c1), (2, I c2)] [] := by
  intro fuel
  induction fuel with
  | zero => intro s; exact v_none
  | succ m ih =>
    intro s
    rw [fX5_advance_L150]
    refine v_aload_n C dX5_advance_150 rfl (j := 0) rfl ?_
    refine v_getI C 3 rfl (T := TX5) rfl inB5 (by decide) (by decide) rfl tw_145 dX5_advance_151 (fun x22 => ?_)
    refine v_aload_n C dX5_advance_154 rfl (j := 0) rfl ?_
    refine v_getI C 2 rfl (T := TX5) rfl inB5 (by decide) (by decide) rfl tw_144 dX5_advance_155 (fun x23 => ?_)
    refine v_icmp_ge (tgt := 217) C dX5_advance_158 rfl ?_ ?_
    · skip
      refine v_sub [(0, A w c0)] [0] rfl ?_
      exact hE217 s
    · skip
      refine v_aload_n C dX5_advance_161 rfl (j := 0) rfl ?_
      refine v_getR C 0 rfl (T := TX5) rfl inB5 (by decide) (by decide) rfl tw_141 dX5_advance_162 (fun x24 => ?_)
      refine v_aload_n C dX5_advance_165 rfl (j := 0) rfl ?_
      refine v_getI C 3 rfl (T := TX5) rfl inB5 (by decide) (by decide) rfl tw_145 dX5_advance_166 (fun x25 => ?_)
      refine v_bald C dX5_advance_169 (fun x26 => ?_)
      refine v_callS_rI C [I x26] [] (Cee.of (rm := rX5_kindOfSign) tw_550 tw_2 hX5_kindOfSign rfl rfl hRm (Nat.le_of_ble_eq_true rfl) (Nat.le_of_ble_eq_true rfl)) (fun x h => kX5_kindOfSign X.2.1 w P n h) tw_548 tw_549 rfl rfl (Nat.le_of_ble_eq_true rfl) ⟨Nat.zero_le _, Nat.zero_le _⟩ dX5_advance_170 (fun x27 => ?_)
      refine v_aload_n C dX5_advance_173 rfl (j := 0) rfl ?_
      refine v_getI C 4 rfl (T := TX5) rfl inB5 (by decide) (by decide) rfl tw_146 dX5_advance_174 (fun x28 => ?_)
      refine v_icmp_ne (tgt := 217) C dX5_advance_177 rfl ?_ ?_
      · skip
        refine v_sub [(0, A w c0)] [0] rfl ?_
        exact hE217 s
      · skip
        refine v_aload_n C dX5_advance_180 rfl (j := 0) rfl ?_
        refine v_aload_n C dX5_advance_181 rfl (j := 0) rfl ?_
        refine v_getJ C 6 rfl (T := TX5) rfl inB5 (by decide) (by decide) rfl tw_148 dX5_advance_182 (fun x29 => ?_)
        refine v_iload_n C dX5_advance_185 rfl (j := 1) rfl ?_
        refine v_i2l C dX5_advance_186 (fun x30 => ?_)
        refine v_lmul C dX5_advance_187 ?_
        refine v_aload_n C dX5_advance_188 rfl (j := 0) rfl ?_
        refine v_getR C 0 rfl (T := TX5) rfl inB5 (by decide) (by decide) rfl tw_141 dX5_advance_189 (fun x31 => ?_)
        refine v_aload_n C dX5_advance_192 rfl (j := 0) rfl ?_
        refine v_getI C 3 rfl (T := TX5) rfl inB5 (by decide) (by decide) rfl tw_145 dX5_advance_193 (fun x32 => ?_)
        refine v_bald C dX5_advance_196 (fun x33 => ?_)
        refine v_iload_n C dX5_advance_197 rfl (j := 2) rfl ?_
        refine v_isub C dX5_advance_198 ?_
        refine v_i2l C dX5_advance_199 (fun x34 => ?_)
        refine v_ladd C dX5_advance_200 ?_
        refine v_putJ C 6 rfl (T := TX5) rfl inB5 (by decide) tyX5_ok nmX5 (by decide) rfl rfl tw_148 dX5_advance_201 rfl (fun s35 => ?_)
        refine v_aload_n C dX5_advance_204 rfl (j := 0) rfl ?_
        refine v_dup C dX5_advance_205 rfl ?_
        refine v_getI C 3 rfl (T := TX5) rfl inB5 (by decide) (by decide) rfl tw_145 dX5_advance_206 (fun x36 => ?_)
        refine v_iconst C dX5_advance_209 ?_
        refine v_iadd C dX5_advance_210 ?_
        refine v_putI C 3 rfl (T := TX5) rfl inB5 (by decide) tyX5_ok nmX5 (by decide) rfl rfl tw_145 dX5_advance_211 rfl (fun s37 => ?_)
        refine v_goto (tgt := 150) C dX5_advance_214 rfl ?_
        exact ih s37
theorem hX5_advance : yX5_advance.cls ≠ "java/lang/invoke/MethodHandle" ∧ yX5_advance.cls ≠ "java/lang/invoke/VarHandle" ∧ (parseMethodDescriptor yX5_advance.desc).map (fun d => d.parameters.length) = some 0 := by decide +kernel
set_option maxRecDepth 100000 in
theorem kX5_advance (l : Launch) (w : Wd) (P : Shp) (n : Nat) {s : St} {a0 : Int} {res : St} (h : fX5_advance P s a0 = some res) : Ct l w yX5_advance cX5_advance 3 (Option.none : Option FieldType) rX5_advance P n [A w a0] s (QV w P n res) :=
  Ct.of h (by decide) (Nat.le_of_ble_eq_true rfl) (lv := [(0, A w a0)]) rfl fun X hl hRm C hO => by
  subst hl
  unfold fX5_advance
  refine vX5_advance_L0 res hRm C hO a0 _ ?_ 1000 s
  · intro s9
    refine v_aload_n C dX5_advance_40 rfl (j := 0) rfl ?_
    refine v_aload_n C dX5_advance_41 rfl (j := 0) rfl ?_
    refine v_getI C 3 rfl (T := TX5) rfl inB5 (by decide) (by decide) rfl tw_145 dX5_advance_42 (fun x10 => ?_)
    refine v_putI C 5 rfl (T := TX5) rfl inB5 (by decide) tyX5_ok nmX5 (by decide) rfl rfl tw_147 dX5_advance_45 rfl (fun s11 => ?_)
    refine v_aload_n C dX5_advance_48 rfl (j := 0) rfl ?_
    refine v_aload_n C dX5_advance_49 rfl (j := 0) rfl ?_
    refine v_getI C 3 rfl (T := TX5) rfl inB5 (by decide) (by decide) rfl tw_145 dX5_advance_50 (fun x12 => ?_)
    refine v_aload_n C dX5_advance_53 rfl (j := 0) rfl ?_
    refine v_getI C 2 rfl (T := TX5) rfl inB5 (by decide) (by decide) rfl tw_144 dX5_advance_54 (fun x13 => ?_)
    refine v_jnt (fun (k76 : Int → Option (St)) => ∀ (x14 : Int), V X w 3 P n 0 0 res (k76 x14) s11 76 [(0, A w a0)] [I x14, A w a0]) ?_ ?_
    · intro x14
      refine v_putI C 4 rfl (T := TX5) rfl inB5 (by decide) tyX5_ok nmX5 (by decide) rfl rfl tw_146 dX5_advance_76 rfl (fun s15 => ?_)
      refine v_aload_n C dX5_advance_79 rfl (j := 0) rfl ?_
      refine v_getI C 4 rfl (T := TX5) rfl inB5 (by decide) (by decide) rfl tw_146 dX5_advance_80 (fun x16 => ?_)
      refine v_iconst C dX5_advance_83 ?_
      refine v_jnt (fun (k113 : Option (St)) => V X w 3 P n 0 0 res (k113) s15 113 [(0, A w a0)] []) ?_ ?_
      · skip
        refine v_aload_n C dX5_advance_113 rfl (j := 0) rfl ?_
        refine v_getI C 4 rfl (T := TX5) rfl inB5 (by decide) (by decide) rfl tw_146 dX5_advance_114 (fun x17 => ?_)
        refine v_iconst C dX5_advance_117 ?_
        refine v_jnt (fun (k128 : Int → Option (St)) => ∀ (x18 : Int), V X w 3 P n 0 0 res (k128 x18) s15 128 [(0, A w a0)] [I x18]) ?_ ?_
        · intro x18
          refine v_istore_n C [(1, I x18), (0, A w a0)] dX5_advance_128 rfl (by decide) rfl ?_
          refine v_aload_n C dX5_advance_129 rfl (j := 1) rfl ?_
          refine v_getI C 4 rfl (T := TX5) rfl inB5 (by decide) (by decide) rfl tw_146 dX5_advance_130 (fun x19 => ?_)
          refine v_iconst C dX5_advance_133 ?_
          refine v_jnt (fun (k144 : Int → Option (St)) => ∀ (x20 : Int), V X w 3 P n 0 0 res (k144 x20) s15 144 [(0, A w a0), (1, I x18)] [I x20]) ?_ ?_
          · intro x20
            refine v_istore_n C [(2, I x20), (0, A w a0), (1, I x18)] dX5_advance_144 rfl (by decide) rfl ?_
            refine v_aload_n C dX5_advance_145 rfl (j := 1) rfl ?_
            refine v_lconst (z := 0) C dX5_advance_146 rfl ?_
            refine v_putJ C 6 rfl (T := TX5) rfl inB5 (by decide) tyX5_ok nmX5 (by decide) rfl rfl tw_148 dX5_advance_147 rfl (fun s21 => ?_)
            refine v_sub [(0, A w a0), (1, I x18), (2, I x20)] [1, 2, 0] rfl ?_
            refine vX5_advance_L150 res hRm C hO a0 x18 x20 _ ?_ 1000 s21
            · intro s38
              refine v_aload_n C dX5_advance_217 rfl (j := 0) rfl ?_
              refine v_getI C 3 rfl (T := TX5) rfl inB5 (by decide) (by decide) rfl tw_145 dX5_advance_218 (fun x39 => ?_)
              refine v_aload_n C dX5_advance_221 rfl (j := 0) rfl ?_
              refine v_getI C 5 rfl (T := TX5) rfl inB5 (by decide) (by decide) rfl tw_147 dX5_advance_222 (fun x40 => ?_)
              refine v_isub C dX5_advance_225 ?_
              refine v_aload_n C dX5_advance_226 rfl (j := 0) rfl ?_
              refine v_getI C 4 rfl (T := TX5) rfl inB5 (by decide) (by decide) rfl tw_146 dX5_advance_227 (fun x41 => ?_)
              refine v_iconst C dX5_advance_230 ?_
              refine v_jnt (fun (k240 : Int → Option (St)) => ∀ (x42 : Int), V X w 3 P n 0 0 res (k240 x42) s38 240 [(0, A w a0)] [I x42, I (x39 - x40)]) ?_ ?_
              · intro x42
                refine v_icmp_le (tgt := 248) C dX5_advance_240 rfl ?_ ?_
                · skip
                  exact v_vret C rfl hO (fun h => Option.some.inj h) dX5_advance_248
                · skip
                  refine v_aload_n C dX5_advance_243 rfl (j := 0) rfl ?_
                  refine v_iconst C dX5_advance_244 ?_
                  refine v_putI C 4 rfl (T := TX5) rfl inB5 (by decide) tyX5_ok nmX5 (by decide) rfl rfl tw_146 dX5_advance_245 rfl (fun s43 => ?_)
                  exact v_vret C rfl hO (fun h => Option.some.inj h) dX5_advance_248
              intro k240 hk240
              refine v_icmp_ne (tgt := 239) C dX5_advance_231 rfl ?_ ?_
              · skip
                refine v_iconst C dX5_advance_239 ?_
                exact hk240 4
              · skip
                refine v_bipush C dX5_advance_234 (by decide) ?_
                refine v_goto (tgt := 240) C dX5_advance_236 rfl ?_
                exact hk240 8
          intro k144 hk144
          refine v_icmp_ne (tgt := 142) C dX5_advance_134 rfl ?_ ?_
          · skip
            refine v_bipush C dX5_advance_142 (by decide) ?_
            refine v_sub [(0, A w a0), (1, I x18)] [1, 0] rfl ?_
            exact hk144 48
          · skip
            refine v_bipush C dX5_advance_137 (by decide) ?_
            refine v_goto (tgt := 144) C dX5_advance_139 rfl ?_
            refine v_sub [(0, A w a0), (1, I x18)] [1, 0] rfl ?_
            exact hk144 96
        intro k128 hk128
        refine v_icmp_ne (tgt := 126) C dX5_advance_118 rfl ?_ ?_
        · skip
          refine v_bipush C dX5_advance_126 (by decide) ?_
          exact hk128 10
        · skip
          refine v_bipush C dX5_advance_121 (by decide) ?_
          refine v_goto (tgt := 128) C dX5_advance_123 rfl ?_
          exact hk128 27
      intro k113 hk113
      refine v_icmp_eq (tgt := 113) C dX5_advance_84 rfl ?_ ?_
      · skip
        exact hk113
      · skip
        refine v_aload_n C dX5_advance_87 rfl (j := 0) rfl ?_
        refine v_getI C 4 rfl (T := TX5) rfl inB5 (by decide) (by decide) rfl tw_146 dX5_advance_88 (fun x44 => ?_)
        refine v_iconst C dX5_advance_91 ?_
        refine v_icmp_eq (tgt := 113) C dX5_advance_92 rfl ?_ ?_
        · skip
          exact hk113
        · skip
          refine v_aload_n C dX5_advance_95 rfl (j := 0) rfl ?_
          refine v_aload_n C dX5_advance_96 rfl (j := 0) rfl ?_
          refine v_getI C 3 rfl (T := TX5) rfl inB5 (by decide) (by decide) rfl tw_145 dX5_advance_97 (fun x45 => ?_)
          refine v_iconst C dX5_advance_100 ?_
          refine v_iadd C dX5_advance_101 ?_
          refine v_aload_n C dX5_advance_102 rfl (j := 0) rfl ?_
          refine v_getI C 2 rfl (T := TX5) rfl inB5 (by decide) (by decide) rfl tw_144 dX5_advance_103 (fun x46 => ?_)
          refine v_mn C tw_539 tw_397 tw_14 tw_398 (by rw [hRm]; exact Nat.le_of_ble_eq_true rfl) (by rw [hRm]; exact Nat.le_of_ble_eq_true rfl) (Nat.le_of_ble_eq_true rfl) ⟨Nat.zero_le _, Nat.zero_le _⟩ dX5_advance_106 (fun x47 => ?_)
          refine v_putI C 3 rfl (T := TX5) rfl inB5 (by decide) tyX5_ok nmX5 (by decide) rfl rfl tw_145 dX5_advance_109 rfl (fun s48 => ?_)
          exact v_vret C rfl hO (fun h => Option.some.inj h) dX5_advance_112
    intro k76 hk76
    refine v_icmp_ge (tgt := 75) C dX5_advance_57 rfl ?_ ?_
    · skip
      refine v_iconst C dX5_advance_75 ?_
      exact hk76 0
    · skip
      refine v_aload_n C dX5_advance_60 rfl (j := 0) rfl ?_
      refine v_getR C 0 rfl (T := TX5) rfl inB5 (by decide) (by decide) rfl tw_141 dX5_advance_61 (fun x49 => ?_)
      refine v_aload_n C dX5_advance_64 rfl (j := 0) rfl ?_
      refine v_getI C 3 rfl (T := TX5) rfl inB5 (by decide) (by decide) rfl tw_145 dX5_advance_65 (fun x50 => ?_)
      refine v_bald C dX5_advance_68 (fun x51 => ?_)
      refine v_callS_rI C [I x51] [A w a0] (Cee.of (rm := rX5_kindOfSign) tw_550 tw_2 hX5_kindOfSign rfl rfl hRm (Nat.le_of_ble_eq_true rfl) (Nat.le_of_ble_eq_true rfl)) (fun x h => kX5_kindOfSign X.2.1 w P n h) tw_548 tw_549 rfl rfl (Nat.le_of_ble_eq_true rfl) ⟨Nat.zero_le _, Nat.zero_le _⟩ dX5_advance_69 (fun x52 => ?_)
      refine v_goto (tgt := 76) C dX5_advance_72 rfl ?_
      exact hk76 x52
