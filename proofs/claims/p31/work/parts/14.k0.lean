/-! CONTRACTS (laid by wip/p31/gen/wmake.py) -/
-- ForesightHub$Reader.hasRoomFor
theorem hX5_hasRoomFor : yX5_hasRoomFor.cls ≠ "java/lang/invoke/MethodHandle" ∧ yX5_hasRoomFor.cls ≠ "java/lang/invoke/VarHandle" ∧ (parseMethodDescriptor yX5_hasRoomFor.desc).map (fun d => d.parameters.length) = some 1 := by decide +kernel
set_option maxRecDepth 100000 in
theorem kX5_hasRoomFor (l : Launch) (w : Wd) (P : Shp) (n : Nat) {s : St} {a0 : Int} {a1 : Int} {res : Int} (h : fX5_hasRoomFor P s a0 a1 = some res) : Ct l w yX5_hasRoomFor cX5_hasRoomFor 2 (some FieldType.boolean) rX5_hasRoomFor P n [A w a0, I a1] s (QI w P n res s) :=
  Ct.of h (by decide) (Nat.le_of_ble_eq_true rfl) (lv := [(0, A w a0), (1, I a1)]) rfl fun X hl hRm C hO => by
  subst hl
  unfold fX5_hasRoomFor
  refine v_aload_n C dX5_hasRoomFor_0 rfl (j := 0) rfl ?_
  refine v_getI C 1 rfl (T := TX5) rfl inB5 (by decide) (by decide) rfl tw_145 dX5_hasRoomFor_1 (fun x1 => ?_)
  refine v_iload_n C dX5_hasRoomFor_4 rfl (j := 1) rfl ?_
  refine v_iadd C dX5_hasRoomFor_5 ?_
  refine v_sipush C dX5_hasRoomFor_6 (by decide) ?_
  refine v_icmp_gt (tgt := 16) C dX5_hasRoomFor_9 rfl ?_ ?_
  · skip
    refine v_iconst C dX5_hasRoomFor_16 ?_
    exact v_zret C rfl hO pS dX5_hasRoomFor_17
  · skip
    refine v_iconst C dX5_hasRoomFor_12 ?_
    refine v_goto (tgt := 17) C dX5_hasRoomFor_13 rfl ?_
    exact v_zret C rfl hO pS dX5_hasRoomFor_17
-- ForesightHub$Reader.addBytesOf
set_option maxRecDepth 100000 in
theorem vX5_addBytesOf_L3 {X : Cxt} {w : Wd} {P : Shp} {n : Nat} (res : St) (hRm : X.2.2.2.1 = rX5_addBytesOf) (C : Cok X w cX5_addBytesOf 3 RX5 (Option.none : Option FieldType)) (hO : Own X w 0 0 (QV w P n res))  (c0 : Int) (c1 : Int) (kE46 : St → Option (St)) (hE46 : ∀ (se : St), V X w 3 P n 0 0 res (kE46 se) se 46 [] []) : ∀ (fuel : Nat) (p2 : Int) (s : St), V X w 3 P n 0 0 res (fX5_addBytesOf_L3 P c0 c1 kE46 fuel p2 s) s 3 [(0, A w c0), (1, I c1), (2, I p2)] [] := by
  intro fuel
  induction fuel with
  | zero => intro p2 s; exact v_none
  | succ m ih =>
    intro p2 s
    rw [fX5_addBytesOf_L3]
    refine v_iload_n C dX5_addBytesOf_3 rfl (j := 2) rfl ?_
    refine v_if_lt (tgt := 46) C dX5_addBytesOf_4 rfl ?_ ?_
    · skip
      refine v_sub [] [] rfl ?_
      exact hE46 s
    · skip
      refine v_aload_n C dX5_addBytesOf_7 rfl (j := 0) rfl ?_
      refine v_getI C 1 rfl (T := TX5) rfl inB5 (by decide) (by decide) rfl tw_145 dX5_addBytesOf_8 (fun x1 => ?_)
      refine v_sipush C dX5_addBytesOf_11 (by decide) ?_
      refine v_jnt (fun (k40 : St → Option (St)) => ∀ (s2 : St), V X w 3 P n 0 0 res (k40 s2) s2 40 [(0, A w c0), (1, I c1), (2, I p2)] []) ?_ ?_
      · intro s2
        refine v_iinc C (j := 2) [(0, A w c0), (1, I c1)] dX5_addBytesOf_40 (by decide) rfl (fun _ => rfl) (fun x3 => ?_)
        refine v_goto (tgt := 3) C dX5_addBytesOf_43 rfl ?_
        refine v_sub [(0, A w c0), (1, I c1), (2, I x3)] [1, 2, 0] rfl ?_
        exact ih x3 s2
      intro k40 hk40
      refine v_icmp_ge (tgt := 40) C dX5_addBytesOf_14 rfl ?_ ?_
      · skip
        exact hk40 s
      · skip
        refine v_aload_n C dX5_addBytesOf_17 rfl (j := 0) rfl ?_
        refine v_getR C 0 rfl (T := TX5) rfl inB5 (by decide) (by decide) rfl tw_144 dX5_addBytesOf_18 (fun x4 => ?_)
        refine v_aload_n C dX5_addBytesOf_21 rfl (j := 0) rfl ?_
        refine v_getI C 1 rfl (T := TX5) rfl inB5 (by decide) (by decide) rfl tw_145 dX5_addBytesOf_22 (fun x5 => ?_)
        refine v_iload_n C dX5_addBytesOf_25 rfl (j := 1) rfl ?_
        refine v_iload_n C dX5_addBytesOf_26 rfl (j := 2) rfl ?_
        refine v_iushr C dX5_addBytesOf_27 ?_
        refine v_i2b C dX5_addBytesOf_28 ?_
        refine v_bast C dX5_addBytesOf_29 (fun s6 => ?_)
        refine v_aload_n C dX5_addBytesOf_30 rfl (j := 0) rfl ?_
        refine v_dup C dX5_addBytesOf_31 rfl ?_
        refine v_getI C 1 rfl (T := TX5) rfl inB5 (by decide) (by decide) rfl tw_145 dX5_addBytesOf_32 (fun x7 => ?_)
        refine v_iconst C dX5_addBytesOf_35 ?_
        refine v_iadd C dX5_addBytesOf_36 ?_
        refine v_putI C 1 rfl (T := TX5) rfl inB5 (by decide) tyX5_ok nmX5 (by decide) rfl rfl tw_145 dX5_addBytesOf_37 rfl (fun s8 => ?_)
        exact hk40 s8
theorem hX5_addBytesOf : yX5_addBytesOf.cls ≠ "java/lang/invoke/MethodHandle" ∧ yX5_addBytesOf.cls ≠ "java/lang/invoke/VarHandle" ∧ (parseMethodDescriptor yX5_addBytesOf.desc).map (fun d => d.parameters.length) = some 1 := by decide +kernel
set_option maxRecDepth 100000 in
theorem kX5_addBytesOf (l : Launch) (w : Wd) (P : Shp) (n : Nat) {s : St} {a0 : Int} {a1 : Int} {res : St} (h : fX5_addBytesOf P s a0 a1 = some res) : Ct l w yX5_addBytesOf cX5_addBytesOf 3 (Option.none : Option FieldType) rX5_addBytesOf P n [A w a0, I a1] s (QV w P n res) :=
  Ct.of h (by decide) (Nat.le_of_ble_eq_true rfl) (lv := [(0, A w a0), (1, I a1)]) rfl fun X hl hRm C hO => by
  subst hl
  unfold fX5_addBytesOf
  refine v_bipush C dX5_addBytesOf_0 (by decide) ?_
  refine v_istore_n C [(2, I 24), (0, A w a0), (1, I a1)] dX5_addBytesOf_2 rfl (by decide) rfl ?_
  refine v_sub [(0, A w a0), (1, I a1), (2, I 24)] [1, 2, 0] rfl ?_
  refine vX5_addBytesOf_L3 res hRm C hO a0 a1 _ ?_ 1000 24 s
  · intro s9
    exact v_vret C rfl hO (fun h => Option.some.inj h) dX5_addBytesOf_46
-- ForesightHub.append
theorem hX7_append : yX7_append.cls ≠ "java/lang/invoke/MethodHandle" ∧ yX7_append.cls ≠ "java/lang/invoke/VarHandle" ∧ (parseMethodDescriptor yX7_append.desc).map (fun d => d.parameters.length) = some 5 := by decide +kernel
set_option maxRecDepth 100000 in
theorem kX7_append (l : Launch) (w : Wd) (P : Shp) (n : Nat) {s : St} {a0 : Int} {a1 : Int} {a2 : Int} {a3 : Int} {a4 : Int} {a5 : Int} {res : Int × St} (h : fX7_append P s a0 a1 a2 a3 a4 a5 = some res) : Ct l w yX7_append cX7_append 6 (some FieldType.int) rX7_append P n [A w a0, I a1, I a2, I a3, I a4, I a5] s (QI w P n res.1 res.2) :=
  Ct.of h (by decide) (Nat.le_of_ble_eq_true rfl) (lv := [(0, A w a0), (1, I a1), (2, I a2), (3, I a3), (4, I a4), (5, I a5)]) rfl fun X hl hRm C hO => by
  subst hl
  unfold fX7_append
  refine v_aload_n C dX7_append_0 rfl (j := 0) rfl ?_
  refine v_getR C 0 rfl (T := TX7) rfl inB7 (by decide) (by decide) rfl tw_337 dX7_append_1 (fun x1 => ?_)
  refine v_bipush C dX7_append_4 (by decide) ?_
  refine v_callV_rI C [I 20] [] (Cee.of (rm := rX5_hasRoomFor) tw_816 tw_2 hX5_hasRoomFor rfl rfl hRm (Nat.le_of_ble_eq_true rfl) (Nat.le_of_ble_eq_true rfl)) (fun x h => kX5_hasRoomFor X.2.1 w _ _ h) tw_813 tw_814 tw_815 rfl (ci := 5) rfl (by decide) rfl rfl (Nat.le_of_ble_eq_true rfl) ⟨Nat.zero_le _, Nat.zero_le _⟩ dX7_append_6 (fun x2 => ?_)
  refine v_if_ne (tgt := 14) C dX7_append_9 rfl ?_ ?_
  · skip
    refine v_aload_n C dX7_append_14 rfl (j := 0) rfl ?_
    refine v_getR C 0 rfl (T := TX7) rfl inB7 (by decide) (by decide) rfl tw_337 dX7_append_15 (fun x3 => ?_)
    refine v_iload_n C dX7_append_18 rfl (j := 1) rfl ?_
    refine v_callV_wV C [I a1] [] (Cee.of (rm := rX5_addBytesOf) tw_820 tw_2 hX5_addBytesOf rfl rfl hRm (Nat.le_of_ble_eq_true rfl) (Nat.le_of_ble_eq_true rfl)) (fun x h => kX5_addBytesOf X.2.1 w _ _ h) tw_817 tw_818 tw_819 rfl (ci := 5) rfl (by decide) rfl rfl (Nat.le_of_ble_eq_true rfl) ⟨Nat.zero_le _, Nat.zero_le _⟩ dX7_append_19 (fun s4 => ?_)
    refine v_aload_n C dX7_append_22 rfl (j := 0) rfl ?_
    refine v_getR C 0 rfl (T := TX7) rfl inB7 (by decide) (by decide) rfl tw_337 dX7_append_23 (fun x5 => ?_)
    refine v_iload_n C dX7_append_26 rfl (j := 2) rfl ?_
    refine v_callV_wV C [I a2] [] (Cee.of (rm := rX5_addBytesOf) tw_820 tw_2 hX5_addBytesOf rfl rfl hRm (Nat.le_of_ble_eq_true rfl) (Nat.le_of_ble_eq_true rfl)) (fun x h => kX5_addBytesOf X.2.1 w _ _ h) tw_817 tw_818 tw_819 rfl (ci := 5) rfl (by decide) rfl rfl (Nat.le_of_ble_eq_true rfl) ⟨Nat.zero_le _, Nat.zero_le _⟩ dX7_append_27 (fun s6 => ?_)
    refine v_aload_n C dX7_append_30 rfl (j := 0) rfl ?_
    refine v_getR C 0 rfl (T := TX7) rfl inB7 (by decide) (by decide) rfl tw_337 dX7_append_31 (fun x7 => ?_)
    refine v_iload_n C dX7_append_34 rfl (j := 3) rfl ?_
    refine v_callV_wV C [I a3] [] (Cee.of (rm := rX5_addBytesOf) tw_820 tw_2 hX5_addBytesOf rfl rfl hRm (Nat.le_of_ble_eq_true rfl) (Nat.le_of_ble_eq_true rfl)) (fun x h => kX5_addBytesOf X.2.1 w _ _ h) tw_817 tw_818 tw_819 rfl (ci := 5) rfl (by decide) rfl rfl (Nat.le_of_ble_eq_true rfl) ⟨Nat.zero_le _, Nat.zero_le _⟩ dX7_append_35 (fun s8 => ?_)
    refine v_aload_n C dX7_append_38 rfl (j := 0) rfl ?_
    refine v_getR C 0 rfl (T := TX7) rfl inB7 (by decide) (by decide) rfl tw_337 dX7_append_39 (fun x9 => ?_)
    refine v_iload C dX7_append_42 (j := 4) rfl ?_
    refine v_callV_wV C [I a4] [] (Cee.of (rm := rX5_addBytesOf) tw_820 tw_2 hX5_addBytesOf rfl rfl hRm (Nat.le_of_ble_eq_true rfl) (Nat.le_of_ble_eq_true rfl)) (fun x h => kX5_addBytesOf X.2.1 w _ _ h) tw_817 tw_818 tw_819 rfl (ci := 5) rfl (by decide) rfl rfl (Nat.le_of_ble_eq_true rfl) ⟨Nat.zero_le _, Nat.zero_le _⟩ dX7_append_44 (fun s10 => ?_)
    refine v_aload_n C dX7_append_47 rfl (j := 0) rfl ?_
    refine v_getR C 0 rfl (T := TX7) rfl inB7 (by decide) (by decide) rfl tw_337 dX7_append_48 (fun x11 => ?_)
    refine v_iload C dX7_append_51 (j := 5) rfl ?_
    refine v_callV_wV C [I a5] [] (Cee.of (rm := rX5_addBytesOf) tw_820 tw_2 hX5_addBytesOf rfl rfl hRm (Nat.le_of_ble_eq_true rfl) (Nat.le_of_ble_eq_true rfl)) (fun x h => kX5_addBytesOf X.2.1 w _ _ h) tw_817 tw_818 tw_819 rfl (ci := 5) rfl (by decide) rfl rfl (Nat.le_of_ble_eq_true rfl) ⟨Nat.zero_le _, Nat.zero_le _⟩ dX7_append_53 (fun s12 => ?_)
    refine v_aload_n C dX7_append_56 rfl (j := 0) rfl ?_
    refine v_getR C 0 rfl (T := TX7) rfl inB7 (by decide) (by decide) rfl tw_337 dX7_append_57 (fun x13 => ?_)
    refine v_getI C 1 rfl (T := TX5) rfl inB5 (by decide) (by decide) rfl tw_146 dX7_append_60 (fun x14 => ?_)
    exact v_iret C rfl hO pI dX7_append_63
  · skip
    refine v_iconst C dX7_append_12 ?_
    exact v_iret C rfl hO pI dX7_append_13
-- ForesightHub$Plan.clear
theorem hX4_clear : yX4_clear.cls ≠ "java/lang/invoke/MethodHandle" ∧ yX4_clear.cls ≠ "java/lang/invoke/VarHandle" ∧ (parseMethodDescriptor yX4_clear.desc).map (fun d => d.parameters.length) = some 0 := by decide +kernel
set_option maxRecDepth 100000 in
theorem kX4_clear (l : Launch) (w : Wd) (P : Shp) (n : Nat) {s : St} {a0 : Int} {res : St} (h : fX4_clear P s a0 = some res) : Ct l w yX4_clear cX4_clear 1 (Option.none : Option FieldType) rX4_clear P n [A w a0] s (QV w P n res) :=
  Ct.of h (by decide) (Nat.le_of_ble_eq_true rfl) (lv := [(0, A w a0)]) rfl fun X hl hRm C hO => by
  subst hl
  unfold fX4_clear
  refine v_aload_n C dX4_clear_0 rfl (j := 0) rfl ?_
  refine v_iconst C dX4_clear_1 ?_
  refine v_putI C 0 rfl (T := TX4) rfl inB4 (by decide) tyX4_ok nmX4 (by decide) rfl rfl tw_50 dX4_clear_2 rfl (fun s1 => ?_)
  refine v_aload_n C dX4_clear_5 rfl (j := 0) rfl ?_
  refine v_iconst C dX4_clear_6 ?_
  refine v_putI C 1 rfl (T := TX4) rfl inB4 (by decide) tyX4_ok nmX4 (by decide) rfl rfl tw_54 dX4_clear_7 rfl (fun s2 => ?_)
  refine v_aload_n C dX4_clear_10 rfl (j := 0) rfl ?_
  refine v_bipush C dX4_clear_11 (by decide) ?_
  refine v_putI C 2 rfl (T := TX4) rfl inB4 (by decide) tyX4_ok nmX4 (by decide) rfl rfl tw_59 dX4_clear_13 rfl (fun s3 => ?_)
  refine v_aload_n C dX4_clear_16 rfl (j := 0) rfl ?_
  refine v_iconst C dX4_clear_17 ?_
  refine v_putI C 3 rfl (T := TX4) rfl inB4 (by decide) tyX4_ok nmX4 (by decide) rfl rfl tw_61 dX4_clear_18 rfl (fun s4 => ?_)
  refine v_aload_n C dX4_clear_21 rfl (j := 0) rfl ?_
  refine v_iconst C dX4_clear_22 ?_
  refine v_putI C 4 rfl (T := TX4) rfl inB4 (by decide) tyX4_ok nmX4 (by decide) rfl rfl tw_65 dX4_clear_23 rfl (fun s5 => ?_)
  refine v_aload_n C dX4_clear_26 rfl (j := 0) rfl ?_
  refine v_iconst C dX4_clear_27 ?_
  refine v_putI C 5 rfl (T := TX4) rfl inB4 (by decide) tyX4_ok nmX4 (by decide) rfl rfl tw_69 dX4_clear_28 rfl (fun s6 => ?_)
  refine v_aload_n C dX4_clear_31 rfl (j := 0) rfl ?_
  refine v_iconst C dX4_clear_32 ?_
  refine v_putI C 6 rfl (T := TX4) rfl inB4 (by decide) tyX4_ok nmX4 (by decide) rfl rfl tw_74 dX4_clear_33 rfl (fun s7 => ?_)
  exact v_vret C rfl hO (fun h => Option.some.inj h) dX4_clear_36
-- ForesightHub$Reader.kindOfSign
theorem hX5_kindOfSign : yX5_kindOfSign.cls ≠ "java/lang/invoke/MethodHandle" ∧ yX5_kindOfSign.cls ≠ "java/lang/invoke/VarHandle" ∧ (parseMethodDescriptor yX5_kindOfSign.desc).map (fun d => d.parameters.length) = some 1 := by decide +kernel
set_option maxRecDepth 100000 in
theorem kX5_kindOfSign (l : Launch) (w : Wd) (P : Shp) (n : Nat) {s : St} {a0 : Int} {res : Int} (h : fX5_kindOfSign P s a0 = some res) : Ct l w yX5_kindOfSign cX5_kindOfSign 1 (some FieldType.int) rX5_kindOfSign P n [I a0] s (QI w P n res s) :=
  Ct.of h (by decide) (Nat.le_of_ble_eq_true rfl) (lv := [(0, I a0)]) rfl fun X hl hRm C hO => by
  subst hl
  unfold fX5_kindOfSign
  refine v_iload_n C dX5_kindOfSign_0 rfl (j := 0) rfl ?_
  refine v_bipush C dX5_kindOfSign_1 (by decide) ?_
  refine v_icmp_eq (tgt := 12) C dX5_kindOfSign_3 rfl ?_ ?_
  · skip
    refine v_iconst C dX5_kindOfSign_12 ?_
    exact v_iret C rfl hO pS dX5_kindOfSign_13
  · skip
    refine v_iload_n C dX5_kindOfSign_6 rfl (j := 0) rfl ?_
    refine v_bipush C dX5_kindOfSign_7 (by decide) ?_
    refine v_icmp_ne (tgt := 14) C dX5_kindOfSign_9 rfl ?_ ?_
    · skip
      refine v_iload_n C dX5_kindOfSign_14 rfl (j := 0) rfl ?_
      refine v_bipush C dX5_kindOfSign_15 (by decide) ?_
      refine v_jnt (fun (k28 : Option (Int)) => V X w 1 P n 0 0 res (k28) s 28 [(0, I a0)] []) ?_ ?_
      · skip
        refine v_iload_n C dX5_kindOfSign_28 rfl (j := 0) rfl ?_
        refine v_bipush C dX5_kindOfSign_29 (by decide) ?_
        refine v_jnt (fun (k42 : Option (Int)) => V X w 1 P n 0 0 res (k42) s 42 [(0, I a0)] []) ?_ ?_
        · skip
          refine v_iload_n C dX5_kindOfSign_42 rfl (j := 0) rfl ?_
          refine v_bipush C dX5_kindOfSign_43 (by decide) ?_
          refine v_icmp_ne (tgt := 52) C dX5_kindOfSign_45 rfl ?_ ?_
          · skip
            refine v_iconst C dX5_kindOfSign_52 ?_
            exact v_iret C rfl hO pS dX5_kindOfSign_53
          · skip
            refine v_iconst C dX5_kindOfSign_48 ?_
            refine v_goto (tgt := 53) C dX5_kindOfSign_49 rfl ?_
            exact v_iret C rfl hO pS dX5_kindOfSign_53
        intro k42 hk42
        refine v_icmp_lt (tgt := 42) C dX5_kindOfSign_31 rfl ?_ ?_
        · skip
          exact hk42
        · skip
          refine v_iload_n C dX5_kindOfSign_34 rfl (j := 0) rfl ?_
          refine v_bipush C dX5_kindOfSign_35 (by decide) ?_
          refine v_icmp_gt (tgt := 42) C dX5_kindOfSign_37 rfl ?_ ?_
          · skip
            exact hk42
          · skip
            refine v_iconst C dX5_kindOfSign_40 ?_
            exact v_iret C rfl hO pS dX5_kindOfSign_41
      intro k28 hk28
      refine v_icmp_lt (tgt := 28) C dX5_kindOfSign_17 rfl ?_ ?_
      · skip
        exact hk28
      · skip
        refine v_iload_n C dX5_kindOfSign_20 rfl (j := 0) rfl ?_
        refine v_bipush C dX5_kindOfSign_21 (by decide) ?_
        refine v_icmp_gt (tgt := 28) C dX5_kindOfSign_23 rfl ?_ ?_
        · skip
          exact hk28
        · skip
          refine v_iconst C dX5_kindOfSign_26 ?_
          exact v_iret C rfl hO pS dX5_kindOfSign_27
    · skip
      refine v_iconst C dX5_kindOfSign_12 ?_
      exact v_iret C rfl hO pS dX5_kindOfSign_13
-- ForesightHub$Reader.advance
set_option maxRecDepth 100000 in
theorem vX5_advance_L0 {X : Cxt} {w : Wd} {P : Shp} {n : Nat} (res : St) (hRm : X.2.2.2.1 = rX5_advance) (C : Cok X w cX5_advance 3 RX5 (Option.none : Option FieldType)) (hO : Own X w 0 0 (QV w P n res))  (c0 : Int) (kE40 : St → Option (St)) (hE40 : ∀ (se : St), V X w 3 P n 0 0 res (kE40 se) se 40 [(0, A w c0)] []) : ∀ (fuel : Nat) (s : St), V X w 3 P n 0 0 res (fX5_advance_L0 P c0 kE40 fuel s) s 0 [(0, A w c0)] [] := by
  intro fuel
  induction fuel with
  | zero => intro s; exact v_none
  | succ m ih =>
    intro s
    rw [fX5_advance_L0]
    refine v_aload_n C dX5_advance_0 rfl (j := 0) rfl ?_
    refine v_getI C 3 rfl (T := TX5) rfl inB5 (by decide) (by decide) rfl tw_148 dX5_advance_1 (fun x1 => ?_)
    refine v_aload_n C dX5_advance_4 rfl (j := 0) rfl ?_
    refine v_getI C 2 rfl (T := TX5) rfl inB5 (by decide) (by decide) rfl tw_147 dX5_advance_5 (fun x2 => ?_)
    refine v_icmp_ge (tgt := 40) C dX5_advance_8 rfl ?_ ?_
    · skip
      exact hE40 s
    · skip
      refine v_aload_n C dX5_advance_11 rfl (j := 0) rfl ?_
      refine v_getR C 0 rfl (T := TX5) rfl inB5 (by decide) (by decide) rfl tw_144 dX5_advance_12 (fun x3 => ?_)
      refine v_aload_n C dX5_advance_15 rfl (j := 0) rfl ?_
      refine v_getI C 3 rfl (T := TX5) rfl inB5 (by decide) (by decide) rfl tw_148 dX5_advance_16 (fun x4 => ?_)
      refine v_bald C dX5_advance_19 (fun x5 => ?_)
      refine v_callS_rI C [I x5] [] (Cee.of (rm := rX5_kindOfSign) tw_839 tw_2 hX5_kindOfSign rfl rfl hRm (Nat.le_of_ble_eq_true rfl) (Nat.le_of_ble_eq_true rfl)) (fun x h => kX5_kindOfSign X.2.1 w _ _ h) tw_837 tw_838 rfl rfl (Nat.le_of_ble_eq_true rfl) ⟨Nat.zero_le _, Nat.zero_le _⟩ dX5_advance_20 (fun x6 => ?_)
      refine v_iconst C dX5_advance_23 ?_
      refine v_icmp_ne (tgt := 40) C dX5_advance_24 rfl ?_ ?_
      · skip
        exact hE40 s
      · skip
        refine v_aload_n C dX5_advance_27 rfl (j := 0) rfl ?_
        refine v_dup C dX5_advance_28 rfl ?_
        refine v_getI C 3 rfl (T := TX5) rfl inB5 (by decide) (by decide) rfl tw_148 dX5_advance_29 (fun x7 => ?_)
        refine v_iconst C dX5_advance_32 ?_
        refine v_iadd C dX5_advance_33 ?_
        refine v_putI C 3 rfl (T := TX5) rfl inB5 (by decide) tyX5_ok nmX5 (by decide) rfl rfl tw_148 dX5_advance_34 rfl (fun s8 => ?_)
        refine v_goto (tgt := 0) C dX5_advance_37 rfl ?_
        exact ih s8
set_option maxRecDepth 100000 in
theorem vX5_advance_L150 {X : Cxt} {w : Wd} {P : Shp} {n : Nat} (res : St) (hRm : X.2.2.2.1 = rX5_advance) (C : Cok X w cX5_advance 3 RX5 (Option.none : Option FieldType)) (hO : Own X w 0 0 (QV w P n res))  (c0 : Int) (c1 : Int) (c2 : Int) (kE217 : St → Option (St)) (hE217 : ∀ (se : St), V X w 3 P n 0 0 res (kE217 se) se 217 [(0, A w c0)] []) : ∀ (fuel : Nat) (s : St), V X w 3 P n 0 0 res (fX5_advance_L150 P c0 c1 c2 kE217 fuel s) s 150 [(0, A w c0), (1, I c1), (2, I c2)] [] := by
  intro fuel
  induction fuel with
  | zero => intro s; exact v_none
  | succ m ih =>
    intro s
    rw [fX5_advance_L150]
    refine v_aload_n C dX5_advance_150 rfl (j := 0) rfl ?_
    refine v_getI C 3 rfl (T := TX5) rfl inB5 (by decide) (by decide) rfl tw_148 dX5_advance_151 (fun x22 => ?_)
    refine v_aload_n C dX5_advance_154 rfl (j := 0) rfl ?_
    refine v_getI C 2 rfl (T := TX5) rfl inB5 (by decide) (by decide) rfl tw_147 dX5_advance_155 (fun x23 => ?_)
    refine v_icmp_ge (tgt := 217) C dX5_advance_158 rfl ?_ ?_
    · skip
      refine v_sub [(0, A w c0)] [0] rfl ?_
      exact hE217 s
    · skip
      refine v_aload_n C dX5_advance_161 rfl (j := 0) rfl ?_
      refine v_getR C 0 rfl (T := TX5) rfl inB5 (by decide) (by decide) rfl tw_144 dX5_advance_162 (fun x24 => ?_)
      refine v_aload_n C dX5_advance_165 rfl (j := 0) rfl ?_
      refine v_getI C 3 rfl (T := TX5) rfl inB5 (by decide) (by decide) rfl tw_148 dX5_advance_166 (fun x25 => ?_)
      refine v_bald C dX5_advance_169 (fun x26 => ?_)
      refine v_callS_rI C [I x26] [] (Cee.of (rm := rX5_kindOfSign) tw_839 tw_2 hX5_kindOfSign rfl rfl hRm (Nat.le_of_ble_eq_true rfl) (Nat.le_of_ble_eq_true rfl)) (fun x h => kX5_kindOfSign X.2.1 w _ _ h) tw_837 tw_838 rfl rfl (Nat.le_of_ble_eq_true rfl) ⟨Nat.zero_le _, Nat.zero_le _⟩ dX5_advance_170 (fun x27 => ?_)
      refine v_aload_n C dX5_advance_173 rfl (j := 0) rfl ?_
      refine v_getI C 4 rfl (T := TX5) rfl inB5 (by decide) (by decide) rfl tw_149 dX5_advance_174 (fun x28 => ?_)
      refine v_icmp_ne (tgt := 217) C dX5_advance_177 rfl ?_ ?_
      · skip
        refine v_sub [(0, A w c0)] [0] rfl ?_
        exact hE217 s
      · skip
        refine v_aload_n C dX5_advance_180 rfl (j := 0) rfl ?_
        refine v_aload_n C dX5_advance_181 rfl (j := 0) rfl ?_
        refine v_getJ C 6 rfl (T := TX5) rfl inB5 (by decide) (by decide) rfl tw_151 dX5_advance_182 (fun x29 => ?_)
        refine v_iload_n C dX5_advance_185 rfl (j := 1) rfl ?_
        refine v_i2l C dX5_advance_186 (fun x30 => ?_)
        refine v_lmul C dX5_advance_187 ?_
        refine v_aload_n C dX5_advance_188 rfl (j := 0) rfl ?_
        refine v_getR C 0 rfl (T := TX5) rfl inB5 (by decide) (by decide) rfl tw_144 dX5_advance_189 (fun x31 => ?_)
        refine v_aload_n C dX5_advance_192 rfl (j := 0) rfl ?_
        refine v_getI C 3 rfl (T := TX5) rfl inB5 (by decide) (by decide) rfl tw_148 dX5_advance_193 (fun x32 => ?_)
        refine v_bald C dX5_advance_196 (fun x33 => ?_)
        refine v_iload_n C dX5_advance_197 rfl (j := 2) rfl ?_
        refine v_isub C dX5_advance_198 ?_
        refine v_i2l C dX5_advance_199 (fun x34 => ?_)
        refine v_ladd C dX5_advance_200 ?_
        refine v_putJ C 6 rfl (T := TX5) rfl inB5 (by decide) tyX5_ok nmX5 (by decide) rfl rfl tw_151 dX5_advance_201 rfl (fun s35 => ?_)
        refine v_aload_n C dX5_advance_204 rfl (j := 0) rfl ?_
        refine v_dup C dX5_advance_205 rfl ?_
        refine v_getI C 3 rfl (T := TX5) rfl inB5 (by decide) (by decide) rfl tw_148 dX5_advance_206 (fun x36 => ?_)
        refine v_iconst C dX5_advance_209 ?_
        refine v_iadd C dX5_advance_210 ?_
        refine v_putI C 3 rfl (T := TX5) rfl inB5 (by decide) tyX5_ok nmX5 (by decide) rfl rfl tw_148 dX5_advance_211 rfl (fun s37 => ?_)
        refine v_goto (tgt := 150) C dX5_advance_214 rfl ?_
        exact ih s37
theorem hX5_advance : yX5_advance.cls ≠ "java/lang/invoke/MethodHandle" ∧ yX5_advance.cls ≠ "java/lang/invoke/VarHandle" ∧ (parseMethodDescriptor yX5_advance.desc).map (fun d => d.parameters.length) = some 0 := by decide +kernel
set_option maxRecDepth 100000 in
theorem kX5_advance (l : Launch) (w : Wd) (P : Shp) (n : Nat) {s : St} {a0 : Int} {res : St} (h : fX5_advance P s a0 = some res) : Ct l w yX5_advance cX5_advance 3 (Option.none : Option FieldType) rX5_advance P n [A w a0] s (QV w P n res) :=
  Ct.of h (by decide) (Nat.le_of_ble_eq_true rfl) (lv := [(0, A w a0)]) rfl fun X hl hRm C hO => by
  subst hl
  unfold fX5_advance
  refine vX5_advance_L0 res hRm C hO a0 _ ?_ 1000 s
  · intro s9
    refine v_aload_n C dX5_advance_40 rfl (j := 0) rfl ?_
    refine v_aload_n C dX5_advance_41 rfl (j := 0) rfl ?_
    refine v_getI C 3 rfl (T := TX5) rfl inB5 (by decide) (by decide) rfl tw_148 dX5_advance_42 (fun x10 => ?_)
    refine v_putI C 5 rfl (T := TX5) rfl inB5 (by decide) tyX5_ok nmX5 (by decide) rfl rfl tw_150 dX5_advance_45 rfl (fun s11 => ?_)
    refine v_aload_n C dX5_advance_48 rfl (j := 0) rfl ?_
    refine v_aload_n C dX5_advance_49 rfl (j := 0) rfl ?_
    refine v_getI C 3 rfl (T := TX5) rfl inB5 (by decide) (by decide) rfl tw_148 dX5_advance_50 (fun x12 => ?_)
    refine v_aload_n C dX5_advance_53 rfl (j := 0) rfl ?_
    refine v_getI C 2 rfl (T := TX5) rfl inB5 (by decide) (by decide) rfl tw_147 dX5_advance_54 (fun x13 => ?_)
    refine v_jnt (fun (k76 : Int → Option (St)) => ∀ (x14 : Int), V X w 3 P n 0 0 res (k76 x14) s11 76 [(0, A w a0)] [I x14, A w a0]) ?_ ?_
    · intro x14
      refine v_putI C 4 rfl (T := TX5) rfl inB5 (by decide) tyX5_ok nmX5 (by decide) rfl rfl tw_149 dX5_advance_76 rfl (fun s15 => ?_)
      refine v_aload_n C dX5_advance_79 rfl (j := 0) rfl ?_
      refine v_getI C 4 rfl (T := TX5) rfl inB5 (by decide) (by decide) rfl tw_149 dX5_advance_80 (fun x16 => ?_)
      refine v_iconst C dX5_advance_83 ?_
      refine v_jnt (fun (k113 : Option (St)) => V X w 3 P n 0 0 res (k113) s15 113 [(0, A w a0)] []) ?_ ?_
      · skip
        refine v_aload_n C dX5_advance_113 rfl (j := 0) rfl ?_
        refine v_getI C 4 rfl (T := TX5) rfl inB5 (by decide) (by decide) rfl tw_149 dX5_advance_114 (fun x17 => ?_)
        refine v_iconst C dX5_advance_117 ?_
        refine v_jnt (fun (k128 : Int → Option (St)) => ∀ (x18 : Int), V X w 3 P n 0 0 res (k128 x18) s15 128 [(0, A w a0)] [I x18]) ?_ ?_
        · intro x18
          refine v_istore_n C [(1, I x18), (0, A w a0)] dX5_advance_128 rfl (by decide) rfl ?_
          refine v_aload_n C dX5_advance_129 rfl (j := 1) rfl ?_
          refine v_getI C 4 rfl (T := TX5) rfl inB5 (by decide) (by decide) rfl tw_149 dX5_advance_130 (fun x19 => ?_)
          refine v_iconst C dX5_advance_133 ?_
          refine v_jnt (fun (k144 : Int → Option (St)) => ∀ (x20 : Int), V X w 3 P n 0 0 res (k144 x20) s15 144 [(0, A w a0), (1, I x18)] [I x20]) ?_ ?_
          · intro x20
            refine v_istore_n C [(2, I x20), (0, A w a0), (1, I x18)] dX5_advance_144 rfl (by decide) rfl ?_
            refine v_aload_n C dX5_advance_145 rfl (j := 1) rfl ?_
            refine v_lconst (z := 0) C dX5_advance_146 rfl ?_
            refine v_putJ C 6 rfl (T := TX5) rfl inB5 (by decide) tyX5_ok nmX5 (by decide) rfl rfl tw_151 dX5_advance_147 rfl (fun s21 => ?_)
            refine v_sub [(0, A w a0), (1, I x18), (2, I x20)] [1, 2, 0] rfl ?_
            refine vX5_advance_L150 res hRm C hO a0 x18 x20 _ ?_ 1000 s21
            · intro s38
              refine v_aload_n C dX5_advance_217 rfl (j := 0) rfl ?_
              refine v_getI C 3 rfl (T := TX5) rfl inB5 (by decide) (by decide) rfl tw_148 dX5_advance_218 (fun x39 => ?_)
              refine v_aload_n C dX5_advance_221 rfl (j := 0) rfl ?_
              refine v_getI C 5 rfl (T := TX5) rfl inB5 (by decide) (by decide) rfl tw_150 dX5_advance_222 (fun x40 => ?_)
              refine v_isub C dX5_advance_225 ?_
              refine v_aload_n C dX5_advance_226 rfl (j := 0) rfl ?_
              refine v_getI C 4 rfl (T := TX5) rfl inB5 (by decide) (by decide) rfl tw_149 dX5_advance_227 (fun x41 => ?_)
              refine v_iconst C dX5_advance_230 ?_
              refine v_jnt (fun (k240 : Int → Option (St)) => ∀ (x42 : Int), V X w 3 P n 0 0 res (k240 x42) s38 240 [(0, A w a0)] [I x42, I (x39 - x40)]) ?_ ?_
              · intro x42
                refine v_icmp_le (tgt := 248) C dX5_advance_240 rfl ?_ ?_
                · skip
                  exact v_vret C rfl hO (fun h => Option.some.inj h) dX5_advance_248
                · skip
                  refine v_aload_n C dX5_advance_243 rfl (j := 0) rfl ?_
                  refine v_iconst C dX5_advance_244 ?_
                  refine v_putI C 4 rfl (T := TX5) rfl inB5 (by decide) tyX5_ok nmX5 (by decide) rfl rfl tw_149 dX5_advance_245 rfl (fun s43 => ?_)
                  exact v_vret C rfl hO (fun h => Option.some.inj h) dX5_advance_248
              intro k240 hk240
              refine v_icmp_ne (tgt := 239) C dX5_advance_231 rfl ?_ ?_
              · skip
                refine v_iconst C dX5_advance_239 ?_
                exact hk240 4
              · skip
                refine v_bipush C dX5_advance_234 (by decide) ?_
                refine v_goto (tgt := 240) C dX5_advance_236 rfl ?_
                exact hk240 8
          intro k144 hk144
          refine v_icmp_ne (tgt := 142) C dX5_advance_134 rfl ?_ ?_
          · skip
            refine v_bipush C dX5_advance_142 (by decide) ?_
            refine v_sub [(0, A w a0), (1, I x18)] [1, 0] rfl ?_
            exact hk144 48
          · skip
            refine v_bipush C dX5_advance_137 (by decide) ?_
            refine v_goto (tgt := 144) C dX5_advance_139 rfl ?_
            refine v_sub [(0, A w a0), (1, I x18)] [1, 0] rfl ?_
            exact hk144 96
        intro k128 hk128
        refine v_icmp_ne (tgt := 126) C dX5_advance_118 rfl ?_ ?_
        · skip
          refine v_bipush C dX5_advance_126 (by decide) ?_
          exact hk128 10
        · skip
          refine v_bipush C dX5_advance_121 (by decide) ?_
          refine v_goto (tgt := 128) C dX5_advance_123 rfl ?_
          exact hk128 27
      intro k113 hk113
      refine v_icmp_eq (tgt := 113) C dX5_advance_84 rfl ?_ ?_
      · skip
        exact hk113
      · skip
        refine v_aload_n C dX5_advance_87 rfl (j := 0) rfl ?_
        refine v_getI C 4 rfl (T := TX5) rfl inB5 (by decide) (by decide) rfl tw_149 dX5_advance_88 (fun x44 => ?_)
        refine v_iconst C dX5_advance_91 ?_
        refine v_icmp_eq (tgt := 113) C dX5_advance_92 rfl ?_ ?_
        · skip
          exact hk113
        · skip
          refine v_aload_n C dX5_advance_95 rfl (j := 0) rfl ?_
          refine v_aload_n C dX5_advance_96 rfl (j := 0) rfl ?_
          refine v_getI C 3 rfl (T := TX5) rfl inB5 (by decide) (by decide) rfl tw_148 dX5_advance_97 (fun x45 => ?_)
          refine v_iconst C dX5_advance_100 ?_
          refine v_iadd C dX5_advance_101 ?_
          refine v_aload_n C dX5_advance_102 rfl (j := 0) rfl ?_
          refine v_getI C 2 rfl (T := TX5) rfl inB5 (by decide) (by decide) rfl tw_147 dX5_advance_103 (fun x46 => ?_)
          refine v_mn C tw_830 tw_479 tw_13 tw_480 (by rw [hRm]; exact Nat.le_of_ble_eq_true rfl) (by rw [hRm]; exact Nat.le_of_ble_eq_true rfl) (Nat.le_of_ble_eq_true rfl) ⟨Nat.zero_le _, Nat.zero_le _⟩ dX5_advance_106 (fun x47 => ?_)
          refine v_putI C 3 rfl (T := TX5) rfl inB5 (by decide) tyX5_ok nmX5 (by decide) rfl rfl tw_148 dX5_advance_109 rfl (fun s48 => ?_)
          exact v_vret C rfl hO (fun h => Option.some.inj h) dX5_advance_112
    intro k76 hk76
    refine v_icmp_ge (tgt := 75) C dX5_advance_57 rfl ?_ ?_
    · skip
      refine v_iconst C dX5_advance_75 ?_
      exact hk76 0
    · skip
      refine v_aload_n C dX5_advance_60 rfl (j := 0) rfl ?_
      refine v_getR C 0 rfl (T := TX5) rfl inB5 (by decide) (by decide) rfl tw_144 dX5_advance_61 (fun x49 => ?_)
      refine v_aload_n C dX5_advance_64 rfl (j := 0) rfl ?_
      refine v_getI C 3 rfl (T := TX5) rfl inB5 (by decide) (by decide) rfl tw_148 dX5_advance_65 (fun x50 => ?_)
      refine v_bald C dX5_advance_68 (fun x51 => ?_)
      refine v_callS_rI C [I x51] [A w a0] (Cee.of (rm := rX5_kindOfSign) tw_839 tw_2 hX5_kindOfSign rfl rfl hRm (Nat.le_of_ble_eq_true rfl) (Nat.le_of_ble_eq_true rfl)) (fun x h => kX5_kindOfSign X.2.1 w _ _ h) tw_837 tw_838 rfl rfl (Nat.le_of_ble_eq_true rfl) ⟨Nat.zero_le _, Nat.zero_le _⟩ dX5_advance_69 (fun x52 => ?_)
      refine v_goto (tgt := 76) C dX5_advance_72 rfl ?_
      exact hk76 x52
-- ForesightHub$Reader.isWord
set_option maxRecDepth 100000 in
theorem vX5_isWord_L28 {X : Cxt} {w : Wd} {P : Shp} {n : Nat} {s : St} (res : Int) (hRm : X.2.2.2.1 = rX5_isWord) (C : Cok X w cX5_isWord 3 RX5 (some FieldType.boolean)) (hO : Own X w 0 0 (QI w P n res s))  (c0 : Int) (c1 : Int) (kE63 : Option (Int)) (kE55 : Option (Int)) (hE63 : V X w 3 P n 0 0 res (kE63) s 63 [] []) (hE55 : V X w 3 P n 0 0 res (kE55) s 55 [] []) : ∀ (fuel : Nat) (p2 : Int), V X w 3 P n 0 0 res (fX5_isWord_L28 P s c0 c1 kE63 kE55 fuel p2) s 28 [(0, A w c0), (1, A w c1), (2, I p2)] [] := by
  intro fuel
  induction fuel with
  | zero => intro p2; exact v_none
  | succ m ih =>
    intro p2
    rw [fX5_isWord_L28]
    refine v_iload_n C dX5_isWord_28 rfl (j := 2) rfl ?_
    refine v_aload_n C dX5_isWord_29 rfl (j := 1) rfl ?_
    refine v_sln C [I p2] tw_849 tw_584 hRm (Nat.le_of_ble_eq_true rfl) (Nat.le_of_ble_eq_true rfl) rfl (Nat.le_of_ble_eq_true rfl) ⟨Nat.zero_le _, Nat.zero_le _⟩ dX5_isWord_30 (fun x5 => ?_)
    refine v_icmp_ge (tgt := 63) C dX5_isWord_33 rfl ?_ ?_
    · skip
      refine v_sub [] [] rfl ?_
      exact hE63
    · skip
      refine v_aload_n C dX5_isWord_36 rfl (j := 0) rfl ?_
      refine v_getR C 0 rfl (T := TX5) rfl inB5 (by decide) (by decide) rfl tw_144 dX5_isWord_37 (fun x6 => ?_)
      refine v_aload_n C dX5_isWord_40 rfl (j := 0) rfl ?_
      refine v_getI C 5 rfl (T := TX5) rfl inB5 (by decide) (by decide) rfl tw_150 dX5_isWord_41 (fun x7 => ?_)
      refine v_iload_n C dX5_isWord_44 rfl (j := 2) rfl ?_
      refine v_iadd C dX5_isWord_45 ?_
      refine v_bald C dX5_isWord_46 (fun x8 => ?_)
      refine v_aload_n C dX5_isWord_47 rfl (j := 1) rfl ?_
      refine v_iload_n C dX5_isWord_48 rfl (j := 2) rfl ?_
      refine v_sch C [I x8] tw_850 tw_852 hRm (Nat.le_of_ble_eq_true rfl) (Nat.le_of_ble_eq_true rfl) rfl (Nat.le_of_ble_eq_true rfl) ⟨Nat.zero_le _, Nat.zero_le _⟩ dX5_isWord_49 (fun x9 => ?_)
      refine v_icmp_eq (tgt := 57) C dX5_isWord_52 rfl ?_ ?_
      · skip
        refine v_iinc C (j := 2) [(0, A w c0), (1, A w c1)] dX5_isWord_57 (by decide) rfl (fun _ => rfl) (fun x10 => ?_)
        refine v_goto (tgt := 28) C dX5_isWord_60 rfl ?_
        refine v_sub [(0, A w c0), (1, A w c1), (2, I x10)] [1, 2, 0] rfl ?_
        exact ih x10
      · skip
        refine v_sub [] [] rfl ?_
        exact hE55
theorem hX5_isWord : yX5_isWord.cls ≠ "java/lang/invoke/MethodHandle" ∧ yX5_isWord.cls ≠ "java/lang/invoke/VarHandle" ∧ (parseMethodDescriptor yX5_isWord.desc).map (fun d => d.parameters.length) = some 1 := by decide +kernel
set_option maxRecDepth 100000 in
theorem kX5_isWord (l : Launch) (w : Wd) (P : Shp) (n : Nat) {s : St} {a0 : Int} {a1 : Int} {res : Int} (h : fX5_isWord P s a0 a1 = some res) : Ct l w yX5_isWord cX5_isWord 3 (some FieldType.boolean) rX5_isWord P n [A w a0, A w a1] s (QI w P n res s) :=
  Ct.of h (by decide) (Nat.le_of_ble_eq_true rfl) (lv := [(0, A w a0), (1, A w a1)]) rfl fun X hl hRm C hO => by
  subst hl
  unfold fX5_isWord
  refine v_aload_n C dX5_isWord_0 rfl (j := 0) rfl ?_
  refine v_getI C 4 rfl (T := TX5) rfl inB5 (by decide) (by decide) rfl tw_149 dX5_isWord_1 (fun x1 => ?_)
  refine v_iconst C dX5_isWord_4 ?_
  refine v_icmp_ne (tgt := 24) C dX5_isWord_5 rfl ?_ ?_
  · skip
    refine v_iconst C dX5_isWord_24 ?_
    exact v_zret C rfl hO pS dX5_isWord_25
  · skip
    refine v_aload_n C dX5_isWord_8 rfl (j := 0) rfl ?_
    refine v_getI C 3 rfl (T := TX5) rfl inB5 (by decide) (by decide) rfl tw_148 dX5_isWord_9 (fun x2 => ?_)
    refine v_aload_n C dX5_isWord_12 rfl (j := 0) rfl ?_
    refine v_getI C 5 rfl (T := TX5) rfl inB5 (by decide) (by decide) rfl tw_150 dX5_isWord_13 (fun x3 => ?_)
    refine v_isub C dX5_isWord_16 ?_
    refine v_aload_n C dX5_isWord_17 rfl (j := 1) rfl ?_
    refine v_sln C [I (x2 - x3)] tw_849 tw_584 hRm (Nat.le_of_ble_eq_true rfl) (Nat.le_of_ble_eq_true rfl) rfl (Nat.le_of_ble_eq_true rfl) ⟨Nat.zero_le _, Nat.zero_le _⟩ dX5_isWord_18 (fun x4 => ?_)
    refine v_icmp_eq (tgt := 26) C dX5_isWord_21 rfl ?_ ?_
    · skip
      refine v_iconst C dX5_isWord_26 ?_
      refine v_istore_n C [(2, I 0), (0, A w a0), (1, A w a1)] dX5_isWord_27 rfl (by decide) rfl ?_
      refine v_sub [(0, A w a0), (1, A w a1), (2, I 0)] [1, 2, 0] rfl ?_
      refine vX5_isWord_L28 res hRm C hO a0 a1 _ _ ?_ ?_ 1000 0
      · skip
        refine v_iconst C dX5_isWord_63 ?_
        exact v_zret C rfl hO pS dX5_isWord_64
      · skip
        refine v_iconst C dX5_isWord_55 ?_
        exact v_zret C rfl hO pS dX5_isWord_56
    · skip
      refine v_iconst C dX5_isWord_24 ?_
      exact v_zret C rfl hO pS dX5_isWord_25
-- ForesightHub$Reader.fault
theorem hX5_fault : yX5_fault.cls ≠ "java/lang/invoke/MethodHandle" ∧ yX5_fault.cls ≠ "java/lang/invoke/VarHandle" ∧ (parseMethodDescriptor yX5_fault.desc).map (fun d => d.parameters.length) = some 1 := by decide +kernel
set_option maxRecDepth 100000 in
theorem kX5_fault (l : Launch) (w : Wd) (P : Shp) (n : Nat) {s : St} {a0 : Int} {a1 : Int} {res : Int × St} (h : fX5_fault P s a0 a1 = some res) : Ct l w yX5_fault cX5_fault 2 (some FieldType.boolean) rX5_fault P n [A w a0, I a1] s (QI w P n res.1 res.2) :=
  Ct.of h (by decide) (Nat.le_of_ble_eq_true rfl) (lv := [(0, A w a0), (1, I a1)]) rfl fun X hl hRm C hO => by
  subst hl
  unfold fX5_fault
  refine v_aload_n C dX5_fault_0 rfl (j := 0) rfl ?_
  refine v_aload_n C dX5_fault_1 rfl (j := 0) rfl ?_
  refine v_getI C 5 rfl (T := TX5) rfl inB5 (by decide) (by decide) rfl tw_150 dX5_fault_2 (fun x1 => ?_)
  refine v_putI C 7 rfl (T := TX5) rfl inB5 (by decide) tyX5_ok nmX5 (by decide) rfl rfl tw_152 dX5_fault_5 rfl (fun s2 => ?_)
  refine v_aload_n C dX5_fault_8 rfl (j := 0) rfl ?_
  refine v_iload_n C dX5_fault_9 rfl (j := 1) rfl ?_
  refine v_putI C 8 rfl (T := TX5) rfl inB5 (by decide) tyX5_ok nmX5 (by decide) rfl rfl tw_153 dX5_fault_10 rfl (fun s3 => ?_)
  refine v_iconst C dX5_fault_13 ?_
  exact v_zret C rfl hO pI dX5_fault_14
-- ForesightHub$Reader.isNumberWithin
theorem hX5_isNumberWithin : yX5_isNumberWithin.cls ≠ "java/lang/invoke/MethodHandle" ∧ yX5_isNumberWithin.cls ≠ "java/lang/invoke/VarHandle" ∧ (parseMethodDescriptor yX5_isNumberWithin.desc).map (fun d => d.parameters.length) = some 2 := by decide +kernel
set_option maxRecDepth 100000 in
theorem kX5_isNumberWithin (l : Launch) (w : Wd) (P : Shp) (n : Nat) {s : St} {a0 : Int} {a1 : Int} {a2 : Int} {res : Int × St} (h : fX5_isNumberWithin P s a0 a1 a2 = some res) : Ct l w yX5_isNumberWithin cX5_isNumberWithin 3 (some FieldType.boolean) rX5_isNumberWithin P n [A w a0, I a1, I a2] s (QI w P n res.1 res.2) :=
  Ct.of h (by decide) (Nat.le_of_ble_eq_true rfl) (lv := [(0, A w a0), (1, I a1), (2, I a2)]) rfl fun X hl hRm C hO => by
  subst hl
  unfold fX5_isNumberWithin
  refine v_aload_n C dX5_isNumberWithin_0 rfl (j := 0) rfl ?_
  refine v_getI C 4 rfl (T := TX5) rfl inB5 (by decide) (by decide) rfl tw_149 dX5_isNumberWithin_1 (fun x1 => ?_)
  refine v_iconst C dX5_isNumberWithin_4 ?_
  refine v_icmp_eq (tgt := 14) C dX5_isNumberWithin_5 rfl ?_ ?_
  · skip
    refine v_aload_n C dX5_isNumberWithin_14 rfl (j := 0) rfl ?_
    refine v_getJ C 6 rfl (T := TX5) rfl inB5 (by decide) (by decide) rfl tw_151 dX5_isNumberWithin_15 (fun x2 => ?_)
    refine v_iload_n C dX5_isNumberWithin_18 rfl (j := 1) rfl ?_
    refine v_i2l C dX5_isNumberWithin_19 (fun x3 => ?_)
    refine v_lcmp C dX5_isNumberWithin_20 (fun x4 => ?_)
    refine v_jnt (fun (k34 : Option (Int × St)) => V X w 3 P n 0 0 res (k34) s 34 [(0, A w a0)] []) ?_ ?_
    · skip
      refine v_aload_n C dX5_isNumberWithin_34 rfl (j := 0) rfl ?_
      refine v_iconst C dX5_isNumberWithin_35 ?_
      refine v_callV_wI C [I 4] [] (Cee.of (rm := rX5_fault) tw_869 tw_2 hX5_fault rfl rfl hRm (Nat.le_of_ble_eq_true rfl) (Nat.le_of_ble_eq_true rfl)) (fun x h => kX5_fault X.2.1 w _ _ h) tw_866 tw_868 ts_8 rfl (ci := 5) rfl (by decide) rfl rfl (Nat.le_of_ble_eq_true rfl) ⟨Nat.zero_le _, Nat.zero_le _⟩ dX5_isNumberWithin_36 (fun q5 => ?_)
      obtain ⟨x6, s7⟩ := q5
      refine v_if_eq (tgt := 46) C dX5_isNumberWithin_39 rfl ?_ ?_
      · skip
        refine v_iconst C dX5_isNumberWithin_46 ?_
        exact v_zret C rfl hO pI dX5_isNumberWithin_47
      · skip
        refine v_iconst C dX5_isNumberWithin_42 ?_
        refine v_goto (tgt := 47) C dX5_isNumberWithin_43 rfl ?_
        exact v_zret C rfl hO pI dX5_isNumberWithin_47
    intro k34 hk34
    refine v_if_lt (tgt := 34) C dX5_isNumberWithin_21 rfl ?_ ?_
    · skip
      refine v_sub [(0, A w a0)] [0] rfl ?_
      exact hk34
    · skip
      refine v_aload_n C dX5_isNumberWithin_24 rfl (j := 0) rfl ?_
      refine v_getJ C 6 rfl (T := TX5) rfl inB5 (by decide) (by decide) rfl tw_151 dX5_isNumberWithin_25 (fun x8 => ?_)
      refine v_iload_n C dX5_isNumberWithin_28 rfl (j := 2) rfl ?_
      refine v_i2l C dX5_isNumberWithin_29 (fun x9 => ?_)
      refine v_lcmp C dX5_isNumberWithin_30 (fun x10 => ?_)
      refine v_if_le (tgt := 42) C dX5_isNumberWithin_31 rfl ?_ ?_
      · skip
        refine v_iconst C dX5_isNumberWithin_42 ?_
        refine v_goto (tgt := 47) C dX5_isNumberWithin_43 rfl ?_
        exact v_zret C rfl hO pI dX5_isNumberWithin_47
      · skip
        refine v_sub [(0, A w a0)] [0] rfl ?_
        exact hk34
  · skip
    refine v_aload_n C dX5_isNumberWithin_8 rfl (j := 0) rfl ?_
    refine v_iconst C dX5_isNumberWithin_9 ?_
    refine v_callV_wI C [I 1] [] (Cee.of (rm := rX5_fault) tw_869 tw_2 hX5_fault rfl rfl hRm (Nat.le_of_ble_eq_true rfl) (Nat.le_of_ble_eq_true rfl)) (fun x h => kX5_fault X.2.1 w _ _ h) tw_866 tw_868 ts_8 rfl (ci := 5) rfl (by decide) rfl rfl (Nat.le_of_ble_eq_true rfl) ⟨Nat.zero_le _, Nat.zero_le _⟩ dX5_isNumberWithin_10 (fun q11 => ?_)
    obtain ⟨x12, s13⟩ := q11
    exact v_zret C rfl hO pI dX5_isNumberWithin_13
-- ForesightHub$Reader.takeSemicolon
theorem hX5_takeSemicolon : yX5_takeSemicolon.cls ≠ "java/lang/invoke/MethodHandle" ∧ yX5_takeSemicolon.cls ≠ "java/lang/invoke/VarHandle" ∧ (parseMethodDescriptor yX5_takeSemicolon.desc).map (fun d => d.parameters.length) = some 0 := by decide +kernel
set_option maxRecDepth 100000 in
theorem kX5_takeSemicolon (l : Launch) (w : Wd) (P : Shp) (n : Nat) {s : St} {a0 : Int} {res : Int × St} (h : fX5_takeSemicolon P s a0 = some res) : Ct l w yX5_takeSemicolon cX5_takeSemicolon 1 (some FieldType.boolean) rX5_takeSemicolon P n [A w a0] s (QI w P n res.1 res.2) :=
  Ct.of h (by decide) (Nat.le_of_ble_eq_true rfl) (lv := [(0, A w a0)]) rfl fun X hl hRm C hO => by
  subst hl
  unfold fX5_takeSemicolon
  refine v_aload_n C dX5_takeSemicolon_0 rfl (j := 0) rfl ?_
  refine v_getI C 4 rfl (T := TX5) rfl inB5 (by decide) (by decide) rfl tw_149 dX5_takeSemicolon_1 (fun x1 => ?_)
  refine v_iconst C dX5_takeSemicolon_4 ?_
  refine v_icmp_eq (tgt := 14) C dX5_takeSemicolon_5 rfl ?_ ?_
  · skip
    refine v_aload_n C dX5_takeSemicolon_14 rfl (j := 0) rfl ?_
    refine v_callV_wV C [] [] (Cee.of (rm := rX5_advance) tw_836 tw_2 hX5_advance rfl rfl hRm (Nat.le_of_ble_eq_true rfl) (Nat.le_of_ble_eq_true rfl)) (fun x h => kX5_advance X.2.1 w _ _ h) tw_833 tw_835 ts_5 rfl (ci := 5) rfl (by decide) rfl rfl (Nat.le_of_ble_eq_true rfl) ⟨Nat.zero_le _, Nat.zero_le _⟩ dX5_takeSemicolon_15 (fun s2 => ?_)
    refine v_iconst C dX5_takeSemicolon_18 ?_
    exact v_zret C rfl hO pI dX5_takeSemicolon_19
  · skip
    refine v_aload_n C dX5_takeSemicolon_8 rfl (j := 0) rfl ?_
    refine v_iconst C dX5_takeSemicolon_9 ?_
    refine v_callV_wI C [I 1] [] (Cee.of (rm := rX5_fault) tw_869 tw_2 hX5_fault rfl rfl hRm (Nat.le_of_ble_eq_true rfl) (Nat.le_of_ble_eq_true rfl)) (fun x h => kX5_fault X.2.1 w _ _ h) tw_866 tw_868 ts_8 rfl (ci := 5) rfl (by decide) rfl rfl (Nat.le_of_ble_eq_true rfl) ⟨Nat.zero_le _, Nat.zero_le _⟩ dX5_takeSemicolon_10 (fun q3 => ?_)
    obtain ⟨x4, s5⟩ := q3
    exact v_zret C rfl hO pI dX5_takeSemicolon_13
-- ForesightHub$Reader.readHeader
theorem hX5_readHeader : yX5_readHeader.cls ≠ "java/lang/invoke/MethodHandle" ∧ yX5_readHeader.cls ≠ "java/lang/invoke/VarHandle" ∧ (parseMethodDescriptor yX5_readHeader.desc).map (fun d => d.parameters.length) = some 0 := by decide +kernel
set_option maxRecDepth 100000 in
theorem kX5_readHeader (l : Launch) (w : Wd) (P : Shp) (n : Nat) {s : St} {a0 : Int} {res : Int × St} (h : fX5_readHeader P s a0 = some res) : Ct l w yX5_readHeader cX5_readHeader 1 (some FieldType.boolean) rX5_readHeader P n [A w a0] s (QI w P n res.1 res.2) :=
  Ct.of h (by decide) (Nat.le_of_ble_eq_true rfl) (lv := [(0, A w a0)]) rfl fun X hl hRm C hO => by
  subst hl
  unfold fX5_readHeader
  refine v_aload_n C dX5_readHeader_0 rfl (j := 0) rfl ?_
  refine v_ldcS (own := RX5) (idx := 81) (tx := "hub") (i := 0) (z := (-2)) C (by decide +kernel) dX5_readHeader_1 (by decide) ?_
  refine v_callV_rI C [A w ((-2))] [] (Cee.of (rm := rX5_isWord) tw_848 tw_2 hX5_isWord rfl rfl hRm (Nat.le_of_ble_eq_true rfl) (Nat.le_of_ble_eq_true rfl)) (fun x h => kX5_isWord X.2.1 w _ _ h) tw_845 tw_847 ts_7 rfl (ci := 5) rfl (by decide) rfl rfl (Nat.le_of_ble_eq_true rfl) ⟨Nat.zero_le _, Nat.zero_le _⟩ dX5_readHeader_3 (fun x1 => ?_)
  refine v_if_ne (tgt := 15) C dX5_readHeader_6 rfl ?_ ?_
  · skip
    refine v_aload_n C dX5_readHeader_15 rfl (j := 0) rfl ?_
    refine v_callV_wV C [] [] (Cee.of (rm := rX5_advance) tw_836 tw_2 hX5_advance rfl rfl hRm (Nat.le_of_ble_eq_true rfl) (Nat.le_of_ble_eq_true rfl)) (fun x h => kX5_advance X.2.1 w _ _ h) tw_833 tw_835 ts_5 rfl (ci := 5) rfl (by decide) rfl rfl (Nat.le_of_ble_eq_true rfl) ⟨Nat.zero_le _, Nat.zero_le _⟩ dX5_readHeader_16 (fun s2 => ?_)
    refine v_aload_n C dX5_readHeader_19 rfl (j := 0) rfl ?_
    refine v_iconst C dX5_readHeader_20 ?_
    refine v_sipush C dX5_readHeader_21 (by decide) ?_
    refine v_callV_wI C [I 1, I 999] [] (Cee.of (rm := rX5_isNumberWithin) tw_873 tw_2 hX5_isNumberWithin rfl rfl hRm (Nat.le_of_ble_eq_true rfl) (Nat.le_of_ble_eq_true rfl)) (fun x h => kX5_isNumberWithin X.2.1 w _ _ h) tw_870 tw_872 ts_9 rfl (ci := 5) rfl (by decide) rfl rfl (Nat.le_of_ble_eq_true rfl) ⟨Nat.zero_le _, Nat.zero_le _⟩ dX5_readHeader_24 (fun q3 => ?_)
    obtain ⟨x4, s5⟩ := q3
    refine v_if_ne (tgt := 32) C dX5_readHeader_27 rfl ?_ ?_
    · skip
      refine v_aload_n C dX5_readHeader_32 rfl (j := 0) rfl ?_
      refine v_getR C 9 rfl (T := TX5) rfl inB5 (by decide) (by decide) rfl tw_154 dX5_readHeader_33 (fun x6 => ?_)
      refine v_aload_n C dX5_readHeader_36 rfl (j := 0) rfl ?_
      refine v_getJ C 6 rfl (T := TX5) rfl inB5 (by decide) (by decide) rfl tw_151 dX5_readHeader_37 (fun x7 => ?_)
      refine v_l2i C dX5_readHeader_40 ?_
      refine v_putI C 0 rfl (T := TX4) rfl inB4 (by decide) tyX4_ok nmX4 (by decide) rfl rfl tw_52 dX5_readHeader_41 rfl (fun s8 => ?_)
      refine v_aload_n C dX5_readHeader_44 rfl (j := 0) rfl ?_
      refine v_callV_wV C [] [] (Cee.of (rm := rX5_advance) tw_836 tw_2 hX5_advance rfl rfl hRm (Nat.le_of_ble_eq_true rfl) (Nat.le_of_ble_eq_true rfl)) (fun x h => kX5_advance X.2.1 w _ _ h) tw_833 tw_835 ts_5 rfl (ci := 5) rfl (by decide) rfl rfl (Nat.le_of_ble_eq_true rfl) ⟨Nat.zero_le _, Nat.zero_le _⟩ dX5_readHeader_45 (fun s9 => ?_)
      refine v_aload_n C dX5_readHeader_48 rfl (j := 0) rfl ?_
      refine v_iconst C dX5_readHeader_49 ?_
      refine v_bipush C dX5_readHeader_50 (by decide) ?_
      refine v_callV_wI C [I 1, I 8] [] (Cee.of (rm := rX5_isNumberWithin) tw_873 tw_2 hX5_isNumberWithin rfl rfl hRm (Nat.le_of_ble_eq_true rfl) (Nat.le_of_ble_eq_true rfl)) (fun x h => kX5_isNumberWithin X.2.1 w _ _ h) tw_870 tw_872 ts_9 rfl (ci := 5) rfl (by decide) rfl rfl (Nat.le_of_ble_eq_true rfl) ⟨Nat.zero_le _, Nat.zero_le _⟩ dX5_readHeader_52 (fun q10 => ?_)
      obtain ⟨x11, s12⟩ := q10
      refine v_if_ne (tgt := 60) C dX5_readHeader_55 rfl ?_ ?_
      · skip
        refine v_aload_n C dX5_readHeader_60 rfl (j := 0) rfl ?_
        refine v_getR C 9 rfl (T := TX5) rfl inB5 (by decide) (by decide) rfl tw_154 dX5_readHeader_61 (fun x13 => ?_)
        refine v_aload_n C dX5_readHeader_64 rfl (j := 0) rfl ?_
        refine v_getJ C 6 rfl (T := TX5) rfl inB5 (by decide) (by decide) rfl tw_151 dX5_readHeader_65 (fun x14 => ?_)
        refine v_l2i C dX5_readHeader_68 ?_
        refine v_putI C 1 rfl (T := TX4) rfl inB4 (by decide) tyX4_ok nmX4 (by decide) rfl rfl tw_56 dX5_readHeader_69 rfl (fun s15 => ?_)
        refine v_aload_n C dX5_readHeader_72 rfl (j := 0) rfl ?_
        refine v_callV_wV C [] [] (Cee.of (rm := rX5_advance) tw_836 tw_2 hX5_advance rfl rfl hRm (Nat.le_of_ble_eq_true rfl) (Nat.le_of_ble_eq_true rfl)) (fun x h => kX5_advance X.2.1 w _ _ h) tw_833 tw_835 ts_5 rfl (ci := 5) rfl (by decide) rfl rfl (Nat.le_of_ble_eq_true rfl) ⟨Nat.zero_le _, Nat.zero_le _⟩ dX5_readHeader_73 (fun s16 => ?_)
        refine v_aload_n C dX5_readHeader_76 rfl (j := 0) rfl ?_
        refine v_callV_wI C [] [] (Cee.of (rm := rX5_takeSemicolon) tw_877 tw_2 hX5_takeSemicolon rfl rfl hRm (Nat.le_of_ble_eq_true rfl) (Nat.le_of_ble_eq_true rfl)) (fun x h => kX5_takeSemicolon X.2.1 w _ _ h) tw_874 tw_876 ts_10 rfl (ci := 5) rfl (by decide) rfl rfl (Nat.le_of_ble_eq_true rfl) ⟨Nat.zero_le _, Nat.zero_le _⟩ dX5_readHeader_77 (fun q17 => ?_)
        obtain ⟨x18, s19⟩ := q17
        exact v_zret C rfl hO pI dX5_readHeader_80
      · skip
        refine v_iconst C dX5_readHeader_58 ?_
        exact v_zret C rfl hO pI dX5_readHeader_59
    · skip
      refine v_iconst C dX5_readHeader_30 ?_
      exact v_zret C rfl hO pI dX5_readHeader_31
  · skip
    refine v_aload_n C dX5_readHeader_9 rfl (j := 0) rfl ?_
    refine v_iconst C dX5_readHeader_10 ?_
    refine v_callV_wI C [I 1] [] (Cee.of (rm := rX5_fault) tw_869 tw_2 hX5_fault rfl rfl hRm (Nat.le_of_ble_eq_true rfl) (Nat.le_of_ble_eq_true rfl)) (fun x h => kX5_fault X.2.1 w _ _ h) tw_866 tw_868 ts_8 rfl (ci := 5) rfl (by decide) rfl rfl (Nat.le_of_ble_eq_true rfl) ⟨Nat.zero_le _, Nat.zero_le _⟩ dX5_readHeader_11 (fun q20 => ?_)
    obtain ⟨x21, s22⟩ := q20
    exact v_zret C rfl hO pI dX5_readHeader_14
-- ForesightHub$Reader.indexOfWord
set_option maxRecDepth 100000 in
theorem vX5_indexOfWord_L2 {X : Cxt} {w : Wd} {P : Shp} {n : Nat} {s : St} (res : Int) (hRm : X.2.2.2.1 = rX5_indexOfWord) (C : Cok X w cX5_indexOfWord 4 RX5 (some FieldType.int)) (hO : Own X w 0 0 (QI w P n res s))  (c0 : Int) (c1 : Int) (c2 : Int) (kE32 : Option (Int)) (kE24 : Int → Option (Int)) (hE32 : V X w 4 P n 0 0 res (kE32) s 32 [] []) (hE24 : ∀ (p3e : Int), V X w 4 P n 0 0 res (kE24 p3e) s 24 [(3, I p3e)] []) : ∀ (fuel : Nat) (p3 : Int), V X w 4 P n 0 0 res (fX5_indexOfWord_L2 P s c0 c1 c2 kE32 kE24 fuel p3) s 2 [(0, A w c0), (1, A w c1), (2, I c2), (3, I p3)] [] := by
  intro fuel
  induction fuel with
  | zero => intro p3; exact v_none
  | succ m ih =>
    intro p3
    rw [fX5_indexOfWord_L2]
    refine v_iload_n C dX5_indexOfWord_2 rfl (j := 3) rfl ?_
    refine v_iload_n C dX5_indexOfWord_3 rfl (j := 2) rfl ?_
    refine v_icmp_ge (tgt := 32) C dX5_indexOfWord_4 rfl ?_ ?_
    · skip
      refine v_sub [] [] rfl ?_
      exact hE32
    · skip
      refine v_iload_n C dX5_indexOfWord_7 rfl (j := 3) rfl ?_
      refine v_aload_n C dX5_indexOfWord_8 rfl (j := 1) rfl ?_
      refine v_alen11 C dX5_indexOfWord_9 (fun x1 => ?_)
      refine v_icmp_ge (tgt := 32) C dX5_indexOfWord_10 rfl ?_ ?_
      · skip
        refine v_sub [] [] rfl ?_
        exact hE32
      · skip
        refine v_aload_n C dX5_indexOfWord_13 rfl (j := 1) rfl ?_
        refine v_iload_n C dX5_indexOfWord_14 rfl (j := 3) rfl ?_
        refine v_lald C dX5_indexOfWord_15 (fun x2 => ?_)
        refine v_aload_n C dX5_indexOfWord_16 rfl (j := 0) rfl ?_
        refine v_getJ C 6 rfl (T := TX5) rfl inB5 (by decide) (by decide) rfl tw_151 dX5_indexOfWord_17 (fun x3 => ?_)
        refine v_lcmp C dX5_indexOfWord_20 (fun x4 => ?_)
        refine v_if_ne (tgt := 26) C dX5_indexOfWord_21 rfl ?_ ?_
        · skip
          refine v_iinc C (j := 3) [(0, A w c0), (1, A w c1), (2, I c2)] dX5_indexOfWord_26 (by decide) rfl (fun _ => rfl) (fun x5 => ?_)
          refine v_goto (tgt := 2) C dX5_indexOfWord_29 rfl ?_
          refine v_sub [(0, A w c0), (1, A w c1), (2, I c2), (3, I x5)] [1, 2, 3, 0] rfl ?_
          exact ih x5
        · skip
          refine v_sub [(3, I p3)] [3] rfl ?_
          exact hE24 p3
theorem hX5_indexOfWord : yX5_indexOfWord.cls ≠ "java/lang/invoke/MethodHandle" ∧ yX5_indexOfWord.cls ≠ "java/lang/invoke/VarHandle" ∧ (parseMethodDescriptor yX5_indexOfWord.desc).map (fun d => d.parameters.length) = some 2 := by decide +kernel
set_option maxRecDepth 100000 in
theorem kX5_indexOfWord (l : Launch) (w : Wd) (P : Shp) (n : Nat) {s : St} {a0 : Int} {a1 : Int} {a2 : Int} {res : Int} (h : fX5_indexOfWord P s a0 a1 a2 = some res) : Ct l w yX5_indexOfWord cX5_indexOfWord 4 (some FieldType.int) rX5_indexOfWord P n [A w a0, A w a1, I a2] s (QI w P n res s) :=
  Ct.of h (by decide) (Nat.le_of_ble_eq_true rfl) (lv := [(0, A w a0), (1, A w a1), (2, I a2)]) rfl fun X hl hRm C hO => by
  subst hl
  unfold fX5_indexOfWord
  refine v_iconst C dX5_indexOfWord_0 ?_
  refine v_istore_n C [(3, I 0), (0, A w a0), (1, A w a1), (2, I a2)] dX5_indexOfWord_1 rfl (by decide) rfl ?_
  refine v_sub [(0, A w a0), (1, A w a1), (2, I a2), (3, I 0)] [1, 2, 3, 0] rfl ?_
  refine vX5_indexOfWord_L2 res hRm C hO a0 a1 a2 _ _ ?_ ?_ 1000 0
  · skip
    refine v_iconst C dX5_indexOfWord_32 ?_
    exact v_iret C rfl hO pS dX5_indexOfWord_33
  · intro x6
    refine v_iload_n C dX5_indexOfWord_24 rfl (j := 0) rfl ?_
    exact v_iret C rfl hO pS dX5_indexOfWord_25
-- ForesightHub$Reader.takeNewName
theorem hX5_takeNewName : yX5_takeNewName.cls ≠ "java/lang/invoke/MethodHandle" ∧ yX5_takeNewName.cls ≠ "java/lang/invoke/VarHandle" ∧ (parseMethodDescriptor yX5_takeNewName.desc).map (fun d => d.parameters.length) = some 2 := by decide +kernel
set_option maxRecDepth 100000 in
theorem kX5_takeNewName (l : Launch) (w : Wd) (P : Shp) (n : Nat) {s : St} {a0 : Int} {a1 : Int} {a2 : Int} {res : Int × St} (h : fX5_takeNewName P s a0 a1 a2 = some res) : Ct l w yX5_takeNewName cX5_takeNewName 3 (some FieldType.boolean) rX5_takeNewName P n [A w a0, A w a1, I a2] s (QI w P n res.1 res.2) :=
  Ct.of h (by decide) (Nat.le_of_ble_eq_true rfl) (lv := [(0, A w a0), (1, A w a1), (2, I a2)]) rfl fun X hl hRm C hO => by
  subst hl
  unfold fX5_takeNewName
  refine v_aload_n C dX5_takeNewName_0 rfl (j := 0) rfl ?_
  refine v_getI C 4 rfl (T := TX5) rfl inB5 (by decide) (by decide) rfl tw_149 dX5_takeNewName_1 (fun x1 => ?_)
  refine v_iconst C dX5_takeNewName_4 ?_
  refine v_icmp_eq (tgt := 14) C dX5_takeNewName_5 rfl ?_ ?_
  · skip
    refine v_aload_n C dX5_takeNewName_14 rfl (j := 0) rfl ?_
    refine v_aload_n C dX5_takeNewName_15 rfl (j := 1) rfl ?_
    refine v_iload_n C dX5_takeNewName_16 rfl (j := 2) rfl ?_
    refine v_callV_rI C [A w a1, I a2] [] (Cee.of (rm := rX5_indexOfWord) tw_894 tw_2 hX5_indexOfWord rfl rfl hRm (Nat.le_of_ble_eq_true rfl) (Nat.le_of_ble_eq_true rfl)) (fun x h => kX5_indexOfWord X.2.1 w _ _ h) tw_891 tw_893 ts_14 rfl (ci := 5) rfl (by decide) rfl rfl (Nat.le_of_ble_eq_true rfl) ⟨Nat.zero_le _, Nat.zero_le _⟩ dX5_takeNewName_17 (fun x2 => ?_)
    refine v_iconst C dX5_takeNewName_20 ?_
    refine v_icmp_eq (tgt := 30) C dX5_takeNewName_21 rfl ?_ ?_
    · skip
      refine v_iload_n C dX5_takeNewName_30 rfl (j := 2) rfl ?_
      refine v_jnt (fun (k47 : St → Option (Int × St)) => ∀ (s3 : St), V X w 3 P n 0 0 res (k47 s3) s3 47 [(0, A w a0)] []) ?_ ?_
      · intro s3
        refine v_aload_n C dX5_takeNewName_47 rfl (j := 0) rfl ?_
        refine v_callV_wV C [] [] (Cee.of (rm := rX5_advance) tw_836 tw_2 hX5_advance rfl rfl hRm (Nat.le_of_ble_eq_true rfl) (Nat.le_of_ble_eq_true rfl)) (fun x h => kX5_advance X.2.1 w _ _ h) tw_833 tw_835 ts_5 rfl (ci := 5) rfl (by decide) rfl rfl (Nat.le_of_ble_eq_true rfl) ⟨Nat.zero_le _, Nat.zero_le _⟩ dX5_takeNewName_48 (fun s4 => ?_)
        refine v_iconst C dX5_takeNewName_51 ?_
        exact v_zret C rfl hO pI dX5_takeNewName_52
      intro k47 hk47
      refine v_if_lt (tgt := 47) C dX5_takeNewName_31 rfl ?_ ?_
      · skip
        refine v_sub [(0, A w a0)] [0] rfl ?_
        exact hk47 s
      · skip
        refine v_iload_n C dX5_takeNewName_34 rfl (j := 2) rfl ?_
        refine v_aload_n C dX5_takeNewName_35 rfl (j := 1) rfl ?_
        refine v_alen11 C dX5_takeNewName_36 (fun x5 => ?_)
        refine v_icmp_ge (tgt := 47) C dX5_takeNewName_37 rfl ?_ ?_
        · skip
          refine v_sub [(0, A w a0)] [0] rfl ?_
          exact hk47 s
        · skip
          refine v_aload_n C dX5_takeNewName_40 rfl (j := 1) rfl ?_
          refine v_iload_n C dX5_takeNewName_41 rfl (j := 2) rfl ?_
          refine v_aload_n C dX5_takeNewName_42 rfl (j := 0) rfl ?_
          refine v_getJ C 6 rfl (T := TX5) rfl inB5 (by decide) (by decide) rfl tw_151 dX5_takeNewName_43 (fun x6 => ?_)
          refine v_last C dX5_takeNewName_46 (fun s7 => ?_)
          refine v_sub [(0, A w a0)] [0] rfl ?_
          exact hk47 s7
    · skip
      refine v_aload_n C dX5_takeNewName_24 rfl (j := 0) rfl ?_
      refine v_iconst C dX5_takeNewName_25 ?_
      refine v_callV_wI C [I 3] [] (Cee.of (rm := rX5_fault) tw_869 tw_2 hX5_fault rfl rfl hRm (Nat.le_of_ble_eq_true rfl) (Nat.le_of_ble_eq_true rfl)) (fun x h => kX5_fault X.2.1 w _ _ h) tw_866 tw_868 ts_8 rfl (ci := 5) rfl (by decide) rfl rfl (Nat.le_of_ble_eq_true rfl) ⟨Nat.zero_le _, Nat.zero_le _⟩ dX5_takeNewName_26 (fun q8 => ?_)
      obtain ⟨x9, s10⟩ := q8
      exact v_zret C rfl hO pI dX5_takeNewName_29
  · skip
    refine v_aload_n C dX5_takeNewName_8 rfl (j := 0) rfl ?_
    refine v_iconst C dX5_takeNewName_9 ?_
    refine v_callV_wI C [I 1] [] (Cee.of (rm := rX5_fault) tw_869 tw_2 hX5_fault rfl rfl hRm (Nat.le_of_ble_eq_true rfl) (Nat.le_of_ble_eq_true rfl)) (fun x h => kX5_fault X.2.1 w _ _ h) tw_866 tw_868 ts_8 rfl (ci := 5) rfl (by decide) rfl rfl (Nat.le_of_ble_eq_true rfl) ⟨Nat.zero_le _, Nat.zero_le _⟩ dX5_takeNewName_10 (fun q11 => ?_)
    obtain ⟨x12, s13⟩ := q11
    exact v_zret C rfl hO pI dX5_takeNewName_13
-- ForesightHub$Reader.kindOfWord
theorem hX5_kindOfWord : yX5_kindOfWord.cls ≠ "java/lang/invoke/MethodHandle" ∧ yX5_kindOfWord.cls ≠ "java/lang/invoke/VarHandle" ∧ (parseMethodDescriptor yX5_kindOfWord.desc).map (fun d => d.parameters.length) = some 0 := by decide +kernel
set_option maxRecDepth 100000 in
theorem kX5_kindOfWord (l : Launch) (w : Wd) (P : Shp) (n : Nat) {s : St} {a0 : Int} {res : Int} (h : fX5_kindOfWord P s a0 = some res) : Ct l w yX5_kindOfWord cX5_kindOfWord 1 (some FieldType.int) rX5_kindOfWord P n [A w a0] s (QI w P n res s) :=
  Ct.of h (by decide) (Nat.le_of_ble_eq_true rfl) (lv := [(0, A w a0)]) rfl fun X hl hRm C hO => by
  subst hl
  unfold fX5_kindOfWord
  refine v_aload_n C dX5_kindOfWord_0 rfl (j := 0) rfl ?_
  refine v_ldcS (own := RX5) (idx := 189) (tx := "crc") (i := 6) (z := (-8)) C (by decide +kernel) dX5_kindOfWord_1 (by decide) ?_
  refine v_callV_rI C [A w ((-8))] [] (Cee.of (rm := rX5_isWord) tw_848 tw_2 hX5_isWord rfl rfl hRm (Nat.le_of_ble_eq_true rfl) (Nat.le_of_ble_eq_true rfl)) (fun x h => kX5_isWord X.2.1 w _ _ h) tw_845 tw_847 ts_7 rfl (ci := 5) rfl (by decide) rfl rfl (Nat.le_of_ble_eq_true rfl) ⟨Nat.zero_le _, Nat.zero_le _⟩ dX5_kindOfWord_3 (fun x1 => ?_)
  refine v_if_eq (tgt := 11) C dX5_kindOfWord_6 rfl ?_ ?_
  · skip
    refine v_aload_n C dX5_kindOfWord_11 rfl (j := 0) rfl ?_
    refine v_ldcS (own := RX5) (idx := 191) (tx := "stall") (i := 7) (z := (-9)) C (by decide +kernel) dX5_kindOfWord_12 (by decide) ?_
    refine v_callV_rI C [A w ((-9))] [] (Cee.of (rm := rX5_isWord) tw_848 tw_2 hX5_isWord rfl rfl hRm (Nat.le_of_ble_eq_true rfl) (Nat.le_of_ble_eq_true rfl)) (fun x h => kX5_isWord X.2.1 w _ _ h) tw_845 tw_847 ts_7 rfl (ci := 5) rfl (by decide) rfl rfl (Nat.le_of_ble_eq_true rfl) ⟨Nat.zero_le _, Nat.zero_le _⟩ dX5_kindOfWord_14 (fun x2 => ?_)
    refine v_if_eq (tgt := 22) C dX5_kindOfWord_17 rfl ?_ ?_
    · skip
      refine v_aload_n C dX5_kindOfWord_22 rfl (j := 0) rfl ?_
      refine v_ldcS (own := RX5) (idx := 193) (tx := "jitter") (i := 8) (z := (-10)) C (by decide +kernel) dX5_kindOfWord_23 (by decide) ?_
      refine v_callV_rI C [A w ((-10))] [] (Cee.of (rm := rX5_isWord) tw_848 tw_2 hX5_isWord rfl rfl hRm (Nat.le_of_ble_eq_true rfl) (Nat.le_of_ble_eq_true rfl)) (fun x h => kX5_isWord X.2.1 w _ _ h) tw_845 tw_847 ts_7 rfl (ci := 5) rfl (by decide) rfl rfl (Nat.le_of_ble_eq_true rfl) ⟨Nat.zero_le _, Nat.zero_le _⟩ dX5_kindOfWord_25 (fun x3 => ?_)
      refine v_if_eq (tgt := 33) C dX5_kindOfWord_28 rfl ?_ ?_
      · skip
        refine v_aload_n C dX5_kindOfWord_33 rfl (j := 0) rfl ?_
        refine v_ldcS (own := RX5) (idx := 195) (tx := "power") (i := 9) (z := (-11)) C (by decide +kernel) dX5_kindOfWord_34 (by decide) ?_
        refine v_callV_rI C [A w ((-11))] [] (Cee.of (rm := rX5_isWord) tw_848 tw_2 hX5_isWord rfl rfl hRm (Nat.le_of_ble_eq_true rfl) (Nat.le_of_ble_eq_true rfl)) (fun x h => kX5_isWord X.2.1 w _ _ h) tw_845 tw_847 ts_7 rfl (ci := 5) rfl (by decide) rfl rfl (Nat.le_of_ble_eq_true rfl) ⟨Nat.zero_le _, Nat.zero_le _⟩ dX5_kindOfWord_36 (fun x4 => ?_)
        refine v_if_eq (tgt := 46) C dX5_kindOfWord_39 rfl ?_ ?_
        · skip
          refine v_iconst C dX5_kindOfWord_46 ?_
          exact v_iret C rfl hO pS dX5_kindOfWord_47
        · skip
          refine v_iconst C dX5_kindOfWord_42 ?_
          refine v_goto (tgt := 47) C dX5_kindOfWord_43 rfl ?_
          exact v_iret C rfl hO pS dX5_kindOfWord_47
      · skip
        refine v_iconst C dX5_kindOfWord_31 ?_
        exact v_iret C rfl hO pS dX5_kindOfWord_32
    · skip
      refine v_iconst C dX5_kindOfWord_20 ?_
      exact v_iret C rfl hO pS dX5_kindOfWord_21
  · skip
    refine v_iconst C dX5_kindOfWord_9 ?_
    exact v_iret C rfl hO pS dX5_kindOfWord_10
-- ForesightHub$Reader.readPatternErrors
set_option maxRecDepth 100000 in
theorem vX5_readPatternErrors_L2 {X : Cxt} {w : Wd} {P : Shp} {n : Nat} (res : Int × St) (hRm : X.2.2.2.1 = rX5_readPatternErrors) (C : Cok X w cX5_readPatternErrors 3 RX5 (some FieldType.boolean)) (hO : Own X w 0 0 (QI w P n res.1 res.2))  (c0 : Int) (c1 : Int) (kE42 : Int → St → Option (Int × St)) (hE42 : ∀ (p2e : Int) (se : St), V X w 3 P n 0 0 res (kE42 p2e se) se 42 [(0, A w c0), (1, I c1), (2, I p2e)] []) : ∀ (fuel : Nat) (p2 : Int) (s : St), V X w 3 P n 0 0 res (fX5_readPatternErrors_L2 P c0 c1 kE42 fuel p2 s) s 2 [(0, A w c0), (1, I c1), (2, I p2)] [] := by
  intro fuel
  induction fuel with
  | zero => intro p2 s; exact v_none
  | succ m ih =>
    intro p2 s
    rw [fX5_readPatternErrors_L2]
    refine v_iload_n C dX5_readPatternErrors_2 rfl (j := 2) rfl ?_
    refine v_iconst C dX5_readPatternErrors_3 ?_
    refine v_icmp_ge (tgt := 42) C dX5_readPatternErrors_4 rfl ?_ ?_
    · skip
      exact hE42 p2 s
    · skip
      refine v_aload_n C dX5_readPatternErrors_7 rfl (j := 0) rfl ?_
      refine v_callV_rI C [] [] (Cee.of (rm := rX5_kindOfWord) tw_902 tw_2 hX5_kindOfWord rfl rfl hRm (Nat.le_of_ble_eq_true rfl) (Nat.le_of_ble_eq_true rfl)) (fun x h => kX5_kindOfWord X.2.1 w _ _ h) tw_899 tw_901 ts_16 rfl (ci := 5) rfl (by decide) rfl rfl (Nat.le_of_ble_eq_true rfl) ⟨Nat.zero_le _, Nat.zero_le _⟩ dX5_readPatternErrors_8 (fun x1 => ?_)
      refine v_iconst C dX5_readPatternErrors_11 ?_
      refine v_icmp_eq (tgt := 42) C dX5_readPatternErrors_12 rfl ?_ ?_
      · skip
        exact hE42 p2 s
      · skip
        refine v_aload_n C dX5_readPatternErrors_15 rfl (j := 0) rfl ?_
        refine v_getR C 9 rfl (T := TX5) rfl inB5 (by decide) (by decide) rfl tw_154 dX5_readPatternErrors_16 (fun x2 => ?_)
        refine v_getR C 10 rfl (T := TX4) rfl inB4 (by decide) (by decide) rfl tw_88 dX5_readPatternErrors_19 (fun x3 => ?_)
        refine v_iload_n C dX5_readPatternErrors_22 rfl (j := 1) rfl ?_
        refine v_iconst C dX5_readPatternErrors_23 ?_
        refine v_imul C dX5_readPatternErrors_24 ?_
        refine v_iload_n C dX5_readPatternErrors_25 rfl (j := 2) rfl ?_
        refine v_iadd C dX5_readPatternErrors_26 ?_
        refine v_aload_n C dX5_readPatternErrors_27 rfl (j := 0) rfl ?_
        refine v_callV_rI C [] [I ((c1 * 5) + p2), A w x3] (Cee.of (rm := rX5_kindOfWord) tw_902 tw_2 hX5_kindOfWord rfl rfl hRm (Nat.le_of_ble_eq_true rfl) (Nat.le_of_ble_eq_true rfl)) (fun x h => kX5_kindOfWord X.2.1 w _ _ h) tw_899 tw_901 ts_16 rfl (ci := 5) rfl (by decide) rfl rfl (Nat.le_of_ble_eq_true rfl) ⟨Nat.zero_le _, Nat.zero_le _⟩ dX5_readPatternErrors_28 (fun x4 => ?_)
        refine v_iast C dX5_readPatternErrors_31 (fun s5 => ?_)
        refine v_iinc C (j := 2) [(0, A w c0), (1, I c1)] dX5_readPatternErrors_32 (by decide) rfl (fun _ => rfl) (fun x6 => ?_)
        refine v_aload_n C dX5_readPatternErrors_35 rfl (j := 1) rfl ?_
        refine v_callV_wV C [] [] (Cee.of (rm := rX5_advance) tw_836 tw_2 hX5_advance rfl rfl hRm (Nat.le_of_ble_eq_true rfl) (Nat.le_of_ble_eq_true rfl)) (fun x h => kX5_advance X.2.1 w _ _ h) tw_833 tw_835 ts_5 rfl (ci := 5) rfl (by decide) rfl rfl (Nat.le_of_ble_eq_true rfl) ⟨Nat.zero_le _, Nat.zero_le _⟩ dX5_readPatternErrors_36 (fun s7 => ?_)
        refine v_goto (tgt := 2) C dX5_readPatternErrors_39 rfl ?_
        refine v_sub [(0, A w c0), (1, I c1), (2, I x6)] [1, 2, 0] rfl ?_
        exact ih x6 s7
theorem hX5_readPatternErrors : yX5_readPatternErrors.cls ≠ "java/lang/invoke/MethodHandle" ∧ yX5_readPatternErrors.cls ≠ "java/lang/invoke/VarHandle" ∧ (parseMethodDescriptor yX5_readPatternErrors.desc).map (fun d => d.parameters.length) = some 1 := by decide +kernel
set_option maxRecDepth 100000 in
theorem kX5_readPatternErrors (l : Launch) (w : Wd) (P : Shp) (n : Nat) {s : St} {a0 : Int} {a1 : Int} {res : Int × St} (h : fX5_readPatternErrors P s a0 a1 = some res) : Ct l w yX5_readPatternErrors cX5_readPatternErrors 3 (some FieldType.boolean) rX5_readPatternErrors P n [A w a0, I a1] s (QI w P n res.1 res.2) :=
  Ct.of h (by decide) (Nat.le_of_ble_eq_true rfl) (lv := [(0, A w a0), (1, I a1)]) rfl fun X hl hRm C hO => by
  subst hl
  unfold fX5_readPatternErrors
  refine v_iconst C dX5_readPatternErrors_0 ?_
  refine v_istore_n C [(2, I 0), (0, A w a0), (1, I a1)] dX5_readPatternErrors_1 rfl (by decide) rfl ?_
  refine v_sub [(0, A w a0), (1, I a1), (2, I 0)] [1, 2, 0] rfl ?_
  refine vX5_readPatternErrors_L2 res hRm C hO a0 a1 _ ?_ 1000 0 s
  · intro x8 s9
    refine v_aload_n C dX5_readPatternErrors_42 rfl (j := 0) rfl ?_
    refine v_getR C 9 rfl (T := TX5) rfl inB5 (by decide) (by decide) rfl tw_154 dX5_readPatternErrors_43 (fun x10 => ?_)
    refine v_getR C 9 rfl (T := TX4) rfl inB4 (by decide) (by decide) rfl tw_85 dX5_readPatternErrors_46 (fun x11 => ?_)
    refine v_iload_n C dX5_readPatternErrors_49 rfl (j := 1) rfl ?_
    refine v_iload_n C dX5_readPatternErrors_50 rfl (j := 2) rfl ?_
    refine v_iast C dX5_readPatternErrors_51 (fun s12 => ?_)
    refine v_iload_n C dX5_readPatternErrors_52 rfl (j := 2) rfl ?_
    refine v_if_ne (tgt := 62) C dX5_readPatternErrors_53 rfl ?_ ?_
    · skip
      refine v_aload_n C dX5_readPatternErrors_62 rfl (j := 0) rfl ?_
      refine v_callV_rI C [] [] (Cee.of (rm := rX5_kindOfWord) tw_902 tw_2 hX5_kindOfWord rfl rfl hRm (Nat.le_of_ble_eq_true rfl) (Nat.le_of_ble_eq_true rfl)) (fun x h => kX5_kindOfWord X.2.1 w _ _ h) tw_899 tw_901 ts_16 rfl (ci := 5) rfl (by decide) rfl rfl (Nat.le_of_ble_eq_true rfl) ⟨Nat.zero_le _, Nat.zero_le _⟩ dX5_readPatternErrors_63 (fun x13 => ?_)
      refine v_iconst C dX5_readPatternErrors_66 ?_
      refine v_icmp_eq (tgt := 78) C dX5_readPatternErrors_67 rfl ?_ ?_
      · skip
        refine v_iconst C dX5_readPatternErrors_78 ?_
        refine v_goto (tgt := 83) C dX5_readPatternErrors_79 rfl ?_
        exact v_zret C rfl hO pI dX5_readPatternErrors_83
      · skip
        refine v_aload_n C dX5_readPatternErrors_70 rfl (j := 0) rfl ?_
        refine v_iconst C dX5_readPatternErrors_71 ?_
        refine v_callV_wI C [I 5] [] (Cee.of (rm := rX5_fault) tw_869 tw_2 hX5_fault rfl rfl hRm (Nat.le_of_ble_eq_true rfl) (Nat.le_of_ble_eq_true rfl)) (fun x h => kX5_fault X.2.1 w _ _ h) tw_866 tw_868 ts_8 rfl (ci := 5) rfl (by decide) rfl rfl (Nat.le_of_ble_eq_true rfl) ⟨Nat.zero_le _, Nat.zero_le _⟩ dX5_readPatternErrors_72 (fun q14 => ?_)
        obtain ⟨x15, s16⟩ := q14
        refine v_if_eq (tgt := 82) C dX5_readPatternErrors_75 rfl ?_ ?_
        · skip
          refine v_iconst C dX5_readPatternErrors_82 ?_
          exact v_zret C rfl hO pI dX5_readPatternErrors_83
        · skip
          refine v_iconst C dX5_readPatternErrors_78 ?_
          refine v_goto (tgt := 83) C dX5_readPatternErrors_79 rfl ?_
          exact v_zret C rfl hO pI dX5_readPatternErrors_83
    · skip
      refine v_aload_n C dX5_readPatternErrors_56 rfl (j := 0) rfl ?_
      refine v_iconst C dX5_readPatternErrors_57 ?_
      refine v_callV_wI C [I 1] [] (Cee.of (rm := rX5_fault) tw_869 tw_2 hX5_fault rfl rfl hRm (Nat.le_of_ble_eq_true rfl) (Nat.le_of_ble_eq_true rfl)) (fun x h => kX5_fault X.2.1 w _ _ h) tw_866 tw_868 ts_8 rfl (ci := 5) rfl (by decide) rfl rfl (Nat.le_of_ble_eq_true rfl) ⟨Nat.zero_le _, Nat.zero_le _⟩ dX5_readPatternErrors_58 (fun q17 => ?_)
      obtain ⟨x18, s19⟩ := q17
      exact v_zret C rfl hO pI dX5_readPatternErrors_61
-- ForesightHub$Reader.readPattern
theorem hX5_readPattern : yX5_readPattern.cls ≠ "java/lang/invoke/MethodHandle" ∧ yX5_readPattern.cls ≠ "java/lang/invoke/VarHandle" ∧ (parseMethodDescriptor yX5_readPattern.desc).map (fun d => d.parameters.length) = some 0 := by decide +kernel
set_option maxRecDepth 100000 in
theorem kX5_readPattern (l : Launch) (w : Wd) (P : Shp) (n : Nat) {s : St} {a0 : Int} {res : Int × St} (h : fX5_readPattern P s a0 = some res) : Ct l w yX5_readPattern cX5_readPattern 2 (some FieldType.boolean) rX5_readPattern P n [A w a0] s (QI w P n res.1 res.2) :=
  Ct.of h (by decide) (Nat.le_of_ble_eq_true rfl) (lv := [(0, A w a0)]) rfl fun X hl hRm C hO => by
  subst hl
  unfold fX5_readPattern
  refine v_aload_n C dX5_readPattern_0 rfl (j := 0) rfl ?_
  refine v_getR C 9 rfl (T := TX5) rfl inB5 (by decide) (by decide) rfl tw_154 dX5_readPattern_1 (fun x1 => ?_)
  refine v_getI C 4 rfl (T := TX4) rfl inB4 (by decide) (by decide) rfl tw_67 dX5_readPattern_4 (fun x2 => ?_)
  refine v_istore_n C [(1, I x2), (0, A w a0)] dX5_readPattern_7 rfl (by decide) rfl ?_
  refine v_iload_n C dX5_readPattern_8 rfl (j := 0) rfl ?_
  refine v_bipush C dX5_readPattern_9 (by decide) ?_
  refine v_icmp_lt (tgt := 20) C dX5_readPattern_11 rfl ?_ ?_
  · skip
    refine v_aload_n C dX5_readPattern_20 rfl (j := 1) rfl ?_
    refine v_callV_wV C [] [] (Cee.of (rm := rX5_advance) tw_836 tw_2 hX5_advance rfl rfl hRm (Nat.le_of_ble_eq_true rfl) (Nat.le_of_ble_eq_true rfl)) (fun x h => kX5_advance X.2.1 w _ _ h) tw_833 tw_835 ts_5 rfl (ci := 5) rfl (by decide) rfl rfl (Nat.le_of_ble_eq_true rfl) ⟨Nat.zero_le _, Nat.zero_le _⟩ dX5_readPattern_21 (fun s3 => ?_)
    refine v_aload_n C dX5_readPattern_24 rfl (j := 1) rfl ?_
    refine v_aload_n C dX5_readPattern_25 rfl (j := 1) rfl ?_
    refine v_getR C 11 rfl (T := TX5) rfl inB5 (by decide) (by decide) rfl tw_156 dX5_readPattern_26 (fun x4 => ?_)
    refine v_iload_n C dX5_readPattern_29 rfl (j := 0) rfl ?_
    refine v_callV_wI C [A w x4, I x2] [] (Cee.of (rm := rX5_takeNewName) tw_890 tw_2 hX5_takeNewName rfl rfl hRm (Nat.le_of_ble_eq_true rfl) (Nat.le_of_ble_eq_true rfl)) (fun x h => kX5_takeNewName X.2.1 w _ _ h) tw_887 tw_889 ts_13 rfl (ci := 5) rfl (by decide) rfl rfl (Nat.le_of_ble_eq_true rfl) ⟨Nat.zero_le _, Nat.zero_le _⟩ dX5_readPattern_30 (fun q5 => ?_)
    obtain ⟨x6, s7⟩ := q5
    refine v_if_ne (tgt := 38) C dX5_readPattern_33 rfl ?_ ?_
    · skip
      refine v_aload_n C dX5_readPattern_38 rfl (j := 1) rfl ?_
      refine v_iconst C dX5_readPattern_39 ?_
      refine v_bipush C dX5_readPattern_40 (by decide) ?_
      refine v_callV_wI C [I 1, I 99] [] (Cee.of (rm := rX5_isNumberWithin) tw_873 tw_2 hX5_isNumberWithin rfl rfl hRm (Nat.le_of_ble_eq_true rfl) (Nat.le_of_ble_eq_true rfl)) (fun x h => kX5_isNumberWithin X.2.1 w _ _ h) tw_870 tw_872 ts_9 rfl (ci := 5) rfl (by decide) rfl rfl (Nat.le_of_ble_eq_true rfl) ⟨Nat.zero_le _, Nat.zero_le _⟩ dX5_readPattern_42 (fun q8 => ?_)
      obtain ⟨x9, s10⟩ := q8
      refine v_if_ne (tgt := 50) C dX5_readPattern_45 rfl ?_ ?_
      · skip
        refine v_aload_n C dX5_readPattern_50 rfl (j := 1) rfl ?_
        refine v_getR C 9 rfl (T := TX5) rfl inB5 (by decide) (by decide) rfl tw_154 dX5_readPattern_51 (fun x11 => ?_)
        refine v_getR C 7 rfl (T := TX4) rfl inB4 (by decide) (by decide) rfl tw_79 dX5_readPattern_54 (fun x12 => ?_)
        refine v_iload_n C dX5_readPattern_57 rfl (j := 0) rfl ?_
        refine v_aload_n C dX5_readPattern_58 rfl (j := 1) rfl ?_
        refine v_getJ C 6 rfl (T := TX5) rfl inB5 (by decide) (by decide) rfl tw_151 dX5_readPattern_59 (fun x13 => ?_)
        refine v_l2i C dX5_readPattern_62 ?_
        refine v_iast C dX5_readPattern_63 (fun s14 => ?_)
        refine v_aload_n C dX5_readPattern_64 rfl (j := 1) rfl ?_
        refine v_callV_wV C [] [] (Cee.of (rm := rX5_advance) tw_836 tw_2 hX5_advance rfl rfl hRm (Nat.le_of_ble_eq_true rfl) (Nat.le_of_ble_eq_true rfl)) (fun x h => kX5_advance X.2.1 w _ _ h) tw_833 tw_835 ts_5 rfl (ci := 5) rfl (by decide) rfl rfl (Nat.le_of_ble_eq_true rfl) ⟨Nat.zero_le _, Nat.zero_le _⟩ dX5_readPattern_65 (fun s15 => ?_)
        refine v_aload_n C dX5_readPattern_68 rfl (j := 1) rfl ?_
        refine v_iconst C dX5_readPattern_69 ?_
        refine v_sipush C dX5_readPattern_70 (by decide) ?_
        refine v_callV_wI C [I 1, I 200] [] (Cee.of (rm := rX5_isNumberWithin) tw_873 tw_2 hX5_isNumberWithin rfl rfl hRm (Nat.le_of_ble_eq_true rfl) (Nat.le_of_ble_eq_true rfl)) (fun x h => kX5_isNumberWithin X.2.1 w _ _ h) tw_870 tw_872 ts_9 rfl (ci := 5) rfl (by decide) rfl rfl (Nat.le_of_ble_eq_true rfl) ⟨Nat.zero_le _, Nat.zero_le _⟩ dX5_readPattern_73 (fun q16 => ?_)
        obtain ⟨x17, s18⟩ := q16
        refine v_if_ne (tgt := 81) C dX5_readPattern_76 rfl ?_ ?_
        · skip
          refine v_aload_n C dX5_readPattern_81 rfl (j := 1) rfl ?_
          refine v_getR C 9 rfl (T := TX5) rfl inB5 (by decide) (by decide) rfl tw_154 dX5_readPattern_82 (fun x19 => ?_)
          refine v_getR C 8 rfl (T := TX4) rfl inB4 (by decide) (by decide) rfl tw_82 dX5_readPattern_85 (fun x20 => ?_)
          refine v_iload_n C dX5_readPattern_88 rfl (j := 0) rfl ?_
          refine v_aload_n C dX5_readPattern_89 rfl (j := 1) rfl ?_
          refine v_getJ C 6 rfl (T := TX5) rfl inB5 (by decide) (by decide) rfl tw_151 dX5_readPattern_90 (fun x21 => ?_)
          refine v_l2i C dX5_readPattern_93 ?_
          refine v_iast C dX5_readPattern_94 (fun s22 => ?_)
          refine v_aload_n C dX5_readPattern_95 rfl (j := 1) rfl ?_
          refine v_callV_wV C [] [] (Cee.of (rm := rX5_advance) tw_836 tw_2 hX5_advance rfl rfl hRm (Nat.le_of_ble_eq_true rfl) (Nat.le_of_ble_eq_true rfl)) (fun x h => kX5_advance X.2.1 w _ _ h) tw_833 tw_835 ts_5 rfl (ci := 5) rfl (by decide) rfl rfl (Nat.le_of_ble_eq_true rfl) ⟨Nat.zero_le _, Nat.zero_le _⟩ dX5_readPattern_96 (fun s23 => ?_)
          refine v_aload_n C dX5_readPattern_99 rfl (j := 1) rfl ?_
          refine v_getR C 9 rfl (T := TX5) rfl inB5 (by decide) (by decide) rfl tw_154 dX5_readPattern_100 (fun x24 => ?_)
          refine v_iload_n C dX5_readPattern_103 rfl (j := 0) rfl ?_
          refine v_iconst C dX5_readPattern_104 ?_
          refine v_iadd C dX5_readPattern_105 ?_
          refine v_putI C 4 rfl (T := TX4) rfl inB4 (by decide) tyX4_ok nmX4 (by decide) rfl rfl tw_67 dX5_readPattern_106 rfl (fun s25 => ?_)
          refine v_aload_n C dX5_readPattern_109 rfl (j := 1) rfl ?_
          refine v_iload_n C dX5_readPattern_110 rfl (j := 0) rfl ?_
          refine v_callV_wI C [I x2] [] (Cee.of (rm := rX5_readPatternErrors) tw_898 tw_2 hX5_readPatternErrors rfl rfl hRm (Nat.le_of_ble_eq_true rfl) (Nat.le_of_ble_eq_true rfl)) (fun x h => kX5_readPatternErrors X.2.1 w _ _ h) tw_895 tw_897 ts_15 rfl (ci := 5) rfl (by decide) rfl rfl (Nat.le_of_ble_eq_true rfl) ⟨Nat.zero_le _, Nat.zero_le _⟩ dX5_readPattern_111 (fun q26 => ?_)
          obtain ⟨x27, s28⟩ := q26
          exact v_zret C rfl hO pI dX5_readPattern_114
        · skip
          refine v_iconst C dX5_readPattern_79 ?_
          exact v_zret C rfl hO pI dX5_readPattern_80
      · skip
        refine v_iconst C dX5_readPattern_48 ?_
        exact v_zret C rfl hO pI dX5_readPattern_49
    · skip
      refine v_iconst C dX5_readPattern_36 ?_
      exact v_zret C rfl hO pI dX5_readPattern_37
  · skip
    refine v_aload_n C dX5_readPattern_14 rfl (j := 1) rfl ?_
    refine v_iconst C dX5_readPattern_15 ?_
    refine v_callV_wI C [I 5] [] (Cee.of (rm := rX5_fault) tw_869 tw_2 hX5_fault rfl rfl hRm (Nat.le_of_ble_eq_true rfl) (Nat.le_of_ble_eq_true rfl)) (fun x h => kX5_fault X.2.1 w _ _ h) tw_866 tw_868 ts_8 rfl (ci := 5) rfl (by decide) rfl rfl (Nat.le_of_ble_eq_true rfl) ⟨Nat.zero_le _, Nat.zero_le _⟩ dX5_readPattern_16 (fun q29 => ?_)
    obtain ⟨x30, s31⟩ := q29
    exact v_zret C rfl hO pI dX5_readPattern_19
-- ForesightHub$Reader.isTakenPort
set_option maxRecDepth 100000 in
theorem vX5_isTakenPort_L2 {X : Cxt} {w : Wd} {P : Shp} {n : Nat} {s : St} (res : Int) (hRm : X.2.2.2.1 = rX5_isTakenPort) (C : Cok X w cX5_isTakenPort 3 RX5 (some FieldType.boolean)) (hO : Own X w 0 0 (QI w P n res s))  (c0 : Int) (c1 : Int) (kE40 : Option (Int)) (kE32 : Option (Int)) (hE40 : V X w 3 P n 0 0 res (kE40) s 40 [] []) (hE32 : V X w 3 P n 0 0 res (kE32) s 32 [] []) : ∀ (fuel : Nat) (p2 : Int), V X w 3 P n 0 0 res (fX5_isTakenPort_L2 P s c0 c1 kE40 kE32 fuel p2) s 2 [(0, A w c0), (1, I c1), (2, I p2)] [] := by
  intro fuel
  induction fuel with
  | zero => intro p2; exact v_none
  | succ m ih =>
    intro p2
    rw [fX5_isTakenPort_L2]
    refine v_iload_n C dX5_isTakenPort_2 rfl (j := 2) rfl ?_
    refine v_aload_n C dX5_isTakenPort_3 rfl (j := 0) rfl ?_
    refine v_getR C 9 rfl (T := TX5) rfl inB5 (by decide) (by decide) rfl tw_154 dX5_isTakenPort_4 (fun x1 => ?_)
    refine v_getI C 5 rfl (T := TX4) rfl inB4 (by decide) (by decide) rfl tw_73 dX5_isTakenPort_7 (fun x2 => ?_)
    refine v_icmp_ge (tgt := 40) C dX5_isTakenPort_10 rfl ?_ ?_
    · skip
      refine v_sub [] [] rfl ?_
      exact hE40
    · skip
      refine v_iload_n C dX5_isTakenPort_13 rfl (j := 2) rfl ?_
      refine v_bipush C dX5_isTakenPort_14 (by decide) ?_
      refine v_icmp_ge (tgt := 40) C dX5_isTakenPort_16 rfl ?_ ?_
      · skip
        refine v_sub [] [] rfl ?_
        exact hE40
      · skip
        refine v_aload_n C dX5_isTakenPort_19 rfl (j := 0) rfl ?_
        refine v_getR C 9 rfl (T := TX5) rfl inB5 (by decide) (by decide) rfl tw_154 dX5_isTakenPort_20 (fun x3 => ?_)
        refine v_getR C 11 rfl (T := TX4) rfl inB4 (by decide) (by decide) rfl tw_92 dX5_isTakenPort_23 (fun x4 => ?_)
        refine v_iload_n C dX5_isTakenPort_26 rfl (j := 2) rfl ?_
        refine v_iald C dX5_isTakenPort_27 (fun x5 => ?_)
        refine v_iload_n C dX5_isTakenPort_28 rfl (j := 1) rfl ?_
        refine v_icmp_ne (tgt := 34) C dX5_isTakenPort_29 rfl ?_ ?_
        · skip
          refine v_iinc C (j := 2) [(0, A w c0), (1, I c1)] dX5_isTakenPort_34 (by decide) rfl (fun _ => rfl) (fun x6 => ?_)
          refine v_goto (tgt := 2) C dX5_isTakenPort_37 rfl ?_
          refine v_sub [(0, A w c0), (1, I c1), (2, I x6)] [1, 2, 0] rfl ?_
          exact ih x6
        · skip
          refine v_sub [] [] rfl ?_
          exact hE32
theorem hX5_isTakenPort : yX5_isTakenPort.cls ≠ "java/lang/invoke/MethodHandle" ∧ yX5_isTakenPort.cls ≠ "java/lang/invoke/VarHandle" ∧ (parseMethodDescriptor yX5_isTakenPort.desc).map (fun d => d.parameters.length) = some 1 := by decide +kernel
set_option maxRecDepth 100000 in
theorem kX5_isTakenPort (l : Launch) (w : Wd) (P : Shp) (n : Nat) {s : St} {a0 : Int} {a1 : Int} {res : Int} (h : fX5_isTakenPort P s a0 a1 = some res) : Ct l w yX5_isTakenPort cX5_isTakenPort 3 (some FieldType.boolean) rX5_isTakenPort P n [A w a0, I a1] s (QI w P n res s) :=
  Ct.of h (by decide) (Nat.le_of_ble_eq_true rfl) (lv := [(0, A w a0), (1, I a1)]) rfl fun X hl hRm C hO => by
  subst hl
  unfold fX5_isTakenPort
  refine v_iconst C dX5_isTakenPort_0 ?_
  refine v_istore_n C [(2, I 0), (0, A w a0), (1, I a1)] dX5_isTakenPort_1 rfl (by decide) rfl ?_
  refine v_sub [(0, A w a0), (1, I a1), (2, I 0)] [1, 2, 0] rfl ?_
  refine vX5_isTakenPort_L2 res hRm C hO a0 a1 _ _ ?_ ?_ 1000 0
  · skip
    refine v_iconst C dX5_isTakenPort_40 ?_
    exact v_zret C rfl hO pS dX5_isTakenPort_41
  · skip
    refine v_iconst C dX5_isTakenPort_32 ?_
    exact v_zret C rfl hO pS dX5_isTakenPort_33
-- ForesightHub$Reader.isKnownDevice
theorem hX5_isKnownDevice : yX5_isKnownDevice.cls ≠ "java/lang/invoke/MethodHandle" ∧ yX5_isKnownDevice.cls ≠ "java/lang/invoke/VarHandle" ∧ (parseMethodDescriptor yX5_isKnownDevice.desc).map (fun d => d.parameters.length) = some 0 := by decide +kernel
set_option maxRecDepth 100000 in
theorem kX5_isKnownDevice (l : Launch) (w : Wd) (P : Shp) (n : Nat) {s : St} {a0 : Int} {res : Int × St} (h : fX5_isKnownDevice P s a0 = some res) : Ct l w yX5_isKnownDevice cX5_isKnownDevice 1 (some FieldType.boolean) rX5_isKnownDevice P n [A w a0] s (QI w P n res.1 res.2) :=
  Ct.of h (by decide) (Nat.le_of_ble_eq_true rfl) (lv := [(0, A w a0)]) rfl fun X hl hRm C hO => by
  subst hl
  unfold fX5_isKnownDevice
  refine v_aload_n C dX5_isKnownDevice_0 rfl (j := 0) rfl ?_
  refine v_getI C 4 rfl (T := TX5) rfl inB5 (by decide) (by decide) rfl tw_149 dX5_isKnownDevice_1 (fun x1 => ?_)
  refine v_iconst C dX5_isKnownDevice_4 ?_
  refine v_icmp_eq (tgt := 14) C dX5_isKnownDevice_5 rfl ?_ ?_
  · skip
    refine v_aload_n C dX5_isKnownDevice_14 rfl (j := 0) rfl ?_
    refine v_aload_n C dX5_isKnownDevice_15 rfl (j := 0) rfl ?_
    refine v_getR C 12 rfl (T := TX5) rfl inB5 (by decide) (by decide) rfl tw_157 dX5_isKnownDevice_16 (fun x2 => ?_)
    refine v_aload_n C dX5_isKnownDevice_19 rfl (j := 0) rfl ?_
    refine v_getR C 9 rfl (T := TX5) rfl inB5 (by decide) (by decide) rfl tw_154 dX5_isKnownDevice_20 (fun x3 => ?_)
    refine v_getI C 5 rfl (T := TX4) rfl inB4 (by decide) (by decide) rfl tw_73 dX5_isKnownDevice_23 (fun x4 => ?_)
    refine v_callV_rI C [A w x2, I x4] [] (Cee.of (rm := rX5_indexOfWord) tw_894 tw_2 hX5_indexOfWord rfl rfl hRm (Nat.le_of_ble_eq_true rfl) (Nat.le_of_ble_eq_true rfl)) (fun x h => kX5_indexOfWord X.2.1 w _ _ h) tw_891 tw_893 ts_14 rfl (ci := 5) rfl (by decide) rfl rfl (Nat.le_of_ble_eq_true rfl) ⟨Nat.zero_le _, Nat.zero_le _⟩ dX5_isKnownDevice_26 (fun x5 => ?_)
    refine v_iconst C dX5_isKnownDevice_29 ?_
    refine v_icmp_ne (tgt := 41) C dX5_isKnownDevice_30 rfl ?_ ?_
    · skip
      refine v_iconst C dX5_isKnownDevice_41 ?_
      refine v_goto (tgt := 46) C dX5_isKnownDevice_42 rfl ?_
      exact v_zret C rfl hO pI dX5_isKnownDevice_46
    · skip
      refine v_aload_n C dX5_isKnownDevice_33 rfl (j := 0) rfl ?_
      refine v_iconst C dX5_isKnownDevice_34 ?_
      refine v_callV_wI C [I 2] [] (Cee.of (rm := rX5_fault) tw_869 tw_2 hX5_fault rfl rfl hRm (Nat.le_of_ble_eq_true rfl) (Nat.le_of_ble_eq_true rfl)) (fun x h => kX5_fault X.2.1 w _ _ h) tw_866 tw_868 ts_8 rfl (ci := 5) rfl (by decide) rfl rfl (Nat.le_of_ble_eq_true rfl) ⟨Nat.zero_le _, Nat.zero_le _⟩ dX5_isKnownDevice_35 (fun q6 => ?_)
      obtain ⟨x7, s8⟩ := q6
      refine v_if_eq (tgt := 45) C dX5_isKnownDevice_38 rfl ?_ ?_
      · skip
        refine v_iconst C dX5_isKnownDevice_45 ?_
        exact v_zret C rfl hO pI dX5_isKnownDevice_46
      · skip
        refine v_iconst C dX5_isKnownDevice_41 ?_
        refine v_goto (tgt := 46) C dX5_isKnownDevice_42 rfl ?_
        exact v_zret C rfl hO pI dX5_isKnownDevice_46
  · skip
    refine v_aload_n C dX5_isKnownDevice_8 rfl (j := 0) rfl ?_
    refine v_iconst C dX5_isKnownDevice_9 ?_
    refine v_callV_wI C [I 1] [] (Cee.of (rm := rX5_fault) tw_869 tw_2 hX5_fault rfl rfl hRm (Nat.le_of_ble_eq_true rfl) (Nat.le_of_ble_eq_true rfl)) (fun x h => kX5_fault X.2.1 w _ _ h) tw_866 tw_868 ts_8 rfl (ci := 5) rfl (by decide) rfl rfl (Nat.le_of_ble_eq_true rfl) ⟨Nat.zero_le _, Nat.zero_le _⟩ dX5_isKnownDevice_10 (fun q9 => ?_)
    obtain ⟨x10, s11⟩ := q9
    exact v_zret C rfl hO pI dX5_isKnownDevice_13
-- ForesightHub$Reader.readDevice
theorem hX5_readDevice : yX5_readDevice.cls ≠ "java/lang/invoke/MethodHandle" ∧ yX5_readDevice.cls ≠ "java/lang/invoke/VarHandle" ∧ (parseMethodDescriptor yX5_readDevice.desc).map (fun d => d.parameters.length) = some 0 := by decide +kernel
set_option maxRecDepth 100000 in
theorem kX5_readDevice (l : Launch) (w : Wd) (P : Shp) (n : Nat) {s : St} {a0 : Int} {res : Int × St} (h : fX5_readDevice P s a0 = some res) : Ct l w yX5_readDevice cX5_readDevice 2 (some FieldType.boolean) rX5_readDevice P n [A w a0] s (QI w P n res.1 res.2) :=
  Ct.of h (by decide) (Nat.le_of_ble_eq_true rfl) (lv := [(0, A w a0)]) rfl fun X hl hRm C hO => by
  subst hl
  unfold fX5_readDevice
  refine v_aload_n C dX5_readDevice_0 rfl (j := 0) rfl ?_
  refine v_getR C 9 rfl (T := TX5) rfl inB5 (by decide) (by decide) rfl tw_154 dX5_readDevice_1 (fun x1 => ?_)
  refine v_getI C 5 rfl (T := TX4) rfl inB4 (by decide) (by decide) rfl tw_73 dX5_readDevice_4 (fun x2 => ?_)
  refine v_istore_n C [(1, I x2), (0, A w a0)] dX5_readDevice_7 rfl (by decide) rfl ?_
  refine v_iload_n C dX5_readDevice_8 rfl (j := 0) rfl ?_
  refine v_bipush C dX5_readDevice_9 (by decide) ?_
  refine v_icmp_lt (tgt := 20) C dX5_readDevice_11 rfl ?_ ?_
  · skip
    refine v_aload_n C dX5_readDevice_20 rfl (j := 1) rfl ?_
    refine v_callV_wV C [] [] (Cee.of (rm := rX5_advance) tw_836 tw_2 hX5_advance rfl rfl hRm (Nat.le_of_ble_eq_true rfl) (Nat.le_of_ble_eq_true rfl)) (fun x h => kX5_advance X.2.1 w _ _ h) tw_833 tw_835 ts_5 rfl (ci := 5) rfl (by decide) rfl rfl (Nat.le_of_ble_eq_true rfl) ⟨Nat.zero_le _, Nat.zero_le _⟩ dX5_readDevice_21 (fun s3 => ?_)
    refine v_aload_n C dX5_readDevice_24 rfl (j := 1) rfl ?_
    refine v_aload_n C dX5_readDevice_25 rfl (j := 1) rfl ?_
    refine v_getR C 12 rfl (T := TX5) rfl inB5 (by decide) (by decide) rfl tw_157 dX5_readDevice_26 (fun x4 => ?_)
    refine v_iload_n C dX5_readDevice_29 rfl (j := 0) rfl ?_
    refine v_callV_wI C [A w x4, I x2] [] (Cee.of (rm := rX5_takeNewName) tw_890 tw_2 hX5_takeNewName rfl rfl hRm (Nat.le_of_ble_eq_true rfl) (Nat.le_of_ble_eq_true rfl)) (fun x h => kX5_takeNewName X.2.1 w _ _ h) tw_887 tw_889 ts_13 rfl (ci := 5) rfl (by decide) rfl rfl (Nat.le_of_ble_eq_true rfl) ⟨Nat.zero_le _, Nat.zero_le _⟩ dX5_readDevice_30 (fun q5 => ?_)
    obtain ⟨x6, s7⟩ := q5
    refine v_if_ne (tgt := 38) C dX5_readDevice_33 rfl ?_ ?_
    · skip
      refine v_aload_n C dX5_readDevice_38 rfl (j := 1) rfl ?_
      refine v_iconst C dX5_readDevice_39 ?_
      refine v_aload_n C dX5_readDevice_40 rfl (j := 1) rfl ?_
      refine v_getR C 9 rfl (T := TX5) rfl inB5 (by decide) (by decide) rfl tw_154 dX5_readDevice_41 (fun x8 => ?_)
      refine v_getI C 1 rfl (T := TX4) rfl inB4 (by decide) (by decide) rfl tw_56 dX5_readDevice_44 (fun x9 => ?_)
      refine v_iconst C dX5_readDevice_47 ?_
      refine v_isub C dX5_readDevice_48 ?_
      refine v_callV_wI C [I 0, I (x9 - 1)] [] (Cee.of (rm := rX5_isNumberWithin) tw_873 tw_2 hX5_isNumberWithin rfl rfl hRm (Nat.le_of_ble_eq_true rfl) (Nat.le_of_ble_eq_true rfl)) (fun x h => kX5_isNumberWithin X.2.1 w _ _ h) tw_870 tw_872 ts_9 rfl (ci := 5) rfl (by decide) rfl rfl (Nat.le_of_ble_eq_true rfl) ⟨Nat.zero_le _, Nat.zero_le _⟩ dX5_readDevice_49 (fun q10 => ?_)
      obtain ⟨x11, s12⟩ := q10
      refine v_if_ne (tgt := 57) C dX5_readDevice_52 rfl ?_ ?_
      · skip
        refine v_aload_n C dX5_readDevice_57 rfl (j := 1) rfl ?_
        refine v_aload_n C dX5_readDevice_58 rfl (j := 1) rfl ?_
        refine v_getJ C 6 rfl (T := TX5) rfl inB5 (by decide) (by decide) rfl tw_151 dX5_readDevice_59 (fun x13 => ?_)
        refine v_l2i C dX5_readDevice_62 ?_
        refine v_callV_rI C [I x13] [] (Cee.of (rm := rX5_isTakenPort) tw_915 tw_2 hX5_isTakenPort rfl rfl hRm (Nat.le_of_ble_eq_true rfl) (Nat.le_of_ble_eq_true rfl)) (fun x h => kX5_isTakenPort X.2.1 w _ _ h) tw_912 tw_914 ts_18 rfl (ci := 5) rfl (by decide) rfl rfl (Nat.le_of_ble_eq_true rfl) ⟨Nat.zero_le _, Nat.zero_le _⟩ dX5_readDevice_63 (fun x14 => ?_)
        refine v_if_eq (tgt := 75) C dX5_readDevice_66 rfl ?_ ?_
        · skip
          refine v_aload_n C dX5_readDevice_75 rfl (j := 1) rfl ?_
          refine v_getR C 9 rfl (T := TX5) rfl inB5 (by decide) (by decide) rfl tw_154 dX5_readDevice_76 (fun x15 => ?_)
          refine v_getR C 11 rfl (T := TX4) rfl inB4 (by decide) (by decide) rfl tw_92 dX5_readDevice_79 (fun x16 => ?_)
          refine v_iload_n C dX5_readDevice_82 rfl (j := 0) rfl ?_
          refine v_aload_n C dX5_readDevice_83 rfl (j := 1) rfl ?_
          refine v_getJ C 6 rfl (T := TX5) rfl inB5 (by decide) (by decide) rfl tw_151 dX5_readDevice_84 (fun x17 => ?_)
          refine v_l2i C dX5_readDevice_87 ?_
          refine v_iast C dX5_readDevice_88 (fun s18 => ?_)
          refine v_aload_n C dX5_readDevice_89 rfl (j := 1) rfl ?_
          refine v_callV_wV C [] [] (Cee.of (rm := rX5_advance) tw_836 tw_2 hX5_advance rfl rfl hRm (Nat.le_of_ble_eq_true rfl) (Nat.le_of_ble_eq_true rfl)) (fun x h => kX5_advance X.2.1 w _ _ h) tw_833 tw_835 ts_5 rfl (ci := 5) rfl (by decide) rfl rfl (Nat.le_of_ble_eq_true rfl) ⟨Nat.zero_le _, Nat.zero_le _⟩ dX5_readDevice_90 (fun s19 => ?_)
          refine v_aload_n C dX5_readDevice_93 rfl (j := 1) rfl ?_
          refine v_getR C 9 rfl (T := TX5) rfl inB5 (by decide) (by decide) rfl tw_154 dX5_readDevice_94 (fun x20 => ?_)
          refine v_getR C 12 rfl (T := TX4) rfl inB4 (by decide) (by decide) rfl tw_95 dX5_readDevice_97 (fun x21 => ?_)
          refine v_iload_n C dX5_readDevice_100 rfl (j := 0) rfl ?_
          refine v_iconst C dX5_readDevice_101 ?_
          refine v_iast C dX5_readDevice_102 (fun s22 => ?_)
          refine v_aload_n C dX5_readDevice_103 rfl (j := 1) rfl ?_
          refine v_ldcS (own := RX5) (idx := 163) (tx := "heir") (i := 5) (z := (-7)) C (by decide +kernel) dX5_readDevice_104 (by decide) ?_
          refine v_callV_rI C [A w ((-7))] [] (Cee.of (rm := rX5_isWord) tw_848 tw_2 hX5_isWord rfl rfl hRm (Nat.le_of_ble_eq_true rfl) (Nat.le_of_ble_eq_true rfl)) (fun x h => kX5_isWord X.2.1 w _ _ h) tw_845 tw_847 ts_7 rfl (ci := 5) rfl (by decide) rfl rfl (Nat.le_of_ble_eq_true rfl) ⟨Nat.zero_le _, Nat.zero_le _⟩ dX5_readDevice_106 (fun x23 => ?_)
          refine v_jnt (fun (k147 : St → Option (Int × St)) => ∀ (s24 : St), V X w 2 P n 0 0 res (k147 s24) s24 147 [(0, A w a0), (1, I x2)] []) ?_ ?_
          · intro s24
            refine v_aload_n C dX5_readDevice_147 rfl (j := 0) rfl ?_
            refine v_getR C 9 rfl (T := TX5) rfl inB5 (by decide) (by decide) rfl tw_154 dX5_readDevice_148 (fun x25 => ?_)
            refine v_iload_n C dX5_readDevice_151 rfl (j := 1) rfl ?_
            refine v_iconst C dX5_readDevice_152 ?_
            refine v_iadd C dX5_readDevice_153 ?_
            refine v_putI C 5 rfl (T := TX4) rfl inB4 (by decide) tyX4_ok nmX4 (by decide) rfl rfl tw_73 dX5_readDevice_154 rfl (fun s26 => ?_)
            refine v_iconst C dX5_readDevice_157 ?_
            exact v_zret C rfl hO pI dX5_readDevice_158
          intro k147 hk147
          refine v_if_eq (tgt := 147) C dX5_readDevice_109 rfl ?_ ?_
          · skip
            refine v_sub [(0, A w a0), (1, I x2)] [1, 0] rfl ?_
            exact hk147 s22
          · skip
            refine v_aload_n C dX5_readDevice_112 rfl (j := 1) rfl ?_
            refine v_callV_wV C [] [] (Cee.of (rm := rX5_advance) tw_836 tw_2 hX5_advance rfl rfl hRm (Nat.le_of_ble_eq_true rfl) (Nat.le_of_ble_eq_true rfl)) (fun x h => kX5_advance X.2.1 w _ _ h) tw_833 tw_835 ts_5 rfl (ci := 5) rfl (by decide) rfl rfl (Nat.le_of_ble_eq_true rfl) ⟨Nat.zero_le _, Nat.zero_le _⟩ dX5_readDevice_113 (fun s27 => ?_)
            refine v_aload_n C dX5_readDevice_116 rfl (j := 1) rfl ?_
            refine v_callV_wI C [] [] (Cee.of (rm := rX5_isKnownDevice) tw_920 tw_2 hX5_isKnownDevice rfl rfl hRm (Nat.le_of_ble_eq_true rfl) (Nat.le_of_ble_eq_true rfl)) (fun x h => kX5_isKnownDevice X.2.1 w _ _ h) tw_917 tw_919 ts_19 rfl (ci := 5) rfl (by decide) rfl rfl (Nat.le_of_ble_eq_true rfl) ⟨Nat.zero_le _, Nat.zero_le _⟩ dX5_readDevice_117 (fun q28 => ?_)
            obtain ⟨x29, s30⟩ := q28
            refine v_if_ne (tgt := 125) C dX5_readDevice_120 rfl ?_ ?_
            · skip
              refine v_aload_n C dX5_readDevice_125 rfl (j := 1) rfl ?_
              refine v_getR C 9 rfl (T := TX5) rfl inB5 (by decide) (by decide) rfl tw_154 dX5_readDevice_126 (fun x31 => ?_)
              refine v_getR C 12 rfl (T := TX4) rfl inB4 (by decide) (by decide) rfl tw_95 dX5_readDevice_129 (fun x32 => ?_)
              refine v_iload_n C dX5_readDevice_132 rfl (j := 0) rfl ?_
              refine v_aload_n C dX5_readDevice_133 rfl (j := 1) rfl ?_
              refine v_aload_n C dX5_readDevice_134 rfl (j := 1) rfl ?_
              refine v_getR C 12 rfl (T := TX5) rfl inB5 (by decide) (by decide) rfl tw_157 dX5_readDevice_135 (fun x33 => ?_)
              refine v_iload_n C dX5_readDevice_138 rfl (j := 0) rfl ?_
              refine v_callV_rI C [A w x33, I x2] [I x2, A w x32] (Cee.of (rm := rX5_indexOfWord) tw_894 tw_2 hX5_indexOfWord rfl rfl hRm (Nat.le_of_ble_eq_true rfl) (Nat.le_of_ble_eq_true rfl)) (fun x h => kX5_indexOfWord X.2.1 w _ _ h) tw_891 tw_893 ts_14 rfl (ci := 5) rfl (by decide) rfl rfl (Nat.le_of_ble_eq_true rfl) ⟨Nat.zero_le _, Nat.zero_le _⟩ dX5_readDevice_139 (fun x34 => ?_)
              refine v_iast C dX5_readDevice_142 (fun s35 => ?_)
              refine v_aload_n C dX5_readDevice_143 rfl (j := 1) rfl ?_
              refine v_callV_wV C [] [] (Cee.of (rm := rX5_advance) tw_836 tw_2 hX5_advance rfl rfl hRm (Nat.le_of_ble_eq_true rfl) (Nat.le_of_ble_eq_true rfl)) (fun x h => kX5_advance X.2.1 w _ _ h) tw_833 tw_835 ts_5 rfl (ci := 5) rfl (by decide) rfl rfl (Nat.le_of_ble_eq_true rfl) ⟨Nat.zero_le _, Nat.zero_le _⟩ dX5_readDevice_144 (fun s36 => ?_)
              refine v_sub [(0, A w a0), (1, I x2)] [1, 0] rfl ?_
              exact hk147 s36
            · skip
              refine v_iconst C dX5_readDevice_123 ?_
              exact v_zret C rfl hO pI dX5_readDevice_124
        · skip
          refine v_aload_n C dX5_readDevice_69 rfl (j := 1) rfl ?_
          refine v_iconst C dX5_readDevice_70 ?_
          refine v_callV_wI C [I 3] [] (Cee.of (rm := rX5_fault) tw_869 tw_2 hX5_fault rfl rfl hRm (Nat.le_of_ble_eq_true rfl) (Nat.le_of_ble_eq_true rfl)) (fun x h => kX5_fault X.2.1 w _ _ h) tw_866 tw_868 ts_8 rfl (ci := 5) rfl (by decide) rfl rfl (Nat.le_of_ble_eq_true rfl) ⟨Nat.zero_le _, Nat.zero_le _⟩ dX5_readDevice_71 (fun q37 => ?_)
          obtain ⟨x38, s39⟩ := q37
          exact v_zret C rfl hO pI dX5_readDevice_74
      · skip
        refine v_iconst C dX5_readDevice_55 ?_
        exact v_zret C rfl hO pI dX5_readDevice_56
    · skip
      refine v_iconst C dX5_readDevice_36 ?_
      exact v_zret C rfl hO pI dX5_readDevice_37
  · skip
    refine v_aload_n C dX5_readDevice_14 rfl (j := 1) rfl ?_
    refine v_iconst C dX5_readDevice_15 ?_
    refine v_callV_wI C [I 5] [] (Cee.of (rm := rX5_fault) tw_869 tw_2 hX5_fault rfl rfl hRm (Nat.le_of_ble_eq_true rfl) (Nat.le_of_ble_eq_true rfl)) (fun x h => kX5_fault X.2.1 w _ _ h) tw_866 tw_868 ts_8 rfl (ci := 5) rfl (by decide) rfl rfl (Nat.le_of_ble_eq_true rfl) ⟨Nat.zero_le _, Nat.zero_le _⟩ dX5_readDevice_16 (fun q40 => ?_)
    obtain ⟨x41, s42⟩ := q40
    exact v_zret C rfl hO pI dX5_readDevice_19
-- ForesightHub$Reader.readStream
theorem hX5_readStream : yX5_readStream.cls ≠ "java/lang/invoke/MethodHandle" ∧ yX5_readStream.cls ≠ "java/lang/invoke/VarHandle" ∧ (parseMethodDescriptor yX5_readStream.desc).map (fun d => d.parameters.length) = some 0 := by decide +kernel
set_option maxRecDepth 100000 in
theorem kX5_readStream (l : Launch) (w : Wd) (P : Shp) (n : Nat) {s : St} {a0 : Int} {res : Int × St} (h : fX5_readStream P s a0 = some res) : Ct l w yX5_readStream cX5_readStream 2 (some FieldType.boolean) rX5_readStream P n [A w a0] s (QI w P n res.1 res.2) :=
  Ct.of h (by decide) (Nat.le_of_ble_eq_true rfl) (lv := [(0, A w a0)]) rfl fun X hl hRm C hO => by
  subst hl
  unfold fX5_readStream
  refine v_aload_n C dX5_readStream_0 rfl (j := 0) rfl ?_
  refine v_getR C 9 rfl (T := TX5) rfl inB5 (by decide) (by decide) rfl tw_154 dX5_readStream_1 (fun x1 => ?_)
  refine v_getI C 6 rfl (T := TX4) rfl inB4 (by decide) (by decide) rfl tw_77 dX5_readStream_4 (fun x2 => ?_)
  refine v_istore_n C [(1, I x2), (0, A w a0)] dX5_readStream_7 rfl (by decide) rfl ?_
  refine v_iload_n C dX5_readStream_8 rfl (j := 0) rfl ?_
  refine v_bipush C dX5_readStream_9 (by decide) ?_
  refine v_icmp_lt (tgt := 20) C dX5_readStream_11 rfl ?_ ?_
  · skip
    refine v_aload_n C dX5_readStream_20 rfl (j := 1) rfl ?_
    refine v_callV_wV C [] [] (Cee.of (rm := rX5_advance) tw_836 tw_2 hX5_advance rfl rfl hRm (Nat.le_of_ble_eq_true rfl) (Nat.le_of_ble_eq_true rfl)) (fun x h => kX5_advance X.2.1 w _ _ h) tw_833 tw_835 ts_5 rfl (ci := 5) rfl (by decide) rfl rfl (Nat.le_of_ble_eq_true rfl) ⟨Nat.zero_le _, Nat.zero_le _⟩ dX5_readStream_21 (fun s3 => ?_)
    refine v_aload_n C dX5_readStream_24 rfl (j := 1) rfl ?_
    refine v_aload_n C dX5_readStream_25 rfl (j := 1) rfl ?_
    refine v_getR C 13 rfl (T := TX5) rfl inB5 (by decide) (by decide) rfl tw_158 dX5_readStream_26 (fun x4 => ?_)
    refine v_iload_n C dX5_readStream_29 rfl (j := 0) rfl ?_
    refine v_callV_wI C [A w x4, I x2] [] (Cee.of (rm := rX5_takeNewName) tw_890 tw_2 hX5_takeNewName rfl rfl hRm (Nat.le_of_ble_eq_true rfl) (Nat.le_of_ble_eq_true rfl)) (fun x h => kX5_takeNewName X.2.1 w _ _ h) tw_887 tw_889 ts_13 rfl (ci := 5) rfl (by decide) rfl rfl (Nat.le_of_ble_eq_true rfl) ⟨Nat.zero_le _, Nat.zero_le _⟩ dX5_readStream_30 (fun q5 => ?_)
    obtain ⟨x6, s7⟩ := q5
    refine v_if_ne (tgt := 38) C dX5_readStream_33 rfl ?_ ?_
    · skip
      refine v_aload_n C dX5_readStream_38 rfl (j := 1) rfl ?_
      refine v_callV_wI C [] [] (Cee.of (rm := rX5_isKnownDevice) tw_920 tw_2 hX5_isKnownDevice rfl rfl hRm (Nat.le_of_ble_eq_true rfl) (Nat.le_of_ble_eq_true rfl)) (fun x h => kX5_isKnownDevice X.2.1 w _ _ h) tw_917 tw_919 ts_19 rfl (ci := 5) rfl (by decide) rfl rfl (Nat.le_of_ble_eq_true rfl) ⟨Nat.zero_le _, Nat.zero_le _⟩ dX5_readStream_39 (fun q8 => ?_)
      obtain ⟨x9, s10⟩ := q8
      refine v_if_ne (tgt := 47) C dX5_readStream_42 rfl ?_ ?_
      · skip
        refine v_aload_n C dX5_readStream_47 rfl (j := 1) rfl ?_
        refine v_getR C 9 rfl (T := TX5) rfl inB5 (by decide) (by decide) rfl tw_154 dX5_readStream_48 (fun x11 => ?_)
        refine v_getR C 13 rfl (T := TX4) rfl inB4 (by decide) (by decide) rfl tw_99 dX5_readStream_51 (fun x12 => ?_)
        refine v_iload_n C dX5_readStream_54 rfl (j := 0) rfl ?_
        refine v_aload_n C dX5_readStream_55 rfl (j := 1) rfl ?_
        refine v_aload_n C dX5_readStream_56 rfl (j := 1) rfl ?_
        refine v_getR C 12 rfl (T := TX5) rfl inB5 (by decide) (by decide) rfl tw_157 dX5_readStream_57 (fun x13 => ?_)
        refine v_aload_n C dX5_readStream_60 rfl (j := 1) rfl ?_
        refine v_getR C 9 rfl (T := TX5) rfl inB5 (by decide) (by decide) rfl tw_154 dX5_readStream_61 (fun x14 => ?_)
        refine v_getI C 5 rfl (T := TX4) rfl inB4 (by decide) (by decide) rfl tw_73 dX5_readStream_64 (fun x15 => ?_)
        refine v_callV_rI C [A w x13, I x15] [I x2, A w x12] (Cee.of (rm := rX5_indexOfWord) tw_894 tw_2 hX5_indexOfWord rfl rfl hRm (Nat.le_of_ble_eq_true rfl) (Nat.le_of_ble_eq_true rfl)) (fun x h => kX5_indexOfWord X.2.1 w _ _ h) tw_891 tw_893 ts_14 rfl (ci := 5) rfl (by decide) rfl rfl (Nat.le_of_ble_eq_true rfl) ⟨Nat.zero_le _, Nat.zero_le _⟩ dX5_readStream_67 (fun x16 => ?_)
        refine v_iast C dX5_readStream_70 (fun s17 => ?_)
        refine v_aload_n C dX5_readStream_71 rfl (j := 1) rfl ?_
        refine v_callV_wV C [] [] (Cee.of (rm := rX5_advance) tw_836 tw_2 hX5_advance rfl rfl hRm (Nat.le_of_ble_eq_true rfl) (Nat.le_of_ble_eq_true rfl)) (fun x h => kX5_advance X.2.1 w _ _ h) tw_833 tw_835 ts_5 rfl (ci := 5) rfl (by decide) rfl rfl (Nat.le_of_ble_eq_true rfl) ⟨Nat.zero_le _, Nat.zero_le _⟩ dX5_readStream_72 (fun s18 => ?_)
        refine v_aload_n C dX5_readStream_75 rfl (j := 1) rfl ?_
        refine v_iconst C dX5_readStream_76 ?_
        refine v_aload_n C dX5_readStream_77 rfl (j := 1) rfl ?_
        refine v_getR C 9 rfl (T := TX5) rfl inB5 (by decide) (by decide) rfl tw_154 dX5_readStream_78 (fun x19 => ?_)
        refine v_getI C 0 rfl (T := TX4) rfl inB4 (by decide) (by decide) rfl tw_52 dX5_readStream_81 (fun x20 => ?_)
        refine v_callV_wI C [I 1, I x20] [] (Cee.of (rm := rX5_isNumberWithin) tw_873 tw_2 hX5_isNumberWithin rfl rfl hRm (Nat.le_of_ble_eq_true rfl) (Nat.le_of_ble_eq_true rfl)) (fun x h => kX5_isNumberWithin X.2.1 w _ _ h) tw_870 tw_872 ts_9 rfl (ci := 5) rfl (by decide) rfl rfl (Nat.le_of_ble_eq_true rfl) ⟨Nat.zero_le _, Nat.zero_le _⟩ dX5_readStream_84 (fun q21 => ?_)
        obtain ⟨x22, s23⟩ := q21
        refine v_if_ne (tgt := 92) C dX5_readStream_87 rfl ?_ ?_
        · skip
          refine v_aload_n C dX5_readStream_92 rfl (j := 1) rfl ?_
          refine v_getR C 9 rfl (T := TX5) rfl inB5 (by decide) (by decide) rfl tw_154 dX5_readStream_93 (fun x24 => ?_)
          refine v_getR C 14 rfl (T := TX4) rfl inB4 (by decide) (by decide) rfl tw_104 dX5_readStream_96 (fun x25 => ?_)
          refine v_iload_n C dX5_readStream_99 rfl (j := 0) rfl ?_
          refine v_aload_n C dX5_readStream_100 rfl (j := 1) rfl ?_
          refine v_getJ C 6 rfl (T := TX5) rfl inB5 (by decide) (by decide) rfl tw_151 dX5_readStream_101 (fun x26 => ?_)
          refine v_l2i C dX5_readStream_104 ?_
          refine v_iast C dX5_readStream_105 (fun s27 => ?_)
          refine v_aload_n C dX5_readStream_106 rfl (j := 1) rfl ?_
          refine v_callV_wV C [] [] (Cee.of (rm := rX5_advance) tw_836 tw_2 hX5_advance rfl rfl hRm (Nat.le_of_ble_eq_true rfl) (Nat.le_of_ble_eq_true rfl)) (fun x h => kX5_advance X.2.1 w _ _ h) tw_833 tw_835 ts_5 rfl (ci := 5) rfl (by decide) rfl rfl (Nat.le_of_ble_eq_true rfl) ⟨Nat.zero_le _, Nat.zero_le _⟩ dX5_readStream_107 (fun s28 => ?_)
          refine v_aload_n C dX5_readStream_110 rfl (j := 1) rfl ?_
          refine v_iconst C dX5_readStream_111 ?_
          refine v_sipush C dX5_readStream_112 (by decide) ?_
          refine v_callV_wI C [I 1, I 9999] [] (Cee.of (rm := rX5_isNumberWithin) tw_873 tw_2 hX5_isNumberWithin rfl rfl hRm (Nat.le_of_ble_eq_true rfl) (Nat.le_of_ble_eq_true rfl)) (fun x h => kX5_isNumberWithin X.2.1 w _ _ h) tw_870 tw_872 ts_9 rfl (ci := 5) rfl (by decide) rfl rfl (Nat.le_of_ble_eq_true rfl) ⟨Nat.zero_le _, Nat.zero_le _⟩ dX5_readStream_115 (fun q29 => ?_)
          obtain ⟨x30, s31⟩ := q29
          refine v_if_ne (tgt := 123) C dX5_readStream_118 rfl ?_ ?_
          · skip
            refine v_aload_n C dX5_readStream_123 rfl (j := 1) rfl ?_
            refine v_getR C 9 rfl (T := TX5) rfl inB5 (by decide) (by decide) rfl tw_154 dX5_readStream_124 (fun x32 => ?_)
            refine v_getR C 15 rfl (T := TX4) rfl inB4 (by decide) (by decide) rfl tw_108 dX5_readStream_127 (fun x33 => ?_)
            refine v_iload_n C dX5_readStream_130 rfl (j := 0) rfl ?_
            refine v_aload_n C dX5_readStream_131 rfl (j := 1) rfl ?_
            refine v_getJ C 6 rfl (T := TX5) rfl inB5 (by decide) (by decide) rfl tw_151 dX5_readStream_132 (fun x34 => ?_)
            refine v_l2i C dX5_readStream_135 ?_
            refine v_iast C dX5_readStream_136 (fun s35 => ?_)
            refine v_aload_n C dX5_readStream_137 rfl (j := 1) rfl ?_
            refine v_callV_wV C [] [] (Cee.of (rm := rX5_advance) tw_836 tw_2 hX5_advance rfl rfl hRm (Nat.le_of_ble_eq_true rfl) (Nat.le_of_ble_eq_true rfl)) (fun x h => kX5_advance X.2.1 w _ _ h) tw_833 tw_835 ts_5 rfl (ci := 5) rfl (by decide) rfl rfl (Nat.le_of_ble_eq_true rfl) ⟨Nat.zero_le _, Nat.zero_le _⟩ dX5_readStream_138 (fun s36 => ?_)
            refine v_aload_n C dX5_readStream_141 rfl (j := 1) rfl ?_
            refine v_getR C 9 rfl (T := TX5) rfl inB5 (by decide) (by decide) rfl tw_154 dX5_readStream_142 (fun x37 => ?_)
            refine v_iload_n C dX5_readStream_145 rfl (j := 0) rfl ?_
            refine v_iconst C dX5_readStream_146 ?_
            refine v_iadd C dX5_readStream_147 ?_
            refine v_putI C 6 rfl (T := TX4) rfl inB4 (by decide) tyX4_ok nmX4 (by decide) rfl rfl tw_77 dX5_readStream_148 rfl (fun s38 => ?_)
            refine v_iconst C dX5_readStream_151 ?_
            exact v_zret C rfl hO pI dX5_readStream_152
          · skip
            refine v_iconst C dX5_readStream_121 ?_
            exact v_zret C rfl hO pI dX5_readStream_122
        · skip
          refine v_iconst C dX5_readStream_90 ?_
          exact v_zret C rfl hO pI dX5_readStream_91
      · skip
        refine v_iconst C dX5_readStream_45 ?_
        exact v_zret C rfl hO pI dX5_readStream_46
    · skip
      refine v_iconst C dX5_readStream_36 ?_
      exact v_zret C rfl hO pI dX5_readStream_37
  · skip
    refine v_aload_n C dX5_readStream_14 rfl (j := 1) rfl ?_
    refine v_iconst C dX5_readStream_15 ?_
    refine v_callV_wI C [I 5] [] (Cee.of (rm := rX5_fault) tw_869 tw_2 hX5_fault rfl rfl hRm (Nat.le_of_ble_eq_true rfl) (Nat.le_of_ble_eq_true rfl)) (fun x h => kX5_fault X.2.1 w _ _ h) tw_866 tw_868 ts_8 rfl (ci := 5) rfl (by decide) rfl rfl (Nat.le_of_ble_eq_true rfl) ⟨Nat.zero_le _, Nat.zero_le _⟩ dX5_readStream_16 (fun q39 => ?_)
    obtain ⟨x40, s41⟩ := q39
    exact v_zret C rfl hO pI dX5_readStream_19
-- ForesightHub$Reader.readAlarm
theorem hX5_readAlarm : yX5_readAlarm.cls ≠ "java/lang/invoke/MethodHandle" ∧ yX5_readAlarm.cls ≠ "java/lang/invoke/VarHandle" ∧ (parseMethodDescriptor yX5_readAlarm.desc).map (fun d => d.parameters.length) = some 0 := by decide +kernel
set_option maxRecDepth 100000 in
theorem kX5_readAlarm (l : Launch) (w : Wd) (P : Shp) (n : Nat) {s : St} {a0 : Int} {res : Int × St} (h : fX5_readAlarm P s a0 = some res) : Ct l w yX5_readAlarm cX5_readAlarm 1 (some FieldType.boolean) rX5_readAlarm P n [A w a0] s (QI w P n res.1 res.2) :=
  Ct.of h (by decide) (Nat.le_of_ble_eq_true rfl) (lv := [(0, A w a0)]) rfl fun X hl hRm C hO => by
  subst hl
  unfold fX5_readAlarm
  refine v_aload_n C dX5_readAlarm_0 rfl (j := 0) rfl ?_
  refine v_getI C 10 rfl (T := TX5) rfl inB5 (by decide) (by decide) rfl tw_155 dX5_readAlarm_1 (fun x1 => ?_)
  refine v_if_eq (tgt := 13) C dX5_readAlarm_4 rfl ?_ ?_
  · skip
    refine v_aload_n C dX5_readAlarm_13 rfl (j := 0) rfl ?_
    refine v_iconst C dX5_readAlarm_14 ?_
    refine v_putZ C 10 rfl (T := TX5) rfl inB5 (by decide) tyX5_ok nmX5 (by decide) rfl rfl tw_155 dX5_readAlarm_15 rfl (fun s2 => ?_)
    refine v_aload_n C dX5_readAlarm_18 rfl (j := 0) rfl ?_
    refine v_callV_wV C [] [] (Cee.of (rm := rX5_advance) tw_836 tw_2 hX5_advance rfl rfl hRm (Nat.le_of_ble_eq_true rfl) (Nat.le_of_ble_eq_true rfl)) (fun x h => kX5_advance X.2.1 w _ _ h) tw_833 tw_835 ts_5 rfl (ci := 5) rfl (by decide) rfl rfl (Nat.le_of_ble_eq_true rfl) ⟨Nat.zero_le _, Nat.zero_le _⟩ dX5_readAlarm_19 (fun s3 => ?_)
    refine v_aload_n C dX5_readAlarm_22 rfl (j := 0) rfl ?_
    refine v_iconst C dX5_readAlarm_23 ?_
    refine v_sipush C dX5_readAlarm_24 (by decide) ?_
    refine v_callV_wI C [I 1, I 999] [] (Cee.of (rm := rX5_isNumberWithin) tw_873 tw_2 hX5_isNumberWithin rfl rfl hRm (Nat.le_of_ble_eq_true rfl) (Nat.le_of_ble_eq_true rfl)) (fun x h => kX5_isNumberWithin X.2.1 w _ _ h) tw_870 tw_872 ts_9 rfl (ci := 5) rfl (by decide) rfl rfl (Nat.le_of_ble_eq_true rfl) ⟨Nat.zero_le _, Nat.zero_le _⟩ dX5_readAlarm_27 (fun q4 => ?_)
    obtain ⟨x5, s6⟩ := q4
    refine v_if_ne (tgt := 35) C dX5_readAlarm_30 rfl ?_ ?_
    · skip
      refine v_aload_n C dX5_readAlarm_35 rfl (j := 0) rfl ?_
      refine v_getR C 9 rfl (T := TX5) rfl inB5 (by decide) (by decide) rfl tw_154 dX5_readAlarm_36 (fun x7 => ?_)
      refine v_aload_n C dX5_readAlarm_39 rfl (j := 0) rfl ?_
      refine v_getJ C 6 rfl (T := TX5) rfl inB5 (by decide) (by decide) rfl tw_151 dX5_readAlarm_40 (fun x8 => ?_)
      refine v_l2i C dX5_readAlarm_43 ?_
      refine v_putI C 2 rfl (T := TX4) rfl inB4 (by decide) tyX4_ok nmX4 (by decide) rfl rfl tw_60 dX5_readAlarm_44 rfl (fun s9 => ?_)
      refine v_aload_n C dX5_readAlarm_47 rfl (j := 0) rfl ?_
      refine v_callV_wV C [] [] (Cee.of (rm := rX5_advance) tw_836 tw_2 hX5_advance rfl rfl hRm (Nat.le_of_ble_eq_true rfl) (Nat.le_of_ble_eq_true rfl)) (fun x h => kX5_advance X.2.1 w _ _ h) tw_833 tw_835 ts_5 rfl (ci := 5) rfl (by decide) rfl rfl (Nat.le_of_ble_eq_true rfl) ⟨Nat.zero_le _, Nat.zero_le _⟩ dX5_readAlarm_48 (fun s10 => ?_)
      refine v_aload_n C dX5_readAlarm_51 rfl (j := 0) rfl ?_
      refine v_iconst C dX5_readAlarm_52 ?_
      refine v_bipush C dX5_readAlarm_53 (by decide) ?_
      refine v_callV_wI C [I 1, I 99] [] (Cee.of (rm := rX5_isNumberWithin) tw_873 tw_2 hX5_isNumberWithin rfl rfl hRm (Nat.le_of_ble_eq_true rfl) (Nat.le_of_ble_eq_true rfl)) (fun x h => kX5_isNumberWithin X.2.1 w _ _ h) tw_870 tw_872 ts_9 rfl (ci := 5) rfl (by decide) rfl rfl (Nat.le_of_ble_eq_true rfl) ⟨Nat.zero_le _, Nat.zero_le _⟩ dX5_readAlarm_55 (fun q11 => ?_)
      obtain ⟨x12, s13⟩ := q11
      refine v_if_ne (tgt := 63) C dX5_readAlarm_58 rfl ?_ ?_
      · skip
        refine v_aload_n C dX5_readAlarm_63 rfl (j := 0) rfl ?_
        refine v_getR C 9 rfl (T := TX5) rfl inB5 (by decide) (by decide) rfl tw_154 dX5_readAlarm_64 (fun x14 => ?_)
        refine v_aload_n C dX5_readAlarm_67 rfl (j := 0) rfl ?_
        refine v_getJ C 6 rfl (T := TX5) rfl inB5 (by decide) (by decide) rfl tw_151 dX5_readAlarm_68 (fun x15 => ?_)
        refine v_l2i C dX5_readAlarm_71 ?_
        refine v_putI C 3 rfl (T := TX4) rfl inB4 (by decide) tyX4_ok nmX4 (by decide) rfl rfl tw_63 dX5_readAlarm_72 rfl (fun s16 => ?_)
        refine v_aload_n C dX5_readAlarm_75 rfl (j := 0) rfl ?_
        refine v_callV_wV C [] [] (Cee.of (rm := rX5_advance) tw_836 tw_2 hX5_advance rfl rfl hRm (Nat.le_of_ble_eq_true rfl) (Nat.le_of_ble_eq_true rfl)) (fun x h => kX5_advance X.2.1 w _ _ h) tw_833 tw_835 ts_5 rfl (ci := 5) rfl (by decide) rfl rfl (Nat.le_of_ble_eq_true rfl) ⟨Nat.zero_le _, Nat.zero_le _⟩ dX5_readAlarm_76 (fun s17 => ?_)
        refine v_iconst C dX5_readAlarm_79 ?_
        exact v_zret C rfl hO pI dX5_readAlarm_80
      · skip
        refine v_iconst C dX5_readAlarm_61 ?_
        exact v_zret C rfl hO pI dX5_readAlarm_62
    · skip
      refine v_iconst C dX5_readAlarm_33 ?_
      exact v_zret C rfl hO pI dX5_readAlarm_34
  · skip
    refine v_aload_n C dX5_readAlarm_7 rfl (j := 0) rfl ?_
    refine v_iconst C dX5_readAlarm_8 ?_
    refine v_callV_wI C [I 3] [] (Cee.of (rm := rX5_fault) tw_869 tw_2 hX5_fault rfl rfl hRm (Nat.le_of_ble_eq_true rfl) (Nat.le_of_ble_eq_true rfl)) (fun x h => kX5_fault X.2.1 w _ _ h) tw_866 tw_868 ts_8 rfl (ci := 5) rfl (by decide) rfl rfl (Nat.le_of_ble_eq_true rfl) ⟨Nat.zero_le _, Nat.zero_le _⟩ dX5_readAlarm_9 (fun q18 => ?_)
    obtain ⟨x19, s20⟩ := q18
    exact v_zret C rfl hO pI dX5_readAlarm_12
-- ForesightHub$Reader.readStatement
theorem hX5_readStatement : yX5_readStatement.cls ≠ "java/lang/invoke/MethodHandle" ∧ yX5_readStatement.cls ≠ "java/lang/invoke/VarHandle" ∧ (parseMethodDescriptor yX5_readStatement.desc).map (fun d => d.parameters.length) = some 0 := by decide +kernel
set_option maxRecDepth 100000 in
theorem kX5_readStatement (l : Launch) (w : Wd) (P : Shp) (n : Nat) {s : St} {a0 : Int} {res : Int × St} (h : fX5_readStatement P s a0 = some res) : Ct l w yX5_readStatement cX5_readStatement 1 (some FieldType.boolean) rX5_readStatement P n [A w a0] s (QI w P n res.1 res.2) :=
  Ct.of h (by decide) (Nat.le_of_ble_eq_true rfl) (lv := [(0, A w a0)]) rfl fun X hl hRm C hO => by
  subst hl
  unfold fX5_readStatement
  refine v_aload_n C dX5_readStatement_0 rfl (j := 0) rfl ?_
  refine v_ldcS (own := RX5) (idx := 104) (tx := "pattern") (i := 1) (z := (-3)) C (by decide +kernel) dX5_readStatement_1 (by decide) ?_
  refine v_callV_rI C [A w ((-3))] [] (Cee.of (rm := rX5_isWord) tw_848 tw_2 hX5_isWord rfl rfl hRm (Nat.le_of_ble_eq_true rfl) (Nat.le_of_ble_eq_true rfl)) (fun x h => kX5_isWord X.2.1 w _ _ h) tw_845 tw_847 ts_7 rfl (ci := 5) rfl (by decide) rfl rfl (Nat.le_of_ble_eq_true rfl) ⟨Nat.zero_le _, Nat.zero_le _⟩ dX5_readStatement_3 (fun x1 => ?_)
  refine v_if_eq (tgt := 29) C dX5_readStatement_6 rfl ?_ ?_
  · skip
    refine v_aload_n C dX5_readStatement_29 rfl (j := 0) rfl ?_
    refine v_ldcS (own := RX5) (idx := 109) (tx := "device") (i := 2) (z := (-4)) C (by decide +kernel) dX5_readStatement_30 (by decide) ?_
    refine v_callV_rI C [A w ((-4))] [] (Cee.of (rm := rX5_isWord) tw_848 tw_2 hX5_isWord rfl rfl hRm (Nat.le_of_ble_eq_true rfl) (Nat.le_of_ble_eq_true rfl)) (fun x h => kX5_isWord X.2.1 w _ _ h) tw_845 tw_847 ts_7 rfl (ci := 5) rfl (by decide) rfl rfl (Nat.le_of_ble_eq_true rfl) ⟨Nat.zero_le _, Nat.zero_le _⟩ dX5_readStatement_32 (fun x2 => ?_)
    refine v_if_eq (tgt := 58) C dX5_readStatement_35 rfl ?_ ?_
    · skip
      refine v_aload_n C dX5_readStatement_58 rfl (j := 0) rfl ?_
      refine v_ldcS (own := RX5) (idx := 114) (tx := "stream") (i := 3) (z := (-5)) C (by decide +kernel) dX5_readStatement_59 (by decide) ?_
      refine v_callV_rI C [A w ((-5))] [] (Cee.of (rm := rX5_isWord) tw_848 tw_2 hX5_isWord rfl rfl hRm (Nat.le_of_ble_eq_true rfl) (Nat.le_of_ble_eq_true rfl)) (fun x h => kX5_isWord X.2.1 w _ _ h) tw_845 tw_847 ts_7 rfl (ci := 5) rfl (by decide) rfl rfl (Nat.le_of_ble_eq_true rfl) ⟨Nat.zero_le _, Nat.zero_le _⟩ dX5_readStatement_61 (fun x3 => ?_)
      refine v_if_eq (tgt := 87) C dX5_readStatement_64 rfl ?_ ?_
      · skip
        refine v_aload_n C dX5_readStatement_87 rfl (j := 0) rfl ?_
        refine v_ldcS (own := RX5) (idx := 119) (tx := "alarm") (i := 4) (z := (-6)) C (by decide +kernel) dX5_readStatement_88 (by decide) ?_
        refine v_callV_rI C [A w ((-6))] [] (Cee.of (rm := rX5_isWord) tw_848 tw_2 hX5_isWord rfl rfl hRm (Nat.le_of_ble_eq_true rfl) (Nat.le_of_ble_eq_true rfl)) (fun x h => kX5_isWord X.2.1 w _ _ h) tw_845 tw_847 ts_7 rfl (ci := 5) rfl (by decide) rfl rfl (Nat.le_of_ble_eq_true rfl) ⟨Nat.zero_le _, Nat.zero_le _⟩ dX5_readStatement_90 (fun x4 => ?_)
        refine v_if_eq (tgt := 116) C dX5_readStatement_93 rfl ?_ ?_
        · skip
          refine v_aload_n C dX5_readStatement_116 rfl (j := 0) rfl ?_
          refine v_iconst C dX5_readStatement_117 ?_
          refine v_callV_wI C [I 1] [] (Cee.of (rm := rX5_fault) tw_869 tw_2 hX5_fault rfl rfl hRm (Nat.le_of_ble_eq_true rfl) (Nat.le_of_ble_eq_true rfl)) (fun x h => kX5_fault X.2.1 w _ _ h) tw_866 tw_868 ts_8 rfl (ci := 5) rfl (by decide) rfl rfl (Nat.le_of_ble_eq_true rfl) ⟨Nat.zero_le _, Nat.zero_le _⟩ dX5_readStatement_118 (fun q5 => ?_)
          obtain ⟨x6, s7⟩ := q5
          exact v_zret C rfl hO pI dX5_readStatement_121
        · skip
          refine v_aload_n C dX5_readStatement_96 rfl (j := 0) rfl ?_
          refine v_callV_wI C [] [] (Cee.of (rm := rX5_readAlarm) tw_930 tw_2 hX5_readAlarm rfl rfl hRm (Nat.le_of_ble_eq_true rfl) (Nat.le_of_ble_eq_true rfl)) (fun x h => kX5_readAlarm X.2.1 w _ _ h) tw_927 tw_929 ts_21 rfl (ci := 5) rfl (by decide) rfl rfl (Nat.le_of_ble_eq_true rfl) ⟨Nat.zero_le _, Nat.zero_le _⟩ dX5_readStatement_97 (fun q8 => ?_)
          obtain ⟨x9, s10⟩ := q8
          refine v_if_eq (tgt := 114) C dX5_readStatement_100 rfl ?_ ?_
          · skip
            refine v_iconst C dX5_readStatement_114 ?_
            exact v_zret C rfl hO pI dX5_readStatement_115
          · skip
            refine v_aload_n C dX5_readStatement_103 rfl (j := 0) rfl ?_
            refine v_callV_wI C [] [] (Cee.of (rm := rX5_takeSemicolon) tw_877 tw_2 hX5_takeSemicolon rfl rfl hRm (Nat.le_of_ble_eq_true rfl) (Nat.le_of_ble_eq_true rfl)) (fun x h => kX5_takeSemicolon X.2.1 w _ _ h) tw_874 tw_876 ts_10 rfl (ci := 5) rfl (by decide) rfl rfl (Nat.le_of_ble_eq_true rfl) ⟨Nat.zero_le _, Nat.zero_le _⟩ dX5_readStatement_104 (fun q11 => ?_)
            obtain ⟨x12, s13⟩ := q11
            refine v_if_eq (tgt := 114) C dX5_readStatement_107 rfl ?_ ?_
            · skip
              refine v_iconst C dX5_readStatement_114 ?_
              exact v_zret C rfl hO pI dX5_readStatement_115
            · skip
              refine v_iconst C dX5_readStatement_110 ?_
              refine v_goto (tgt := 115) C dX5_readStatement_111 rfl ?_
              exact v_zret C rfl hO pI dX5_readStatement_115
      · skip
        refine v_aload_n C dX5_readStatement_67 rfl (j := 0) rfl ?_
        refine v_callV_wI C [] [] (Cee.of (rm := rX5_readStream) tw_925 tw_2 hX5_readStream rfl rfl hRm (Nat.le_of_ble_eq_true rfl) (Nat.le_of_ble_eq_true rfl)) (fun x h => kX5_readStream X.2.1 w _ _ h) tw_922 tw_924 ts_20 rfl (ci := 5) rfl (by decide) rfl rfl (Nat.le_of_ble_eq_true rfl) ⟨Nat.zero_le _, Nat.zero_le _⟩ dX5_readStatement_68 (fun q14 => ?_)
        obtain ⟨x15, s16⟩ := q14
        refine v_if_eq (tgt := 85) C dX5_readStatement_71 rfl ?_ ?_
        · skip
          refine v_iconst C dX5_readStatement_85 ?_
          exact v_zret C rfl hO pI dX5_readStatement_86
        · skip
          refine v_aload_n C dX5_readStatement_74 rfl (j := 0) rfl ?_
          refine v_callV_wI C [] [] (Cee.of (rm := rX5_takeSemicolon) tw_877 tw_2 hX5_takeSemicolon rfl rfl hRm (Nat.le_of_ble_eq_true rfl) (Nat.le_of_ble_eq_true rfl)) (fun x h => kX5_takeSemicolon X.2.1 w _ _ h) tw_874 tw_876 ts_10 rfl (ci := 5) rfl (by decide) rfl rfl (Nat.le_of_ble_eq_true rfl) ⟨Nat.zero_le _, Nat.zero_le _⟩ dX5_readStatement_75 (fun q17 => ?_)
          obtain ⟨x18, s19⟩ := q17
          refine v_if_eq (tgt := 85) C dX5_readStatement_78 rfl ?_ ?_
          · skip
            refine v_iconst C dX5_readStatement_85 ?_
            exact v_zret C rfl hO pI dX5_readStatement_86
          · skip
            refine v_iconst C dX5_readStatement_81 ?_
            refine v_goto (tgt := 86) C dX5_readStatement_82 rfl ?_
            exact v_zret C rfl hO pI dX5_readStatement_86
    · skip
      refine v_aload_n C dX5_readStatement_38 rfl (j := 0) rfl ?_
      refine v_callV_wI C [] [] (Cee.of (rm := rX5_readDevice) tw_911 tw_2 hX5_readDevice rfl rfl hRm (Nat.le_of_ble_eq_true rfl) (Nat.le_of_ble_eq_true rfl)) (fun x h => kX5_readDevice X.2.1 w _ _ h) tw_908 tw_910 ts_17 rfl (ci := 5) rfl (by decide) rfl rfl (Nat.le_of_ble_eq_true rfl) ⟨Nat.zero_le _, Nat.zero_le _⟩ dX5_readStatement_39 (fun q20 => ?_)
      obtain ⟨x21, s22⟩ := q20
      refine v_if_eq (tgt := 56) C dX5_readStatement_42 rfl ?_ ?_
      · skip
        refine v_iconst C dX5_readStatement_56 ?_
        exact v_zret C rfl hO pI dX5_readStatement_57
      · skip
        refine v_aload_n C dX5_readStatement_45 rfl (j := 0) rfl ?_
        refine v_callV_wI C [] [] (Cee.of (rm := rX5_takeSemicolon) tw_877 tw_2 hX5_takeSemicolon rfl rfl hRm (Nat.le_of_ble_eq_true rfl) (Nat.le_of_ble_eq_true rfl)) (fun x h => kX5_takeSemicolon X.2.1 w _ _ h) tw_874 tw_876 ts_10 rfl (ci := 5) rfl (by decide) rfl rfl (Nat.le_of_ble_eq_true rfl) ⟨Nat.zero_le _, Nat.zero_le _⟩ dX5_readStatement_46 (fun q23 => ?_)
        obtain ⟨x24, s25⟩ := q23
        refine v_if_eq (tgt := 56) C dX5_readStatement_49 rfl ?_ ?_
        · skip
          refine v_iconst C dX5_readStatement_56 ?_
          exact v_zret C rfl hO pI dX5_readStatement_57
        · skip
          refine v_iconst C dX5_readStatement_52 ?_
          refine v_goto (tgt := 57) C dX5_readStatement_53 rfl ?_
          exact v_zret C rfl hO pI dX5_readStatement_57
  · skip
    refine v_aload_n C dX5_readStatement_9 rfl (j := 0) rfl ?_
    refine v_callV_wI C [] [] (Cee.of (rm := rX5_readPattern) tw_886 tw_2 hX5_readPattern rfl rfl hRm (Nat.le_of_ble_eq_true rfl) (Nat.le_of_ble_eq_true rfl)) (fun x h => kX5_readPattern X.2.1 w _ _ h) tw_883 tw_885 ts_12 rfl (ci := 5) rfl (by decide) rfl rfl (Nat.le_of_ble_eq_true rfl) ⟨Nat.zero_le _, Nat.zero_le _⟩ dX5_readStatement_10 (fun q26 => ?_)
    obtain ⟨x27, s28⟩ := q26
    refine v_if_eq (tgt := 27) C dX5_readStatement_13 rfl ?_ ?_
    · skip
      refine v_iconst C dX5_readStatement_27 ?_
      exact v_zret C rfl hO pI dX5_readStatement_28
    · skip
      refine v_aload_n C dX5_readStatement_16 rfl (j := 0) rfl ?_
      refine v_callV_wI C [] [] (Cee.of (rm := rX5_takeSemicolon) tw_877 tw_2 hX5_takeSemicolon rfl rfl hRm (Nat.le_of_ble_eq_true rfl) (Nat.le_of_ble_eq_true rfl)) (fun x h => kX5_takeSemicolon X.2.1 w _ _ h) tw_874 tw_876 ts_10 rfl (ci := 5) rfl (by decide) rfl rfl (Nat.le_of_ble_eq_true rfl) ⟨Nat.zero_le _, Nat.zero_le _⟩ dX5_readStatement_17 (fun q29 => ?_)
      obtain ⟨x30, s31⟩ := q29
      refine v_if_eq (tgt := 27) C dX5_readStatement_20 rfl ?_ ?_
      · skip
        refine v_iconst C dX5_readStatement_27 ?_
        exact v_zret C rfl hO pI dX5_readStatement_28
      · skip
        refine v_iconst C dX5_readStatement_23 ?_
        refine v_goto (tgt := 28) C dX5_readStatement_24 rfl ?_
        exact v_zret C rfl hO pI dX5_readStatement_28
-- ForesightHub$Reader.read
set_option maxRecDepth 100000 in
theorem vX5_read_L48 {X : Cxt} {w : Wd} {P : Shp} {n : Nat} (res : Int × St) (hRm : X.2.2.2.1 = rX5_read) (C : Cok X w cX5_read 3 RX5 (some FieldType.boolean)) (hO : Own X w 0 0 (QI w P n res.1 res.2))  (c0 : Int) (kE79 : St → Option (Int × St)) (kE62 : St → Option (Int × St)) (kE71 : St → Option (Int × St)) (hE79 : ∀ (se : St), V X w 3 P n 0 0 res (kE79 se) se 79 [(0, A w c0)] []) (hE62 : ∀ (se : St), V X w 3 P n 0 0 res (kE62 se) se 62 [] []) (hE71 : ∀ (se : St), V X w 3 P n 0 0 res (kE71 se) se 71 [] []) : ∀ (fuel : Nat) (p2 : Int) (s : St), V X w 3 P n 0 0 res (fX5_read_L48 P c0 kE79 kE62 kE71 fuel p2 s) s 48 [(0, A w c0), (2, I p2)] [] := by
  intro fuel
  induction fuel with
  | zero => intro p2 s; exact v_none
  | succ m ih =>
    intro p2 s
    rw [fX5_read_L48]
    refine v_iload_n C dX5_read_48 rfl (j := 1) rfl ?_
    refine v_sipush C dX5_read_49 (by decide) ?_
    refine v_icmp_gt (tgt := 79) C dX5_read_52 rfl ?_ ?_
    · skip
      refine v_sub [(0, A w c0)] [0] rfl ?_
      exact hE79 s
    · skip
      refine v_aload_n C dX5_read_55 rfl (j := 0) rfl ?_
      refine v_getI C 4 rfl (T := TX5) rfl inB5 (by decide) (by decide) rfl tw_149 dX5_read_56 (fun x13 => ?_)
      refine v_if_ne (tgt := 64) C dX5_read_59 rfl ?_ ?_
      · skip
        refine v_aload_n C dX5_read_64 rfl (j := 0) rfl ?_
        refine v_callV_wI C [] [] (Cee.of (rm := rX5_readStatement) tw_881 tw_2 hX5_readStatement rfl rfl hRm (Nat.le_of_ble_eq_true rfl) (Nat.le_of_ble_eq_true rfl)) (fun x h => kX5_readStatement X.2.1 w _ _ h) tw_878 tw_880 ts_11 rfl (ci := 5) rfl (by decide) rfl rfl (Nat.le_of_ble_eq_true rfl) ⟨Nat.zero_le _, Nat.zero_le _⟩ dX5_read_65 (fun q14 => ?_)
        obtain ⟨x15, s16⟩ := q14
        refine v_if_ne (tgt := 73) C dX5_read_68 rfl ?_ ?_
        · skip
          refine v_iinc C (j := 1) [(0, A w c0)] dX5_read_73 (by decide) rfl (fun _ => rfl) (fun x17 => ?_)
          refine v_goto (tgt := 48) C dX5_read_76 rfl ?_
          refine v_sub [(0, A w c0), (2, I x17)] [1, 0] rfl ?_
          exact ih x17 s16
        · skip
          refine v_sub [] [] rfl ?_
          exact hE71 s16
      · skip
        refine v_sub [] [] rfl ?_
        exact hE62 s
theorem hX5_read : yX5_read.cls ≠ "java/lang/invoke/MethodHandle" ∧ yX5_read.cls ≠ "java/lang/invoke/VarHandle" ∧ (parseMethodDescriptor yX5_read.desc).map (fun d => d.parameters.length) = some 1 := by decide +kernel
set_option maxRecDepth 100000 in
theorem kX5_read (l : Launch) (w : Wd) (P : Shp) (n : Nat) {s : St} {a0 : Int} {a1 : Int} {res : Int × St} (h : fX5_read P s a0 a1 = some res) : Ct l w yX5_read cX5_read 3 (some FieldType.boolean) rX5_read P n [A w a0, I a1] s (QI w P n res.1 res.2) :=
  Ct.of h (by decide) (Nat.le_of_ble_eq_true rfl) (lv := [(0, A w a0), (1, I a1)]) rfl fun X hl hRm C hO => by
  subst hl
  unfold fX5_read
  refine v_aload_n C dX5_read_0 rfl (j := 0) rfl ?_
  refine v_iconst C dX5_read_1 ?_
  refine v_iload_n C dX5_read_2 rfl (j := 1) rfl ?_
  refine v_aload_n C dX5_read_3 rfl (j := 0) rfl ?_
  refine v_getI C 1 rfl (T := TX5) rfl inB5 (by decide) (by decide) rfl tw_145 dX5_read_4 (fun x1 => ?_)
  refine v_mn C tw_830 tw_479 tw_13 tw_480 (by rw [hRm]; exact Nat.le_of_ble_eq_true rfl) (by rw [hRm]; exact Nat.le_of_ble_eq_true rfl) (Nat.le_of_ble_eq_true rfl) ⟨Nat.zero_le _, Nat.zero_le _⟩ dX5_read_7 (fun x2 => ?_)
  refine v_mx C tw_831 tw_631 tw_13 tw_632 (by rw [hRm]; exact Nat.le_of_ble_eq_true rfl) (by rw [hRm]; exact Nat.le_of_ble_eq_true rfl) (Nat.le_of_ble_eq_true rfl) ⟨Nat.zero_le _, Nat.zero_le _⟩ dX5_read_10 (fun x3 => ?_)
  refine v_putI C 2 rfl (T := TX5) rfl inB5 (by decide) tyX5_ok nmX5 (by decide) rfl rfl tw_147 dX5_read_13 rfl (fun s4 => ?_)
  refine v_aload_n C dX5_read_16 rfl (j := 0) rfl ?_
  refine v_iconst C dX5_read_17 ?_
  refine v_putI C 3 rfl (T := TX5) rfl inB5 (by decide) tyX5_ok nmX5 (by decide) rfl rfl tw_148 dX5_read_18 rfl (fun s5 => ?_)
  refine v_aload_n C dX5_read_21 rfl (j := 0) rfl ?_
  refine v_iconst C dX5_read_22 ?_
  refine v_putZ C 10 rfl (T := TX5) rfl inB5 (by decide) tyX5_ok nmX5 (by decide) rfl rfl tw_155 dX5_read_23 rfl (fun s6 => ?_)
  refine v_aload_n C dX5_read_26 rfl (j := 0) rfl ?_
  refine v_getR C 9 rfl (T := TX5) rfl inB5 (by decide) (by decide) rfl tw_154 dX5_read_27 (fun x7 => ?_)
  refine v_callV_wV C [] [] (Cee.of (rm := rX4_clear) tw_49 tw_3 hX4_clear rfl rfl hRm (Nat.le_of_ble_eq_true rfl) (Nat.le_of_ble_eq_true rfl)) (fun x h => kX4_clear X.2.1 w _ _ h) tw_832 tw_47 tw_48 rfl (ci := 4) rfl (by decide) rfl rfl (Nat.le_of_ble_eq_true rfl) ⟨Nat.zero_le _, Nat.zero_le _⟩ dX5_read_30 (fun s8 => ?_)
  refine v_aload_n C dX5_read_33 rfl (j := 0) rfl ?_
  refine v_callV_wV C [] [] (Cee.of (rm := rX5_advance) tw_836 tw_2 hX5_advance rfl rfl hRm (Nat.le_of_ble_eq_true rfl) (Nat.le_of_ble_eq_true rfl)) (fun x h => kX5_advance X.2.1 w _ _ h) tw_833 tw_835 ts_5 rfl (ci := 5) rfl (by decide) rfl rfl (Nat.le_of_ble_eq_true rfl) ⟨Nat.zero_le _, Nat.zero_le _⟩ dX5_read_34 (fun s9 => ?_)
  refine v_aload_n C dX5_read_37 rfl (j := 0) rfl ?_
  refine v_callV_wI C [] [] (Cee.of (rm := rX5_readHeader) tw_843 tw_2 hX5_readHeader rfl rfl hRm (Nat.le_of_ble_eq_true rfl) (Nat.le_of_ble_eq_true rfl)) (fun x h => kX5_readHeader X.2.1 w _ _ h) tw_840 tw_842 ts_6 rfl (ci := 5) rfl (by decide) rfl rfl (Nat.le_of_ble_eq_true rfl) ⟨Nat.zero_le _, Nat.zero_le _⟩ dX5_read_38 (fun q10 => ?_)
  obtain ⟨x11, s12⟩ := q10
  refine v_if_ne (tgt := 46) C dX5_read_41 rfl ?_ ?_
  · skip
    refine v_iconst C dX5_read_46 ?_
    refine v_istore_n C [(2, I 0), (0, A w a0), (1, I a1)] dX5_read_47 rfl (by decide) rfl ?_
    refine v_sub [(0, A w a0), (2, I 0)] [1, 0] rfl ?_
    refine vX5_read_L48 res hRm C hO a0 _ _ _ ?_ ?_ ?_ 1000 0 s12
    · intro s18
      refine v_aload_n C dX5_read_79 rfl (j := 0) rfl ?_
      refine v_iconst C dX5_read_80 ?_
      refine v_callV_wI C [I 1] [] (Cee.of (rm := rX5_fault) tw_869 tw_2 hX5_fault rfl rfl hRm (Nat.le_of_ble_eq_true rfl) (Nat.le_of_ble_eq_true rfl)) (fun x h => kX5_fault X.2.1 w _ _ h) tw_866 tw_868 ts_8 rfl (ci := 5) rfl (by decide) rfl rfl (Nat.le_of_ble_eq_true rfl) ⟨Nat.zero_le _, Nat.zero_le _⟩ dX5_read_81 (fun q19 => ?_)
      obtain ⟨x20, s21⟩ := q19
      exact v_zret C rfl hO pI dX5_read_84
    · intro s22
      refine v_iconst C dX5_read_62 ?_
      exact v_zret C rfl hO pI dX5_read_63
    · intro s23
      refine v_iconst C dX5_read_71 ?_
      exact v_zret C rfl hO pI dX5_read_72
  · skip
    refine v_iconst C dX5_read_44 ?_
    exact v_zret C rfl hO pI dX5_read_45
