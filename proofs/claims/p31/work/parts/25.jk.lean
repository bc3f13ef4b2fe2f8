/-! CONTRACTS of the JDK's methods -/
-- java/lang/AbstractStringBuilder.length
theorem hJ5_length_8abf5 : yJ5_length_8abf5.cls ≠ "java/lang/invoke/MethodHandle" ∧ yJ5_length_8abf5.cls ≠ "java/lang/invoke/VarHandle" ∧ (parseMethodDescriptor yJ5_length_8abf5.desc).map (fun d => d.parameters.length) = some 0 := by decide +kernel
set_option maxRecDepth 100000 in
theorem kJ5_length_8abf5 (l : Launch) (w : Wd) (P : Shp) (n : Nat) {s : St} {a0 : Int} {res : Int} (h : fJ5_length_8abf5 P s a0 = some res) : Ct l w yJ5_length_8abf5 cJ5_length_8abf5 1 (some FieldType.int) rJ5_length_8abf5 P n [A w a0] s (QI w P n res s) :=
  Ct.ofF h (by decide +kernel) (Nat.le_of_ble_eq_true rfl) (lv := [(0, A w a0)]) rfl fun X hl hRm C hO => by
  subst hl
  unfold fJ5_length_8abf5
  refine v_aload_n C dJ5_length_8abf5_0 rfl (j := 0) rfl ?_
  refine v_getI C 3 rfl (T := TJ4) rfl inB8 (by decide) (by decide) rfl tw_716 dJ5_length_8abf5_1 (fun x1 => ?_)
  exact v_iret C rfl hO pS dJ5_length_8abf5_4
-- java/lang/AbstractStringBuilder.isLatin1
theorem hJ5_isLatin1_aae02 : yJ5_isLatin1_aae02.cls ≠ "java/lang/invoke/MethodHandle" ∧ yJ5_isLatin1_aae02.cls ≠ "java/lang/invoke/VarHandle" ∧ (parseMethodDescriptor yJ5_isLatin1_aae02.desc).map (fun d => d.parameters.length) = some 0 := by decide +kernel
set_option maxRecDepth 100000 in
theorem kJ5_isLatin1_aae02 (l : Launch) (w : Wd) (P : Shp) (n : Nat) {s : St} {a0 : Int} {res : Int} (h : fJ5_isLatin1_aae02 P s a0 = some res) : Ct l w yJ5_isLatin1_aae02 cJ5_isLatin1_aae02 1 (some FieldType.boolean) rJ5_isLatin1_aae02 P n [A w a0] s (QI w P n res s) :=
  Ct.ofF h (by decide +kernel) (Nat.le_of_ble_eq_true rfl) (lv := [(0, A w a0)]) rfl fun X hl hRm C hO => by
  subst hl
  unfold fJ5_isLatin1_aae02
  refine v_scs C tw_654 dJ5_isLatin1_aae02_0 ?_
  refine v_if_eq (tgt := 17) C dJ5_isLatin1_aae02_3 rfl ?_ ?_
  · skip
    refine v_iconst C dJ5_isLatin1_aae02_17 ?_
    exact v_zret C rfl hO pS dJ5_isLatin1_aae02_18
  · skip
    refine v_aload_n C dJ5_isLatin1_aae02_6 rfl (j := 0) rfl ?_
    refine v_getI C 1 rfl (T := TJ4) rfl inB8 (by decide) (by decide) rfl tw_715 dJ5_isLatin1_aae02_7 (fun x1 => ?_)
    refine v_if_ne (tgt := 17) C dJ5_isLatin1_aae02_10 rfl ?_ ?_
    · skip
      refine v_iconst C dJ5_isLatin1_aae02_17 ?_
      exact v_zret C rfl hO pS dJ5_isLatin1_aae02_18
    · skip
      refine v_iconst C dJ5_isLatin1_aae02_13 ?_
      refine v_goto (tgt := 18) C dJ5_isLatin1_aae02_14 rfl ?_
      exact v_zret C rfl hO pS dJ5_isLatin1_aae02_18
-- jdk/internal/util/ArraysSupport.newLength
theorem hJ8_newLength_cabcc : yJ8_newLength_cabcc.cls ≠ "java/lang/invoke/MethodHandle" ∧ yJ8_newLength_cabcc.cls ≠ "java/lang/invoke/VarHandle" ∧ (parseMethodDescriptor yJ8_newLength_cabcc.desc).map (fun d => d.parameters.length) = some 3 := by decide +kernel
set_option maxRecDepth 100000 in
theorem kJ8_newLength_cabcc (l : Launch) (w : Wd) (P : Shp) (n : Nat) {s : St} {a0 : Int} {a1 : Int} {a2 : Int} {res : Int} (h : fJ8_newLength_cabcc P s a0 a1 a2 = some res) : Ct l w yJ8_newLength_cabcc cJ8_newLength_cabcc 4 (some FieldType.int) rJ8_newLength_cabcc P n [I a0, I a1, I a2] s (QI w P n res s) :=
  Ct.ofF h (by decide +kernel) (Nat.le_of_ble_eq_true rfl) (lv := [(0, I a0), (1, I a1), (2, I a2)]) rfl fun X hl hRm C hO => by
  subst hl
  unfold fJ8_newLength_cabcc
  refine v_iload_n C dJ8_newLength_cabcc_0 rfl (j := 0) rfl ?_
  refine v_iload_n C dJ8_newLength_cabcc_1 rfl (j := 1) rfl ?_
  refine v_iload_n C dJ8_newLength_cabcc_2 rfl (j := 2) rfl ?_
  refine v_mx C tw_630 tw_631 tw_13 tw_632 (by rw [hRm]; exact Nat.le_of_ble_eq_true rfl) (by rw [hRm]; exact Nat.le_of_ble_eq_true rfl) (Nat.le_of_ble_eq_true rfl) ⟨Nat.zero_le _, Nat.zero_le _⟩ dJ8_newLength_cabcc_3 (fun x1 => ?_)
  refine v_iadd C dJ8_newLength_cabcc_6 ?_
  refine v_bdI (fun x2 => ?_)
  refine v_istore_n C [(3, I x2), (0, I a0), (1, I a1), (2, I a2)] dJ8_newLength_cabcc_7 rfl (by decide) rfl ?_
  refine v_iconst C dJ8_newLength_cabcc_8 ?_
  refine v_iload_n C dJ8_newLength_cabcc_9 rfl (j := 0) rfl ?_
  refine v_jnt (fun (k21 : Option (Int)) => V X w 4 P n 0 0 res (k21) s 21 [(0, I a0), (1, I a1)] []) ?_ ?_
  · skip
    refine v_iload_n C dJ8_newLength_cabcc_21 rfl (j := 0) rfl ?_
    refine v_iload_n C dJ8_newLength_cabcc_22 rfl (j := 1) rfl ?_
    exact v_none
  intro k21 hk21
  refine v_icmp_ge (tgt := 21) C dJ8_newLength_cabcc_10 rfl ?_ ?_
  · skip
    refine v_sub [(0, I a0), (1, I a1)] [1, 2] rfl ?_
    exact hk21
  · skip
    refine v_iload_n C dJ8_newLength_cabcc_13 rfl (j := 0) rfl ?_
    refine v_ldc (z := 2147483639) C tw_633 dJ8_newLength_cabcc_14 rfl ?_
    refine v_icmp_gt (tgt := 21) C dJ8_newLength_cabcc_16 rfl ?_ ?_
    · skip
      refine v_sub [(0, I a0), (1, I a1)] [1, 2] rfl ?_
      exact hk21
    · skip
      refine v_iload_n C dJ8_newLength_cabcc_19 rfl (j := 0) rfl ?_
      exact v_iret C rfl hO pS dJ8_newLength_cabcc_20
-- java/lang/AbstractStringBuilder.newCapacity
theorem hJ5_newCapacity_0f7a4 : yJ5_newCapacity_0f7a4.cls ≠ "java/lang/invoke/MethodHandle" ∧ yJ5_newCapacity_0f7a4.cls ≠ "java/lang/invoke/VarHandle" ∧ (parseMethodDescriptor yJ5_newCapacity_0f7a4.desc).map (fun d => d.parameters.length) = some 1 := by decide +kernel
set_option maxRecDepth 100000 in
theorem kJ5_newCapacity_0f7a4 (l : Launch) (w : Wd) (P : Shp) (n : Nat) {s : St} {a0 : Int} {a1 : Int} {res : Int} (h : fJ5_newCapacity_0f7a4 P s a0 a1 = some res) : Ct l w yJ5_newCapacity_0f7a4 cJ5_newCapacity_0f7a4 6 (some FieldType.int) rJ5_newCapacity_0f7a4 P n [A w a0, I a1] s (QI w P n res s) :=
  Ct.ofF h (by decide +kernel) (Nat.le_of_ble_eq_true rfl) (lv := [(0, A w a0), (1, I a1)]) rfl fun X hl hRm C hO => by
  subst hl
  unfold fJ5_newCapacity_0f7a4
  refine v_aload_n C dJ5_newCapacity_0f7a4_0 rfl (j := 0) rfl ?_
  refine v_getR C 0 rfl (T := TJ4) rfl inB8 (by decide) (by decide) rfl tw_714 dJ5_newCapacity_0f7a4_1 (fun x1 => ?_)
  refine v_alen9 C dJ5_newCapacity_0f7a4_4 (fun x2 => ?_)
  refine v_istore_n C [(2, I x2), (0, A w a0), (1, I a1)] dJ5_newCapacity_0f7a4_5 rfl (by decide) rfl ?_
  refine v_iload_n C dJ5_newCapacity_0f7a4_6 rfl (j := 2) rfl ?_
  refine v_aload_n C dJ5_newCapacity_0f7a4_7 rfl (j := 1) rfl ?_
  refine v_getI C 1 rfl (T := TJ4) rfl inB8 (by decide) (by decide) rfl tw_715 dJ5_newCapacity_0f7a4_8 (fun x3 => ?_)
  refine v_ishl C dJ5_newCapacity_0f7a4_11 ?_
  refine v_bdI (fun x4 => ?_)
  refine v_istore_n C [(3, I x4), (2, I x2), (0, A w a0), (1, I a1)] dJ5_newCapacity_0f7a4_12 rfl (by decide) rfl ?_
  refine v_iload_n C dJ5_newCapacity_0f7a4_13 rfl (j := 0) rfl ?_
  refine v_iload_n C dJ5_newCapacity_0f7a4_14 rfl (j := 1) rfl ?_
  refine v_isub C dJ5_newCapacity_0f7a4_15 ?_
  refine v_bdI (fun x5 => ?_)
  refine v_istore C [(4, I x5), (3, I x4), (2, I x2), (0, A w a0), (1, I a1)] dJ5_newCapacity_0f7a4_16 (by decide) rfl ?_
  refine v_iload_n C dJ5_newCapacity_0f7a4_18 rfl (j := 2) rfl ?_
  refine v_iload C dJ5_newCapacity_0f7a4_19 (j := 0) rfl ?_
  refine v_iload_n C dJ5_newCapacity_0f7a4_21 rfl (j := 2) rfl ?_
  refine v_iconst C dJ5_newCapacity_0f7a4_22 ?_
  refine v_aload_n C dJ5_newCapacity_0f7a4_23 rfl (j := 3) rfl ?_
  refine v_getI C 1 rfl (T := TJ4) rfl inB8 (by decide) (by decide) rfl tw_715 dJ5_newCapacity_0f7a4_24 (fun x6 => ?_)
  refine v_ishl C dJ5_newCapacity_0f7a4_27 ?_
  refine v_iadd C dJ5_newCapacity_0f7a4_28 ?_
  refine v_callS_rI C [I x2, I x5, I (x2 + (ishl 2 x6))] [] (Cee.of (rm := rJ8_newLength_cabcc) tw_629 tw_19 hJ8_newLength_cabcc rfl rfl hRm (Nat.le_of_ble_eq_true rfl) (Nat.le_of_ble_eq_true rfl)) (fun x h => kJ8_newLength_cabcc X.2.1 w _ _ h) tw_627 tw_628 rfl rfl (Nat.le_of_ble_eq_true rfl) ⟨Nat.zero_le _, Nat.zero_le _⟩ dJ5_newCapacity_0f7a4_29 (fun x7 => ?_)
  refine v_istore C [(5, I x7), (4, I x5), (3, I x4), (2, I x2), (0, A w a0), (1, I a1)] dJ5_newCapacity_0f7a4_32 (by decide) rfl ?_
  refine v_iload C dJ5_newCapacity_0f7a4_34 (j := 0) rfl ?_
  refine v_ldc (z := 2147483647) C tw_593 dJ5_newCapacity_0f7a4_36 rfl ?_
  refine v_icmp_ne (tgt := 51) C dJ5_newCapacity_0f7a4_38 rfl ?_ ?_
  · skip
    refine v_iload C dJ5_newCapacity_0f7a4_51 (j := 0) rfl ?_
    refine v_aload_n C dJ5_newCapacity_0f7a4_53 rfl (j := 4) rfl ?_
    refine v_getI C 1 rfl (T := TJ4) rfl inB8 (by decide) (by decide) rfl tw_715 dJ5_newCapacity_0f7a4_54 (fun x8 => ?_)
    refine v_ishr C dJ5_newCapacity_0f7a4_57 ?_
    exact v_iret C rfl hO pS dJ5_newCapacity_0f7a4_58
  · skip
    exact v_none
-- java/lang/AbstractStringBuilder.charAt
theorem hJ5_charAt_5068e : yJ5_charAt_5068e.cls ≠ "java/lang/invoke/MethodHandle" ∧ yJ5_charAt_5068e.cls ≠ "java/lang/invoke/VarHandle" ∧ (parseMethodDescriptor yJ5_charAt_5068e.desc).map (fun d => d.parameters.length) = some 1 := by decide +kernel
set_option maxRecDepth 100000 in
theorem kJ5_charAt_5068e (l : Launch) (w : Wd) (P : Shp) (n : Nat) {s : St} {a0 : Int} {a1 : Int} {res : Int} (h : fJ5_charAt_5068e P s a0 a1 = some res) : Ct l w yJ5_charAt_5068e cJ5_charAt_5068e 5 (some FieldType.char) rJ5_charAt_5068e P n [A w a0, I a1] s (QI w P n res s) :=
  Ct.ofF h (by decide +kernel) (Nat.le_of_ble_eq_true rfl) (lv := [(0, A w a0), (1, I a1)]) rfl fun X hl hRm C hO => by
  subst hl
  unfold fJ5_charAt_5068e
  refine v_aload_n C dJ5_charAt_5068e_0 rfl (j := 0) rfl ?_
  refine v_getI C 1 rfl (T := TJ4) rfl inB8 (by decide) (by decide) rfl tw_715 dJ5_charAt_5068e_1 (fun x1 => ?_)
  refine v_istore_n C [(2, I x1), (0, A w a0), (1, I a1)] dJ5_charAt_5068e_4 rfl (by decide) rfl ?_
  refine v_aload_n C dJ5_charAt_5068e_5 rfl (j := 1) rfl ?_
  refine v_getR C 0 rfl (T := TJ4) rfl inB8 (by decide) (by decide) rfl tw_714 dJ5_charAt_5068e_6 (fun x2 => ?_)
  refine v_astore_n C [(3, A w x2), (2, I x1), (0, A w a0), (1, I a1)] dJ5_charAt_5068e_9 rfl (by decide) rfl ?_
  refine v_aload_n C dJ5_charAt_5068e_10 rfl (j := 2) rfl ?_
  refine v_getI C 3 rfl (T := TJ4) rfl inB8 (by decide) (by decide) rfl tw_716 dJ5_charAt_5068e_11 (fun x3 => ?_)
  refine v_aload_n C dJ5_charAt_5068e_14 rfl (j := 0) rfl ?_
  refine v_alen9 C dJ5_charAt_5068e_15 (fun x4 => ?_)
  refine v_iload_n C dJ5_charAt_5068e_16 rfl (j := 1) rfl ?_
  refine v_ishr C dJ5_charAt_5068e_17 ?_
  refine v_mn C tw_804 tw_479 tw_13 tw_480 (by rw [hRm]; exact Nat.le_of_ble_eq_true rfl) (by rw [hRm]; exact Nat.le_of_ble_eq_true rfl) (Nat.le_of_ble_eq_true rfl) ⟨Nat.zero_le _, Nat.zero_le _⟩ dJ5_charAt_5068e_18 (fun x5 => ?_)
  refine v_istore C [(4, I x5), (3, A w x2), (2, I x1), (0, A w a0), (1, I a1)] dJ5_charAt_5068e_21 (by decide) rfl ?_
  refine v_iload_n C dJ5_charAt_5068e_23 rfl (j := 4) rfl ?_
  refine v_iload C dJ5_charAt_5068e_24 (j := 0) rfl ?_
  refine v_chki C [] tw_805 tw_770 hRm (Nat.le_of_ble_eq_true rfl) (Nat.le_of_ble_eq_true rfl) rfl (Nat.le_of_ble_eq_true rfl) ⟨Nat.zero_le _, Nat.zero_le _⟩ dJ5_charAt_5068e_26 ?_
  refine v_iload_n C dJ5_charAt_5068e_29 rfl (j := 2) rfl ?_
  refine v_if_ne (tgt := 42) C dJ5_charAt_5068e_30 rfl ?_ ?_
  · skip
    refine v_aload_n C dJ5_charAt_5068e_42 rfl (j := 1) rfl ?_
    refine v_iload_n C dJ5_charAt_5068e_43 rfl (j := 4) rfl ?_
    exact v_none
  · skip
    refine v_aload_n C dJ5_charAt_5068e_33 rfl (j := 1) rfl ?_
    refine v_iload_n C dJ5_charAt_5068e_34 rfl (j := 4) rfl ?_
    refine v_bald C dJ5_charAt_5068e_35 (fun x6 => ?_)
    refine v_sipush C dJ5_charAt_5068e_36 (by decide) ?_
    refine v_iand C dJ5_charAt_5068e_39 ?_
    refine v_i2c C dJ5_charAt_5068e_40 ?_
    exact v_tretc C rfl nar_c hO pS dJ5_charAt_5068e_41
-- java/lang/AbstractStringBuilder.inflateIfNeededFor
theorem hJ5_inflateIfNeededFor_a7421 : yJ5_inflateIfNeededFor_a7421.cls ≠ "java/lang/invoke/MethodHandle" ∧ yJ5_inflateIfNeededFor_a7421.cls ≠ "java/lang/invoke/VarHandle" ∧ (parseMethodDescriptor yJ5_inflateIfNeededFor_a7421.desc).map (fun d => d.parameters.length) = some 1 := by decide +kernel
set_option maxRecDepth 100000 in
theorem kJ5_inflateIfNeededFor_a7421 (l : Launch) (w : Wd) (P : Shp) (n : Nat) {s : St} {a0 : Int} {a1 : Int} {res : Unit} (h : fJ5_inflateIfNeededFor_a7421 P s a0 a1 = some res) : Ct l w yJ5_inflateIfNeededFor_a7421 cJ5_inflateIfNeededFor_a7421 2 (Option.none : Option FieldType) rJ5_inflateIfNeededFor_a7421 P n [A w a0, A w a1] s (QV w P n s) :=
  Ct.ofF h (by decide +kernel) (Nat.le_of_ble_eq_true rfl) (lv := [(0, A w a0), (1, A w a1)]) rfl fun X hl hRm C hO => by
  subst hl
  unfold fJ5_inflateIfNeededFor_a7421
  refine v_scs C tw_654 dJ5_inflateIfNeededFor_a7421_0 ?_
  refine v_if_eq (tgt := 21) C dJ5_inflateIfNeededFor_a7421_3 rfl ?_ ?_
  · skip
    exact v_vret C rfl hO (fun h => rfl) dJ5_inflateIfNeededFor_a7421_21
  · skip
    refine v_aload_n C dJ5_inflateIfNeededFor_a7421_6 rfl (j := 0) rfl ?_
    refine v_getI C 1 rfl (T := TJ4) rfl inB8 (by decide) (by decide) rfl tw_715 dJ5_inflateIfNeededFor_a7421_7 (fun x1 => ?_)
    refine v_aload_n C dJ5_inflateIfNeededFor_a7421_10 rfl (j := 1) rfl ?_
    refine v_cod C [I x1] tw_594 tw_587 tw_588 hRm (Nat.le_of_ble_eq_true rfl) (Nat.le_of_ble_eq_true rfl) rfl (Nat.le_of_ble_eq_true rfl) ⟨Nat.zero_le _, Nat.zero_le _⟩ dJ5_inflateIfNeededFor_a7421_11 ?_
    refine v_icmp_eq (tgt := 21) C dJ5_inflateIfNeededFor_a7421_14 rfl ?_ ?_
    · skip
      exact v_vret C rfl hO (fun h => rfl) dJ5_inflateIfNeededFor_a7421_21
    · skip
      refine v_aload_n C dJ5_inflateIfNeededFor_a7421_17 rfl (j := 0) rfl ?_
      exact v_none
-- java/lang/AbstractStringBuilder.putStringAt
theorem hJ5_putStringAt_47b60 : yJ5_putStringAt_47b60.cls ≠ "java/lang/invoke/MethodHandle" ∧ yJ5_putStringAt_47b60.cls ≠ "java/lang/invoke/VarHandle" ∧ (parseMethodDescriptor yJ5_putStringAt_47b60.desc).map (fun d => d.parameters.length) = some 2 := by decide +kernel
set_option maxRecDepth 100000 in
theorem kJ5_putStringAt_47b60 (l : Launch) (w : Wd) (P : Shp) (n : Nat) {s : St} {a0 : Int} {a1 : Int} {a2 : Int} {res : St} (h : fJ5_putStringAt_47b60 P s a0 a1 a2 = some res) : Ct l w yJ5_putStringAt_47b60 cJ5_putStringAt_47b60 3 (Option.none : Option FieldType) rJ5_putStringAt_47b60 P n [A w a0, I a1, A w a2] s (QV w P n res) :=
  Ct.ofF h (by decide +kernel) (Nat.le_of_ble_eq_true rfl) (lv := [(0, A w a0), (1, I a1), (2, A w a2)]) rfl fun X hl hRm C hO => by
  subst hl
  unfold fJ5_putStringAt_47b60
  refine v_aload_n C dJ5_putStringAt_47b60_0 rfl (j := 0) rfl ?_
  refine v_aload_n C dJ5_putStringAt_47b60_1 rfl (j := 2) rfl ?_
  refine v_gV (st := []) (fun H9 locs9 ls9 x9 hR9 hs9 hP9 h9 => v_rU C (o := a0) (As := [A w a2]) (x := yJ5_inflateIfNeededFor_a7421) (owner := RJ5) (CeeM.of (rm := rJ5_inflateIfNeededFor_a7421) tw_688 tw_15 hJ5_inflateIfNeededFor_a7421 rfl rfl hRm (Nat.le_of_ble_eq_true rfl) (Nat.le_of_ble_eq_true rfl)) (kJ5_inflateIfNeededFor_a7421 X.2.1 w _ _ h9) tw_685 tw_1174 tw_688 tw_687 hJ5_inflateIfNeededFor_a7421 (C.wd tpv_3) tw_687 hR9 hs9 hP9 rfl rfl (Nat.le_of_ble_eq_true rfl) ⟨by rw [hRm]; exact Nat.le_of_ble_eq_true rfl, by rw [hRm]; exact Nat.le_of_ble_eq_true rfl⟩ dJ5_putStringAt_47b60_2) (fun x1 => ?_)
  refine v_aload_n C dJ5_putStringAt_47b60_5 rfl (j := 2) rfl ?_
  refine v_aload_n C dJ5_putStringAt_47b60_6 rfl (j := 0) rfl ?_
  refine v_getR C 0 rfl (T := TJ4) rfl inB8 (by decide) (by decide) rfl tw_714 dJ5_putStringAt_47b60_7 (fun x2 => ?_)
  refine v_iload_n C dJ5_putStringAt_47b60_10 rfl (j := 1) rfl ?_
  refine v_aload_n C dJ5_putStringAt_47b60_11 rfl (j := 0) rfl ?_
  refine v_getI C 1 rfl (T := TJ4) rfl inB8 (by decide) (by decide) rfl tw_715 dJ5_putStringAt_47b60_12 (fun x3 => ?_)
  refine v_getb C [] tw_708 tw_709 tw_710 hRm (Nat.le_of_ble_eq_true rfl) (Nat.le_of_ble_eq_true rfl) rfl (Nat.le_of_ble_eq_true rfl) ⟨Nat.zero_le _, Nat.zero_le _⟩ dJ5_putStringAt_47b60_15 (fun s4 => ?_)
  exact v_vret C rfl hO (fun h => Option.some.inj h) dJ5_putStringAt_47b60_18
-- java/lang/StringBuilder.charAt
theorem hJ4_charAt_5068e : yJ4_charAt_5068e.cls ≠ "java/lang/invoke/MethodHandle" ∧ yJ4_charAt_5068e.cls ≠ "java/lang/invoke/VarHandle" ∧ (parseMethodDescriptor yJ4_charAt_5068e.desc).map (fun d => d.parameters.length) = some 1 := by decide +kernel
set_option maxRecDepth 100000 in
theorem kJ4_charAt_5068e (l : Launch) (w : Wd) (P : Shp) (n : Nat) {s : St} {a0 : Int} {a1 : Int} {res : Int} (h : fJ4_charAt_5068e P s a0 a1 = some res) : Ct l w yJ4_charAt_5068e cJ4_charAt_5068e 2 (some FieldType.char) rJ4_charAt_5068e P n [A w a0, I a1] s (QI w P n res s) :=
  Ct.ofF h (by decide +kernel) (Nat.le_of_ble_eq_true rfl) (lv := [(0, A w a0), (1, I a1)]) rfl fun X hl hRm C hO => by
  subst hl
  unfold fJ4_charAt_5068e
  refine v_aload_n C dJ4_charAt_5068e_0 rfl (j := 0) rfl ?_
  refine v_iload_n C dJ4_charAt_5068e_1 rfl (j := 1) rfl ?_
  refine v_gI (st := []) (fun H9 locs9 ls9 x9 hR9 hs9 hP9 h9 => v_rSU C (o := a0) (As := [I a1]) (CeeM.of (rm := rJ5_charAt_5068e) tw_803 tw_15 hJ5_charAt_5068e rfl rfl hRm (Nat.le_of_ble_eq_true rfl) (Nat.le_of_ble_eq_true rfl)) (kJ5_charAt_5068e X.2.1 w _ _ h9) tw_801 tw_1179 tw_613 tw_802 (by decide) hR9 hs9 hP9 rfl rfl (Nat.le_of_ble_eq_true rfl) ⟨by rw [hRm]; exact Nat.le_of_ble_eq_true rfl, by rw [hRm]; exact Nat.le_of_ble_eq_true rfl⟩ dJ4_charAt_5068e_2) (fun x1 => ?_)
  exact v_tretc C rfl nar_c hO pS dJ4_charAt_5068e_5
-- java/lang/StringBuilder.length
theorem hJ4_length_8abf5 : yJ4_length_8abf5.cls ≠ "java/lang/invoke/MethodHandle" ∧ yJ4_length_8abf5.cls ≠ "java/lang/invoke/VarHandle" ∧ (parseMethodDescriptor yJ4_length_8abf5.desc).map (fun d => d.parameters.length) = some 0 := by decide +kernel
set_option maxRecDepth 100000 in
theorem kJ4_length_8abf5 (l : Launch) (w : Wd) (P : Shp) (n : Nat) {s : St} {a0 : Int} {res : Int} (h : fJ4_length_8abf5 P s a0 = some res) : Ct l w yJ4_length_8abf5 cJ4_length_8abf5 1 (some FieldType.int) rJ4_length_8abf5 P n [A w a0] s (QI w P n res s) :=
  Ct.ofF h (by decide +kernel) (Nat.le_of_ble_eq_true rfl) (lv := [(0, A w a0)]) rfl fun X hl hRm C hO => by
  subst hl
  unfold fJ4_length_8abf5
  refine v_aload_n C dJ4_length_8abf5_0 rfl (j := 0) rfl ?_
  refine v_gI (st := []) (fun H9 locs9 ls9 x9 hR9 hs9 hP9 h9 => v_rSU C (o := a0) (As := []) (CeeM.of (rm := rJ5_length_8abf5) tw_796 tw_15 hJ5_length_8abf5 rfl rfl hRm (Nat.le_of_ble_eq_true rfl) (Nat.le_of_ble_eq_true rfl)) (kJ5_length_8abf5 X.2.1 w _ _ h9) tw_794 tw_1178 tw_613 tw_795 (by decide) hR9 hs9 hP9 rfl rfl (Nat.le_of_ble_eq_true rfl) ⟨by rw [hRm]; exact Nat.le_of_ble_eq_true rfl, by rw [hRm]; exact Nat.le_of_ble_eq_true rfl⟩ dJ4_length_8abf5_1) (fun x1 => ?_)
  exact v_iret C rfl hO pS dJ4_length_8abf5_4
-- java/util/Arrays.copyOf
theorem hJ7_copyOf_9075b : yJ7_copyOf_9075b.cls ≠ "java/lang/invoke/MethodHandle" ∧ yJ7_copyOf_9075b.cls ≠ "java/lang/invoke/VarHandle" ∧ (parseMethodDescriptor yJ7_copyOf_9075b.desc).map (fun d => d.parameters.length) = some 2 := by decide +kernel
set_option maxRecDepth 100000 in
theorem kJ7_copyOf_9075b (l : Launch) (w : Wd) (P : Shp) (n : Nat) {s : St} {a0 : Int} {a1 : Int} {res : Hr} (h : fJ7_copyOf_9075b P n s a0 a1 = some res) : CtM l w yJ7_copyOf_9075b cJ7_copyOf_9075b 3 (some (FieldType.array FieldType.byte)) rJ7_copyOf_9075b 1 1024 P n [A w a0, I a1] s (QR w res.2.1 res.2.2.1 res.1 res.2.2.2) :=
  CtM.of h (by decide +kernel) (Nat.le_of_ble_eq_true rfl) (lv := [(0, A w a0), (1, I a1)]) rfl fun X hl hRm C hO => by
  subst hl
  unfold fJ7_copyOf_9075b
  refine v_iload_n C dJ7_copyOf_9075b_0 rfl (j := 1) rfl ?_
  refine v_aload_n C dJ7_copyOf_9075b_1 rfl (j := 0) rfl ?_
  refine v_alen9 C dJ7_copyOf_9075b_2 (fun x1 => ?_)
  refine v_icmp_ne (tgt := 14) C dJ7_copyOf_9075b_3 rfl ?_ ?_
  · skip
    refine v_iload_n C dJ7_copyOf_9075b_14 rfl (j := 1) rfl ?_
    refine v_newD C tw_142 (by rw [hRm]; exact Nat.le_of_ble_eq_true rfl) (by rw [hRm]; exact Nat.le_of_ble_eq_true rfl) dJ7_copyOf_9075b_15 (fun P n x2 s3 => ?_)
    refine v_astore_n C [(2, A w x2), (0, A w a0), (1, I a1)] dJ7_copyOf_9075b_17 rfl (by decide) rfl ?_
    refine v_aload_n C dJ7_copyOf_9075b_18 rfl (j := 1) rfl ?_
    refine v_iconst C dJ7_copyOf_9075b_19 ?_
    refine v_aload_n C dJ7_copyOf_9075b_20 rfl (j := 0) rfl ?_
    refine v_iconst C dJ7_copyOf_9075b_21 ?_
    refine v_aload_n C dJ7_copyOf_9075b_22 rfl (j := 1) rfl ?_
    refine v_alen9 C dJ7_copyOf_9075b_23 (fun x4 => ?_)
    refine v_iload_n C dJ7_copyOf_9075b_24 rfl (j := 2) rfl ?_
    refine v_mn C tw_647 tw_479 tw_13 tw_480 (by rw [hRm]; exact Nat.le_of_ble_eq_true rfl) (by rw [hRm]; exact Nat.le_of_ble_eq_true rfl) (Nat.le_of_ble_eq_true rfl) (by rw [hRm]; exact ⟨Nat.le_of_ble_eq_true rfl, Nat.le_of_ble_eq_true rfl⟩) dJ7_copyOf_9075b_25 (fun x5 => ?_)
    refine v_copy9 C tw_648 tw_537 tw_536 tw_14 (by rw [hRm]; exact Nat.le_of_ble_eq_true rfl) (by rw [hRm]; exact Nat.le_of_ble_eq_true rfl) (Nat.le_of_ble_eq_true rfl) dJ7_copyOf_9075b_28 (fun s6 => ?_)
    refine v_aload_n C dJ7_copyOf_9075b_31 rfl (j := 0) rfl ?_
    exact v_mretR C rfl (Or.inr ⟨_, rfl⟩) hO (Nat.le_of_ble_eq_true rfl) (Nat.le_of_ble_eq_true rfl) dJ7_copyOf_9075b_32
  · skip
    refine v_aload_n C dJ7_copyOf_9075b_6 rfl (j := 0) rfl ?_
    exact v_none
-- java/lang/AbstractStringBuilder.ensureCapacityInternal
theorem hJ5_ensureCapacityInternal_d00df : yJ5_ensureCapacityInternal_d00df.cls ≠ "java/lang/invoke/MethodHandle" ∧ yJ5_ensureCapacityInternal_d00df.cls ≠ "java/lang/invoke/VarHandle" ∧ (parseMethodDescriptor yJ5_ensureCapacityInternal_d00df.desc).map (fun d => d.parameters.length) = some 1 := by decide +kernel
set_option maxRecDepth 100000 in
theorem kJ5_ensureCapacityInternal_d00df (l : Launch) (w : Wd) (P : Shp) (n : Nat) {s : St} {a0 : Int} {a1 : Int} {res : Hs} (h : fJ5_ensureCapacityInternal_d00df P n s a0 a1 = some res) : CtM l w yJ5_ensureCapacityInternal_d00df cJ5_ensureCapacityInternal_d00df 3 (Option.none : Option FieldType) rJ5_ensureCapacityInternal_d00df 1 1024 P n [A w a0, I a1] s (QV w res.1 res.2.1 res.2.2) :=
  CtM.of h (by decide +kernel) (Nat.le_of_ble_eq_true rfl) (lv := [(0, A w a0), (1, I a1)]) rfl fun X hl hRm C hO => by
  subst hl
  unfold fJ5_ensureCapacityInternal_d00df
  refine v_aload_n C dJ5_ensureCapacityInternal_d00df_0 rfl (j := 0) rfl ?_
  refine v_getR C 0 rfl (T := TJ4) rfl inB8 (by decide) (by decide) rfl tw_714 dJ5_ensureCapacityInternal_d00df_1 (fun x1 => ?_)
  refine v_alen9 C dJ5_ensureCapacityInternal_d00df_4 (fun x2 => ?_)
  refine v_aload_n C dJ5_ensureCapacityInternal_d00df_5 rfl (j := 0) rfl ?_
  refine v_getI C 1 rfl (T := TJ4) rfl inB8 (by decide) (by decide) rfl tw_715 dJ5_ensureCapacityInternal_d00df_6 (fun x3 => ?_)
  refine v_ishr C dJ5_ensureCapacityInternal_d00df_9 ?_
  refine v_bdI (fun x4 => ?_)
  refine v_istore_n C [(2, I x4), (0, A w a0), (1, I a1)] dJ5_ensureCapacityInternal_d00df_10 rfl (by decide) rfl ?_
  refine v_iload_n C dJ5_ensureCapacityInternal_d00df_11 rfl (j := 2) rfl ?_
  refine v_iload_n C dJ5_ensureCapacityInternal_d00df_12 rfl (j := 0) rfl ?_
  refine v_isub C dJ5_ensureCapacityInternal_d00df_13 ?_
  refine v_if_le (tgt := 38) C dJ5_ensureCapacityInternal_d00df_14 rfl ?_ ?_
  · skip
    exact v_nret C rfl hO (Nat.le_of_ble_eq_true rfl) (Nat.le_of_ble_eq_true rfl) dJ5_ensureCapacityInternal_d00df_38
  · skip
    refine v_aload_n C dJ5_ensureCapacityInternal_d00df_17 rfl (j := 1) rfl ?_
    refine v_aload_n C dJ5_ensureCapacityInternal_d00df_18 rfl (j := 1) rfl ?_
    refine v_getR C 0 rfl (T := TJ4) rfl inB8 (by decide) (by decide) rfl tw_714 dJ5_ensureCapacityInternal_d00df_19 (fun x5 => ?_)
    refine v_aload_n C dJ5_ensureCapacityInternal_d00df_22 rfl (j := 1) rfl ?_
    refine v_iload_n C dJ5_ensureCapacityInternal_d00df_23 rfl (j := 2) rfl ?_
    refine v_gI (st := [A w x5, A w a0]) (fun H9 locs9 ls9 x9 hR9 hs9 hP9 h9 => v_rU C (o := a0) (As := [I a1]) (x := yJ5_newCapacity_0f7a4) (owner := RJ5) (CeeM.of (rm := rJ5_newCapacity_0f7a4) tw_626 tw_15 hJ5_newCapacity_0f7a4 rfl rfl hRm (Nat.le_of_ble_eq_true rfl) (Nat.le_of_ble_eq_true rfl)) (kJ5_newCapacity_0f7a4 X.2.1 w _ _ h9) tw_623 tw_1172 tw_626 tw_625 hJ5_newCapacity_0f7a4 (C.wd tpv_1) tw_625 hR9 hs9 hP9 rfl rfl (Nat.le_of_ble_eq_true rfl) ⟨by rw [hRm]; exact Nat.le_of_ble_eq_true rfl, by rw [hRm]; exact Nat.le_of_ble_eq_true rfl⟩ dJ5_ensureCapacityInternal_d00df_24) (fun x6 => ?_)
    refine v_aload_n C dJ5_ensureCapacityInternal_d00df_27 rfl (j := 1) rfl ?_
    refine v_getI C 1 rfl (T := TJ4) rfl inB8 (by decide) (by decide) rfl tw_715 dJ5_ensureCapacityInternal_d00df_28 (fun x7 => ?_)
    refine v_ishl C dJ5_ensureCapacityInternal_d00df_31 ?_
    refine v_saR (st := [A w a0]) (fun H9 locs9 ls9 x9 hR9 hs9 h9 => v_rS C (CeeM.of (rm := rJ7_copyOf_9075b) tw_639 tw_20 hJ7_copyOf_9075b rfl rfl hRm (Nat.le_of_ble_eq_true rfl) (Nat.le_of_ble_eq_true rfl)) (kJ7_copyOf_9075b X.2.1 w _ _ h9) tw_637 tw_638 hR9 hs9 rfl rfl (Nat.le_of_ble_eq_true rfl) ⟨by rw [hRm]; exact Nat.le_of_ble_eq_true rfl, by rw [hRm]; exact Nat.le_of_ble_eq_true rfl⟩ dJ5_ensureCapacityInternal_d00df_32) (fun x9 P n s8 => ?_)
    refine v_putR C 0 rfl (T := TJ4) rfl inB8 (by decide) tyJ4_ok nmJ4 (by decide) rfl rfl tw_714 dJ5_ensureCapacityInternal_d00df_35 (Or.inr ⟨_, rfl⟩) (fun s10 => ?_)
    exact v_nret C rfl hO (Nat.le_of_ble_eq_true rfl) (Nat.le_of_ble_eq_true rfl) dJ5_ensureCapacityInternal_d00df_38
-- java/lang/StringLatin1.canEncode
theorem hJ1_canEncode_fc78d : yJ1_canEncode_fc78d.cls ≠ "java/lang/invoke/MethodHandle" ∧ yJ1_canEncode_fc78d.cls ≠ "java/lang/invoke/VarHandle" ∧ (parseMethodDescriptor yJ1_canEncode_fc78d.desc).map (fun d => d.parameters.length) = some 1 := by decide +kernel
set_option maxRecDepth 100000 in
theorem kJ1_canEncode_fc78d (l : Launch) (w : Wd) (P : Shp) (n : Nat) {s : St} {a0 : Int} {res : Int} (h : fJ1_canEncode_fc78d P s a0 = some res) : Ct l w yJ1_canEncode_fc78d cJ1_canEncode_fc78d 1 (some FieldType.boolean) rJ1_canEncode_fc78d P n [I a0] s (QI w P n res s) :=
  Ct.ofF h (by decide +kernel) (Nat.le_of_ble_eq_true rfl) (lv := [(0, I a0)]) rfl fun X hl hRm C hO => by
  subst hl
  unfold fJ1_canEncode_fc78d
  refine v_iload_n C dJ1_canEncode_fc78d_0 rfl (j := 0) rfl ?_
  refine v_sipush C dJ1_canEncode_fc78d_1 (by decide) ?_
  refine v_icmp_gt (tgt := 11) C dJ1_canEncode_fc78d_4 rfl ?_ ?_
  · skip
    refine v_iconst C dJ1_canEncode_fc78d_11 ?_
    exact v_zret C rfl hO pS dJ1_canEncode_fc78d_12
  · skip
    refine v_iconst C dJ1_canEncode_fc78d_7 ?_
    refine v_goto (tgt := 12) C dJ1_canEncode_fc78d_8 rfl ?_
    exact v_zret C rfl hO pS dJ1_canEncode_fc78d_12
-- java/lang/AbstractStringBuilder.append
theorem hJ5_append_3fe6f : yJ5_append_3fe6f.cls ≠ "java/lang/invoke/MethodHandle" ∧ yJ5_append_3fe6f.cls ≠ "java/lang/invoke/VarHandle" ∧ (parseMethodDescriptor yJ5_append_3fe6f.desc).map (fun d => d.parameters.length) = some 1 := by decide +kernel
set_option maxRecDepth 100000 in
theorem kJ5_append_3fe6f (l : Launch) (w : Wd) (P : Shp) (n : Nat) {s : St} {a0 : Int} {a1 : Int} {res : Hr} (h : fJ5_append_3fe6f P n s a0 a1 = some res) : CtM l w yJ5_append_3fe6f cJ5_append_3fe6f 2 (some (FieldType.object "java/lang/AbstractStringBuilder")) rJ5_append_3fe6f 1 1024 P n [A w a0, I a1] s (QR w res.2.1 res.2.2.1 res.1 res.2.2.2) :=
  CtM.of h (by decide +kernel) (Nat.le_of_ble_eq_true rfl) (lv := [(0, A w a0), (1, I a1)]) rfl fun X hl hRm C hO => by
  subst hl
  unfold fJ5_append_3fe6f
  refine v_aload_n C dJ5_append_3fe6f_0 rfl (j := 0) rfl ?_
  refine v_aload_n C dJ5_append_3fe6f_1 rfl (j := 0) rfl ?_
  refine v_getI C 3 rfl (T := TJ4) rfl inB8 (by decide) (by decide) rfl tw_716 dJ5_append_3fe6f_2 (fun x1 => ?_)
  refine v_iconst C dJ5_append_3fe6f_5 ?_
  refine v_iadd C dJ5_append_3fe6f_6 ?_
  refine v_gaV (st := []) (fun H9 locs9 ls9 x9 hR9 hs9 hP9 h9 => v_rU C (o := a0) (As := [I (x1 + 1)]) (x := yJ5_ensureCapacityInternal_d00df) (owner := RJ5) (CeeM.of (rm := rJ5_ensureCapacityInternal_d00df) tw_622 tw_15 hJ5_ensureCapacityInternal_d00df rfl rfl hRm (Nat.le_of_ble_eq_true rfl) (Nat.le_of_ble_eq_true rfl)) (kJ5_ensureCapacityInternal_d00df X.2.1 w _ _ h9) tw_619 tw_1171 tw_622 tw_621 hJ5_ensureCapacityInternal_d00df (C.wd tpv_0) tw_621 hR9 hs9 hP9 rfl rfl (Nat.le_of_ble_eq_true rfl) ⟨by rw [hRm]; exact Nat.le_of_ble_eq_true rfl, by rw [hRm]; exact Nat.le_of_ble_eq_true rfl⟩ dJ5_append_3fe6f_7) (fun P n s2 => ?_)
  refine v_aload_n C dJ5_append_3fe6f_10 rfl (j := 0) rfl ?_
  refine v_gI (st := []) (fun H9 locs9 ls9 x9 hR9 hs9 hP9 h9 => v_rU C (o := a0) (As := []) (x := yJ5_isLatin1_aae02) (owner := RJ5) (CeeM.of (rm := rJ5_isLatin1_aae02) tw_653 tw_15 hJ5_isLatin1_aae02 rfl rfl hRm (Nat.le_of_ble_eq_true rfl) (Nat.le_of_ble_eq_true rfl)) (kJ5_isLatin1_aae02 X.2.1 w _ _ h9) tw_649 tw_651 tw_653 tw_650 hJ5_isLatin1_aae02 (C.wd tw_652) tw_650 hR9 hs9 hP9 rfl rfl (Nat.le_of_ble_eq_true rfl) ⟨by rw [hRm]; exact Nat.le_of_ble_eq_true rfl, by rw [hRm]; exact Nat.le_of_ble_eq_true rfl⟩ dJ5_append_3fe6f_11) (fun x4 => ?_)
  refine v_jnt (fun (k45 : Option (Hr)) => V X w 2 P n 1 1024 res (k45) s2 45 [(0, A w a0), (1, I a1)] []) ?_ ?_
  · skip
    refine v_aload_n C dJ5_append_3fe6f_45 rfl (j := 0) rfl ?_
    refine v_gI (st := []) (fun H9 locs9 ls9 x9 hR9 hs9 hP9 h9 => v_rU C (o := a0) (As := []) (x := yJ5_isLatin1_aae02) (owner := RJ5) (CeeM.of (rm := rJ5_isLatin1_aae02) tw_653 tw_15 hJ5_isLatin1_aae02 rfl rfl hRm (Nat.le_of_ble_eq_true rfl) (Nat.le_of_ble_eq_true rfl)) (kJ5_isLatin1_aae02 X.2.1 w _ _ h9) tw_649 tw_651 tw_653 tw_650 hJ5_isLatin1_aae02 (C.wd tw_652) tw_650 hR9 hs9 hP9 rfl rfl (Nat.le_of_ble_eq_true rfl) ⟨by rw [hRm]; exact Nat.le_of_ble_eq_true rfl, by rw [hRm]; exact Nat.le_of_ble_eq_true rfl⟩ dJ5_append_3fe6f_46) (fun x5 => ?_)
    refine v_if_eq (tgt := 56) C dJ5_append_3fe6f_49 rfl ?_ ?_
    · skip
      refine v_aload_n C dJ5_append_3fe6f_56 rfl (j := 0) rfl ?_
      refine v_getR C 0 rfl (T := TJ4) rfl inB8 (by decide) (by decide) rfl tw_714 dJ5_append_3fe6f_57 (fun x6 => ?_)
      refine v_aload_n C dJ5_append_3fe6f_60 rfl (j := 0) rfl ?_
      refine v_dup C dJ5_append_3fe6f_61 rfl ?_
      refine v_getI C 3 rfl (T := TJ4) rfl inB8 (by decide) (by decide) rfl tw_716 dJ5_append_3fe6f_62 (fun x7 => ?_)
      refine v_dupx1 C dJ5_append_3fe6f_65 rfl rfl ?_
      refine v_iconst C dJ5_append_3fe6f_66 ?_
      refine v_iadd C dJ5_append_3fe6f_67 ?_
      refine v_putI C 3 rfl (T := TJ4) rfl inB8 (by decide) tyJ4_ok nmJ4 (by decide) rfl rfl tw_716 dJ5_append_3fe6f_68 rfl (fun s8 => ?_)
      refine v_iload_n C dJ5_append_3fe6f_71 rfl (j := 1) rfl ?_
      exact v_none
    · skip
      refine v_aload_n C dJ5_append_3fe6f_52 rfl (j := 0) rfl ?_
      exact v_none
  intro k45 hk45
  refine v_if_eq (tgt := 45) C dJ5_append_3fe6f_14 rfl ?_ ?_
  · skip
    exact hk45
  · skip
    refine v_iload_n C dJ5_append_3fe6f_17 rfl (j := 1) rfl ?_
    refine v_callS_rI C [I a1] [] (Cee.of (rm := rJ1_canEncode_fc78d) tw_762 tw_22 hJ1_canEncode_fc78d rfl rfl hRm (Nat.le_of_ble_eq_true rfl) (Nat.le_of_ble_eq_true rfl)) (fun x h => kJ1_canEncode_fc78d X.2.1 w _ _ h) tw_760 tw_761 rfl rfl (Nat.le_of_ble_eq_true rfl) (by rw [hRm]; exact ⟨Nat.le_of_ble_eq_true rfl, Nat.le_of_ble_eq_true rfl⟩) dJ5_append_3fe6f_18 (fun x9 => ?_)
    refine v_if_eq (tgt := 45) C dJ5_append_3fe6f_21 rfl ?_ ?_
    · skip
      exact hk45
    · skip
      refine v_aload_n C dJ5_append_3fe6f_24 rfl (j := 0) rfl ?_
      refine v_getR C 0 rfl (T := TJ4) rfl inB8 (by decide) (by decide) rfl tw_714 dJ5_append_3fe6f_25 (fun x10 => ?_)
      refine v_aload_n C dJ5_append_3fe6f_28 rfl (j := 0) rfl ?_
      refine v_dup C dJ5_append_3fe6f_29 rfl ?_
      refine v_getI C 3 rfl (T := TJ4) rfl inB8 (by decide) (by decide) rfl tw_716 dJ5_append_3fe6f_30 (fun x11 => ?_)
      refine v_dupx1 C dJ5_append_3fe6f_33 rfl rfl ?_
      refine v_iconst C dJ5_append_3fe6f_34 ?_
      refine v_iadd C dJ5_append_3fe6f_35 ?_
      refine v_putI C 3 rfl (T := TJ4) rfl inB8 (by decide) tyJ4_ok nmJ4 (by decide) rfl rfl tw_716 dJ5_append_3fe6f_36 rfl (fun s12 => ?_)
      refine v_iload_n C dJ5_append_3fe6f_39 rfl (j := 1) rfl ?_
      refine v_i2b C dJ5_append_3fe6f_40 ?_
      refine v_bast C dJ5_append_3fe6f_41 (fun s13 => ?_)
      refine v_goto (tgt := 75) C dJ5_append_3fe6f_42 rfl ?_
      refine v_aload_n C dJ5_append_3fe6f_75 rfl (j := 0) rfl ?_
      exact v_mretR C rfl (Or.inl ⟨_, rfl⟩) hO (Nat.le_of_ble_eq_true rfl) (Nat.le_of_ble_eq_true rfl) dJ5_append_3fe6f_76
-- java/lang/Integer.stringSize
set_option maxRecDepth 100000 in
theorem vJ6_stringSize_0f7a4_L16 {X : Cxt} {w : Wd} {P : Shp} {n : Nat} {s : St} (res : Int) (hRm : X.2.2.2.1 = rJ6_stringSize_0f7a4) (C : Cok X w cJ6_stringSize_0f7a4 4 RJ6 (some FieldType.int)) (hO : Own X w 0 0 (QI w P n res s))  (c0 : Int) (c1 : Int) (kE42 : Option (Int)) (kE27 : Int → Option (Int)) (hE42 : V X w 4 P n 0 0 res (kE42) s 42 [(1, I c1)] []) (hE27 : ∀ (p3e : Int), V X w 4 P n 0 0 res (kE27 p3e) s 27 [(1, I c1), (3, I p3e)] []) : ∀ (fuel : Nat) (p2 p3 : Int), V X w 4 P n 0 0 res (fJ6_stringSize_0f7a4_L16 P s c0 c1 kE42 kE27 fuel p2 p3) s 16 [(0, I c0), (1, I c1), (2, I p2), (3, I p3)] [] := by
  intro fuel
  induction fuel with
  | zero => intro p2 p3; exact v_none
  | succ m ih =>
    intro p2 p3
    rw [fJ6_stringSize_0f7a4_L16]
    refine v_iload_n C dJ6_stringSize_0f7a4_16 rfl (j := 3) rfl ?_
    refine v_bipush C dJ6_stringSize_0f7a4_17 (by decide) ?_
    refine v_icmp_ge (tgt := 42) C dJ6_stringSize_0f7a4_19 rfl ?_ ?_
    · skip
      refine v_sub [(1, I c1)] [1] rfl ?_
      exact hE42
    · skip
      refine v_iload_n C dJ6_stringSize_0f7a4_22 rfl (j := 0) rfl ?_
      refine v_iload_n C dJ6_stringSize_0f7a4_23 rfl (j := 2) rfl ?_
      refine v_icmp_le (tgt := 31) C dJ6_stringSize_0f7a4_24 rfl ?_ ?_
      · skip
        refine v_bipush C dJ6_stringSize_0f7a4_31 (by decide) ?_
        refine v_iload_n C dJ6_stringSize_0f7a4_33 rfl (j := 2) rfl ?_
        refine v_imul C dJ6_stringSize_0f7a4_34 ?_
        refine v_bdI (fun x3 => ?_)
        refine v_istore_n C [(2, I x3), (0, I c0), (1, I c1), (3, I p3)] dJ6_stringSize_0f7a4_35 rfl (by decide) rfl ?_
        refine v_iinc C (j := 3) [(2, I x3), (0, I c0), (1, I c1)] dJ6_stringSize_0f7a4_36 (by decide) rfl (fun _ => rfl) (fun x4 => ?_)
        refine v_goto (tgt := 16) C dJ6_stringSize_0f7a4_39 rfl ?_
        refine v_sub [(0, I c0), (1, I c1), (2, I x3), (3, I x4)] [2, 3, 1, 0] rfl ?_
        exact ih x3 x4
      · skip
        refine v_sub [(1, I c1), (3, I p3)] [1, 3] rfl ?_
        exact hE27 p3
theorem hJ6_stringSize_0f7a4 : yJ6_stringSize_0f7a4.cls ≠ "java/lang/invoke/MethodHandle" ∧ yJ6_stringSize_0f7a4.cls ≠ "java/lang/invoke/VarHandle" ∧ (parseMethodDescriptor yJ6_stringSize_0f7a4.desc).map (fun d => d.parameters.length) = some 1 := by decide +kernel
set_option maxRecDepth 100000 in
theorem kJ6_stringSize_0f7a4 (l : Launch) (w : Wd) (P : Shp) (n : Nat) {s : St} {a0 : Int} {res : Int} (h : fJ6_stringSize_0f7a4 P s a0 = some res) : Ct l w yJ6_stringSize_0f7a4 cJ6_stringSize_0f7a4 4 (some FieldType.int) rJ6_stringSize_0f7a4 P n [I a0] s (QI w P n res s) :=
  Ct.ofF h (by decide +kernel) (Nat.le_of_ble_eq_true rfl) (lv := [(0, I a0)]) rfl fun X hl hRm C hO => by
  subst hl
  unfold fJ6_stringSize_0f7a4
  refine v_iconst C dJ6_stringSize_0f7a4_0 ?_
  refine v_istore_n C [(1, I 1), (0, I a0)] dJ6_stringSize_0f7a4_1 rfl (by decide) rfl ?_
  refine v_iload_n C dJ6_stringSize_0f7a4_2 rfl (j := 1) rfl ?_
  refine v_jnt (fun (k11 : Int → Int → Option (Int)) => ∀ (x1 x2 : Int), V X w 4 P n 0 0 res (k11 x1 x2) s 11 [(0, I x1), (1, I x2)] []) ?_ ?_
  · intro x1 x2
    refine v_bipush C dJ6_stringSize_0f7a4_11 (by decide) ?_
    refine v_istore_n C [(2, I ((-10))), (0, I x1), (1, I x2)] dJ6_stringSize_0f7a4_13 rfl (by decide) rfl ?_
    refine v_iconst C dJ6_stringSize_0f7a4_14 ?_
    refine v_istore_n C [(3, I 1), (2, I ((-10))), (0, I x1), (1, I x2)] dJ6_stringSize_0f7a4_15 rfl (by decide) rfl ?_
    refine v_sub [(0, I x1), (1, I x2), (2, I ((-10))), (3, I 1)] [2, 3, 1, 0] rfl ?_
    refine vJ6_stringSize_0f7a4_L16 res hRm C hO x1 x2 _ _ ?_ ?_ 1000 ((-10)) 1
    · skip
      refine v_bipush C dJ6_stringSize_0f7a4_42 (by decide) ?_
      refine v_iload_n C dJ6_stringSize_0f7a4_44 rfl (j := 0) rfl ?_
      refine v_iadd C dJ6_stringSize_0f7a4_45 ?_
      exact v_iret C rfl hO pS dJ6_stringSize_0f7a4_46
    · intro x5
      refine v_iload_n C dJ6_stringSize_0f7a4_27 rfl (j := 1) rfl ?_
      refine v_iload_n C dJ6_stringSize_0f7a4_28 rfl (j := 0) rfl ?_
      refine v_iadd C dJ6_stringSize_0f7a4_29 ?_
      exact v_iret C rfl hO pS dJ6_stringSize_0f7a4_30
  intro k11 hk11
  refine v_if_lt (tgt := 11) C dJ6_stringSize_0f7a4_3 rfl ?_ ?_
  · skip
    refine v_sub [(0, I a0), (1, I 1)] [1, 0] rfl ?_
    exact hk11 a0 1
  · skip
    refine v_iconst C dJ6_stringSize_0f7a4_6 ?_
    refine v_istore_n C [(1, I 0), (0, I a0)] dJ6_stringSize_0f7a4_7 rfl (by decide) rfl ?_
    refine v_iload_n C dJ6_stringSize_0f7a4_8 rfl (j := 1) rfl ?_
    refine v_ineg C dJ6_stringSize_0f7a4_9 ?_
    refine v_bdI (fun x6 => ?_)
    refine v_istore_n C [(0, I x6), (1, I 0)] dJ6_stringSize_0f7a4_10 rfl (by decide) rfl ?_
    exact hk11 x6 0
-- java/lang/Integer.getChars
set_option maxRecDepth 100000 in
theorem vJ6_getChars_ba4f3_L22 {X : Cxt} {w : Wd} {P : Shp} {n : Nat} (res : Int × St) (hRm : X.2.2.2.1 = rJ6_getChars_ba4f3) (C : Cok X w cJ6_getChars_ba4f3 7 RJ6 (some FieldType.int)) (hO : Own X w 0 0 (QI w P n res.1 res.2))  (c2 : Int) (c6 : Int) (kE72 : Int → Int → St → Option (Int × St)) (hE72 : ∀ (p0e p5e : Int) (se : St), V X w 7 P n 0 0 res (kE72 p0e p5e se) se 72 [(0, I p0e), (2, A w c2), (5, I p5e), (6, I c6)] []) : ∀ (fuel : Nat) (p0 p5 : Int) (s : St), V X w 7 P n 0 0 res (fJ6_getChars_ba4f3_L22 P c2 c6 kE72 fuel p0 p5 s) s 22 [(0, I p0), (2, A w c2), (5, I p5), (6, I c6)] [] := by
  intro fuel
  induction fuel with
  | zero => intro p0 p5 s; exact v_none
  | succ m ih =>
    intro p0 p5 s
    rw [fJ6_getChars_ba4f3_L22]
    refine v_iload_n C dJ6_getChars_ba4f3_22 rfl (j := 0) rfl ?_
    refine v_bipush C dJ6_getChars_ba4f3_23 (by decide) ?_
    refine v_icmp_gt (tgt := 72) C dJ6_getChars_ba4f3_25 rfl ?_ ?_
    · skip
      exact hE72 p0 p5 s
    · skip
      refine v_iload_n C dJ6_getChars_ba4f3_28 rfl (j := 0) rfl ?_
      refine v_bipush C dJ6_getChars_ba4f3_29 (by decide) ?_
      refine v_idiv C dJ6_getChars_ba4f3_31 (fun x3 => ?_)
      refine v_istore_n C [(3, I x3), (0, I p0), (2, A w c2), (5, I p5), (6, I c6)] dJ6_getChars_ba4f3_32 rfl (by decide) rfl ?_
      refine v_iload_n C dJ6_getChars_ba4f3_33 rfl (j := 0) rfl ?_
      refine v_bipush C dJ6_getChars_ba4f3_34 (by decide) ?_
      refine v_imul C dJ6_getChars_ba4f3_36 ?_
      refine v_iload_n C dJ6_getChars_ba4f3_37 rfl (j := 1) rfl ?_
      refine v_isub C dJ6_getChars_ba4f3_38 ?_
      refine v_bdI (fun x4 => ?_)
      refine v_istore C [(4, I x4), (3, I x3), (0, I p0), (2, A w c2), (5, I p5), (6, I c6)] dJ6_getChars_ba4f3_39 (by decide) rfl ?_
      refine v_iload_n C dJ6_getChars_ba4f3_41 rfl (j := 1) rfl ?_
      refine v_istore_n C [(0, I x3), (4, I x4), (3, I x3), (2, A w c2), (5, I p5), (6, I c6)] dJ6_getChars_ba4f3_42 rfl (by decide) rfl ?_
      refine v_aload_n C dJ6_getChars_ba4f3_43 rfl (j := 3) rfl ?_
      refine v_iinc C (j := 4) [(0, I x3), (4, I x4), (3, I x3), (2, A w c2), (6, I c6)] dJ6_getChars_ba4f3_44 (by decide) rfl (fun _ => rfl) (fun x5 => ?_)
      refine v_iload C dJ6_getChars_ba4f3_47 (j := 0) rfl ?_
      refine v_gs100 C tw_738 dJ6_getChars_ba4f3_49 ?_
      refine v_iload C dJ6_getChars_ba4f3_52 (j := 2) rfl ?_
      refine v_dig1 C dJ6_getChars_ba4f3_54 (fun x6 => ?_)
      refine v_bast C dJ6_getChars_ba4f3_55 (fun s7 => ?_)
      refine v_aload_n C dJ6_getChars_ba4f3_56 rfl (j := 4) rfl ?_
      refine v_iinc C (j := 0) [(0, I x3), (4, I x4), (3, I x3), (2, A w c2), (6, I c6)] dJ6_getChars_ba4f3_57 (by decide) rfl (fun _ => rfl) (fun x8 => ?_)
      refine v_iload C dJ6_getChars_ba4f3_60 (j := 0) rfl ?_
      refine v_gs101 C tw_740 dJ6_getChars_ba4f3_62 ?_
      refine v_iload C dJ6_getChars_ba4f3_65 (j := 2) rfl ?_
      refine v_dig2 C dJ6_getChars_ba4f3_67 (fun x9 => ?_)
      refine v_bast C dJ6_getChars_ba4f3_68 (fun s10 => ?_)
      refine v_goto (tgt := 22) C dJ6_getChars_ba4f3_69 rfl ?_
      refine v_sub [(0, I x3), (2, A w c2), (5, I x8), (6, I c6)] [1, 4, 0, 5] rfl ?_
      exact ih x3 x8 s10
theorem hJ6_getChars_ba4f3 : yJ6_getChars_ba4f3.cls ≠ "java/lang/invoke/MethodHandle" ∧ yJ6_getChars_ba4f3.cls ≠ "java/lang/invoke/VarHandle" ∧ (parseMethodDescriptor yJ6_getChars_ba4f3.desc).map (fun d => d.parameters.length) = some 3 := by decide +kernel
set_option maxRecDepth 100000 in
theorem kJ6_getChars_ba4f3 (l : Launch) (w : Wd) (P : Shp) (n : Nat) {s : St} {a0 : Int} {a1 : Int} {a2 : Int} {res : Int × St} (h : fJ6_getChars_ba4f3 P s a0 a1 a2 = some res) : Ct l w yJ6_getChars_ba4f3 cJ6_getChars_ba4f3 7 (some FieldType.int) rJ6_getChars_ba4f3 P n [I a0, I a1, A w a2] s (QI w P n res.1 res.2) :=
  Ct.ofF h (by decide +kernel) (Nat.le_of_ble_eq_true rfl) (lv := [(0, I a0), (1, I a1), (2, A w a2)]) rfl fun X hl hRm C hO => by
  subst hl
  unfold fJ6_getChars_ba4f3
  refine v_iload_n C dJ6_getChars_ba4f3_0 rfl (j := 1) rfl ?_
  refine v_istore C [(5, I a1), (0, I a0), (1, I a1), (2, A w a2)] dJ6_getChars_ba4f3_1 (by decide) rfl ?_
  refine v_iload_n C dJ6_getChars_ba4f3_3 rfl (j := 1) rfl ?_
  refine v_jnt (fun (k12 : Int → Option (Int × St)) => ∀ (x1 : Int), V X w 7 P n 0 0 res (k12 x1) s 12 [(0, I a0), (2, A w a2), (5, I a1)] [I x1]) ?_ ?_
  · intro x1
    refine v_istore C [(6, I x1), (0, I a0), (2, A w a2), (5, I a1)] dJ6_getChars_ba4f3_12 (by decide) rfl ?_
    refine v_iload C dJ6_getChars_ba4f3_14 (j := 0) rfl ?_
    refine v_jnt (fun (k22 : Int → Option (Int × St)) => ∀ (x2 : Int), V X w 7 P n 0 0 res (k22 x2) s 22 [(0, I x2), (2, A w a2), (5, I a1), (6, I x1)] []) ?_ ?_
    · intro x2
      refine vJ6_getChars_ba4f3_L22 res hRm C hO a2 x1 _ ?_ 1000 x2 a1 s
      · intro x11 x12 s13
        refine v_aload_n C dJ6_getChars_ba4f3_72 rfl (j := 1) rfl ?_
        refine v_iinc C (j := 2) [(0, I x11), (2, A w a2), (6, I x1)] dJ6_getChars_ba4f3_73 (by decide) rfl (fun _ => rfl) (fun x14 => ?_)
        refine v_iload C dJ6_getChars_ba4f3_76 (j := 0) rfl ?_
        refine v_gs100 C tw_738 dJ6_getChars_ba4f3_78 ?_
        refine v_iload_n C dJ6_getChars_ba4f3_81 rfl (j := 1) rfl ?_
        refine v_ineg C dJ6_getChars_ba4f3_82 ?_
        refine v_dig1 C dJ6_getChars_ba4f3_83 (fun x15 => ?_)
        refine v_bast C dJ6_getChars_ba4f3_84 (fun s16 => ?_)
        refine v_iload_n C dJ6_getChars_ba4f3_85 rfl (j := 1) rfl ?_
        refine v_bipush C dJ6_getChars_ba4f3_86 (by decide) ?_
        refine v_jnt (fun (k104 : Int → St → Option (Int × St)) => ∀ (x17 : Int) (s18 : St), V X w 7 P n 0 0 res (k104 x17 s18) s18 104 [(2, A w a2), (5, I x17), (6, I x1)] []) ?_ ?_
        · intro x17 s18
          refine v_iload C dJ6_getChars_ba4f3_104 (j := 2) rfl ?_
          refine v_if_eq (tgt := 118) C dJ6_getChars_ba4f3_106 rfl ?_ ?_
          · skip
            refine v_iload C dJ6_getChars_ba4f3_118 (j := 1) rfl ?_
            exact v_iret C rfl hO pI dJ6_getChars_ba4f3_120
          · skip
            refine v_aload_n C dJ6_getChars_ba4f3_109 rfl (j := 0) rfl ?_
            refine v_iinc C (j := 1) [(2, A w a2), (6, I x1)] dJ6_getChars_ba4f3_110 (by decide) rfl (fun _ => rfl) (fun x19 => ?_)
            refine v_iload C dJ6_getChars_ba4f3_113 (j := 0) rfl ?_
            refine v_bipush C dJ6_getChars_ba4f3_115 (by decide) ?_
            refine v_bast C dJ6_getChars_ba4f3_117 (fun s20 => ?_)
            refine v_iload C dJ6_getChars_ba4f3_118 (j := 0) rfl ?_
            exact v_iret C rfl hO pI dJ6_getChars_ba4f3_120
        intro k104 hk104
        refine v_icmp_ge (tgt := 104) C dJ6_getChars_ba4f3_88 rfl ?_ ?_
        · skip
          refine v_sub [(2, A w a2), (5, I x14), (6, I x1)] [2, 0, 3] rfl ?_
          exact hk104 x14 s16
        · skip
          refine v_aload_n C dJ6_getChars_ba4f3_91 rfl (j := 2) rfl ?_
          refine v_iinc C (j := 0) [(0, I x11), (2, A w a2), (6, I x1)] dJ6_getChars_ba4f3_92 (by decide) rfl (fun _ => rfl) (fun x21 => ?_)
          refine v_iload C dJ6_getChars_ba4f3_95 (j := 0) rfl ?_
          refine v_gs101 C tw_740 dJ6_getChars_ba4f3_97 ?_
          refine v_iload_n C dJ6_getChars_ba4f3_100 rfl (j := 1) rfl ?_
          refine v_ineg C dJ6_getChars_ba4f3_101 ?_
          refine v_dig2 C dJ6_getChars_ba4f3_102 (fun x22 => ?_)
          refine v_bast C dJ6_getChars_ba4f3_103 (fun s23 => ?_)
          refine v_sub [(2, A w a2), (5, I x21), (6, I x1)] [2, 0, 3] rfl ?_
          exact hk104 x21 s23
    intro k22 hk22
    refine v_if_ne (tgt := 22) C dJ6_getChars_ba4f3_16 rfl ?_ ?_
    · skip
      refine v_sub [(0, I a0), (2, A w a2), (5, I a1), (6, I x1)] [1, 2, 3, 0] rfl ?_
      exact hk22 a0
    · skip
      refine v_iload_n C dJ6_getChars_ba4f3_19 rfl (j := 1) rfl ?_
      refine v_ineg C dJ6_getChars_ba4f3_20 ?_
      refine v_bdI (fun x24 => ?_)
      refine v_istore_n C [(0, I x24), (6, I x1), (2, A w a2), (5, I a1)] dJ6_getChars_ba4f3_21 rfl (by decide) rfl ?_
      refine v_sub [(0, I x24), (2, A w a2), (5, I a1), (6, I x1)] [0, 2, 3, 1] rfl ?_
      exact hk22 x24
  intro k12 hk12
  refine v_if_ge (tgt := 11) C dJ6_getChars_ba4f3_4 rfl ?_ ?_
  · skip
    refine v_iconst C dJ6_getChars_ba4f3_11 ?_
    refine v_sub [(0, I a0), (2, A w a2), (5, I a1)] [1, 3, 0] rfl ?_
    exact hk12 0
  · skip
    refine v_iconst C dJ6_getChars_ba4f3_7 ?_
    refine v_goto (tgt := 12) C dJ6_getChars_ba4f3_8 rfl ?_
    refine v_sub [(0, I a0), (2, A w a2), (5, I a1)] [1, 3, 0] rfl ?_
    exact hk12 1
-- java/lang/AbstractStringBuilder.append
theorem hJ5_append_c97b9 : yJ5_append_c97b9.cls ≠ "java/lang/invoke/MethodHandle" ∧ yJ5_append_c97b9.cls ≠ "java/lang/invoke/VarHandle" ∧ (parseMethodDescriptor yJ5_append_c97b9.desc).map (fun d => d.parameters.length) = some 1 := by decide +kernel
set_option maxRecDepth 100000 in
theorem kJ5_append_c97b9 (l : Launch) (w : Wd) (P : Shp) (n : Nat) {s : St} {a0 : Int} {a1 : Int} {res : Hr} (h : fJ5_append_c97b9 P n s a0 a1 = some res) : CtM l w yJ5_append_c97b9 cJ5_append_c97b9 4 (some (FieldType.object "java/lang/AbstractStringBuilder")) rJ5_append_c97b9 1 1024 P n [A w a0, I a1] s (QR w res.2.1 res.2.2.1 res.1 res.2.2.2) :=
  CtM.of h (by decide +kernel) (Nat.le_of_ble_eq_true rfl) (lv := [(0, A w a0), (1, I a1)]) rfl fun X hl hRm C hO => by
  subst hl
  unfold fJ5_append_c97b9
  refine v_aload_n C dJ5_append_c97b9_0 rfl (j := 0) rfl ?_
  refine v_getI C 3 rfl (T := TJ4) rfl inB8 (by decide) (by decide) rfl tw_716 dJ5_append_c97b9_1 (fun x1 => ?_)
  refine v_istore_n C [(2, I x1), (0, A w a0), (1, I a1)] dJ5_append_c97b9_4 rfl (by decide) rfl ?_
  refine v_iload_n C dJ5_append_c97b9_5 rfl (j := 0) rfl ?_
  refine v_iload_n C dJ5_append_c97b9_6 rfl (j := 2) rfl ?_
  refine v_callS_rI C [I a1] [I x1] (Cee.of (rm := rJ6_stringSize_0f7a4) tw_734 tw_23 hJ6_stringSize_0f7a4 rfl rfl hRm (Nat.le_of_ble_eq_true rfl) (Nat.le_of_ble_eq_true rfl)) (fun x h => kJ6_stringSize_0f7a4 X.2.1 w _ _ h) tw_732 tw_733 rfl rfl (Nat.le_of_ble_eq_true rfl) (by rw [hRm]; exact ⟨Nat.le_of_ble_eq_true rfl, Nat.le_of_ble_eq_true rfl⟩) dJ5_append_c97b9_7 (fun x2 => ?_)
  refine v_iadd C dJ5_append_c97b9_10 ?_
  refine v_bdI (fun x3 => ?_)
  refine v_istore_n C [(3, I x3), (2, I x1), (0, A w a0), (1, I a1)] dJ5_append_c97b9_11 rfl (by decide) rfl ?_
  refine v_aload_n C dJ5_append_c97b9_12 rfl (j := 2) rfl ?_
  refine v_iload_n C dJ5_append_c97b9_13 rfl (j := 0) rfl ?_
  refine v_gaV (st := []) (fun H9 locs9 ls9 x9 hR9 hs9 hP9 h9 => v_rU C (o := a0) (As := [I x3]) (x := yJ5_ensureCapacityInternal_d00df) (owner := RJ5) (CeeM.of (rm := rJ5_ensureCapacityInternal_d00df) tw_622 tw_15 hJ5_ensureCapacityInternal_d00df rfl rfl hRm (Nat.le_of_ble_eq_true rfl) (Nat.le_of_ble_eq_true rfl)) (kJ5_ensureCapacityInternal_d00df X.2.1 w _ _ h9) tw_619 tw_1171 tw_622 tw_621 hJ5_ensureCapacityInternal_d00df (C.wd tpv_0) tw_621 hR9 hs9 hP9 rfl rfl (Nat.le_of_ble_eq_true rfl) ⟨by rw [hRm]; exact Nat.le_of_ble_eq_true rfl, by rw [hRm]; exact Nat.le_of_ble_eq_true rfl⟩ dJ5_append_c97b9_14) (fun P n s4 => ?_)
  refine v_aload_n C dJ5_append_c97b9_17 rfl (j := 2) rfl ?_
  refine v_gI (st := []) (fun H9 locs9 ls9 x9 hR9 hs9 hP9 h9 => v_rU C (o := a0) (As := []) (x := yJ5_isLatin1_aae02) (owner := RJ5) (CeeM.of (rm := rJ5_isLatin1_aae02) tw_653 tw_15 hJ5_isLatin1_aae02 rfl rfl hRm (Nat.le_of_ble_eq_true rfl) (Nat.le_of_ble_eq_true rfl)) (kJ5_isLatin1_aae02 X.2.1 w _ _ h9) tw_649 tw_651 tw_653 tw_650 hJ5_isLatin1_aae02 (C.wd tw_652) tw_650 hR9 hs9 hP9 rfl rfl (Nat.le_of_ble_eq_true rfl) ⟨by rw [hRm]; exact Nat.le_of_ble_eq_true rfl, by rw [hRm]; exact Nat.le_of_ble_eq_true rfl⟩ dJ5_append_c97b9_18) (fun x6 => ?_)
  refine v_if_eq (tgt := 37) C dJ5_append_c97b9_21 rfl ?_ ?_
  · skip
    refine v_iload_n C dJ5_append_c97b9_37 rfl (j := 3) rfl ?_
    refine v_iload_n C dJ5_append_c97b9_38 rfl (j := 1) rfl ?_
    refine v_iload_n C dJ5_append_c97b9_39 rfl (j := 0) rfl ?_
    refine v_aload_n C dJ5_append_c97b9_40 rfl (j := 2) rfl ?_
    refine v_getR C 0 rfl (T := TJ4) rfl inB8 (by decide) (by decide) rfl tw_714 dJ5_append_c97b9_41 (fun x7 => ?_)
    exact v_none
  · skip
    refine v_iload_n C dJ5_append_c97b9_24 rfl (j := 3) rfl ?_
    refine v_iload_n C dJ5_append_c97b9_25 rfl (j := 0) rfl ?_
    refine v_aload_n C dJ5_append_c97b9_26 rfl (j := 2) rfl ?_
    refine v_getR C 0 rfl (T := TJ4) rfl inB8 (by decide) (by decide) rfl tw_714 dJ5_append_c97b9_27 (fun x8 => ?_)
    refine v_callS_wI C [I a1, I x3, A w x8] [] (Cee.of (rm := rJ6_getChars_ba4f3) tw_737 tw_23 hJ6_getChars_ba4f3 rfl rfl hRm (Nat.le_of_ble_eq_true rfl) (Nat.le_of_ble_eq_true rfl)) (fun x h => kJ6_getChars_ba4f3 X.2.1 w _ _ h) tw_735 tw_736 rfl rfl (Nat.le_of_ble_eq_true rfl) (by rw [hRm]; exact ⟨Nat.le_of_ble_eq_true rfl, Nat.le_of_ble_eq_true rfl⟩) dJ5_append_c97b9_30 (fun q9 => ?_)
    obtain ⟨x10, s11⟩ := q9
    refine v_pop C dJ5_append_c97b9_33 rfl ?_
    refine v_goto (tgt := 48) C dJ5_append_c97b9_34 rfl ?_
    refine v_aload_n C dJ5_append_c97b9_48 rfl (j := 2) rfl ?_
    refine v_iload_n C dJ5_append_c97b9_49 rfl (j := 0) rfl ?_
    refine v_putI C 3 rfl (T := TJ4) rfl inB8 (by decide) tyJ4_ok nmJ4 (by decide) rfl rfl tw_716 dJ5_append_c97b9_50 rfl (fun s12 => ?_)
    refine v_aload_n C dJ5_append_c97b9_53 rfl (j := 2) rfl ?_
    exact v_mretR C rfl (Or.inl ⟨_, rfl⟩) hO (Nat.le_of_ble_eq_true rfl) (Nat.le_of_ble_eq_true rfl) dJ5_append_c97b9_54
-- java/lang/AbstractStringBuilder.append
theorem hJ5_append_cf1ce : yJ5_append_cf1ce.cls ≠ "java/lang/invoke/MethodHandle" ∧ yJ5_append_cf1ce.cls ≠ "java/lang/invoke/VarHandle" ∧ (parseMethodDescriptor yJ5_append_cf1ce.desc).map (fun d => d.parameters.length) = some 1 := by decide +kernel
set_option maxRecDepth 100000 in
theorem kJ5_append_cf1ce (l : Launch) (w : Wd) (P : Shp) (n : Nat) {s : St} {a0 : Int} {a1 : Int} {res : Hr} (h : fJ5_append_cf1ce P n s a0 a1 = some res) : CtM l w yJ5_append_cf1ce cJ5_append_cf1ce 3 (some (FieldType.object "java/lang/AbstractStringBuilder")) rJ5_append_cf1ce 1 1024 P n [A w a0, A w a1] s (QR w res.2.1 res.2.2.1 res.1 res.2.2.2) :=
  CtM.of h (by decide +kernel) (Nat.le_of_ble_eq_true rfl) (lv := [(0, A w a0), (1, A w a1)]) rfl fun X hl hRm C hO => by
  subst hl
  unfold fJ5_append_cf1ce
  refine v_aload_n C dJ5_append_cf1ce_0 rfl (j := 1) rfl ?_
  refine v_ifnn (tgt := 9) C dJ5_append_cf1ce_1 rfl ?_
  refine v_aload_n C dJ5_append_cf1ce_9 rfl (j := 1) rfl ?_
  refine v_sln C [] tw_582 tw_584 hRm (Nat.le_of_ble_eq_true rfl) (Nat.le_of_ble_eq_true rfl) rfl (Nat.le_of_ble_eq_true rfl) (by rw [hRm]; exact ⟨Nat.le_of_ble_eq_true rfl, Nat.le_of_ble_eq_true rfl⟩) dJ5_append_cf1ce_10 (fun x1 => ?_)
  refine v_istore_n C [(2, I x1), (0, A w a0), (1, A w a1)] dJ5_append_cf1ce_13 rfl (by decide) rfl ?_
  refine v_aload_n C dJ5_append_cf1ce_14 rfl (j := 1) rfl ?_
  refine v_aload_n C dJ5_append_cf1ce_15 rfl (j := 1) rfl ?_
  refine v_getI C 3 rfl (T := TJ4) rfl inB8 (by decide) (by decide) rfl tw_716 dJ5_append_cf1ce_16 (fun x2 => ?_)
  refine v_iload_n C dJ5_append_cf1ce_19 rfl (j := 0) rfl ?_
  refine v_iadd C dJ5_append_cf1ce_20 ?_
  refine v_gaV (st := []) (fun H9 locs9 ls9 x9 hR9 hs9 hP9 h9 => v_rU C (o := a0) (As := [I (x2 + x1)]) (x := yJ5_ensureCapacityInternal_d00df) (owner := RJ5) (CeeM.of (rm := rJ5_ensureCapacityInternal_d00df) tw_622 tw_15 hJ5_ensureCapacityInternal_d00df rfl rfl hRm (Nat.le_of_ble_eq_true rfl) (Nat.le_of_ble_eq_true rfl)) (kJ5_ensureCapacityInternal_d00df X.2.1 w _ _ h9) tw_619 tw_1171 tw_622 tw_621 hJ5_ensureCapacityInternal_d00df (C.wd tpv_0) tw_621 hR9 hs9 hP9 rfl rfl (Nat.le_of_ble_eq_true rfl) ⟨by rw [hRm]; exact Nat.le_of_ble_eq_true rfl, by rw [hRm]; exact Nat.le_of_ble_eq_true rfl⟩ dJ5_append_cf1ce_21) (fun P n s3 => ?_)
  refine v_aload_n C dJ5_append_cf1ce_24 rfl (j := 1) rfl ?_
  refine v_aload_n C dJ5_append_cf1ce_25 rfl (j := 1) rfl ?_
  refine v_getI C 3 rfl (T := TJ4) rfl inB8 (by decide) (by decide) rfl tw_716 dJ5_append_cf1ce_26 (fun x5 => ?_)
  refine v_aload_n C dJ5_append_cf1ce_29 rfl (j := 2) rfl ?_
  refine v_gW (st := []) (fun H9 locs9 ls9 x9 hR9 hs9 hP9 h9 => v_rU C (o := a0) (As := [I x5, A w a1]) (x := yJ5_putStringAt_47b60) (owner := RJ5) (CeeM.of (rm := rJ5_putStringAt_47b60) tw_684 tw_15 hJ5_putStringAt_47b60 rfl rfl hRm (Nat.le_of_ble_eq_true rfl) (Nat.le_of_ble_eq_true rfl)) (kJ5_putStringAt_47b60 X.2.1 w _ _ h9) tw_681 tw_1173 tw_684 tw_683 hJ5_putStringAt_47b60 (C.wd tpv_2) tw_683 hR9 hs9 hP9 rfl rfl (Nat.le_of_ble_eq_true rfl) ⟨by rw [hRm]; exact Nat.le_of_ble_eq_true rfl, by rw [hRm]; exact Nat.le_of_ble_eq_true rfl⟩ dJ5_append_cf1ce_30) (fun s6 => ?_)
  refine v_aload_n C dJ5_append_cf1ce_33 rfl (j := 1) rfl ?_
  refine v_dup C dJ5_append_cf1ce_34 rfl ?_
  refine v_getI C 3 rfl (T := TJ4) rfl inB8 (by decide) (by decide) rfl tw_716 dJ5_append_cf1ce_35 (fun x7 => ?_)
  refine v_iload_n C dJ5_append_cf1ce_38 rfl (j := 0) rfl ?_
  refine v_iadd C dJ5_append_cf1ce_39 ?_
  refine v_putI C 3 rfl (T := TJ4) rfl inB8 (by decide) tyJ4_ok nmJ4 (by decide) rfl rfl tw_716 dJ5_append_cf1ce_40 rfl (fun s8 => ?_)
  refine v_aload_n C dJ5_append_cf1ce_43 rfl (j := 1) rfl ?_
  exact v_mretR C rfl (Or.inl ⟨_, rfl⟩) hO (Nat.le_of_ble_eq_true rfl) (Nat.le_of_ble_eq_true rfl) dJ5_append_cf1ce_44
-- java/lang/StringBuilder.append
theorem hJ4_append_15ec4 : yJ4_append_15ec4.cls ≠ "java/lang/invoke/MethodHandle" ∧ yJ4_append_15ec4.cls ≠ "java/lang/invoke/VarHandle" ∧ (parseMethodDescriptor yJ4_append_15ec4.desc).map (fun d => d.parameters.length) = some 1 := by decide +kernel
set_option maxRecDepth 100000 in
theorem kJ4_append_15ec4 (l : Launch) (w : Wd) (P : Shp) (n : Nat) {s : St} {a0 : Int} {a1 : Int} {res : Hr} (h : fJ4_append_15ec4 P n s a0 a1 = some res) : CtM l w yJ4_append_15ec4 cJ4_append_15ec4 2 (some (FieldType.object "java/lang/StringBuilder")) rJ4_append_15ec4 1 1024 P n [A w a0, A w a1] s (QR w res.2.1 res.2.2.1 res.1 res.2.2.2) :=
  CtM.of h (by decide +kernel) (Nat.le_of_ble_eq_true rfl) (lv := [(0, A w a0), (1, A w a1)]) rfl fun X hl hRm C hO => by
  subst hl
  unfold fJ4_append_15ec4
  refine v_aload_n C dJ4_append_15ec4_0 rfl (j := 0) rfl ?_
  refine v_aload_n C dJ4_append_15ec4_1 rfl (j := 1) rfl ?_
  refine v_gaR (st := []) (fun H9 locs9 ls9 x9 hR9 hs9 hP9 h9 => v_rSU C (o := a0) (As := [A w a1]) (CeeM.of (rm := rJ5_append_cf1ce) tw_614 tw_15 hJ5_append_cf1ce rfl rfl hRm (Nat.le_of_ble_eq_true rfl) (Nat.le_of_ble_eq_true rfl)) (kJ5_append_cf1ce X.2.1 w _ _ h9) tw_612 tw_604 tw_613 tw_603 (by decide) hR9 hs9 hP9 rfl rfl (Nat.le_of_ble_eq_true rfl) ⟨by rw [hRm]; exact Nat.le_of_ble_eq_true rfl, by rw [hRm]; exact Nat.le_of_ble_eq_true rfl⟩ dJ4_append_15ec4_2) (fun x2 P n s1 => ?_)
  refine v_pop C dJ4_append_15ec4_5 rfl ?_
  refine v_aload_n C dJ4_append_15ec4_6 rfl (j := 0) rfl ?_
  exact v_mretR C rfl (Or.inl ⟨_, rfl⟩) hO (Nat.le_of_ble_eq_true rfl) (Nat.le_of_ble_eq_true rfl) dJ4_append_15ec4_7
-- java/lang/StringBuilder.append
theorem hJ4_append_cf1ce : yJ4_append_cf1ce.cls ≠ "java/lang/invoke/MethodHandle" ∧ yJ4_append_cf1ce.cls ≠ "java/lang/invoke/VarHandle" ∧ (parseMethodDescriptor yJ4_append_cf1ce.desc).map (fun d => d.parameters.length) = some 1 := by decide +kernel
set_option maxRecDepth 100000 in
theorem kJ4_append_cf1ce (l : Launch) (w : Wd) (P : Shp) (n : Nat) {s : St} {a0 : Int} {a1 : Int} {res : Hr} (h : fJ4_append_cf1ce P n s a0 a1 = some res) : CtM l w yJ4_append_cf1ce cJ4_append_cf1ce 2 (some (FieldType.object "java/lang/AbstractStringBuilder")) rJ4_append_cf1ce 1 1024 P n [A w a0, A w a1] s (QR w res.2.1 res.2.2.1 res.1 res.2.2.2) :=
  CtM.of h (by decide +kernel) (Nat.le_of_ble_eq_true rfl) (lv := [(0, A w a0), (1, A w a1)]) rfl fun X hl hRm C hO => by
  subst hl
  unfold fJ4_append_cf1ce
  refine v_aload_n C dJ4_append_cf1ce_0 rfl (j := 0) rfl ?_
  refine v_aload_n C dJ4_append_cf1ce_1 rfl (j := 1) rfl ?_
  refine v_gaR (st := []) (fun H9 locs9 ls9 x9 hR9 hs9 hP9 h9 => v_rV C (o := a0) (As := [A w a1]) (CeeM.of (rm := rJ4_append_15ec4) tw_611 tw_16 hJ4_append_15ec4 rfl rfl hRm (Nat.le_of_ble_eq_true rfl) (Nat.le_of_ble_eq_true rfl)) (kJ4_append_15ec4 X.2.1 w _ _ h9) tw_608 tw_610 tw_609 rfl hR9 hs9 hP9 rfl rfl (Nat.le_of_ble_eq_true rfl) ⟨by rw [hRm]; exact Nat.le_of_ble_eq_true rfl, by rw [hRm]; exact Nat.le_of_ble_eq_true rfl⟩ dJ4_append_cf1ce_2) (fun x2 P n s1 => ?_)
  exact v_mretR C rfl (Or.inl ⟨_, rfl⟩) hO (Nat.le_of_ble_eq_true rfl) (Nat.le_of_ble_eq_true rfl) dJ4_append_cf1ce_5
-- java/lang/AbstractStringBuilder.<init>
theorem hJ5_init_a7421 : yJ5_init_a7421.cls ≠ "java/lang/invoke/MethodHandle" ∧ yJ5_init_a7421.cls ≠ "java/lang/invoke/VarHandle" ∧ (parseMethodDescriptor yJ5_init_a7421.desc).map (fun d => d.parameters.length) = some 1 := by decide +kernel
set_option maxRecDepth 100000 in
theorem kJ5_init_a7421 (l : Launch) (w : Wd) (P : Shp) (n : Nat) {s : St} {a0 : Int} {a1 : Int} {res : Hs} (h : fJ5_init_a7421 P n s a0 a1 = some res) : CtN l w yJ5_init_a7421 cJ5_init_a7421 5 rJ5_init_a7421 2 2048 P n [A w a0, A w a1] s res :=
  CtM.of h (by decide +kernel) (Nat.le_of_ble_eq_true rfl) (lv := [(0, A w a0), (1, A w a1)]) rfl fun X hl hRm C hO => by
  subst hl
  unfold fJ5_init_a7421
  refine v_aload_n C dJ5_init_a7421_0 rfl (j := 0) rfl ?_
  refine v_oinit C tw_581 tw_32 tw_33 (by rw [hRm]; exact Nat.le_of_ble_eq_true rfl) (by rw [hRm]; exact Nat.le_of_ble_eq_true rfl) (Nat.le_of_ble_eq_true rfl) dJ5_init_a7421_1 ?_
  refine v_aload_n C dJ5_init_a7421_4 rfl (j := 1) rfl ?_
  refine v_sln C [] tw_582 tw_584 hRm (Nat.le_of_ble_eq_true rfl) (Nat.le_of_ble_eq_true rfl) rfl (Nat.le_of_ble_eq_true rfl) (by rw [hRm]; exact ⟨Nat.le_of_ble_eq_true rfl, Nat.le_of_ble_eq_true rfl⟩) dJ5_init_a7421_5 (fun x1 => ?_)
  refine v_istore_n C [(2, I x1), (0, A w a0), (1, A w a1)] dJ5_init_a7421_8 rfl (by decide) rfl ?_
  refine v_iload_n C dJ5_init_a7421_9 rfl (j := 0) rfl ?_
  refine v_ldc (z := 2147483631) C tw_592 dJ5_init_a7421_10 rfl ?_
  refine v_jnt (fun (k24 : Int → Option (Hs)) => ∀ (x2 : Int), V X w 5 P n 0 0 res (k24 x2) s 24 [(0, A w a0), (1, A w a1)] [I x2]) ?_ ?_
  · intro x2
    refine v_istore_n C [(3, I x2), (0, A w a0), (1, A w a1)] dJ5_init_a7421_24 rfl (by decide) rfl ?_
    refine v_aload_n C dJ5_init_a7421_25 rfl (j := 2) rfl ?_
    refine v_cod C [] tw_594 tw_587 tw_588 hRm (Nat.le_of_ble_eq_true rfl) (Nat.le_of_ble_eq_true rfl) rfl (Nat.le_of_ble_eq_true rfl) (by rw [hRm]; exact ⟨Nat.le_of_ble_eq_true rfl, Nat.le_of_ble_eq_true rfl⟩) dJ5_init_a7421_26 ?_
    refine v_istore C [(4, I 0), (3, I x2), (0, A w a0), (1, A w a1)] dJ5_init_a7421_29 (by decide) rfl ?_
    refine v_aload_n C dJ5_init_a7421_31 rfl (j := 2) rfl ?_
    refine v_iload C dJ5_init_a7421_32 (j := 0) rfl ?_
    refine v_putB C 1 rfl (T := TJ4) rfl inB8 (by decide) tyJ4_ok nmJ4 (by decide) rfl rfl tw_715 dJ5_init_a7421_34 rfl (fun s3 => ?_)
    refine v_aload_n C dJ5_init_a7421_37 rfl (j := 2) rfl ?_
    refine v_iload C dJ5_init_a7421_38 (j := 0) rfl ?_
    refine v_if_ne (tgt := 49) C dJ5_init_a7421_40 rfl ?_ ?_
    · skip
      refine v_iload_n C dJ5_init_a7421_49 rfl (j := 1) rfl ?_
      exact v_none
    · skip
      refine v_iload_n C dJ5_init_a7421_43 rfl (j := 1) rfl ?_
      refine v_newD C tw_142 (by rw [hRm]; exact Nat.le_of_ble_eq_true rfl) (by rw [hRm]; exact Nat.le_of_ble_eq_true rfl) dJ5_init_a7421_44 (fun P n x4 s5 => ?_)
      refine v_goto (tgt := 53) C dJ5_init_a7421_46 rfl ?_
      refine v_putR C 0 rfl (T := TJ4) rfl inB8 (by decide) tyJ4_ok nmJ4 (by decide) rfl rfl tw_714 dJ5_init_a7421_53 (Or.inr ⟨_, rfl⟩) (fun s6 => ?_)
      refine v_aload_n C dJ5_init_a7421_56 rfl (j := 2) rfl ?_
      refine v_aload_n C dJ5_init_a7421_57 rfl (j := 3) rfl ?_
      refine v_gaR (st := []) (fun H9 locs9 ls9 x9 hR9 hs9 hP9 h9 => v_rU C (o := a0) (As := [A w a1]) (x := yJ5_append_cf1ce) (owner := RJ5) (CeeM.of (rm := rJ4_append_cf1ce) tw_607 tw_16 hJ4_append_cf1ce rfl rfl hRm (Nat.le_of_ble_eq_true rfl) (Nat.le_of_ble_eq_true rfl)) (kJ4_append_cf1ce X.2.1 w _ _ h9) tw_602 tw_604 tw_614 tw_603 hJ5_append_cf1ce (C.wd tw_605) tw_606 hR9 hs9 hP9 rfl rfl (Nat.le_of_ble_eq_true rfl) ⟨by rw [hRm]; exact Nat.le_of_ble_eq_true rfl, by rw [hRm]; exact Nat.le_of_ble_eq_true rfl⟩ dJ5_init_a7421_58) (fun x8 P n s7 => ?_)
      refine v_pop C dJ5_init_a7421_61 rfl ?_
      exact v_nret C rfl hO (Nat.le_of_ble_eq_true rfl) (Nat.le_of_ble_eq_true rfl) dJ5_init_a7421_62
  intro k24 hk24
  refine v_icmp_ge (tgt := 22) C dJ5_init_a7421_12 rfl ?_ ?_
  · skip
    refine v_ldc (z := 2147483647) C tw_593 dJ5_init_a7421_22 rfl ?_
    refine v_sub [(0, A w a0), (1, A w a1)] [1, 2] rfl ?_
    exact hk24 2147483647
  · skip
    refine v_iload_n C dJ5_init_a7421_15 rfl (j := 0) rfl ?_
    refine v_bipush C dJ5_init_a7421_16 (by decide) ?_
    refine v_iadd C dJ5_init_a7421_18 ?_
    refine v_goto (tgt := 24) C dJ5_init_a7421_19 rfl ?_
    refine v_sub [(0, A w a0), (1, A w a1)] [1, 2] rfl ?_
    exact hk24 (x1 + 16)
-- java/lang/StringBuilder.<init>
theorem hJ4_init_a7421 : yJ4_init_a7421.cls ≠ "java/lang/invoke/MethodHandle" ∧ yJ4_init_a7421.cls ≠ "java/lang/invoke/VarHandle" ∧ (parseMethodDescriptor yJ4_init_a7421.desc).map (fun d => d.parameters.length) = some 1 := by decide +kernel
set_option maxRecDepth 100000 in
theorem kJ4_init_a7421 (l : Launch) (w : Wd) (P : Shp) (n : Nat) {s : St} {a0 : Int} {a1 : Int} {res : Hs} (h : fJ4_init_a7421 P n s a0 a1 = some res) : CtN l w yJ4_init_a7421 cJ4_init_a7421 2 rJ4_init_a7421 2 2048 P n [A w a0, A w a1] s res :=
  CtM.of h (by decide +kernel) (Nat.le_of_ble_eq_true rfl) (lv := [(0, A w a0), (1, A w a1)]) rfl fun X hl hRm C hO => by
  subst hl
  unfold fJ4_init_a7421
  refine v_aload_n C dJ4_init_a7421_0 rfl (j := 0) rfl ?_
  refine v_aload_n C dJ4_init_a7421_1 rfl (j := 1) rfl ?_
  refine v_callN C (rm := rJ5_init_a7421) [A w a1] [] (fun x h9 => kJ5_init_a7421 X.2.1 w _ _ h9) rfl tw_580 tw_15 hJ5_init_a7421 rfl rfl hRm (Nat.le_of_ble_eq_true rfl) (Nat.le_of_ble_eq_true rfl) tw_578 tw_579 rfl rfl (Nat.le_of_ble_eq_true rfl) ⟨Nat.le_of_ble_eq_true rfl, Nat.le_of_ble_eq_true rfl⟩ dJ4_init_a7421_2 (fun P n s1 => ?_)
  exact v_nret C rfl hO (Nat.le_of_ble_eq_true rfl) (Nat.le_of_ble_eq_true rfl) dJ4_init_a7421_5
-- java/lang/StringBuilder.append
theorem hJ4_append_cf468 : yJ4_append_cf468.cls ≠ "java/lang/invoke/MethodHandle" ∧ yJ4_append_cf468.cls ≠ "java/lang/invoke/VarHandle" ∧ (parseMethodDescriptor yJ4_append_cf468.desc).map (fun d => d.parameters.length) = some 1 := by decide +kernel
set_option maxRecDepth 100000 in
theorem kJ4_append_cf468 (l : Launch) (w : Wd) (P : Shp) (n : Nat) {s : St} {a0 : Int} {a1 : Int} {res : Hr} (h : fJ4_append_cf468 P n s a0 a1 = some res) : CtM l w yJ4_append_cf468 cJ4_append_cf468 2 (some (FieldType.object "java/lang/StringBuilder")) rJ4_append_cf468 1 1024 P n [A w a0, I a1] s (QR w res.2.1 res.2.2.1 res.1 res.2.2.2) :=
  CtM.of h (by decide +kernel) (Nat.le_of_ble_eq_true rfl) (lv := [(0, A w a0), (1, I a1)]) rfl fun X hl hRm C hO => by
  subst hl
  unfold fJ4_append_cf468
  refine v_aload_n C dJ4_append_cf468_0 rfl (j := 0) rfl ?_
  refine v_iload_n C dJ4_append_cf468_1 rfl (j := 1) rfl ?_
  refine v_gaR (st := []) (fun H9 locs9 ls9 x9 hR9 hs9 hP9 h9 => v_rSU C (o := a0) (As := [I a1]) (CeeM.of (rm := rJ5_append_3fe6f) tw_759 tw_15 hJ5_append_3fe6f rfl rfl hRm (Nat.le_of_ble_eq_true rfl) (Nat.le_of_ble_eq_true rfl)) (kJ5_append_3fe6f X.2.1 w _ _ h9) tw_757 tw_1177 tw_613 tw_758 (by decide) hR9 hs9 hP9 rfl rfl (Nat.le_of_ble_eq_true rfl) ⟨by rw [hRm]; exact Nat.le_of_ble_eq_true rfl, by rw [hRm]; exact Nat.le_of_ble_eq_true rfl⟩ dJ4_append_cf468_2) (fun x2 P n s1 => ?_)
  refine v_pop C dJ4_append_cf468_5 rfl ?_
  refine v_aload_n C dJ4_append_cf468_6 rfl (j := 0) rfl ?_
  exact v_mretR C rfl (Or.inl ⟨_, rfl⟩) hO (Nat.le_of_ble_eq_true rfl) (Nat.le_of_ble_eq_true rfl) dJ4_append_cf468_7
-- java/lang/StringBuilder.append
theorem hJ4_append_bf812 : yJ4_append_bf812.cls ≠ "java/lang/invoke/MethodHandle" ∧ yJ4_append_bf812.cls ≠ "java/lang/invoke/VarHandle" ∧ (parseMethodDescriptor yJ4_append_bf812.desc).map (fun d => d.parameters.length) = some 1 := by decide +kernel
set_option maxRecDepth 100000 in
theorem kJ4_append_bf812 (l : Launch) (w : Wd) (P : Shp) (n : Nat) {s : St} {a0 : Int} {a1 : Int} {res : Hr} (h : fJ4_append_bf812 P n s a0 a1 = some res) : CtM l w yJ4_append_bf812 cJ4_append_bf812 2 (some (FieldType.object "java/lang/StringBuilder")) rJ4_append_bf812 1 1024 P n [A w a0, I a1] s (QR w res.2.1 res.2.2.1 res.1 res.2.2.2) :=
  CtM.of h (by decide +kernel) (Nat.le_of_ble_eq_true rfl) (lv := [(0, A w a0), (1, I a1)]) rfl fun X hl hRm C hO => by
  subst hl
  unfold fJ4_append_bf812
  refine v_aload_n C dJ4_append_bf812_0 rfl (j := 0) rfl ?_
  refine v_iload_n C dJ4_append_bf812_1 rfl (j := 1) rfl ?_
  refine v_gaR (st := []) (fun H9 locs9 ls9 x9 hR9 hs9 hP9 h9 => v_rSU C (o := a0) (As := [I a1]) (CeeM.of (rm := rJ5_append_c97b9) tw_731 tw_15 hJ5_append_c97b9 rfl rfl hRm (Nat.le_of_ble_eq_true rfl) (Nat.le_of_ble_eq_true rfl)) (kJ5_append_c97b9 X.2.1 w _ _ h9) tw_729 tw_1176 tw_613 tw_730 (by decide) hR9 hs9 hP9 rfl rfl (Nat.le_of_ble_eq_true rfl) ⟨by rw [hRm]; exact Nat.le_of_ble_eq_true rfl, by rw [hRm]; exact Nat.le_of_ble_eq_true rfl⟩ dJ4_append_bf812_2) (fun x2 P n s1 => ?_)
  refine v_pop C dJ4_append_bf812_5 rfl ?_
  refine v_aload_n C dJ4_append_bf812_6 rfl (j := 0) rfl ?_
  exact v_mretR C rfl (Or.inl ⟨_, rfl⟩) hO (Nat.le_of_ble_eq_true rfl) (Nat.le_of_ble_eq_true rfl) dJ4_append_bf812_7
