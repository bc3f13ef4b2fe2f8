/-! CONTRACTS (laid by wip/whole/gen/write.py) -/
-- ForesightHub$Reader.hasRoomFor
theorem hX5_hasRoomFor : yX5_hasRoomFor.cls ≠ "java/lang/invoke/MethodHandle" ∧ yX5_hasRoomFor.cls ≠ "java/lang/invoke/VarHandle" ∧ (parseMethodDescriptor yX5_hasRoomFor.desc).map (fun d => d.parameters.length) = some 1 := by decide +kernel
set_option maxRecDepth 100000 in
theorem kX5_hasRoomFor (l : Launch) (w : Wd) (P : Shp) (n : Nat) {s : St} {a0 : Int} {a1 : Int} {res : Int} (h : fX5_hasRoomFor P s a0 a1 = some res) : Ct l w yX5_hasRoomFor cX5_hasRoomFor 2 (some FieldType.boolean) rX5_hasRoomFor P n [A w a0, I a1] s (QI w P n res s) :=
  Ct.of h (by decide) (Nat.le_of_ble_eq_true rfl) (lv := [(0, A w a0), (1, I a1)]) rfl fun X hl hRm C hO => by
  subst hl
  unfold fX5_hasRoomFor
  refine v_aload_n C dX5_hasRoomFor_0 rfl (j := 0) rfl ?_
  refine v_getI C 1 rfl (T := TX5) rfl inB5 (by decide) (by decide) rfl tw_142 dX5_hasRoomFor_1 (fun x1 => ?_)
  refine v_iload_n C dX5_hasRoomFor_4 rfl (j := 1) rfl ?_
  refine v_iadd C dX5_hasRoomFor_5 ?_
  refine v_sipush C dX5_hasRoomFor_6 (by decide) ?_
  refine v_icmp_gt (tgt := 16) C dX5_hasRoomFor_9 rfl ?_ ?_
  · skip
    refine v_iconst C dX5_hasRoomFor_16 ?_
    exact v_zret C rfl hO pS dX5_hasRoomFor_17
  · skip
    refine v_iconst C dX5_hasRoomFor_12 ?_
    refine v_goto (tgt := 17) C dX5_hasRoomFor_13 rfl ?_
    exact v_zret C rfl hO pS dX5_hasRoomFor_17
-- ForesightHub$Reader.addBytesOf
set_option maxRecDepth 100000 in
theorem vX5_addBytesOf_L3 {X : Cxt} {w : Wd} {P : Shp} {n : Nat} (res : St) (hRm : X.2.2.2.1 = rX5_addBytesOf) (C : Cok X w cX5_addBytesOf 3 RX5 (Option.none : Option FieldType)) (hO : Own X w 0 0 (QV w P n res))  (c0 : Int) (c1 : Int) (kE46 : St → Option (St)) (hE46 : ∀ (se : St), V X w 3 P n 0 0 res (kE46 se) se 46 [] []) : ∀ (fuel : Nat) (p2 : Int) (s : St), V X w 3 P n 0 0 res (fX5_addBytesOf_L3 P c0 c1 kE46 fuel p2 s) s 3 [(0, A w c0), (1, I c1), (2, I p2)] [] := by
  intro fuel
  induction fuel with
  | zero => intro p2 s; exact v_none
  | succ m ih =>
    intro p2 s
    rw [fX5_addBytesOf_L3]
    refine v_iload_n C dX5_addBytesOf_3 rfl (j := 2) rfl ?_
    refine v_if_lt (tgt := 46) C dX5_addBytesOf_4 rfl ?_ ?_
    · skip
      refine v_sub [] [] rfl ?_
      exact hE46 s
    · skip
      refine v_aload_n C dX5_addBytesOf_7 rfl (j := 0) rfl ?_
      refine v_getI C 1 rfl (T := TX5) rfl inB5 (by decide) (by decide) rfl tw_142 dX5_addBytesOf_8 (fun x1 => ?_)
      refine v_sipush C dX5_addBytesOf_11 (by decide) ?_
      refine v_jnt (fun (k40 : St → Option (St)) => ∀ (s2 : St), V X w 3 P n 0 0 res (k40 s2) s2 40 [(0, A w c0), (1, I c1), (2, I p2)] []) ?_ ?_
      · intro s2
        refine v_iinc C (j := 2) [(0, A w c0), (1, I c1)] dX5_addBytesOf_40 (by decide) rfl (fun _ => rfl) (fun x3 => ?_)
        refine v_goto (tgt := 3) C dX5_addBytesOf_43 rfl ?_
        refine v_sub [(0, A w c0), (1, I c1), (2, I x3)] [1, 2, 0] rfl ?_
        exact ih x3 s2
      intro k40 hk40
      refine v_icmp_ge (tgt := 40) C dX5_addBytesOf_14 rfl ?_ ?_
      · skip
        exact hk40 s
      · skip
        refine v_aload_n C dX5_addBytesOf_17 rfl (j := 0) rfl ?_
        refine v_getR C 0 rfl (T := TX5) rfl inB5 (by decide) (by decide) rfl tw_141 dX5_addBytesOf_18 (fun x4 => ?_)
        refine v_aload_n C dX5_addBytesOf_21 rfl (j := 0) rfl ?_
        refine v_getI C 1 rfl (T := TX5) rfl inB5 (by decide) (by decide) rfl tw_142 dX5_addBytesOf_22 (fun x5 => ?_)
        refine v_iload_n C dX5_addBytesOf_25 rfl (j := 1) rfl ?_
        refine v_iload_n C dX5_addBytesOf_26 rfl (j := 2) rfl ?_
        refine v_iushr C dX5_addBytesOf_27 ?_
        refine v_i2b C dX5_addBytesOf_28 ?_
        refine v_bast C dX5_addBytesOf_29 (fun s6 => ?_)
        refine v_aload_n C dX5_addBytesOf_30 rfl (j := 0) rfl ?_
        refine v_dup C dX5_addBytesOf_31 rfl ?_
        refine v_getI C 1 rfl (T := TX5) rfl inB5 (by decide) (by decide) rfl tw_142 dX5_addBytesOf_32 (fun x7 => ?_)
        refine v_iconst C dX5_addBytesOf_35 ?_
        refine v_iadd C dX5_addBytesOf_36 ?_
        refine v_putI C 1 rfl (T := TX5) rfl inB5 (by decide) tyX5_ok nmX5 (by decide) rfl rfl tw_142 dX5_addBytesOf_37 rfl (fun s8 => ?_)
        exact hk40 s8
theorem hX5_addBytesOf : yX5_addBytesOf.cls ≠ "java/lang/invoke/MethodHandle" ∧ yX5_addBytesOf.cls ≠ "java/lang/invoke/VarHandle" ∧ (parseMethodDescriptor yX5_addBytesOf.desc).map (fun d => d.parameters.length) = some 1 := by decide +kernel
set_option maxRecDepth 100000 in
theorem kX5_addBytesOf (l : Launch) (w : Wd) (P : Shp) (n : Nat) {s : St} {a0 : Int} {a1 : Int} {res : St} (h : fX5_addBytesOf P s a0 a1 = some res) : Ct l w yX5_addBytesOf cX5_addBytesOf 3 (Option.none : Option FieldType) rX5_addBytesOf P n [A w a0, I a1] s (QV w P n res) :=
  Ct.of h (by decide) (Nat.le_of_ble_eq_true rfl) (lv := [(0, A w a0), (1, I a1)]) rfl fun X hl hRm C hO => by
  subst hl
  unfold fX5_addBytesOf
  refine v_bipush C dX5_addBytesOf_0 (by decide) ?_
  refine v_istore_n C [(2, I 24), (0, A w a0), (1, I a1)] dX5_addBytesOf_2 rfl (by decide) rfl ?_
  refine v_sub [(0, A w a0), (1, I a1), (2, I 24)] [1, 2, 0] rfl ?_
  refine vX5_addBytesOf_L3 res hRm C hO a0 a1 _ ?_ 1000 24 s
  · intro s9
    exact v_vret C rfl hO (fun h => Option.some.inj h) dX5_addBytesOf_46
-- ForesightHub.append
theorem hX7_append : yX7_append.cls ≠ "java/lang/invoke/MethodHandle" ∧ yX7_append.cls ≠ "java/lang/invoke/VarHandle" ∧ (parseMethodDescriptor yX7_append.desc).map (fun d => d.parameters.length) = some 5 := by decide +kernel
set_option maxRecDepth 100000 in
theorem kX7_append (l : Launch) (w : Wd) (P : Shp) (n : Nat) {s : St} {a0 : Int} {a1 : Int} {a2 : Int} {a3 : Int} {a4 : Int} {a5 : Int} {res : Int × St} (h : fX7_append P s a0 a1 a2 a3 a4 a5 = some res) : Ct l w yX7_append cX7_append 6 (some FieldType.int) rX7_append P n [A w a0, I a1, I a2, I a3, I a4, I a5] s (QI w P n res.1 res.2) :=
  Ct.of h (by decide) (Nat.le_of_ble_eq_true rfl) (lv := [(0, A w a0), (1, I a1), (2, I a2), (3, I a3), (4, I a4), (5, I a5)]) rfl fun X hl hRm C hO => by
  subst hl
  unfold fX7_append
  refine v_aload_n C dX7_append_0 rfl (j := 0) rfl ?_
  refine v_getR C 0 rfl (T := TX7) rfl inB7 (by decide) (by decide) rfl tw_335 dX7_append_1 (fun x1 => ?_)
  refine v_bipush C dX7_append_4 (by decide) ?_
  refine v_callV_rI C [I 20] [] (Cee.of (rm := rX5_hasRoomFor) tw_359 tw_2 hX5_hasRoomFor rfl rfl hRm (Nat.le_of_ble_eq_true rfl) (Nat.le_of_ble_eq_true rfl)) (fun x h => kX5_hasRoomFor X.2.1 w P n h) tw_356 tw_357 tw_358 rfl (ci := 5) rfl (by decide) rfl rfl (Nat.le_of_ble_eq_true rfl) ⟨Nat.zero_le _, Nat.zero_le _⟩ dX7_append_6 (fun x2 => ?_)
  refine v_if_ne (tgt := 14) C dX7_append_9 rfl ?_ ?_
  · skip
    refine v_aload_n C dX7_append_14 rfl (j := 0) rfl ?_
    refine v_getR C 0 rfl (T := TX7) rfl inB7 (by decide) (by decide) rfl tw_335 dX7_append_15 (fun x3 => ?_)
    refine v_iload_n C dX7_append_18 rfl (j := 1) rfl ?_
    refine v_callV_wV C [I a1] [] (Cee.of (rm := rX5_addBytesOf) tw_363 tw_2 hX5_addBytesOf rfl rfl hRm (Nat.le_of_ble_eq_true rfl) (Nat.le_of_ble_eq_true rfl)) (fun x h => kX5_addBytesOf X.2.1 w P n h) tw_360 tw_361 tw_362 rfl (ci := 5) rfl (by decide) rfl rfl (Nat.le_of_ble_eq_true rfl) ⟨Nat.zero_le _, Nat.zero_le _⟩ dX7_append_19 (fun s4 => ?_)
    refine v_aload_n C dX7_append_22 rfl (j := 0) rfl ?_
    refine v_getR C 0 rfl (T := TX7) rfl inB7 (by decide) (by decide) rfl tw_335 dX7_append_23 (fun x5 => ?_)
    refine v_iload_n C dX7_append_26 rfl (j := 2) rfl ?_
    refine v_callV_wV C [I a2] [] (Cee.of (rm := rX5_addBytesOf) tw_363 tw_2 hX5_addBytesOf rfl rfl hRm (Nat.le_of_ble_eq_true rfl) (Nat.le_of_ble_eq_true rfl)) (fun x h => kX5_addBytesOf X.2.1 w P n h) tw_360 tw_361 tw_362 rfl (ci := 5) rfl (by decide) rfl rfl (Nat.le_of_ble_eq_true rfl) ⟨Nat.zero_le _, Nat.zero_le _⟩ dX7_append_27 (fun s6 => ?_)
    refine v_aload_n C dX7_append_30 rfl (j := 0) rfl ?_
    refine v_getR C 0 rfl (T := TX7) rfl inB7 (by decide) (by decide) rfl tw_335 dX7_append_31 (fun x7 => ?_)
    refine v_iload_n C dX7_append_34 rfl (j := 3) rfl ?_
    refine v_callV_wV C [I a3] [] (Cee.of (rm := rX5_addBytesOf) tw_363 tw_2 hX5_addBytesOf rfl rfl hRm (Nat.le_of_ble_eq_true rfl) (Nat.le_of_ble_eq_true rfl)) (fun x h => kX5_addBytesOf X.2.1 w P n h) tw_360 tw_361 tw_362 rfl (ci := 5) rfl (by decide) rfl rfl (Nat.le_of_ble_eq_true rfl) ⟨Nat.zero_le _, Nat.zero_le _⟩ dX7_append_35 (fun s8 => ?_)
    refine v_aload_n C dX7_append_38 rfl (j := 0) rfl ?_
    refine v_getR C 0 rfl (T := TX7) rfl inB7 (by decide) (by decide) rfl tw_335 dX7_append_39 (fun x9 => ?_)
    refine v_iload C dX7_append_42 (j := 4) rfl ?_
    refine v_callV_wV C [I a4] [] (Cee.of (rm := rX5_addBytesOf) tw_363 tw_2 hX5_addBytesOf rfl rfl hRm (Nat.le_of_ble_eq_true rfl) (Nat.le_of_ble_eq_true rfl)) (fun x h => kX5_addBytesOf X.2.1 w P n h) tw_360 tw_361 tw_362 rfl (ci := 5) rfl (by decide) rfl rfl (Nat.le_of_ble_eq_true rfl) ⟨Nat.zero_le _, Nat.zero_le _⟩ dX7_append_44 (fun s10 => ?_)
    refine v_aload_n C dX7_append_47 rfl (j := 0) rfl ?_
    refine v_getR C 0 rfl (T := TX7) rfl inB7 (by decide) (by decide) rfl tw_335 dX7_append_48 (fun x11 => ?_)
    refine v_iload C dX7_append_51 (j := 5) rfl ?_
    refine v_callV_wV C [I a5] [] (Cee.of (rm := rX5_addBytesOf) tw_363 tw_2 hX5_addBytesOf rfl rfl hRm (Nat.le_of_ble_eq_true rfl) (Nat.le_of_ble_eq_true rfl)) (fun x h => kX5_addBytesOf X.2.1 w P n h) tw_360 tw_361 tw_362 rfl (ci := 5) rfl (by decide) rfl rfl (Nat.le_of_ble_eq_true rfl) ⟨Nat.zero_le _, Nat.zero_le _⟩ dX7_append_53 (fun s12 => ?_)
    refine v_aload_n C dX7_append_56 rfl (j := 0) rfl ?_
    refine v_getR C 0 rfl (T := TX7) rfl inB7 (by decide) (by decide) rfl tw_335 dX7_append_57 (fun x13 => ?_)
    refine v_getI C 1 rfl (T := TX5) rfl inB5 (by decide) (by decide) rfl tw_143 dX7_append_60 (fun x14 => ?_)
    exact v_iret C rfl hO pI dX7_append_63
  · skip
    refine v_iconst C dX7_append_12 ?_
    exact v_iret C rfl hO pI dX7_append_13
-- ForesightHub$Hub.isDevice
theorem hX2_isDevice : yX2_isDevice.cls ≠ "java/lang/invoke/MethodHandle" ∧ yX2_isDevice.cls ≠ "java/lang/invoke/VarHandle" ∧ (parseMethodDescriptor yX2_isDevice.desc).map (fun d => d.parameters.length) = some 1 := by decide +kernel
set_option maxRecDepth 100000 in
theorem kX2_isDevice (l : Launch) (w : Wd) (P : Shp) (n : Nat) {s : St} {a0 : Int} {a1 : Int} {res : Int} (h : fX2_isDevice P s a0 a1 = some res) : Ct l w yX2_isDevice cX2_isDevice 2 (some FieldType.boolean) rX2_isDevice P n [A w a0, I a1] s (QI w P n res s) :=
  Ct.of h (by decide) (Nat.le_of_ble_eq_true rfl) (lv := [(0, A w a0), (1, I a1)]) rfl fun X hl hRm C hO => by
  subst hl
  unfold fX2_isDevice
  refine v_iload_n C dX2_isDevice_0 rfl (j := 1) rfl ?_
  refine v_if_lt (tgt := 25) C dX2_isDevice_1 rfl ?_ ?_
  · skip
    refine v_iconst C dX2_isDevice_25 ?_
    exact v_zret C rfl hO pS dX2_isDevice_26
  · skip
    refine v_iload_n C dX2_isDevice_4 rfl (j := 1) rfl ?_
    refine v_aload_n C dX2_isDevice_5 rfl (j := 0) rfl ?_
    refine v_getR C 0 rfl (T := TX2) rfl inB2 (by decide) (by decide) rfl tw_304 dX2_isDevice_6 (fun x1 => ?_)
    refine v_getI C 5 rfl (T := TX4) rfl inB4 (by decide) (by decide) rfl tw_68 dX2_isDevice_9 (fun x2 => ?_)
    refine v_icmp_ge (tgt := 25) C dX2_isDevice_12 rfl ?_ ?_
    · skip
      refine v_iconst C dX2_isDevice_25 ?_
      exact v_zret C rfl hO pS dX2_isDevice_26
    · skip
      refine v_iload_n C dX2_isDevice_15 rfl (j := 1) rfl ?_
      refine v_bipush C dX2_isDevice_16 (by decide) ?_
      refine v_icmp_ge (tgt := 25) C dX2_isDevice_18 rfl ?_ ?_
      · skip
        refine v_iconst C dX2_isDevice_25 ?_
        exact v_zret C rfl hO pS dX2_isDevice_26
      · skip
        refine v_iconst C dX2_isDevice_21 ?_
        refine v_goto (tgt := 26) C dX2_isDevice_22 rfl ?_
        exact v_zret C rfl hO pS dX2_isDevice_26
-- ForesightHub$Hub.isPluggedIn
theorem hX2_isPluggedIn : yX2_isPluggedIn.cls ≠ "java/lang/invoke/MethodHandle" ∧ yX2_isPluggedIn.cls ≠ "java/lang/invoke/VarHandle" ∧ (parseMethodDescriptor yX2_isPluggedIn.desc).map (fun d => d.parameters.length) = some 1 := by decide +kernel
set_option maxRecDepth 100000 in
theorem kX2_isPluggedIn (l : Launch) (w : Wd) (P : Shp) (n : Nat) {s : St} {a0 : Int} {a1 : Int} {res : Int} (h : fX2_isPluggedIn P s a0 a1 = some res) : Ct l w yX2_isPluggedIn cX2_isPluggedIn 2 (some FieldType.boolean) rX2_isPluggedIn P n [A w a0, I a1] s (QI w P n res s) :=
  Ct.of h (by decide) (Nat.le_of_ble_eq_true rfl) (lv := [(0, A w a0), (1, I a1)]) rfl fun X hl hRm C hO => by
  subst hl
  unfold fX2_isPluggedIn
  refine v_aload_n C dX2_isPluggedIn_0 rfl (j := 0) rfl ?_
  refine v_iload_n C dX2_isPluggedIn_1 rfl (j := 1) rfl ?_
  refine v_callV_rI C [I a1] [] (Cee.of (rm := rX2_isDevice) tw_379 tw_4 hX2_isDevice rfl rfl hRm (Nat.le_of_ble_eq_true rfl) (Nat.le_of_ble_eq_true rfl)) (fun x h => kX2_isDevice X.2.1 w P n h) tw_376 tw_377 tw_378 rfl (ci := 2) rfl (by decide) rfl rfl (Nat.le_of_ble_eq_true rfl) ⟨Nat.zero_le _, Nat.zero_le _⟩ dX2_isPluggedIn_2 (fun x1 => ?_)
  refine v_if_eq (tgt := 25) C dX2_isPluggedIn_5 rfl ?_ ?_
  · skip
    refine v_iconst C dX2_isPluggedIn_25 ?_
    exact v_zret C rfl hO pS dX2_isPluggedIn_26
  · skip
    refine v_aload_n C dX2_isPluggedIn_8 rfl (j := 0) rfl ?_
    refine v_getR C 1 rfl (T := TX2) rfl inB2 (by decide) (by decide) rfl tw_306 dX2_isPluggedIn_9 (fun x2 => ?_)
    refine v_getR C 2 rfl (T := TX6) rfl inB6 (by decide) (by decide) rfl tw_261 dX2_isPluggedIn_12 (fun x3 => ?_)
    refine v_iload_n C dX2_isPluggedIn_15 rfl (j := 1) rfl ?_
    refine v_iald C dX2_isPluggedIn_16 (fun x4 => ?_)
    refine v_iconst C dX2_isPluggedIn_17 ?_
    refine v_icmp_eq (tgt := 25) C dX2_isPluggedIn_18 rfl ?_ ?_
    · skip
      refine v_iconst C dX2_isPluggedIn_25 ?_
      exact v_zret C rfl hO pS dX2_isPluggedIn_26
    · skip
      refine v_iconst C dX2_isPluggedIn_21 ?_
      refine v_goto (tgt := 26) C dX2_isPluggedIn_22 rfl ?_
      exact v_zret C rfl hO pS dX2_isPluggedIn_26
-- ForesightHub$ErrorBook.staying
theorem hX0_staying : yX0_staying.cls ≠ "java/lang/invoke/MethodHandle" ∧ yX0_staying.cls ≠ "java/lang/invoke/VarHandle" ∧ (parseMethodDescriptor yX0_staying.desc).map (fun d => d.parameters.length) = some 1 := by decide +kernel
set_option maxRecDepth 100000 in
theorem kX0_staying (l : Launch) (w : Wd) (P : Shp) (n : Nat) {s : St} {a0 : Int} {a1 : Int} {res : Int} (h : fX0_staying P s a0 a1 = some res) : Ct l w yX0_staying cX0_staying 2 (some FieldType.int) rX0_staying P n [A w a0, I a1] s (QI w P n res s) :=
  Ct.of h (by decide) (Nat.le_of_ble_eq_true rfl) (lv := [(0, A w a0), (1, I a1)]) rfl fun X hl hRm C hO => by
  subst hl
  unfold fX0_staying
  refine v_iload_n C dX0_staying_0 rfl (j := 1) rfl ?_
  refine v_if_lt (tgt := 10) C dX0_staying_1 rfl ?_ ?_
  · skip
    refine v_iconst C dX0_staying_10 ?_
    exact v_iret C rfl hO pS dX0_staying_11
  · skip
    refine v_iload_n C dX0_staying_4 rfl (j := 1) rfl ?_
    refine v_bipush C dX0_staying_5 (by decide) ?_
    refine v_icmp_lt (tgt := 12) C dX0_staying_7 rfl ?_ ?_
    · skip
      refine v_aload_n C dX0_staying_12 rfl (j := 0) rfl ?_
      refine v_getR C 0 rfl (T := TX0) rfl inB0 (by decide) (by decide) rfl tw_206 dX0_staying_13 (fun x1 => ?_)
      refine v_iload_n C dX0_staying_16 rfl (j := 1) rfl ?_
      refine v_iald C dX0_staying_17 (fun x2 => ?_)
      refine v_bipush C dX0_staying_18 (by decide) ?_
      refine v_mn C tw_396 tw_397 tw_14 tw_398 (by rw [hRm]; exact Nat.le_of_ble_eq_true rfl) (by rw [hRm]; exact Nat.le_of_ble_eq_true rfl) (Nat.le_of_ble_eq_true rfl) ⟨Nat.zero_le _, Nat.zero_le _⟩ dX0_staying_20 (fun x3 => ?_)
      exact v_iret C rfl hO pS dX0_staying_23
    · skip
      refine v_iconst C dX0_staying_10 ?_
      exact v_iret C rfl hO pS dX0_staying_11
-- ForesightHub$ErrorBook.placeOf
theorem hX0_placeOf : yX0_placeOf.cls ≠ "java/lang/invoke/MethodHandle" ∧ yX0_placeOf.cls ≠ "java/lang/invoke/VarHandle" ∧ (parseMethodDescriptor yX0_placeOf.desc).map (fun d => d.parameters.length) = some 2 := by decide +kernel
set_option maxRecDepth 100000 in
theorem kX0_placeOf (l : Launch) (w : Wd) (P : Shp) (n : Nat) {s : St} {a0 : Int} {a1 : Int} {a2 : Int} {res : Int} (h : fX0_placeOf P s a0 a1 a2 = some res) : Ct l w yX0_placeOf cX0_placeOf 3 (some FieldType.int) rX0_placeOf P n [A w a0, I a1, I a2] s (QI w P n res s) :=
  Ct.of h (by decide) (Nat.le_of_ble_eq_true rfl) (lv := [(0, A w a0), (1, I a1), (2, I a2)]) rfl fun X hl hRm C hO => by
  subst hl
  unfold fX0_placeOf
  refine v_iload_n C dX0_placeOf_0 rfl (j := 1) rfl ?_
  refine v_if_lt (tgt := 24) C dX0_placeOf_1 rfl ?_ ?_
  · skip
    refine v_iconst C dX0_placeOf_24 ?_
    exact v_iret C rfl hO pS dX0_placeOf_25
  · skip
    refine v_iload_n C dX0_placeOf_4 rfl (j := 1) rfl ?_
    refine v_bipush C dX0_placeOf_5 (by decide) ?_
    refine v_icmp_ge (tgt := 24) C dX0_placeOf_7 rfl ?_ ?_
    · skip
      refine v_iconst C dX0_placeOf_24 ?_
      exact v_iret C rfl hO pS dX0_placeOf_25
    · skip
      refine v_iload_n C dX0_placeOf_10 rfl (j := 2) rfl ?_
      refine v_if_lt (tgt := 24) C dX0_placeOf_11 rfl ?_ ?_
      · skip
        refine v_iconst C dX0_placeOf_24 ?_
        exact v_iret C rfl hO pS dX0_placeOf_25
      · skip
        refine v_iload_n C dX0_placeOf_14 rfl (j := 2) rfl ?_
        refine v_aload_n C dX0_placeOf_15 rfl (j := 0) rfl ?_
        refine v_getR C 0 rfl (T := TX0) rfl inB0 (by decide) (by decide) rfl tw_206 dX0_placeOf_16 (fun x1 => ?_)
        refine v_iload_n C dX0_placeOf_19 rfl (j := 1) rfl ?_
        refine v_iald C dX0_placeOf_20 (fun x2 => ?_)
        refine v_icmp_lt (tgt := 26) C dX0_placeOf_21 rfl ?_ ?_
        · skip
          refine v_iload_n C dX0_placeOf_26 rfl (j := 1) rfl ?_
          refine v_bipush C dX0_placeOf_27 (by decide) ?_
          refine v_imul C dX0_placeOf_29 ?_
          refine v_aload_n C dX0_placeOf_30 rfl (j := 0) rfl ?_
          refine v_getR C 0 rfl (T := TX0) rfl inB0 (by decide) (by decide) rfl tw_206 dX0_placeOf_31 (fun x3 => ?_)
          refine v_iload_n C dX0_placeOf_34 rfl (j := 1) rfl ?_
          refine v_iald C dX0_placeOf_35 (fun x4 => ?_)
          refine v_iadd C dX0_placeOf_36 ?_
          refine v_iconst C dX0_placeOf_37 ?_
          refine v_isub C dX0_placeOf_38 ?_
          refine v_iload_n C dX0_placeOf_39 rfl (j := 2) rfl ?_
          refine v_isub C dX0_placeOf_40 ?_
          exact v_iret C rfl hO pS dX0_placeOf_41
        · skip
          refine v_iconst C dX0_placeOf_24 ?_
          exact v_iret C rfl hO pS dX0_placeOf_25
-- ForesightHub$ErrorBook.timeOf
theorem hX0_timeOf : yX0_timeOf.cls ≠ "java/lang/invoke/MethodHandle" ∧ yX0_timeOf.cls ≠ "java/lang/invoke/VarHandle" ∧ (parseMethodDescriptor yX0_timeOf.desc).map (fun d => d.parameters.length) = some 2 := by decide +kernel
set_option maxRecDepth 100000 in
theorem kX0_timeOf (l : Launch) (w : Wd) (P : Shp) (n : Nat) {s : St} {a0 : Int} {a1 : Int} {a2 : Int} {res : Int} (h : fX0_timeOf P s a0 a1 a2 = some res) : Ct l w yX0_timeOf cX0_timeOf 4 (some FieldType.int) rX0_timeOf P n [A w a0, I a1, I a2] s (QI w P n res s) :=
  Ct.of h (by decide) (Nat.le_of_ble_eq_true rfl) (lv := [(0, A w a0), (1, I a1), (2, I a2)]) rfl fun X hl hRm C hO => by
  subst hl
  unfold fX0_timeOf
  refine v_aload_n C dX0_timeOf_0 rfl (j := 0) rfl ?_
  refine v_iload_n C dX0_timeOf_1 rfl (j := 1) rfl ?_
  refine v_iload_n C dX0_timeOf_2 rfl (j := 2) rfl ?_
  refine v_callV_rI C [I a1, I a2] [] (Cee.of (rm := rX0_placeOf) tw_406 tw_6 hX0_placeOf rfl rfl hRm (Nat.le_of_ble_eq_true rfl) (Nat.le_of_ble_eq_true rfl)) (fun x h => kX0_placeOf X.2.1 w P n h) tw_403 tw_405 ts_1 rfl (ci := 0) rfl (by decide) rfl rfl (Nat.le_of_ble_eq_true rfl) ⟨Nat.zero_le _, Nat.zero_le _⟩ dX0_timeOf_3 (fun x1 => ?_)
  refine v_istore_n C [(3, I x1), (0, A w a0), (1, I a1), (2, I a2)] dX0_timeOf_6 rfl (by decide) rfl ?_
  refine v_iload_n C dX0_timeOf_7 rfl (j := 0) rfl ?_
  refine v_iconst C dX0_timeOf_8 ?_
  refine v_icmp_ne (tgt := 16) C dX0_timeOf_9 rfl ?_ ?_
  · skip
    refine v_aload_n C dX0_timeOf_16 rfl (j := 1) rfl ?_
    refine v_getR C 2 rfl (T := TX0) rfl inB0 (by decide) (by decide) rfl tw_210 dX0_timeOf_17 (fun x2 => ?_)
    refine v_iload_n C dX0_timeOf_20 rfl (j := 0) rfl ?_
    refine v_iald C dX0_timeOf_21 (fun x3 => ?_)
    exact v_iret C rfl hO pS dX0_timeOf_22
  · skip
    refine v_iconst C dX0_timeOf_12 ?_
    refine v_goto (tgt := 22) C dX0_timeOf_13 rfl ?_
    exact v_iret C rfl hO pS dX0_timeOf_22
-- ForesightHub$ErrorBook.kindOf
theorem hX0_kindOf : yX0_kindOf.cls ≠ "java/lang/invoke/MethodHandle" ∧ yX0_kindOf.cls ≠ "java/lang/invoke/VarHandle" ∧ (parseMethodDescriptor yX0_kindOf.desc).map (fun d => d.parameters.length) = some 2 := by decide +kernel
set_option maxRecDepth 100000 in
theorem kX0_kindOf (l : Launch) (w : Wd) (P : Shp) (n : Nat) {s : St} {a0 : Int} {a1 : Int} {a2 : Int} {res : Int} (h : fX0_kindOf P s a0 a1 a2 = some res) : Ct l w yX0_kindOf cX0_kindOf 4 (some FieldType.int) rX0_kindOf P n [A w a0, I a1, I a2] s (QI w P n res s) :=
  Ct.of h (by decide) (Nat.le_of_ble_eq_true rfl) (lv := [(0, A w a0), (1, I a1), (2, I a2)]) rfl fun X hl hRm C hO => by
  subst hl
  unfold fX0_kindOf
  refine v_aload_n C dX0_kindOf_0 rfl (j := 0) rfl ?_
  refine v_iload_n C dX0_kindOf_1 rfl (j := 1) rfl ?_
  refine v_iload_n C dX0_kindOf_2 rfl (j := 2) rfl ?_
  refine v_callV_rI C [I a1, I a2] [] (Cee.of (rm := rX0_placeOf) tw_406 tw_6 hX0_placeOf rfl rfl hRm (Nat.le_of_ble_eq_true rfl) (Nat.le_of_ble_eq_true rfl)) (fun x h => kX0_placeOf X.2.1 w P n h) tw_403 tw_405 ts_1 rfl (ci := 0) rfl (by decide) rfl rfl (Nat.le_of_ble_eq_true rfl) ⟨Nat.zero_le _, Nat.zero_le _⟩ dX0_kindOf_3 (fun x1 => ?_)
  refine v_istore_n C [(3, I x1), (0, A w a0), (1, I a1), (2, I a2)] dX0_kindOf_6 rfl (by decide) rfl ?_
  refine v_iload_n C dX0_kindOf_7 rfl (j := 0) rfl ?_
  refine v_iconst C dX0_kindOf_8 ?_
  refine v_icmp_ne (tgt := 16) C dX0_kindOf_9 rfl ?_ ?_
  · skip
    refine v_aload_n C dX0_kindOf_16 rfl (j := 1) rfl ?_
    refine v_getR C 1 rfl (T := TX0) rfl inB0 (by decide) (by decide) rfl tw_209 dX0_kindOf_17 (fun x2 => ?_)
    refine v_iload_n C dX0_kindOf_20 rfl (j := 0) rfl ?_
    refine v_iald C dX0_kindOf_21 (fun x3 => ?_)
    exact v_iret C rfl hO pS dX0_kindOf_22
  · skip
    refine v_iconst C dX0_kindOf_12 ?_
    refine v_goto (tgt := 22) C dX0_kindOf_13 rfl ?_
    exact v_iret C rfl hO pS dX0_kindOf_22
-- ForesightHub$Hub.isNextOf
theorem hX2_isNextOf : yX2_isNextOf.cls ≠ "java/lang/invoke/MethodHandle" ∧ yX2_isNextOf.cls ≠ "java/lang/invoke/VarHandle" ∧ (parseMethodDescriptor yX2_isNextOf.desc).map (fun d => d.parameters.length) = some 3 := by decide +kernel
set_option maxRecDepth 100000 in
theorem kX2_isNextOf (l : Launch) (w : Wd) (P : Shp) (n : Nat) {s : St} {a0 : Int} {a1 : Int} {a2 : Int} {a3 : Int} {res : Int} (h : fX2_isNextOf P s a0 a1 a2 a3 = some res) : Ct l w yX2_isNextOf cX2_isNextOf 4 (some FieldType.boolean) rX2_isNextOf P n [A w a0, I a1, I a2, I a3] s (QI w P n res s) :=
  Ct.of h (by decide) (Nat.le_of_ble_eq_true rfl) (lv := [(0, A w a0), (1, I a1), (2, I a2), (3, I a3)]) rfl fun X hl hRm C hO => by
  subst hl
  unfold fX2_isNextOf
  refine v_iload_n C dX2_isNextOf_0 rfl (j := 2) rfl ?_
  refine v_aload_n C dX2_isNextOf_1 rfl (j := 0) rfl ?_
  refine v_getR C 0 rfl (T := TX2) rfl inB2 (by decide) (by decide) rfl tw_304 dX2_isNextOf_2 (fun x1 => ?_)
  refine v_getR C 9 rfl (T := TX4) rfl inB4 (by decide) (by decide) rfl tw_83 dX2_isNextOf_5 (fun x2 => ?_)
  refine v_iload_n C dX2_isNextOf_8 rfl (j := 1) rfl ?_
  refine v_iald C dX2_isNextOf_9 (fun x3 => ?_)
  refine v_icmp_ge (tgt := 39) C dX2_isNextOf_10 rfl ?_ ?_
  · skip
    refine v_iconst C dX2_isNextOf_39 ?_
    exact v_zret C rfl hO pS dX2_isNextOf_40
  · skip
    refine v_iload_n C dX2_isNextOf_13 rfl (j := 2) rfl ?_
    refine v_iconst C dX2_isNextOf_14 ?_
    refine v_icmp_ge (tgt := 39) C dX2_isNextOf_15 rfl ?_ ?_
    · skip
      refine v_iconst C dX2_isNextOf_39 ?_
      exact v_zret C rfl hO pS dX2_isNextOf_40
    · skip
      refine v_aload_n C dX2_isNextOf_18 rfl (j := 0) rfl ?_
      refine v_getR C 0 rfl (T := TX2) rfl inB2 (by decide) (by decide) rfl tw_304 dX2_isNextOf_19 (fun x4 => ?_)
      refine v_getR C 10 rfl (T := TX4) rfl inB4 (by decide) (by decide) rfl tw_86 dX2_isNextOf_22 (fun x5 => ?_)
      refine v_iload_n C dX2_isNextOf_25 rfl (j := 1) rfl ?_
      refine v_iconst C dX2_isNextOf_26 ?_
      refine v_imul C dX2_isNextOf_27 ?_
      refine v_iload_n C dX2_isNextOf_28 rfl (j := 2) rfl ?_
      refine v_iadd C dX2_isNextOf_29 ?_
      refine v_iald C dX2_isNextOf_30 (fun x6 => ?_)
      refine v_iload_n C dX2_isNextOf_31 rfl (j := 3) rfl ?_
      refine v_icmp_ne (tgt := 39) C dX2_isNextOf_32 rfl ?_ ?_
      · skip
        refine v_iconst C dX2_isNextOf_39 ?_
        exact v_zret C rfl hO pS dX2_isNextOf_40
      · skip
        refine v_iconst C dX2_isNextOf_35 ?_
        refine v_goto (tgt := 40) C dX2_isNextOf_36 rfl ?_
        exact v_zret C rfl hO pS dX2_isNextOf_40
-- ForesightHub$Hub.matches
set_option maxRecDepth 100000 in
theorem vX2_matches_L71 {X : Cxt} {w : Wd} {P : Shp} {n : Nat} {s : St} (res : Int) (hRm : X.2.2.2.1 = rX2_matches) (C : Cok X w cX2_matches 9 RX2 (some FieldType.boolean)) (hO : Own X w 0 0 (QI w P n res s))  (c0 : Int) (c1 : Int) (c2 : Int) (c3 : Int) (c4 : Int) (kE138 : Int → Option (Int)) (hE138 : ∀ (p6e : Int), V X w 9 P n 0 0 res (kE138 p6e) s 138 [(0, A w c0), (1, I c1), (3, I c3), (6, I p6e)] []) : ∀ (fuel : Nat) (p6 p7 : Int), V X w 9 P n 0 0 res (fX2_matches_L71 P s c0 c1 c2 c3 c4 kE138 fuel p6 p7) s 71 [(0, A w c0), (1, I c1), (2, I c2), (3, I c3), (4, I c4), (6, I p6), (7, I p7)] [] := by
  intro fuel
  induction fuel with
  | zero => intro p6 p7; exact v_none
  | succ m ih =>
    intro p6 p7
    rw [fX2_matches_L71]
    refine v_iload C dX2_matches_71 (j := 6) rfl ?_
    refine v_if_lt (tgt := 138) C dX2_matches_73 rfl ?_ ?_
    · skip
      refine v_sub [(0, A w c0), (1, I c1), (3, I c3), (6, I p6)] [0, 1, 3, 5] rfl ?_
      exact hE138 p6
    · skip
      refine v_aload_n C dX2_matches_76 rfl (j := 0) rfl ?_
      refine v_getR C 1 rfl (T := TX2) rfl inB2 (by decide) (by decide) rfl tw_306 dX2_matches_77 (fun x10 => ?_)
      refine v_getR C 8 rfl (T := TX6) rfl inB6 (by decide) (by decide) rfl tw_279 dX2_matches_80 (fun x11 => ?_)
      refine v_iload_n C dX2_matches_83 rfl (j := 2) rfl ?_
      refine v_iload C dX2_matches_84 (j := 6) rfl ?_
      refine v_callV_rI C [I c2, I p7] [] (Cee.of (rm := rX0_timeOf) tw_402 tw_6 hX0_timeOf rfl rfl hRm (Nat.le_of_ble_eq_true rfl) (Nat.le_of_ble_eq_true rfl)) (fun x h => kX0_timeOf X.2.1 w P n h) tw_399 tw_400 tw_401 rfl (ci := 0) rfl (by decide) rfl rfl (Nat.le_of_ble_eq_true rfl) ⟨Nat.zero_le _, Nat.zero_le _⟩ dX2_matches_86 (fun x12 => ?_)
      refine v_iload C dX2_matches_89 (j := 4) rfl ?_
      refine v_jnt (fun (k99 : Int → Option (Int)) => ∀ (x13 : Int), V X w 9 P n 0 0 res (k99 x13) s 99 [(0, A w c0), (1, I c1), (2, I c2), (3, I c3), (4, I c4), (6, I p6), (7, I p7)] [I x13]) ?_ ?_
      · intro x13
        refine v_istore C [(8, I x13), (0, A w c0), (1, I c1), (2, I c2), (3, I c3), (4, I c4), (6, I p6), (7, I p7)] dX2_matches_99 (by decide) rfl ?_
        refine v_iload C dX2_matches_101 (j := 0) rfl ?_
        refine v_jnt (fun (k132 : Int → Option (Int)) => ∀ (x14 : Int), V X w 9 P n 0 0 res (k132 x14) s 132 [(0, A w c0), (1, I c1), (2, I c2), (3, I c3), (4, I c4), (6, I x14), (7, I p7)] []) ?_ ?_
        · intro x14
          refine v_iinc C (j := 6) [(0, A w c0), (1, I c1), (2, I c2), (3, I c3), (4, I c4), (6, I x14)] dX2_matches_132 (by decide) rfl (fun _ => rfl) (fun x15 => ?_)
          refine v_goto (tgt := 71) C dX2_matches_135 rfl ?_
          refine v_sub [(0, A w c0), (1, I c1), (2, I c2), (3, I c3), (4, I c4), (6, I x14), (7, I x15)] [1, 2, 3, 4, 5, 6, 0] rfl ?_
          exact ih x14 x15
        intro k132 hk132
        refine v_if_eq (tgt := 132) C dX2_matches_103 rfl ?_ ?_
        · skip
          refine v_sub [(0, A w c0), (1, I c1), (2, I c2), (3, I c3), (4, I c4), (6, I p6), (7, I p7)] [1, 2, 3, 4, 5, 6, 7] rfl ?_
          exact hk132 p6
        · skip
          refine v_aload_n C dX2_matches_106 rfl (j := 1) rfl ?_
          refine v_iload_n C dX2_matches_107 rfl (j := 2) rfl ?_
          refine v_iload C dX2_matches_108 (j := 6) rfl ?_
          refine v_aload_n C dX2_matches_110 rfl (j := 1) rfl ?_
          refine v_getR C 1 rfl (T := TX2) rfl inB2 (by decide) (by decide) rfl tw_306 dX2_matches_111 (fun x16 => ?_)
          refine v_getR C 8 rfl (T := TX6) rfl inB6 (by decide) (by decide) rfl tw_279 dX2_matches_114 (fun x17 => ?_)
          refine v_iload_n C dX2_matches_117 rfl (j := 3) rfl ?_
          refine v_iload C dX2_matches_118 (j := 7) rfl ?_
          refine v_callV_rI C [I c2, I p7] [I p6, I c1, A w c0] (Cee.of (rm := rX0_kindOf) tw_410 tw_6 hX0_kindOf rfl rfl hRm (Nat.le_of_ble_eq_true rfl) (Nat.le_of_ble_eq_true rfl)) (fun x h => kX0_kindOf X.2.1 w P n h) tw_407 tw_408 tw_409 rfl (ci := 0) rfl (by decide) rfl rfl (Nat.le_of_ble_eq_true rfl) ⟨Nat.zero_le _, Nat.zero_le _⟩ dX2_matches_120 (fun x18 => ?_)
          refine v_callV_rI C [I c1, I p6, I x18] [] (Cee.of (rm := rX2_isNextOf) tw_414 tw_4 hX2_isNextOf rfl rfl hRm (Nat.le_of_ble_eq_true rfl) (Nat.le_of_ble_eq_true rfl)) (fun x h => kX2_isNextOf X.2.1 w P n h) tw_411 tw_413 ts_2 rfl (ci := 2) rfl (by decide) rfl rfl (Nat.le_of_ble_eq_true rfl) ⟨Nat.zero_le _, Nat.zero_le _⟩ dX2_matches_123 (fun x19 => ?_)
          refine v_if_eq (tgt := 132) C dX2_matches_126 rfl ?_ ?_
          · skip
            refine v_sub [(0, A w c0), (1, I c1), (2, I c2), (3, I c3), (4, I c4), (6, I p6), (7, I p7)] [1, 2, 3, 4, 5, 6, 7] rfl ?_
            exact hk132 p6
          · skip
            refine v_iinc C (j := 6) [(8, I x13), (0, A w c0), (1, I c1), (2, I c2), (3, I c3), (4, I c4), (7, I p7)] dX2_matches_129 (by decide) rfl (fun _ => rfl) (fun x20 => ?_)
            refine v_sub [(0, A w c0), (1, I c1), (2, I c2), (3, I c3), (4, I c4), (6, I x20), (7, I p7)] [2, 3, 4, 5, 6, 0, 7] rfl ?_
            exact hk132 x20
      intro k99 hk99
      refine v_icmp_le (tgt := 98) C dX2_matches_91 rfl ?_ ?_
      · skip
        refine v_iconst C dX2_matches_98 ?_
        exact hk99 0
      · skip
        refine v_iconst C dX2_matches_94 ?_
        refine v_goto (tgt := 99) C dX2_matches_95 rfl ?_
        exact hk99 1
theorem hX2_matches : yX2_matches.cls ≠ "java/lang/invoke/MethodHandle" ∧ yX2_matches.cls ≠ "java/lang/invoke/VarHandle" ∧ (parseMethodDescriptor yX2_matches.desc).map (fun d => d.parameters.length) = some 3 := by decide +kernel
set_option maxRecDepth 100000 in
theorem kX2_matches (l : Launch) (w : Wd) (P : Shp) (n : Nat) {s : St} {a0 : Int} {a1 : Int} {a2 : Int} {a3 : Int} {res : Int} (h : fX2_matches P s a0 a1 a2 a3 = some res) : Ct l w yX2_matches cX2_matches 9 (some FieldType.boolean) rX2_matches P n [A w a0, I a1, I a2, I a3] s (QI w P n res s) :=
  Ct.of h (by decide) (Nat.le_of_ble_eq_true rfl) (lv := [(0, A w a0), (1, I a1), (2, I a2), (3, I a3)]) rfl fun X hl hRm C hO => by
  subst hl
  unfold fX2_matches
  refine v_aload_n C dX2_matches_0 rfl (j := 0) rfl ?_
  refine v_iload_n C dX2_matches_1 rfl (j := 2) rfl ?_
  refine v_callV_rI C [I a2] [] (Cee.of (rm := rX2_isDevice) tw_379 tw_4 hX2_isDevice rfl rfl hRm (Nat.le_of_ble_eq_true rfl) (Nat.le_of_ble_eq_true rfl)) (fun x h => kX2_isDevice X.2.1 w P n h) tw_376 tw_377 tw_378 rfl (ci := 2) rfl (by decide) rfl rfl (Nat.le_of_ble_eq_true rfl) ⟨Nat.zero_le _, Nat.zero_le _⟩ dX2_matches_2 (fun x1 => ?_)
  refine v_if_ne (tgt := 10) C dX2_matches_5 rfl ?_ ?_
  · skip
    refine v_aload_n C dX2_matches_10 rfl (j := 0) rfl ?_
    refine v_getR C 1 rfl (T := TX2) rfl inB2 (by decide) (by decide) rfl tw_306 dX2_matches_11 (fun x2 => ?_)
    refine v_getI C 0 rfl (T := TX6) rfl inB6 (by decide) (by decide) rfl tw_256 dX2_matches_14 (fun x3 => ?_)
    refine v_aload_n C dX2_matches_17 rfl (j := 0) rfl ?_
    refine v_getR C 0 rfl (T := TX2) rfl inB2 (by decide) (by decide) rfl tw_304 dX2_matches_18 (fun x4 => ?_)
    refine v_getR C 8 rfl (T := TX4) rfl inB4 (by decide) (by decide) rfl tw_80 dX2_matches_21 (fun x5 => ?_)
    refine v_iload_n C dX2_matches_24 rfl (j := 1) rfl ?_
    refine v_iald C dX2_matches_25 (fun x6 => ?_)
    refine v_isub C dX2_matches_26 ?_
    refine v_bdI (fun x7 => ?_)
    refine v_istore C [(4, I x7), (0, A w a0), (1, I a1), (2, I a2), (3, I a3)] dX2_matches_27 (by decide) rfl ?_
    refine v_iload_n C dX2_matches_29 rfl (j := 4) rfl ?_
    refine v_iconst C dX2_matches_30 ?_
    refine v_jnt (fun (k60 : Int → Option (Int)) => ∀ (x8 : Int), V X w 9 P n 0 0 res (k60 x8) s 60 [(0, A w a0), (1, I a1), (2, I a2), (3, I a3), (4, I x7)] [I x8]) ?_ ?_
    · intro x8
      refine v_istore C [(5, I x8), (0, A w a0), (1, I a1), (2, I a2), (3, I a3), (4, I x7)] dX2_matches_60 (by decide) rfl ?_
      refine v_iconst C dX2_matches_62 ?_
      refine v_istore C [(6, I 0), (5, I x8), (0, A w a0), (1, I a1), (2, I a2), (3, I a3), (4, I x7)] dX2_matches_63 (by decide) rfl ?_
      refine v_iload C dX2_matches_65 (j := 1) rfl ?_
      refine v_iconst C dX2_matches_67 ?_
      refine v_isub C dX2_matches_68 ?_
      refine v_bdI (fun x9 => ?_)
      refine v_istore C [(7, I x9), (6, I 0), (5, I x8), (0, A w a0), (1, I a1), (2, I a2), (3, I a3), (4, I x7)] dX2_matches_69 (by decide) rfl ?_
      refine v_sub [(0, A w a0), (1, I a1), (2, I a2), (3, I a3), (4, I x7), (6, I 0), (7, I x9)] [3, 4, 5, 6, 7, 1, 0] rfl ?_
      refine vX2_matches_L71 res hRm C hO a0 a1 a2 a3 x7 _ ?_ 1000 0 x9
      · intro x21
        refine v_iload_n C dX2_matches_138 rfl (j := 2) rfl ?_
        refine v_iconst C dX2_matches_139 ?_
        refine v_jnt (fun (k157 : Int → Option (Int)) => ∀ (x22 : Int), V X w 9 P n 0 0 res (k157 x22) s 157 [(0, A w a0), (1, I a1), (6, I x22)] []) ?_ ?_
        · intro x22
          refine v_iload C dX2_matches_157 (j := 2) rfl ?_
          refine v_aload_n C dX2_matches_159 rfl (j := 0) rfl ?_
          refine v_getR C 0 rfl (T := TX2) rfl inB2 (by decide) (by decide) rfl tw_304 dX2_matches_160 (fun x23 => ?_)
          refine v_getR C 9 rfl (T := TX4) rfl inB4 (by decide) (by decide) rfl tw_83 dX2_matches_163 (fun x24 => ?_)
          refine v_iload_n C dX2_matches_166 rfl (j := 1) rfl ?_
          refine v_iald C dX2_matches_167 (fun x25 => ?_)
          refine v_icmp_ne (tgt := 175) C dX2_matches_168 rfl ?_ ?_
          · skip
            refine v_iconst C dX2_matches_175 ?_
            exact v_zret C rfl hO pS dX2_matches_176
          · skip
            refine v_iconst C dX2_matches_171 ?_
            refine v_goto (tgt := 176) C dX2_matches_172 rfl ?_
            exact v_zret C rfl hO pS dX2_matches_176
        intro k157 hk157
        refine v_icmp_eq (tgt := 157) C dX2_matches_140 rfl ?_ ?_
        · skip
          refine v_sub [(0, A w a0), (1, I a1), (6, I x21)] [0, 1, 3] rfl ?_
          exact hk157 x21
        · skip
          refine v_aload_n C dX2_matches_143 rfl (j := 0) rfl ?_
          refine v_iload_n C dX2_matches_144 rfl (j := 1) rfl ?_
          refine v_iload C dX2_matches_145 (j := 3) rfl ?_
          refine v_iload_n C dX2_matches_147 rfl (j := 2) rfl ?_
          refine v_callV_rI C [I a1, I x21, I a3] [] (Cee.of (rm := rX2_isNextOf) tw_414 tw_4 hX2_isNextOf rfl rfl hRm (Nat.le_of_ble_eq_true rfl) (Nat.le_of_ble_eq_true rfl)) (fun x h => kX2_isNextOf X.2.1 w P n h) tw_411 tw_413 ts_2 rfl (ci := 2) rfl (by decide) rfl rfl (Nat.le_of_ble_eq_true rfl) ⟨Nat.zero_le _, Nat.zero_le _⟩ dX2_matches_148 (fun x26 => ?_)
          refine v_if_eq (tgt := 157) C dX2_matches_151 rfl ?_ ?_
          · skip
            refine v_sub [(0, A w a0), (1, I a1), (6, I x21)] [0, 1, 3] rfl ?_
            exact hk157 x21
          · skip
            refine v_iinc C (j := 3) [(0, A w a0), (1, I a1), (3, I a3)] dX2_matches_154 (by decide) rfl (fun _ => rfl) (fun x27 => ?_)
            refine v_sub [(0, A w a0), (1, I a1), (6, I x27)] [1, 2, 0] rfl ?_
            exact hk157 x27
    intro k60 hk60
    refine v_icmp_ne (tgt := 49) C dX2_matches_31 rfl ?_ ?_
    · skip
      refine v_aload_n C dX2_matches_49 rfl (j := 1) rfl ?_
      refine v_getR C 1 rfl (T := TX2) rfl inB2 (by decide) (by decide) rfl tw_306 dX2_matches_50 (fun x28 => ?_)
      refine v_getR C 8 rfl (T := TX6) rfl inB6 (by decide) (by decide) rfl tw_279 dX2_matches_53 (fun x29 => ?_)
      refine v_iload_n C dX2_matches_56 rfl (j := 3) rfl ?_
      refine v_callV_rI C [I a2] [] (Cee.of (rm := rX0_staying) tw_395 tw_6 hX0_staying rfl rfl hRm (Nat.le_of_ble_eq_true rfl) (Nat.le_of_ble_eq_true rfl)) (fun x h => kX0_staying X.2.1 w P n h) tw_392 tw_393 tw_394 rfl (ci := 0) rfl (by decide) rfl rfl (Nat.le_of_ble_eq_true rfl) ⟨Nat.zero_le _, Nat.zero_le _⟩ dX2_matches_57 (fun x30 => ?_)
      refine v_sub [(0, A w a0), (1, I a1), (2, I a2), (3, I a3), (4, I x7)] [1, 2, 3, 4, 0] rfl ?_
      exact hk60 x30
    · skip
      refine v_aload_n C dX2_matches_34 rfl (j := 1) rfl ?_
      refine v_getR C 1 rfl (T := TX2) rfl inB2 (by decide) (by decide) rfl tw_306 dX2_matches_35 (fun x31 => ?_)
      refine v_getR C 8 rfl (T := TX6) rfl inB6 (by decide) (by decide) rfl tw_279 dX2_matches_38 (fun x32 => ?_)
      refine v_getR C 0 rfl (T := TX0) rfl inB0 (by decide) (by decide) rfl tw_208 dX2_matches_41 (fun x33 => ?_)
      refine v_iload_n C dX2_matches_44 rfl (j := 3) rfl ?_
      refine v_iald C dX2_matches_45 (fun x34 => ?_)
      refine v_goto (tgt := 60) C dX2_matches_46 rfl ?_
      refine v_sub [(0, A w a0), (1, I a1), (2, I a2), (3, I a3), (4, I x7)] [1, 2, 3, 4, 0] rfl ?_
      exact hk60 x34
  · skip
    refine v_iconst C dX2_matches_8 ?_
    exact v_zret C rfl hO pS dX2_matches_9
-- ForesightHub$Hub.matchingBits
set_option maxRecDepth 100000 in
theorem vX2_matchingBits_L5 {X : Cxt} {w : Wd} {P : Shp} {n : Nat} {s : St} (res : Int) (hRm : X.2.2.2.1 = rX2_matchingBits) (C : Cok X w cX2_matchingBits 5 RX2 (some FieldType.int)) (hO : Own X w 0 0 (QI w P n res s))  (c0 : Int) (c1 : Int) (c2 : Int) (kE41 : Int → Option (Int)) (hE41 : ∀ (p3e : Int), V X w 5 P n 0 0 res (kE41 p3e) s 41 [(3, I p3e)] []) : ∀ (fuel : Nat) (p3 p4 : Int), V X w 5 P n 0 0 res (fX2_matchingBits_L5 P s c0 c1 c2 kE41 fuel p3 p4) s 5 [(0, A w c0), (1, I c1), (2, I c2), (3, I p3), (4, I p4)] [] := by
  intro fuel
  induction fuel with
  | zero => intro p3 p4; exact v_none
  | succ m ih =>
    intro p3 p4
    rw [fX2_matchingBits_L5]
    refine v_iload C dX2_matchingBits_5 (j := 4) rfl ?_
    refine v_aload_n C dX2_matchingBits_7 rfl (j := 0) rfl ?_
    refine v_getR C 0 rfl (T := TX2) rfl inB2 (by decide) (by decide) rfl tw_304 dX2_matchingBits_8 (fun x1 => ?_)
    refine v_getI C 4 rfl (T := TX4) rfl inB4 (by decide) (by decide) rfl tw_65 dX2_matchingBits_11 (fun x2 => ?_)
    refine v_icmp_ge (tgt := 41) C dX2_matchingBits_14 rfl ?_ ?_
    · skip
      refine v_sub [(3, I p3)] [3] rfl ?_
      exact hE41 p3
    · skip
      refine v_aload_n C dX2_matchingBits_17 rfl (j := 0) rfl ?_
      refine v_iload C dX2_matchingBits_18 (j := 4) rfl ?_
      refine v_iload_n C dX2_matchingBits_20 rfl (j := 1) rfl ?_
      refine v_iload_n C dX2_matchingBits_21 rfl (j := 2) rfl ?_
      refine v_callV_rI C [I p4, I c1, I c2] [] (Cee.of (rm := rX2_matches) tw_391 tw_4 hX2_matches rfl rfl hRm (Nat.le_of_ble_eq_true rfl) (Nat.le_of_ble_eq_true rfl)) (fun x h => kX2_matches X.2.1 w P n h) tw_388 tw_390 ts_0 rfl (ci := 2) rfl (by decide) rfl rfl (Nat.le_of_ble_eq_true rfl) ⟨Nat.zero_le _, Nat.zero_le _⟩ dX2_matchingBits_22 (fun x3 => ?_)
      refine v_jnt (fun (k35 : Int → Option (Int)) => ∀ (x4 : Int), V X w 5 P n 0 0 res (k35 x4) s 35 [(0, A w c0), (1, I c1), (2, I c2), (3, I x4), (4, I p4)] []) ?_ ?_
      · intro x4
        refine v_iinc C (j := 4) [(0, A w c0), (1, I c1), (2, I c2), (3, I x4)] dX2_matchingBits_35 (by decide) rfl (fun _ => rfl) (fun x5 => ?_)
        refine v_goto (tgt := 5) C dX2_matchingBits_38 rfl ?_
        refine v_sub [(0, A w c0), (1, I c1), (2, I c2), (3, I x4), (4, I x5)] [1, 2, 3, 4, 0] rfl ?_
        exact ih x4 x5
      intro k35 hk35
      refine v_if_eq (tgt := 35) C dX2_matchingBits_25 rfl ?_ ?_
      · skip
        exact hk35 p3
      · skip
        refine v_iload_n C dX2_matchingBits_28 rfl (j := 3) rfl ?_
        refine v_iconst C dX2_matchingBits_29 ?_
        refine v_iload C dX2_matchingBits_30 (j := 4) rfl ?_
        refine v_ishl C dX2_matchingBits_32 ?_
        refine v_ior C dX2_matchingBits_33 ?_
        refine v_bdI (fun x6 => ?_)
        refine v_istore_n C [(3, I x6), (0, A w c0), (1, I c1), (2, I c2), (4, I p4)] dX2_matchingBits_34 rfl (by decide) rfl ?_
        refine v_sub [(0, A w c0), (1, I c1), (2, I c2), (3, I x6), (4, I p4)] [1, 2, 3, 0, 4] rfl ?_
        exact hk35 x6
theorem hX2_matchingBits : yX2_matchingBits.cls ≠ "java/lang/invoke/MethodHandle" ∧ yX2_matchingBits.cls ≠ "java/lang/invoke/VarHandle" ∧ (parseMethodDescriptor yX2_matchingBits.desc).map (fun d => d.parameters.length) = some 2 := by decide +kernel
set_option maxRecDepth 100000 in
theorem kX2_matchingBits (l : Launch) (w : Wd) (P : Shp) (n : Nat) {s : St} {a0 : Int} {a1 : Int} {a2 : Int} {res : Int} (h : fX2_matchingBits P s a0 a1 a2 = some res) : Ct l w yX2_matchingBits cX2_matchingBits 5 (some FieldType.int) rX2_matchingBits P n [A w a0, I a1, I a2] s (QI w P n res s) :=
  Ct.of h (by decide) (Nat.le_of_ble_eq_true rfl) (lv := [(0, A w a0), (1, I a1), (2, I a2)]) rfl fun X hl hRm C hO => by
  subst hl
  unfold fX2_matchingBits
  refine v_iconst C dX2_matchingBits_0 ?_
  refine v_istore_n C [(3, I 0), (0, A w a0), (1, I a1), (2, I a2)] dX2_matchingBits_1 rfl (by decide) rfl ?_
  refine v_iconst C dX2_matchingBits_2 ?_
  refine v_istore C [(4, I 0), (3, I 0), (0, A w a0), (1, I a1), (2, I a2)] dX2_matchingBits_3 (by decide) rfl ?_
  refine v_sub [(0, A w a0), (1, I a1), (2, I a2), (3, I 0), (4, I 0)] [2, 3, 4, 1, 0] rfl ?_
  refine vX2_matchingBits_L5 res hRm C hO a0 a1 a2 _ ?_ 1000 0 0
  · intro x7
    refine v_iload_n C dX2_matchingBits_41 rfl (j := 0) rfl ?_
    exact v_iret C rfl hO pS dX2_matchingBits_42
-- ForesightHub$Hub.scoreOf
set_option maxRecDepth 100000 in
theorem vX2_scoreOf_L13 {X : Cxt} {w : Wd} {P : Shp} {n : Nat} {s : St} (res : Int) (hRm : X.2.2.2.1 = rX2_scoreOf) (C : Cok X w cX2_scoreOf 6 RX2 (some FieldType.int)) (hO : Own X w 0 0 (QI w P n res s))  (c0 : Int) (c3 : Int) (kE56 : Int → Option (Int)) (hE56 : ∀ (p4e : Int), V X w 6 P n 0 0 res (kE56 p4e) s 56 [(4, I p4e)] []) : ∀ (fuel : Nat) (p4 p5 : Int), V X w 6 P n 0 0 res (fX2_scoreOf_L13 P s c0 c3 kE56 fuel p4 p5) s 13 [(0, A w c0), (3, I c3), (4, I p4), (5, I p5)] [] := by
  intro fuel
  induction fuel with
  | zero => intro p4 p5; exact v_none
  | succ m ih =>
    intro p4 p5
    rw [fX2_scoreOf_L13]
    refine v_iload C dX2_scoreOf_13 (j := 3) rfl ?_
    refine v_aload_n C dX2_scoreOf_15 rfl (j := 0) rfl ?_
    refine v_getR C 0 rfl (T := TX2) rfl inB2 (by decide) (by decide) rfl tw_304 dX2_scoreOf_16 (fun x2 => ?_)
    refine v_getI C 4 rfl (T := TX4) rfl inB4 (by decide) (by decide) rfl tw_65 dX2_scoreOf_19 (fun x3 => ?_)
    refine v_icmp_ge (tgt := 56) C dX2_scoreOf_22 rfl ?_ ?_
    · skip
      refine v_sub [(4, I p4)] [2] rfl ?_
      exact hE56 p4
    · skip
      refine v_iload_n C dX2_scoreOf_25 rfl (j := 1) rfl ?_
      refine v_iload C dX2_scoreOf_26 (j := 3) rfl ?_
      refine v_ishr C dX2_scoreOf_28 ?_
      refine v_iconst C dX2_scoreOf_29 ?_
      refine v_iand C dX2_scoreOf_30 ?_
      refine v_iconst C dX2_scoreOf_31 ?_
      refine v_jnt (fun (k50 : Int → Option (Int)) => ∀ (x4 : Int), V X w 6 P n 0 0 res (k50 x4) s 50 [(0, A w c0), (3, I c3), (4, I x4), (5, I p5)] []) ?_ ?_
      · intro x4
        refine v_iinc C (j := 3) [(0, A w c0), (3, I c3), (4, I x4)] dX2_scoreOf_50 (by decide) rfl (fun _ => rfl) (fun x5 => ?_)
        refine v_goto (tgt := 13) C dX2_scoreOf_53 rfl ?_
        refine v_sub [(0, A w c0), (3, I c3), (4, I x4), (5, I x5)] [1, 2, 3, 0] rfl ?_
        exact ih x4 x5
      intro k50 hk50
      refine v_icmp_ne (tgt := 50) C dX2_scoreOf_32 rfl ?_ ?_
      · skip
        exact hk50 p4
      · skip
        refine v_iload C dX2_scoreOf_35 (j := 2) rfl ?_
        refine v_aload_n C dX2_scoreOf_37 rfl (j := 0) rfl ?_
        refine v_getR C 0 rfl (T := TX2) rfl inB2 (by decide) (by decide) rfl tw_304 dX2_scoreOf_38 (fun x6 => ?_)
        refine v_getR C 7 rfl (T := TX4) rfl inB4 (by decide) (by decide) rfl tw_77 dX2_scoreOf_41 (fun x7 => ?_)
        refine v_iload C dX2_scoreOf_44 (j := 3) rfl ?_
        refine v_iald C dX2_scoreOf_46 (fun x8 => ?_)
        refine v_iadd C dX2_scoreOf_47 ?_
        refine v_bdI (fun x9 => ?_)
        refine v_istore C [(4, I x9), (0, A w c0), (3, I c3), (5, I p5)] dX2_scoreOf_48 (by decide) rfl ?_
        refine v_sub [(0, A w c0), (3, I c3), (4, I x9), (5, I p5)] [1, 2, 0, 3] rfl ?_
        exact hk50 x9
theorem hX2_scoreOf : yX2_scoreOf.cls ≠ "java/lang/invoke/MethodHandle" ∧ yX2_scoreOf.cls ≠ "java/lang/invoke/VarHandle" ∧ (parseMethodDescriptor yX2_scoreOf.desc).map (fun d => d.parameters.length) = some 2 := by decide +kernel
set_option maxRecDepth 100000 in
theorem kX2_scoreOf (l : Launch) (w : Wd) (P : Shp) (n : Nat) {s : St} {a0 : Int} {a1 : Int} {a2 : Int} {res : Int} (h : fX2_scoreOf P s a0 a1 a2 = some res) : Ct l w yX2_scoreOf cX2_scoreOf 6 (some FieldType.int) rX2_scoreOf P n [A w a0, I a1, I a2] s (QI w P n res s) :=
  Ct.of h (by decide) (Nat.le_of_ble_eq_true rfl) (lv := [(0, A w a0), (1, I a1), (2, I a2)]) rfl fun X hl hRm C hO => by
  subst hl
  unfold fX2_scoreOf
  refine v_aload_n C dX2_scoreOf_0 rfl (j := 0) rfl ?_
  refine v_iload_n C dX2_scoreOf_1 rfl (j := 1) rfl ?_
  refine v_iload_n C dX2_scoreOf_2 rfl (j := 2) rfl ?_
  refine v_callV_rI C [I a1, I a2] [] (Cee.of (rm := rX2_matchingBits) tw_387 tw_4 hX2_matchingBits rfl rfl hRm (Nat.le_of_ble_eq_true rfl) (Nat.le_of_ble_eq_true rfl)) (fun x h => kX2_matchingBits X.2.1 w P n h) tw_384 tw_385 tw_386 rfl (ci := 2) rfl (by decide) rfl rfl (Nat.le_of_ble_eq_true rfl) ⟨Nat.zero_le _, Nat.zero_le _⟩ dX2_scoreOf_3 (fun x1 => ?_)
  refine v_istore_n C [(3, I x1), (0, A w a0), (1, I a1), (2, I a2)] dX2_scoreOf_6 rfl (by decide) rfl ?_
  refine v_iconst C dX2_scoreOf_7 ?_
  refine v_istore C [(4, I 0), (3, I x1), (0, A w a0), (1, I a1), (2, I a2)] dX2_scoreOf_8 (by decide) rfl ?_
  refine v_iconst C dX2_scoreOf_10 ?_
  refine v_istore C [(5, I 0), (4, I 0), (3, I x1), (0, A w a0), (1, I a1), (2, I a2)] dX2_scoreOf_11 (by decide) rfl ?_
  refine v_sub [(0, A w a0), (3, I x1), (4, I 0), (5, I 0)] [3, 2, 1, 0] rfl ?_
  refine vX2_scoreOf_L13 res hRm C hO a0 x1 _ ?_ 1000 0 0
  · intro x10
    refine v_iload C dX2_scoreOf_56 (j := 0) rfl ?_
    exact v_iret C rfl hO pS dX2_scoreOf_58
-- ForesightHub$Hub.weakestDevice
set_option maxRecDepth 100000 in
theorem vX2_weakestDevice_L6 {X : Cxt} {w : Wd} {P : Shp} {n : Nat} {s : St} (res : Int) (hRm : X.2.2.2.1 = rX2_weakestDevice) (C : Cok X w cX2_weakestDevice 4 RX2 (some FieldType.int)) (hO : Own X w 0 0 (QI w P n res s))  (c0 : Int) (kE50 : Int → Option (Int)) (hE50 : ∀ (p1e : Int), V X w 4 P n 0 0 res (kE50 p1e) s 50 [(1, I p1e)] []) : ∀ (fuel : Nat) (p1 p2 p3 : Int), V X w 4 P n 0 0 res (fX2_weakestDevice_L6 P s c0 kE50 fuel p1 p2 p3) s 6 [(0, A w c0), (1, I p1), (2, I p2), (3, I p3)] [] := by
  intro fuel
  induction fuel with
  | zero => intro p1 p2 p3; exact v_none
  | succ m ih =>
    intro p1 p2 p3
    rw [fX2_weakestDevice_L6]
    refine v_iload_n C dX2_weakestDevice_6 rfl (j := 3) rfl ?_
    refine v_aload_n C dX2_weakestDevice_7 rfl (j := 0) rfl ?_
    refine v_getR C 0 rfl (T := TX2) rfl inB2 (by decide) (by decide) rfl tw_304 dX2_weakestDevice_8 (fun x1 => ?_)
    refine v_getI C 5 rfl (T := TX4) rfl inB4 (by decide) (by decide) rfl tw_68 dX2_weakestDevice_11 (fun x2 => ?_)
    refine v_icmp_ge (tgt := 50) C dX2_weakestDevice_14 rfl ?_ ?_
    · skip
      refine v_sub [(1, I p1)] [1] rfl ?_
      exact hE50 p1
    · skip
      refine v_aload_n C dX2_weakestDevice_17 rfl (j := 0) rfl ?_
      refine v_iload_n C dX2_weakestDevice_18 rfl (j := 3) rfl ?_
      refine v_callV_rI C [I p3] [] (Cee.of (rm := rX2_isPluggedIn) tw_375 tw_4 hX2_isPluggedIn rfl rfl hRm (Nat.le_of_ble_eq_true rfl) (Nat.le_of_ble_eq_true rfl)) (fun x h => kX2_isPluggedIn X.2.1 w P n h) tw_372 tw_373 tw_374 rfl (ci := 2) rfl (by decide) rfl rfl (Nat.le_of_ble_eq_true rfl) ⟨Nat.zero_le _, Nat.zero_le _⟩ dX2_weakestDevice_19 (fun x3 => ?_)
      refine v_jnt (fun (k44 : Int → Int → Option (Int)) => ∀ (x4 x5 : Int), V X w 4 P n 0 0 res (k44 x4 x5) s 44 [(0, A w c0), (1, I x4), (2, I x5), (3, I p3)] []) ?_ ?_
      · intro x4 x5
        refine v_iinc C (j := 3) [(0, A w c0), (1, I x4), (2, I x5)] dX2_weakestDevice_44 (by decide) rfl (fun _ => rfl) (fun x6 => ?_)
        refine v_goto (tgt := 6) C dX2_weakestDevice_47 rfl ?_
        refine v_sub [(0, A w c0), (1, I x4), (2, I x5), (3, I x6)] [1, 2, 3, 0] rfl ?_
        exact ih x4 x5 x6
      intro k44 hk44
      refine v_if_eq (tgt := 44) C dX2_weakestDevice_22 rfl ?_ ?_
      · skip
        exact hk44 p1 p2
      · skip
        refine v_aload_n C dX2_weakestDevice_25 rfl (j := 0) rfl ?_
        refine v_iload_n C dX2_weakestDevice_26 rfl (j := 3) rfl ?_
        refine v_iconst C dX2_weakestDevice_27 ?_
        refine v_callV_rI C [I p3, I ((-1))] [] (Cee.of (rm := rX2_scoreOf) tw_383 tw_4 hX2_scoreOf rfl rfl hRm (Nat.le_of_ble_eq_true rfl) (Nat.le_of_ble_eq_true rfl)) (fun x h => kX2_scoreOf X.2.1 w P n h) tw_380 tw_381 tw_382 rfl (ci := 2) rfl (by decide) rfl rfl (Nat.le_of_ble_eq_true rfl) ⟨Nat.zero_le _, Nat.zero_le _⟩ dX2_weakestDevice_28 (fun x7 => ?_)
        refine v_iload_n C dX2_weakestDevice_31 rfl (j := 2) rfl ?_
        refine v_icmp_le (tgt := 44) C dX2_weakestDevice_32 rfl ?_ ?_
        · skip
          exact hk44 p1 p2
        · skip
          refine v_iload_n C dX2_weakestDevice_35 rfl (j := 3) rfl ?_
          refine v_istore_n C [(1, I p3), (0, A w c0), (2, I p2), (3, I p3)] dX2_weakestDevice_36 rfl (by decide) rfl ?_
          refine v_aload_n C dX2_weakestDevice_37 rfl (j := 1) rfl ?_
          refine v_iload_n C dX2_weakestDevice_38 rfl (j := 3) rfl ?_
          refine v_iconst C dX2_weakestDevice_39 ?_
          refine v_callV_rI C [I p3, I ((-1))] [] (Cee.of (rm := rX2_scoreOf) tw_383 tw_4 hX2_scoreOf rfl rfl hRm (Nat.le_of_ble_eq_true rfl) (Nat.le_of_ble_eq_true rfl)) (fun x h => kX2_scoreOf X.2.1 w P n h) tw_380 tw_381 tw_382 rfl (ci := 2) rfl (by decide) rfl rfl (Nat.le_of_ble_eq_true rfl) ⟨Nat.zero_le _, Nat.zero_le _⟩ dX2_weakestDevice_40 (fun x8 => ?_)
          refine v_istore_n C [(2, I x8), (1, I p3), (0, A w c0), (3, I p3)] dX2_weakestDevice_43 rfl (by decide) rfl ?_
          refine v_sub [(0, A w c0), (1, I p3), (2, I x8), (3, I p3)] [2, 1, 0, 3] rfl ?_
          exact hk44 p3 x8
theorem hX2_weakestDevice : yX2_weakestDevice.cls ≠ "java/lang/invoke/MethodHandle" ∧ yX2_weakestDevice.cls ≠ "java/lang/invoke/VarHandle" ∧ (parseMethodDescriptor yX2_weakestDevice.desc).map (fun d => d.parameters.length) = some 0 := by decide +kernel
set_option maxRecDepth 100000 in
theorem kX2_weakestDevice (l : Launch) (w : Wd) (P : Shp) (n : Nat) {s : St} {a0 : Int} {res : Int} (h : fX2_weakestDevice P s a0 = some res) : Ct l w yX2_weakestDevice cX2_weakestDevice 4 (some FieldType.int) rX2_weakestDevice P n [A w a0] s (QI w P n res s) :=
  Ct.of h (by decide) (Nat.le_of_ble_eq_true rfl) (lv := [(0, A w a0)]) rfl fun X hl hRm C hO => by
  subst hl
  unfold fX2_weakestDevice
  refine v_iconst C dX2_weakestDevice_0 ?_
  refine v_istore_n C [(1, I ((-1))), (0, A w a0)] dX2_weakestDevice_1 rfl (by decide) rfl ?_
  refine v_iconst C dX2_weakestDevice_2 ?_
  refine v_istore_n C [(2, I ((-1))), (1, I ((-1))), (0, A w a0)] dX2_weakestDevice_3 rfl (by decide) rfl ?_
  refine v_iconst C dX2_weakestDevice_4 ?_
  refine v_istore_n C [(3, I 0), (2, I ((-1))), (1, I ((-1))), (0, A w a0)] dX2_weakestDevice_5 rfl (by decide) rfl ?_
  refine v_sub [(0, A w a0), (1, I ((-1))), (2, I ((-1))), (3, I 0)] [3, 2, 1, 0] rfl ?_
  refine vX2_weakestDevice_L6 res hRm C hO a0 _ ?_ 1000 ((-1)) ((-1)) 0
  · intro x9
    refine v_iload_n C dX2_weakestDevice_50 rfl (j := 0) rfl ?_
    exact v_iret C rfl hO pS dX2_weakestDevice_51
-- ForesightHub.weakest
theorem hX7_weakest : yX7_weakest.cls ≠ "java/lang/invoke/MethodHandle" ∧ yX7_weakest.cls ≠ "java/lang/invoke/VarHandle" ∧ (parseMethodDescriptor yX7_weakest.desc).map (fun d => d.parameters.length) = some 0 := by decide +kernel
set_option maxRecDepth 100000 in
theorem kX7_weakest (l : Launch) (w : Wd) (P : Shp) (n : Nat) {s : St} {a0 : Int} {res : Int} (h : fX7_weakest P s a0 = some res) : Ct l w yX7_weakest cX7_weakest 1 (some FieldType.int) rX7_weakest P n [A w a0] s (QI w P n res s) :=
  Ct.of h (by decide) (Nat.le_of_ble_eq_true rfl) (lv := [(0, A w a0)]) rfl fun X hl hRm C hO => by
  subst hl
  unfold fX7_weakest
  refine v_aload_n C dX7_weakest_0 rfl (j := 0) rfl ?_
  refine v_getR C 1 rfl (T := TX7) rfl inB7 (by decide) (by decide) rfl tw_336 dX7_weakest_1 (fun x1 => ?_)
  refine v_callV_rI C [] [] (Cee.of (rm := rX2_weakestDevice) tw_371 tw_4 hX2_weakestDevice rfl rfl hRm (Nat.le_of_ble_eq_true rfl) (Nat.le_of_ble_eq_true rfl)) (fun x h => kX2_weakestDevice X.2.1 w P n h) tw_368 tw_369 tw_370 rfl (ci := 2) rfl (by decide) rfl rfl (Nat.le_of_ble_eq_true rfl) ⟨Nat.zero_le _, Nat.zero_le _⟩ dX7_weakest_4 (fun x2 => ?_)
  exact v_iret C rfl hO pS dX7_weakest_7
-- java/lang/Math.floorMod
theorem hJ9_floorMod_7cf53 : yJ9_floorMod_7cf53.cls ≠ "java/lang/invoke/MethodHandle" ∧ yJ9_floorMod_7cf53.cls ≠ "java/lang/invoke/VarHandle" ∧ (parseMethodDescriptor yJ9_floorMod_7cf53.desc).map (fun d => d.parameters.length) = some 2 := by decide +kernel
set_option maxRecDepth 100000 in
theorem kJ9_floorMod_7cf53 (l : Launch) (w : Wd) (P : Shp) (n : Nat) {s : St} {a0 : Int} {a1 : Int} {res : Int} (h : fJ9_floorMod_7cf53 P s a0 a1 = some res) : Ct l w yJ9_floorMod_7cf53 cJ9_floorMod_7cf53 3 (some FieldType.int) rJ9_floorMod_7cf53 P n [I a0, I a1] s (QI w P n res s) :=
  Ct.ofF h (by decide +kernel) (Nat.le_of_ble_eq_true rfl) (lv := [(0, I a0), (1, I a1)]) rfl fun X hl hRm C hO => by
  subst hl
  unfold fJ9_floorMod_7cf53
  refine v_iload_n C dJ9_floorMod_7cf53_0 rfl (j := 0) rfl ?_
  refine v_iload_n C dJ9_floorMod_7cf53_1 rfl (j := 1) rfl ?_
  refine v_irem C dJ9_floorMod_7cf53_2 (fun x1 => ?_)
  refine v_istore_n C [(2, I x1), (0, I a0), (1, I a1)] dJ9_floorMod_7cf53_3 rfl (by decide) rfl ?_
  refine v_iload_n C dJ9_floorMod_7cf53_4 rfl (j := 1) rfl ?_
  refine v_iload_n C dJ9_floorMod_7cf53_5 rfl (j := 2) rfl ?_
  refine v_ixor C dJ9_floorMod_7cf53_6 ?_
  refine v_if_ge (tgt := 18) C dJ9_floorMod_7cf53_7 rfl ?_ ?_
  · skip
    refine v_iload_n C dJ9_floorMod_7cf53_18 rfl (j := 0) rfl ?_
    exact v_iret C rfl hO pS dJ9_floorMod_7cf53_19
  · skip
    refine v_iload_n C dJ9_floorMod_7cf53_10 rfl (j := 0) rfl ?_
    refine v_if_eq (tgt := 18) C dJ9_floorMod_7cf53_11 rfl ?_ ?_
    · skip
      refine v_iload_n C dJ9_floorMod_7cf53_18 rfl (j := 0) rfl ?_
      exact v_iret C rfl hO pS dJ9_floorMod_7cf53_19
    · skip
      refine v_iload_n C dJ9_floorMod_7cf53_14 rfl (j := 0) rfl ?_
      refine v_iload_n C dJ9_floorMod_7cf53_15 rfl (j := 2) rfl ?_
      refine v_iadd C dJ9_floorMod_7cf53_16 ?_
      exact v_iret C rfl hO pS dJ9_floorMod_7cf53_17
-- ForesightHub$ErrorBook.copyFrom
theorem hX0_copyFrom : yX0_copyFrom.cls ≠ "java/lang/invoke/MethodHandle" ∧ yX0_copyFrom.cls ≠ "java/lang/invoke/VarHandle" ∧ (parseMethodDescriptor yX0_copyFrom.desc).map (fun d => d.parameters.length) = some 1 := by decide +kernel
set_option maxRecDepth 100000 in
theorem kX0_copyFrom (l : Launch) (w : Wd) (P : Shp) (n : Nat) {s : St} {a0 : Int} {a1 : Int} {res : St} (h : fX0_copyFrom P s a0 a1 = some res) : Ct l w yX0_copyFrom cX0_copyFrom 2 (Option.none : Option FieldType) rX0_copyFrom P n [A w a0, A w a1] s (QV w P n res) :=
  Ct.of h (by decide) (Nat.le_of_ble_eq_true rfl) (lv := [(0, A w a0), (1, A w a1)]) rfl fun X hl hRm C hO => by
  subst hl
  unfold fX0_copyFrom
  refine v_aload_n C dX0_copyFrom_0 rfl (j := 0) rfl ?_
  refine v_aload_n C dX0_copyFrom_1 rfl (j := 1) rfl ?_
  refine v_getI C 3 rfl (T := TX0) rfl inB0 (by decide) (by decide) rfl tw_211 dX0_copyFrom_2 (fun x1 => ?_)
  refine v_putI C 3 rfl (T := TX0) rfl inB0 (by decide) tyX0_ok nmX0 (by decide) rfl rfl tw_211 dX0_copyFrom_5 rfl (fun s2 => ?_)
  refine v_aload_n C dX0_copyFrom_8 rfl (j := 1) rfl ?_
  refine v_getR C 0 rfl (T := TX0) rfl inB0 (by decide) (by decide) rfl tw_206 dX0_copyFrom_9 (fun x3 => ?_)
  refine v_iconst C dX0_copyFrom_12 ?_
  refine v_aload_n C dX0_copyFrom_13 rfl (j := 0) rfl ?_
  refine v_getR C 0 rfl (T := TX0) rfl inB0 (by decide) (by decide) rfl tw_206 dX0_copyFrom_14 (fun x4 => ?_)
  refine v_iconst C dX0_copyFrom_17 ?_
  refine v_bipush C dX0_copyFrom_18 (by decide) ?_
  refine v_copy10 C tw_441 tw_436 tw_435 tw_20 (by rw [hRm]; exact Nat.le_of_ble_eq_true rfl) (by rw [hRm]; exact Nat.le_of_ble_eq_true rfl) (Nat.le_of_ble_eq_true rfl) dX0_copyFrom_20 (fun s5 => ?_)
  refine v_aload_n C dX0_copyFrom_23 rfl (j := 1) rfl ?_
  refine v_getR C 1 rfl (T := TX0) rfl inB0 (by decide) (by decide) rfl tw_209 dX0_copyFrom_24 (fun x6 => ?_)
  refine v_iconst C dX0_copyFrom_27 ?_
  refine v_aload_n C dX0_copyFrom_28 rfl (j := 0) rfl ?_
  refine v_getR C 1 rfl (T := TX0) rfl inB0 (by decide) (by decide) rfl tw_209 dX0_copyFrom_29 (fun x7 => ?_)
  refine v_iconst C dX0_copyFrom_32 ?_
  refine v_bipush C dX0_copyFrom_33 (by decide) ?_
  refine v_copy10 C tw_441 tw_436 tw_435 tw_20 (by rw [hRm]; exact Nat.le_of_ble_eq_true rfl) (by rw [hRm]; exact Nat.le_of_ble_eq_true rfl) (Nat.le_of_ble_eq_true rfl) dX0_copyFrom_35 (fun s8 => ?_)
  refine v_aload_n C dX0_copyFrom_38 rfl (j := 1) rfl ?_
  refine v_getR C 2 rfl (T := TX0) rfl inB0 (by decide) (by decide) rfl tw_210 dX0_copyFrom_39 (fun x9 => ?_)
  refine v_iconst C dX0_copyFrom_42 ?_
  refine v_aload_n C dX0_copyFrom_43 rfl (j := 0) rfl ?_
  refine v_getR C 2 rfl (T := TX0) rfl inB0 (by decide) (by decide) rfl tw_210 dX0_copyFrom_44 (fun x10 => ?_)
  refine v_iconst C dX0_copyFrom_47 ?_
  refine v_bipush C dX0_copyFrom_48 (by decide) ?_
  refine v_copy10 C tw_441 tw_436 tw_435 tw_20 (by rw [hRm]; exact Nat.le_of_ble_eq_true rfl) (by rw [hRm]; exact Nat.le_of_ble_eq_true rfl) (Nat.le_of_ble_eq_true rfl) dX0_copyFrom_50 (fun s11 => ?_)
  refine v_aload_n C dX0_copyFrom_53 rfl (j := 1) rfl ?_
  refine v_getR C 4 rfl (T := TX0) rfl inB0 (by decide) (by decide) rfl tw_212 dX0_copyFrom_54 (fun x12 => ?_)
  refine v_iconst C dX0_copyFrom_57 ?_
  refine v_aload_n C dX0_copyFrom_58 rfl (j := 0) rfl ?_
  refine v_getR C 4 rfl (T := TX0) rfl inB0 (by decide) (by decide) rfl tw_212 dX0_copyFrom_59 (fun x13 => ?_)
  refine v_iconst C dX0_copyFrom_62 ?_
  refine v_bipush C dX0_copyFrom_63 (by decide) ?_
  refine v_copy10 C tw_441 tw_436 tw_435 tw_20 (by rw [hRm]; exact Nat.le_of_ble_eq_true rfl) (by rw [hRm]; exact Nat.le_of_ble_eq_true rfl) (Nat.le_of_ble_eq_true rfl) dX0_copyFrom_65 (fun s14 => ?_)
  refine v_aload_n C dX0_copyFrom_68 rfl (j := 1) rfl ?_
  refine v_getR C 5 rfl (T := TX0) rfl inB0 (by decide) (by decide) rfl tw_213 dX0_copyFrom_69 (fun x15 => ?_)
  refine v_iconst C dX0_copyFrom_72 ?_
  refine v_aload_n C dX0_copyFrom_73 rfl (j := 0) rfl ?_
  refine v_getR C 5 rfl (T := TX0) rfl inB0 (by decide) (by decide) rfl tw_213 dX0_copyFrom_74 (fun x16 => ?_)
  refine v_iconst C dX0_copyFrom_77 ?_
  refine v_bipush C dX0_copyFrom_78 (by decide) ?_
  refine v_copy10 C tw_441 tw_436 tw_435 tw_20 (by rw [hRm]; exact Nat.le_of_ble_eq_true rfl) (by rw [hRm]; exact Nat.le_of_ble_eq_true rfl) (Nat.le_of_ble_eq_true rfl) dX0_copyFrom_80 (fun s17 => ?_)
  exact v_vret C rfl hO (fun h => Option.some.inj h) dX0_copyFrom_83
-- ForesightHub$Log.copyFrom
theorem hX3_copyFrom : yX3_copyFrom.cls ≠ "java/lang/invoke/MethodHandle" ∧ yX3_copyFrom.cls ≠ "java/lang/invoke/VarHandle" ∧ (parseMethodDescriptor yX3_copyFrom.desc).map (fun d => d.parameters.length) = some 1 := by decide +kernel
set_option maxRecDepth 100000 in
theorem kX3_copyFrom (l : Launch) (w : Wd) (P : Shp) (n : Nat) {s : St} {a0 : Int} {a1 : Int} {res : St} (h : fX3_copyFrom P s a0 a1 = some res) : Ct l w yX3_copyFrom cX3_copyFrom 2 (Option.none : Option FieldType) rX3_copyFrom P n [A w a0, A w a1] s (QV w P n res) :=
  Ct.of h (by decide) (Nat.le_of_ble_eq_true rfl) (lv := [(0, A w a0), (1, A w a1)]) rfl fun X hl hRm C hO => by
  subst hl
  unfold fX3_copyFrom
  refine v_aload_n C dX3_copyFrom_0 rfl (j := 0) rfl ?_
  refine v_aload_n C dX3_copyFrom_1 rfl (j := 1) rfl ?_
  refine v_getI C 0 rfl (T := TX3) rfl inB3 (by decide) (by decide) rfl tw_233 dX3_copyFrom_2 (fun x1 => ?_)
  refine v_putI C 0 rfl (T := TX3) rfl inB3 (by decide) tyX3_ok nmX3 (by decide) rfl rfl tw_233 dX3_copyFrom_5 rfl (fun s2 => ?_)
  refine v_aload_n C dX3_copyFrom_8 rfl (j := 0) rfl ?_
  refine v_aload_n C dX3_copyFrom_9 rfl (j := 1) rfl ?_
  refine v_getI C 1 rfl (T := TX3) rfl inB3 (by decide) (by decide) rfl tw_234 dX3_copyFrom_10 (fun x3 => ?_)
  refine v_putI C 1 rfl (T := TX3) rfl inB3 (by decide) tyX3_ok nmX3 (by decide) rfl rfl tw_234 dX3_copyFrom_13 rfl (fun s4 => ?_)
  refine v_aload_n C dX3_copyFrom_16 rfl (j := 1) rfl ?_
  refine v_getR C 2 rfl (T := TX3) rfl inB3 (by decide) (by decide) rfl tw_235 dX3_copyFrom_17 (fun x5 => ?_)
  refine v_iconst C dX3_copyFrom_20 ?_
  refine v_aload_n C dX3_copyFrom_21 rfl (j := 0) rfl ?_
  refine v_getR C 2 rfl (T := TX3) rfl inB3 (by decide) (by decide) rfl tw_235 dX3_copyFrom_22 (fun x6 => ?_)
  refine v_iconst C dX3_copyFrom_25 ?_
  refine v_bipush C dX3_copyFrom_26 (by decide) ?_
  refine v_copy10 C tw_446 tw_436 tw_435 tw_20 (by rw [hRm]; exact Nat.le_of_ble_eq_true rfl) (by rw [hRm]; exact Nat.le_of_ble_eq_true rfl) (Nat.le_of_ble_eq_true rfl) dX3_copyFrom_28 (fun s7 => ?_)
  refine v_aload_n C dX3_copyFrom_31 rfl (j := 1) rfl ?_
  refine v_getR C 3 rfl (T := TX3) rfl inB3 (by decide) (by decide) rfl tw_236 dX3_copyFrom_32 (fun x8 => ?_)
  refine v_iconst C dX3_copyFrom_35 ?_
  refine v_aload_n C dX3_copyFrom_36 rfl (j := 0) rfl ?_
  refine v_getR C 3 rfl (T := TX3) rfl inB3 (by decide) (by decide) rfl tw_236 dX3_copyFrom_37 (fun x9 => ?_)
  refine v_iconst C dX3_copyFrom_40 ?_
  refine v_bipush C dX3_copyFrom_41 (by decide) ?_
  refine v_copy10 C tw_446 tw_436 tw_435 tw_20 (by rw [hRm]; exact Nat.le_of_ble_eq_true rfl) (by rw [hRm]; exact Nat.le_of_ble_eq_true rfl) (Nat.le_of_ble_eq_true rfl) dX3_copyFrom_43 (fun s10 => ?_)
  refine v_aload_n C dX3_copyFrom_46 rfl (j := 1) rfl ?_
  refine v_getR C 4 rfl (T := TX3) rfl inB3 (by decide) (by decide) rfl tw_237 dX3_copyFrom_47 (fun x11 => ?_)
  refine v_iconst C dX3_copyFrom_50 ?_
  refine v_aload_n C dX3_copyFrom_51 rfl (j := 0) rfl ?_
  refine v_getR C 4 rfl (T := TX3) rfl inB3 (by decide) (by decide) rfl tw_237 dX3_copyFrom_52 (fun x12 => ?_)
  refine v_iconst C dX3_copyFrom_55 ?_
  refine v_bipush C dX3_copyFrom_56 (by decide) ?_
  refine v_copy10 C tw_446 tw_436 tw_435 tw_20 (by rw [hRm]; exact Nat.le_of_ble_eq_true rfl) (by rw [hRm]; exact Nat.le_of_ble_eq_true rfl) (Nat.le_of_ble_eq_true rfl) dX3_copyFrom_58 (fun s13 => ?_)
  refine v_aload_n C dX3_copyFrom_61 rfl (j := 1) rfl ?_
  refine v_getR C 5 rfl (T := TX3) rfl inB3 (by decide) (by decide) rfl tw_238 dX3_copyFrom_62 (fun x14 => ?_)
  refine v_iconst C dX3_copyFrom_65 ?_
  refine v_aload_n C dX3_copyFrom_66 rfl (j := 0) rfl ?_
  refine v_getR C 5 rfl (T := TX3) rfl inB3 (by decide) (by decide) rfl tw_238 dX3_copyFrom_67 (fun x15 => ?_)
  refine v_iconst C dX3_copyFrom_70 ?_
  refine v_bipush C dX3_copyFrom_71 (by decide) ?_
  refine v_copy10 C tw_446 tw_436 tw_435 tw_20 (by rw [hRm]; exact Nat.le_of_ble_eq_true rfl) (by rw [hRm]; exact Nat.le_of_ble_eq_true rfl) (Nat.le_of_ble_eq_true rfl) dX3_copyFrom_73 (fun s16 => ?_)
  exact v_vret C rfl hO (fun h => Option.some.inj h) dX3_copyFrom_76
-- ForesightHub$State.copyFrom
theorem hX6_copyFrom : yX6_copyFrom.cls ≠ "java/lang/invoke/MethodHandle" ∧ yX6_copyFrom.cls ≠ "java/lang/invoke/VarHandle" ∧ (parseMethodDescriptor yX6_copyFrom.desc).map (fun d => d.parameters.length) = some 1 := by decide +kernel
set_option maxRecDepth 100000 in
theorem kX6_copyFrom (l : Launch) (w : Wd) (P : Shp) (n : Nat) {s : St} {a0 : Int} {a1 : Int} {res : St} (h : fX6_copyFrom P s a0 a1 = some res) : Ct l w yX6_copyFrom cX6_copyFrom 2 (Option.none : Option FieldType) rX6_copyFrom P n [A w a0, A w a1] s (QV w P n res) :=
  Ct.of h (by decide) (Nat.le_of_ble_eq_true rfl) (lv := [(0, A w a0), (1, A w a1)]) rfl fun X hl hRm C hO => by
  subst hl
  unfold fX6_copyFrom
  refine v_aload_n C dX6_copyFrom_0 rfl (j := 0) rfl ?_
  refine v_aload_n C dX6_copyFrom_1 rfl (j := 1) rfl ?_
  refine v_getI C 0 rfl (T := TX6) rfl inB6 (by decide) (by decide) rfl tw_254 dX6_copyFrom_2 (fun x1 => ?_)
  refine v_putI C 0 rfl (T := TX6) rfl inB6 (by decide) tyX6_ok nmX6 (by decide) rfl rfl tw_254 dX6_copyFrom_5 rfl (fun s2 => ?_)
  refine v_aload_n C dX6_copyFrom_8 rfl (j := 0) rfl ?_
  refine v_aload_n C dX6_copyFrom_9 rfl (j := 1) rfl ?_
  refine v_getI C 1 rfl (T := TX6) rfl inB6 (by decide) (by decide) rfl tw_258 dX6_copyFrom_10 (fun x3 => ?_)
  refine v_putI C 1 rfl (T := TX6) rfl inB6 (by decide) tyX6_ok nmX6 (by decide) rfl rfl tw_258 dX6_copyFrom_13 rfl (fun s4 => ?_)
  refine v_aload_n C dX6_copyFrom_16 rfl (j := 1) rfl ?_
  refine v_getR C 2 rfl (T := TX6) rfl inB6 (by decide) (by decide) rfl tw_260 dX6_copyFrom_17 (fun x5 => ?_)
  refine v_iconst C dX6_copyFrom_20 ?_
  refine v_aload_n C dX6_copyFrom_21 rfl (j := 0) rfl ?_
  refine v_getR C 2 rfl (T := TX6) rfl inB6 (by decide) (by decide) rfl tw_260 dX6_copyFrom_22 (fun x6 => ?_)
  refine v_iconst C dX6_copyFrom_25 ?_
  refine v_bipush C dX6_copyFrom_26 (by decide) ?_
  refine v_copy10 C tw_434 tw_436 tw_435 tw_20 (by rw [hRm]; exact Nat.le_of_ble_eq_true rfl) (by rw [hRm]; exact Nat.le_of_ble_eq_true rfl) (Nat.le_of_ble_eq_true rfl) dX6_copyFrom_28 (fun s7 => ?_)
  refine v_aload_n C dX6_copyFrom_31 rfl (j := 1) rfl ?_
  refine v_getR C 3 rfl (T := TX6) rfl inB6 (by decide) (by decide) rfl tw_263 dX6_copyFrom_32 (fun x8 => ?_)
  refine v_iconst C dX6_copyFrom_35 ?_
  refine v_aload_n C dX6_copyFrom_36 rfl (j := 0) rfl ?_
  refine v_getR C 3 rfl (T := TX6) rfl inB6 (by decide) (by decide) rfl tw_263 dX6_copyFrom_37 (fun x9 => ?_)
  refine v_iconst C dX6_copyFrom_40 ?_
  refine v_bipush C dX6_copyFrom_41 (by decide) ?_
  refine v_copy10 C tw_434 tw_436 tw_435 tw_20 (by rw [hRm]; exact Nat.le_of_ble_eq_true rfl) (by rw [hRm]; exact Nat.le_of_ble_eq_true rfl) (Nat.le_of_ble_eq_true rfl) dX6_copyFrom_43 (fun s10 => ?_)
  refine v_aload_n C dX6_copyFrom_46 rfl (j := 1) rfl ?_
  refine v_getR C 4 rfl (T := TX6) rfl inB6 (by decide) (by decide) rfl tw_265 dX6_copyFrom_47 (fun x11 => ?_)
  refine v_iconst C dX6_copyFrom_50 ?_
  refine v_aload_n C dX6_copyFrom_51 rfl (j := 0) rfl ?_
  refine v_getR C 4 rfl (T := TX6) rfl inB6 (by decide) (by decide) rfl tw_265 dX6_copyFrom_52 (fun x12 => ?_)
  refine v_iconst C dX6_copyFrom_55 ?_
  refine v_bipush C dX6_copyFrom_56 (by decide) ?_
  refine v_copy10 C tw_434 tw_436 tw_435 tw_20 (by rw [hRm]; exact Nat.le_of_ble_eq_true rfl) (by rw [hRm]; exact Nat.le_of_ble_eq_true rfl) (Nat.le_of_ble_eq_true rfl) dX6_copyFrom_58 (fun s13 => ?_)
  refine v_aload_n C dX6_copyFrom_61 rfl (j := 1) rfl ?_
  refine v_getR C 5 rfl (T := TX6) rfl inB6 (by decide) (by decide) rfl tw_268 dX6_copyFrom_62 (fun x14 => ?_)
  refine v_iconst C dX6_copyFrom_65 ?_
  refine v_aload_n C dX6_copyFrom_66 rfl (j := 0) rfl ?_
  refine v_getR C 5 rfl (T := TX6) rfl inB6 (by decide) (by decide) rfl tw_268 dX6_copyFrom_67 (fun x15 => ?_)
  refine v_iconst C dX6_copyFrom_70 ?_
  refine v_bipush C dX6_copyFrom_71 (by decide) ?_
  refine v_copy10 C tw_434 tw_436 tw_435 tw_20 (by rw [hRm]; exact Nat.le_of_ble_eq_true rfl) (by rw [hRm]; exact Nat.le_of_ble_eq_true rfl) (Nat.le_of_ble_eq_true rfl) dX6_copyFrom_73 (fun s16 => ?_)
  refine v_aload_n C dX6_copyFrom_76 rfl (j := 1) rfl ?_
  refine v_getR C 6 rfl (T := TX6) rfl inB6 (by decide) (by decide) rfl tw_271 dX6_copyFrom_77 (fun x17 => ?_)
  refine v_iconst C dX6_copyFrom_80 ?_
  refine v_aload_n C dX6_copyFrom_81 rfl (j := 0) rfl ?_
  refine v_getR C 6 rfl (T := TX6) rfl inB6 (by decide) (by decide) rfl tw_271 dX6_copyFrom_82 (fun x18 => ?_)
  refine v_iconst C dX6_copyFrom_85 ?_
  refine v_bipush C dX6_copyFrom_86 (by decide) ?_
  refine v_copy10 C tw_434 tw_436 tw_435 tw_20 (by rw [hRm]; exact Nat.le_of_ble_eq_true rfl) (by rw [hRm]; exact Nat.le_of_ble_eq_true rfl) (Nat.le_of_ble_eq_true rfl) dX6_copyFrom_88 (fun s19 => ?_)
  refine v_aload_n C dX6_copyFrom_91 rfl (j := 1) rfl ?_
  refine v_getR C 7 rfl (T := TX6) rfl inB6 (by decide) (by decide) rfl tw_274 dX6_copyFrom_92 (fun x20 => ?_)
  refine v_iconst C dX6_copyFrom_95 ?_
  refine v_aload_n C dX6_copyFrom_96 rfl (j := 0) rfl ?_
  refine v_getR C 7 rfl (T := TX6) rfl inB6 (by decide) (by decide) rfl tw_274 dX6_copyFrom_97 (fun x21 => ?_)
  refine v_iconst C dX6_copyFrom_100 ?_
  refine v_bipush C dX6_copyFrom_101 (by decide) ?_
  refine v_copy11 C tw_434 tw_436 tw_435 tw_20 (by rw [hRm]; exact Nat.le_of_ble_eq_true rfl) (by rw [hRm]; exact Nat.le_of_ble_eq_true rfl) (Nat.le_of_ble_eq_true rfl) dX6_copyFrom_103 (fun s22 => ?_)
  refine v_aload_n C dX6_copyFrom_106 rfl (j := 0) rfl ?_
  refine v_getR C 8 rfl (T := TX6) rfl inB6 (by decide) (by decide) rfl tw_277 dX6_copyFrom_107 (fun x23 => ?_)
  refine v_aload_n C dX6_copyFrom_110 rfl (j := 1) rfl ?_
  refine v_getR C 8 rfl (T := TX6) rfl inB6 (by decide) (by decide) rfl tw_277 dX6_copyFrom_111 (fun x24 => ?_)
  refine v_callV_wV C [A w x24] [] (Cee.of (rm := rX0_copyFrom) tw_440 tw_6 hX0_copyFrom rfl rfl hRm (Nat.le_of_ble_eq_true rfl) (Nat.le_of_ble_eq_true rfl)) (fun x h => kX0_copyFrom X.2.1 w P n h) tw_437 tw_438 tw_439 rfl (ci := 0) rfl (by decide) rfl rfl (Nat.le_of_ble_eq_true rfl) ⟨Nat.zero_le _, Nat.zero_le _⟩ dX6_copyFrom_114 (fun s25 => ?_)
  refine v_aload_n C dX6_copyFrom_117 rfl (j := 0) rfl ?_
  refine v_getR C 9 rfl (T := TX6) rfl inB6 (by decide) (by decide) rfl tw_280 dX6_copyFrom_118 (fun x26 => ?_)
  refine v_aload_n C dX6_copyFrom_121 rfl (j := 1) rfl ?_
  refine v_getR C 9 rfl (T := TX6) rfl inB6 (by decide) (by decide) rfl tw_280 dX6_copyFrom_122 (fun x27 => ?_)
  refine v_callV_wV C [A w x27] [] (Cee.of (rm := rX3_copyFrom) tw_445 tw_7 hX3_copyFrom rfl rfl hRm (Nat.le_of_ble_eq_true rfl) (Nat.le_of_ble_eq_true rfl)) (fun x h => kX3_copyFrom X.2.1 w P n h) tw_442 tw_443 tw_444 rfl (ci := 3) rfl (by decide) rfl rfl (Nat.le_of_ble_eq_true rfl) ⟨Nat.zero_le _, Nat.zero_le _⟩ dX6_copyFrom_125 (fun s28 => ?_)
  exact v_vret C rfl hO (fun h => Option.some.inj h) dX6_copyFrom_128
-- ForesightHub$History.takeBack
theorem hX1_takeBack : yX1_takeBack.cls ≠ "java/lang/invoke/MethodHandle" ∧ yX1_takeBack.cls ≠ "java/lang/invoke/VarHandle" ∧ (parseMethodDescriptor yX1_takeBack.desc).map (fun d => d.parameters.length) = some 1 := by decide +kernel
set_option maxRecDepth 100000 in
theorem kX1_takeBack (l : Launch) (w : Wd) (P : Shp) (n : Nat) {s : St} {a0 : Int} {a1 : Int} {res : Int × St} (h : fX1_takeBack P s a0 a1 = some res) : Ct l w yX1_takeBack cX1_takeBack 2 (some FieldType.boolean) rX1_takeBack P n [A w a0, A w a1] s (QI w P n res.1 res.2) :=
  Ct.of h (by decide) (Nat.le_of_ble_eq_true rfl) (lv := [(0, A w a0), (1, A w a1)]) rfl fun X hl hRm C hO => by
  subst hl
  unfold fX1_takeBack
  refine v_aload_n C dX1_takeBack_0 rfl (j := 0) rfl ?_
  refine v_getI C 1 rfl (T := TX1) rfl inB1 (by decide) (by decide) rfl tw_323 dX1_takeBack_1 (fun x1 => ?_)
  refine v_if_gt (tgt := 9) C dX1_takeBack_4 rfl ?_ ?_
  · skip
    refine v_aload_n C dX1_takeBack_9 rfl (j := 0) rfl ?_
    refine v_aload_n C dX1_takeBack_10 rfl (j := 0) rfl ?_
    refine v_getI C 2 rfl (T := TX1) rfl inB1 (by decide) (by decide) rfl tw_325 dX1_takeBack_11 (fun x2 => ?_)
    refine v_iconst C dX1_takeBack_14 ?_
    refine v_isub C dX1_takeBack_15 ?_
    refine v_bipush C dX1_takeBack_16 (by decide) ?_
    refine v_callS_rI C [I (x2 - 1), I 10] [A w a0] (Cee.of (rm := rJ9_floorMod_7cf53) tw_429 tw_14 hJ9_floorMod_7cf53 rfl rfl hRm (Nat.le_of_ble_eq_true rfl) (Nat.le_of_ble_eq_true rfl)) (fun x h => kJ9_floorMod_7cf53 X.2.1 w P n h) tw_427 tw_428 rfl rfl (Nat.le_of_ble_eq_true rfl) ⟨Nat.zero_le _, Nat.zero_le _⟩ dX1_takeBack_18 (fun x3 => ?_)
    refine v_putI C 2 rfl (T := TX1) rfl inB1 (by decide) tyX1_ok nmX1 (by decide) rfl rfl tw_325 dX1_takeBack_21 rfl (fun s4 => ?_)
    refine v_aload_n C dX1_takeBack_24 rfl (j := 1) rfl ?_
    refine v_aload_n C dX1_takeBack_25 rfl (j := 0) rfl ?_
    refine v_getR C 0 rfl (T := TX1) rfl inB1 (by decide) (by decide) rfl tw_322 dX1_takeBack_26 (fun x5 => ?_)
    refine v_aload_n C dX1_takeBack_29 rfl (j := 0) rfl ?_
    refine v_getI C 2 rfl (T := TX1) rfl inB1 (by decide) (by decide) rfl tw_325 dX1_takeBack_30 (fun x6 => ?_)
    refine v_aald C dX1_takeBack_33 (fun x7 => ?_)
    refine v_callV_wV C [A w x7] [] (Cee.of (rm := rX6_copyFrom) tw_433 tw_5 hX6_copyFrom rfl rfl hRm (Nat.le_of_ble_eq_true rfl) (Nat.le_of_ble_eq_true rfl)) (fun x h => kX6_copyFrom X.2.1 w P n h) tw_430 tw_431 tw_432 rfl (ci := 6) rfl (by decide) rfl rfl (Nat.le_of_ble_eq_true rfl) ⟨Nat.zero_le _, Nat.zero_le _⟩ dX1_takeBack_34 (fun s8 => ?_)
    refine v_aload_n C dX1_takeBack_37 rfl (j := 0) rfl ?_
    refine v_dup C dX1_takeBack_38 rfl ?_
    refine v_getI C 1 rfl (T := TX1) rfl inB1 (by decide) (by decide) rfl tw_323 dX1_takeBack_39 (fun x9 => ?_)
    refine v_iconst C dX1_takeBack_42 ?_
    refine v_isub C dX1_takeBack_43 ?_
    refine v_putI C 1 rfl (T := TX1) rfl inB1 (by decide) tyX1_ok nmX1 (by decide) rfl rfl tw_323 dX1_takeBack_44 rfl (fun s10 => ?_)
    refine v_iconst C dX1_takeBack_47 ?_
    exact v_zret C rfl hO pI dX1_takeBack_48
  · skip
    refine v_iconst C dX1_takeBack_7 ?_
    exact v_zret C rfl hO pI dX1_takeBack_8
-- ForesightHub.undo
theorem hX7_undo : yX7_undo.cls ≠ "java/lang/invoke/MethodHandle" ∧ yX7_undo.cls ≠ "java/lang/invoke/VarHandle" ∧ (parseMethodDescriptor yX7_undo.desc).map (fun d => d.parameters.length) = some 0 := by decide +kernel
set_option maxRecDepth 100000 in
theorem kX7_undo (l : Launch) (w : Wd) (P : Shp) (n : Nat) {s : St} {a0 : Int} {res : Int × St} (h : fX7_undo P s a0 = some res) : Ct l w yX7_undo cX7_undo 1 (some FieldType.int) rX7_undo P n [A w a0] s (QI w P n res.1 res.2) :=
  Ct.of h (by decide) (Nat.le_of_ble_eq_true rfl) (lv := [(0, A w a0)]) rfl fun X hl hRm C hO => by
  subst hl
  unfold fX7_undo
  refine v_aload_n C dX7_undo_0 rfl (j := 0) rfl ?_
  refine v_getR C 2 rfl (T := TX7) rfl inB7 (by decide) (by decide) rfl tw_337 dX7_undo_1 (fun x1 => ?_)
  refine v_aload_n C dX7_undo_4 rfl (j := 0) rfl ?_
  refine v_getR C 1 rfl (T := TX7) rfl inB7 (by decide) (by decide) rfl tw_336 dX7_undo_5 (fun x2 => ?_)
  refine v_getR C 1 rfl (T := TX2) rfl inB2 (by decide) (by decide) rfl tw_307 dX7_undo_8 (fun x3 => ?_)
  refine v_callV_wI C [A w x3] [] (Cee.of (rm := rX1_takeBack) tw_426 tw_8 hX1_takeBack rfl rfl hRm (Nat.le_of_ble_eq_true rfl) (Nat.le_of_ble_eq_true rfl)) (fun x h => kX1_takeBack X.2.1 w P n h) tw_423 tw_424 tw_425 rfl (ci := 1) rfl (by decide) rfl rfl (Nat.le_of_ble_eq_true rfl) ⟨Nat.zero_le _, Nat.zero_le _⟩ dX7_undo_11 (fun q4 => ?_)
  obtain ⟨x5, s6⟩ := q4
  refine v_if_eq (tgt := 27) C dX7_undo_14 rfl ?_ ?_
  · skip
    refine v_iconst C dX7_undo_27 ?_
    exact v_iret C rfl hO pI dX7_undo_28
  · skip
    refine v_aload_n C dX7_undo_17 rfl (j := 0) rfl ?_
    refine v_getR C 2 rfl (T := TX7) rfl inB7 (by decide) (by decide) rfl tw_337 dX7_undo_18 (fun x7 => ?_)
    refine v_getI C 1 rfl (T := TX1) rfl inB1 (by decide) (by decide) rfl tw_324 dX7_undo_21 (fun x8 => ?_)
    refine v_goto (tgt := 28) C dX7_undo_24 rfl ?_
    exact v_iret C rfl hO pI dX7_undo_28
-- ForesightHub.saveSnapshot
theorem hX7_saveSnapshot : yX7_saveSnapshot.cls ≠ "java/lang/invoke/MethodHandle" ∧ yX7_saveSnapshot.cls ≠ "java/lang/invoke/VarHandle" ∧ (parseMethodDescriptor yX7_saveSnapshot.desc).map (fun d => d.parameters.length) = some 1 := by decide +kernel
set_option maxRecDepth 100000 in
theorem kX7_saveSnapshot (l : Launch) (w : Wd) (P : Shp) (n : Nat) {s : St} {a0 : Int} {a1 : Int} {res : Int × St} (h : fX7_saveSnapshot P s a0 a1 = some res) : Ct l w yX7_saveSnapshot cX7_saveSnapshot 2 (some FieldType.boolean) rX7_saveSnapshot P n [A w a0, I a1] s (QI w P n res.1 res.2) :=
  Ct.of h (by decide) (Nat.le_of_ble_eq_true rfl) (lv := [(0, A w a0), (1, I a1)]) rfl fun X hl hRm C hO => by
  subst hl
  unfold fX7_saveSnapshot
  refine v_iload_n C dX7_saveSnapshot_0 rfl (j := 1) rfl ?_
  refine v_if_lt (tgt := 9) C dX7_saveSnapshot_1 rfl ?_ ?_
  · skip
    refine v_iconst C dX7_saveSnapshot_9 ?_
    exact v_zret C rfl hO pI dX7_saveSnapshot_10
  · skip
    refine v_iload_n C dX7_saveSnapshot_4 rfl (j := 1) rfl ?_
    refine v_iconst C dX7_saveSnapshot_5 ?_
    refine v_icmp_lt (tgt := 11) C dX7_saveSnapshot_6 rfl ?_ ?_
    · skip
      refine v_aload_n C dX7_saveSnapshot_11 rfl (j := 0) rfl ?_
      refine v_getR C 3 rfl (T := TX7) rfl inB7 (by decide) (by decide) rfl tw_338 dX7_saveSnapshot_12 (fun x1 => ?_)
      refine v_iload_n C dX7_saveSnapshot_15 rfl (j := 1) rfl ?_
      refine v_aald C dX7_saveSnapshot_16 (fun x2 => ?_)
      refine v_aload_n C dX7_saveSnapshot_17 rfl (j := 0) rfl ?_
      refine v_getR C 1 rfl (T := TX7) rfl inB7 (by decide) (by decide) rfl tw_336 dX7_saveSnapshot_18 (fun x3 => ?_)
      refine v_getR C 1 rfl (T := TX2) rfl inB2 (by decide) (by decide) rfl tw_307 dX7_saveSnapshot_21 (fun x4 => ?_)
      refine v_callV_wV C [A w x4] [] (Cee.of (rm := rX6_copyFrom) tw_433 tw_5 hX6_copyFrom rfl rfl hRm (Nat.le_of_ble_eq_true rfl) (Nat.le_of_ble_eq_true rfl)) (fun x h => kX6_copyFrom X.2.1 w P n h) tw_451 tw_431 tw_432 rfl (ci := 6) rfl (by decide) rfl rfl (Nat.le_of_ble_eq_true rfl) ⟨Nat.zero_le _, Nat.zero_le _⟩ dX7_saveSnapshot_24 (fun s5 => ?_)
      refine v_aload_n C dX7_saveSnapshot_27 rfl (j := 0) rfl ?_
      refine v_getR C 4 rfl (T := TX7) rfl inB7 (by decide) (by decide) rfl tw_339 dX7_saveSnapshot_28 (fun x6 => ?_)
      refine v_iload_n C dX7_saveSnapshot_31 rfl (j := 1) rfl ?_
      refine v_iconst C dX7_saveSnapshot_32 ?_
      refine v_zast C dX7_saveSnapshot_33 (fun s7 => ?_)
      refine v_iconst C dX7_saveSnapshot_34 ?_
      exact v_zret C rfl hO pI dX7_saveSnapshot_35
    · skip
      refine v_iconst C dX7_saveSnapshot_9 ?_
      exact v_zret C rfl hO pI dX7_saveSnapshot_10
-- ForesightHub$History.clear
theorem hX1_clear : yX1_clear.cls ≠ "java/lang/invoke/MethodHandle" ∧ yX1_clear.cls ≠ "java/lang/invoke/VarHandle" ∧ (parseMethodDescriptor yX1_clear.desc).map (fun d => d.parameters.length) = some 0 := by decide +kernel
set_option maxRecDepth 100000 in
theorem kX1_clear (l : Launch) (w : Wd) (P : Shp) (n : Nat) {s : St} {a0 : Int} {res : St} (h : fX1_clear P s a0 = some res) : Ct l w yX1_clear cX1_clear 1 (Option.none : Option FieldType) rX1_clear P n [A w a0] s (QV w P n res) :=
  Ct.of h (by decide) (Nat.le_of_ble_eq_true rfl) (lv := [(0, A w a0)]) rfl fun X hl hRm C hO => by
  subst hl
  unfold fX1_clear
  refine v_aload_n C dX1_clear_0 rfl (j := 0) rfl ?_
  refine v_iconst C dX1_clear_1 ?_
  refine v_putI C 1 rfl (T := TX1) rfl inB1 (by decide) tyX1_ok nmX1 (by decide) rfl rfl tw_323 dX1_clear_2 rfl (fun s1 => ?_)
  exact v_vret C rfl hO (fun h => Option.some.inj h) dX1_clear_5
-- ForesightHub.restoreSnapshot
theorem hX7_restoreSnapshot : yX7_restoreSnapshot.cls ≠ "java/lang/invoke/MethodHandle" ∧ yX7_restoreSnapshot.cls ≠ "java/lang/invoke/VarHandle" ∧ (parseMethodDescriptor yX7_restoreSnapshot.desc).map (fun d => d.parameters.length) = some 1 := by decide +kernel
set_option maxRecDepth 100000 in
theorem kX7_restoreSnapshot (l : Launch) (w : Wd) (P : Shp) (n : Nat) {s : St} {a0 : Int} {a1 : Int} {res : Int × St} (h : fX7_restoreSnapshot P s a0 a1 = some res) : Ct l w yX7_restoreSnapshot cX7_restoreSnapshot 2 (some FieldType.boolean) rX7_restoreSnapshot P n [A w a0, I a1] s (QI w P n res.1 res.2) :=
  Ct.of h (by decide) (Nat.le_of_ble_eq_true rfl) (lv := [(0, A w a0), (1, I a1)]) rfl fun X hl hRm C hO => by
  subst hl
  unfold fX7_restoreSnapshot
  refine v_iload_n C dX7_restoreSnapshot_0 rfl (j := 1) rfl ?_
  refine v_if_lt (tgt := 18) C dX7_restoreSnapshot_1 rfl ?_ ?_
  · skip
    refine v_iconst C dX7_restoreSnapshot_18 ?_
    exact v_zret C rfl hO pI dX7_restoreSnapshot_19
  · skip
    refine v_iload_n C dX7_restoreSnapshot_4 rfl (j := 1) rfl ?_
    refine v_iconst C dX7_restoreSnapshot_5 ?_
    refine v_icmp_ge (tgt := 18) C dX7_restoreSnapshot_6 rfl ?_ ?_
    · skip
      refine v_iconst C dX7_restoreSnapshot_18 ?_
      exact v_zret C rfl hO pI dX7_restoreSnapshot_19
    · skip
      refine v_aload_n C dX7_restoreSnapshot_9 rfl (j := 0) rfl ?_
      refine v_getR C 4 rfl (T := TX7) rfl inB7 (by decide) (by decide) rfl tw_339 dX7_restoreSnapshot_10 (fun x1 => ?_)
      refine v_iload_n C dX7_restoreSnapshot_13 rfl (j := 1) rfl ?_
      refine v_zald C dX7_restoreSnapshot_14 (fun x2 => ?_)
      refine v_if_ne (tgt := 20) C dX7_restoreSnapshot_15 rfl ?_ ?_
      · skip
        refine v_aload_n C dX7_restoreSnapshot_20 rfl (j := 0) rfl ?_
        refine v_getR C 1 rfl (T := TX7) rfl inB7 (by decide) (by decide) rfl tw_336 dX7_restoreSnapshot_21 (fun x3 => ?_)
        refine v_getR C 1 rfl (T := TX2) rfl inB2 (by decide) (by decide) rfl tw_307 dX7_restoreSnapshot_24 (fun x4 => ?_)
        refine v_aload_n C dX7_restoreSnapshot_27 rfl (j := 0) rfl ?_
        refine v_getR C 3 rfl (T := TX7) rfl inB7 (by decide) (by decide) rfl tw_338 dX7_restoreSnapshot_28 (fun x5 => ?_)
        refine v_iload_n C dX7_restoreSnapshot_31 rfl (j := 1) rfl ?_
        refine v_aald C dX7_restoreSnapshot_32 (fun x6 => ?_)
        refine v_callV_wV C [A w x6] [] (Cee.of (rm := rX6_copyFrom) tw_433 tw_5 hX6_copyFrom rfl rfl hRm (Nat.le_of_ble_eq_true rfl) (Nat.le_of_ble_eq_true rfl)) (fun x h => kX6_copyFrom X.2.1 w P n h) tw_451 tw_431 tw_432 rfl (ci := 6) rfl (by decide) rfl rfl (Nat.le_of_ble_eq_true rfl) ⟨Nat.zero_le _, Nat.zero_le _⟩ dX7_restoreSnapshot_33 (fun s7 => ?_)
        refine v_aload_n C dX7_restoreSnapshot_36 rfl (j := 0) rfl ?_
        refine v_getR C 2 rfl (T := TX7) rfl inB7 (by decide) (by decide) rfl tw_337 dX7_restoreSnapshot_37 (fun x8 => ?_)
        refine v_callV_wV C [] [] (Cee.of (rm := rX1_clear) tw_459 tw_8 hX1_clear rfl rfl hRm (Nat.le_of_ble_eq_true rfl) (Nat.le_of_ble_eq_true rfl)) (fun x h => kX1_clear X.2.1 w P n h) tw_456 tw_457 tw_458 rfl (ci := 1) rfl (by decide) rfl rfl (Nat.le_of_ble_eq_true rfl) ⟨Nat.zero_le _, Nat.zero_le _⟩ dX7_restoreSnapshot_40 (fun s9 => ?_)
        refine v_iconst C dX7_restoreSnapshot_43 ?_
        exact v_zret C rfl hO pI dX7_restoreSnapshot_44
      · skip
        refine v_iconst C dX7_restoreSnapshot_18 ?_
        exact v_zret C rfl hO pI dX7_restoreSnapshot_19
-- ForesightHubModel.thrown
theorem hX8_thrown : yX8_thrown.cls ≠ "java/lang/invoke/MethodHandle" ∧ yX8_thrown.cls ≠ "java/lang/invoke/VarHandle" ∧ (parseMethodDescriptor yX8_thrown.desc).map (fun d => d.parameters.length) = some 0 := by decide +kernel
set_option maxRecDepth 100000 in
theorem kX8_thrown (l : Launch) (w : Wd) (P : Shp) (n : Nat) {s : St} {a0 : Int} {res : Int} (h : fX8_thrown P s a0 = some res) : Ct l w yX8_thrown cX8_thrown 1 (some FieldType.int) rX8_thrown P n [A w a0] s (QI w P n res s) :=
  Ct.of h (by decide) (Nat.le_of_ble_eq_true rfl) (lv := [(0, A w a0)]) rfl fun X hl hRm C hO => by
  subst hl
  unfold fX8_thrown
  refine v_aload_n C dX8_thrown_0 rfl (j := 0) rfl ?_
  refine v_getI C 0 rfl (T := TX8) rfl inB8 (by decide) (by decide) rfl tw_1140 dX8_thrown_1 (fun x1 => ?_)
  exact v_iret C rfl hO pS dX8_thrown_4
-- ForesightHubModel.within
theorem hX8_within : yX8_within.cls ≠ "java/lang/invoke/MethodHandle" ∧ yX8_within.cls ≠ "java/lang/invoke/VarHandle" ∧ (parseMethodDescriptor yX8_within.desc).map (fun d => d.parameters.length) = some 3 := by decide +kernel
set_option maxRecDepth 100000 in
theorem kX8_within (l : Launch) (w : Wd) (P : Shp) (n : Nat) {s : St} {a0 : Int} {a1 : Int} {a2 : Int} {res : Int} (h : fX8_within P s a0 a1 a2 = some res) : Ct l w yX8_within cX8_within 3 (some FieldType.boolean) rX8_within P n [I a0, I a1, I a2] s (QI w P n res s) :=
  Ct.of h (by decide) (Nat.le_of_ble_eq_true rfl) (lv := [(0, I a0), (1, I a1), (2, I a2)]) rfl fun X hl hRm C hO => by
  subst hl
  unfold fX8_within
  refine v_iload_n C dX8_within_0 rfl (j := 0) rfl ?_
  refine v_iload_n C dX8_within_1 rfl (j := 1) rfl ?_
  refine v_icmp_lt (tgt := 14) C dX8_within_2 rfl ?_ ?_
  · skip
    refine v_iconst C dX8_within_14 ?_
    exact v_zret C rfl hO pS dX8_within_15
  · skip
    refine v_iload_n C dX8_within_5 rfl (j := 0) rfl ?_
    refine v_iload_n C dX8_within_6 rfl (j := 2) rfl ?_
    refine v_icmp_gt (tgt := 14) C dX8_within_7 rfl ?_ ?_
    · skip
      refine v_iconst C dX8_within_14 ?_
      exact v_zret C rfl hO pS dX8_within_15
    · skip
      refine v_iconst C dX8_within_10 ?_
      refine v_goto (tgt := 15) C dX8_within_11 rfl ?_
      exact v_zret C rfl hO pS dX8_within_15
-- ForesightHubModel.fail0
theorem hX8_fail0 : yX8_fail0.cls ≠ "java/lang/invoke/MethodHandle" ∧ yX8_fail0.cls ≠ "java/lang/invoke/VarHandle" ∧ (parseMethodDescriptor yX8_fail0.desc).map (fun d => d.parameters.length) = some 1 := by decide +kernel
set_option maxRecDepth 100000 in
theorem kX8_fail0 (l : Launch) (w : Wd) (P : Shp) (n : Nat) {s : St} {a0 : Int} {a1 : Int} {res : Int × St} (h : fX8_fail0 P s a0 a1 = some res) : Ct l w yX8_fail0 cX8_fail0 2 (some FieldType.int) rX8_fail0 P n [A w a0, I a1] s (QI w P n res.1 res.2) :=
  Ct.of h (by decide) (Nat.le_of_ble_eq_true rfl) (lv := [(0, A w a0), (1, I a1)]) rfl fun X hl hRm C hO => by
  subst hl
  unfold fX8_fail0
  refine v_aload_n C dX8_fail0_0 rfl (j := 0) rfl ?_
  refine v_iload_n C dX8_fail0_1 rfl (j := 1) rfl ?_
  refine v_putI C 0 rfl (T := TX8) rfl inB8 (by decide) tyX8_ok nmX8 (by decide) rfl rfl tw_1140 dX8_fail0_2 rfl (fun s1 => ?_)
  refine v_iconst C dX8_fail0_5 ?_
  exact v_iret C rfl hO pI dX8_fail0_6
-- ForesightHubModel.appendInt
set_option maxRecDepth 100000 in
theorem vX8_appendInt_L3 {X : Cxt} {w : Wd} {P : Shp} {n : Nat} (res : St) (hRm : X.2.2.2.1 = rX8_appendInt) (C : Cok X w cX8_appendInt 3 RX8 (Option.none : Option FieldType)) (hO : Own X w 0 0 (QV w P n res))  (c0 : Int) (c1 : Int) (kE36 : St → Option (St)) (hE36 : ∀ (se : St), V X w 3 P n 0 0 res (kE36 se) se 36 [] []) : ∀ (fuel : Nat) (p2 : Int) (s : St), V X w 3 P n 0 0 res (fX8_appendInt_L3 P c0 c1 kE36 fuel p2 s) s 3 [(0, A w c0), (1, I c1), (2, I p2)] [] := by
  intro fuel
  induction fuel with
  | zero => intro p2 s; exact v_none
  | succ m ih =>
    intro p2 s
    rw [fX8_appendInt_L3]
    refine v_iload_n C dX8_appendInt_3 rfl (j := 2) rfl ?_
    refine v_if_lt (tgt := 36) C dX8_appendInt_4 rfl ?_ ?_
    · skip
      refine v_sub [] [] rfl ?_
      exact hE36 s
    · skip
      refine v_aload_n C dX8_appendInt_7 rfl (j := 0) rfl ?_
      refine v_getR C 1 rfl (T := TX8) rfl inB8 (by decide) (by decide) rfl tw_1141 dX8_appendInt_8 (fun x1 => ?_)
      refine v_aload_n C dX8_appendInt_11 rfl (j := 0) rfl ?_
      refine v_getI C 2 rfl (T := TX8) rfl inB8 (by decide) (by decide) rfl tw_1142 dX8_appendInt_12 (fun x2 => ?_)
      refine v_iload_n C dX8_appendInt_15 rfl (j := 1) rfl ?_
      refine v_iload_n C dX8_appendInt_16 rfl (j := 2) rfl ?_
      refine v_ishr C dX8_appendInt_17 ?_
      refine v_i2b C dX8_appendInt_18 ?_
      refine v_bast C dX8_appendInt_19 (fun s3 => ?_)
      refine v_aload_n C dX8_appendInt_20 rfl (j := 0) rfl ?_
      refine v_dup C dX8_appendInt_21 rfl ?_
      refine v_getI C 2 rfl (T := TX8) rfl inB8 (by decide) (by decide) rfl tw_1142 dX8_appendInt_22 (fun x4 => ?_)
      refine v_iconst C dX8_appendInt_25 ?_
      refine v_iadd C dX8_appendInt_26 ?_
      refine v_putI C 2 rfl (T := TX8) rfl inB8 (by decide) tyX8_ok nmX8 (by decide) rfl rfl tw_1142 dX8_appendInt_27 rfl (fun s5 => ?_)
      refine v_iinc C (j := 2) [(0, A w c0), (1, I c1)] dX8_appendInt_30 (by decide) rfl (fun _ => rfl) (fun x6 => ?_)
      refine v_goto (tgt := 3) C dX8_appendInt_33 rfl ?_
      refine v_sub [(0, A w c0), (1, I c1), (2, I x6)] [1, 2, 0] rfl ?_
      exact ih x6 s5
theorem hX8_appendInt : yX8_appendInt.cls ≠ "java/lang/invoke/MethodHandle" ∧ yX8_appendInt.cls ≠ "java/lang/invoke/VarHandle" ∧ (parseMethodDescriptor yX8_appendInt.desc).map (fun d => d.parameters.length) = some 1 := by decide +kernel
set_option maxRecDepth 100000 in
theorem kX8_appendInt (l : Launch) (w : Wd) (P : Shp) (n : Nat) {s : St} {a0 : Int} {a1 : Int} {res : St} (h : fX8_appendInt P s a0 a1 = some res) : Ct l w yX8_appendInt cX8_appendInt 3 (Option.none : Option FieldType) rX8_appendInt P n [A w a0, I a1] s (QV w P n res) :=
  Ct.of h (by decide) (Nat.le_of_ble_eq_true rfl) (lv := [(0, A w a0), (1, I a1)]) rfl fun X hl hRm C hO => by
  subst hl
  unfold fX8_appendInt
  refine v_bipush C dX8_appendInt_0 (by decide) ?_
  refine v_istore_n C [(2, I 24), (0, A w a0), (1, I a1)] dX8_appendInt_2 rfl (by decide) rfl ?_
  refine v_sub [(0, A w a0), (1, I a1), (2, I 24)] [1, 2, 0] rfl ?_
  refine vX8_appendInt_L3 res hRm C hO a0 a1 _ ?_ 1000 24 s
  · intro s7
    exact v_vret C rfl hO (fun h => Option.some.inj h) dX8_appendInt_36
-- ForesightHubModel.append
theorem hX8_append : yX8_append.cls ≠ "java/lang/invoke/MethodHandle" ∧ yX8_append.cls ≠ "java/lang/invoke/VarHandle" ∧ (parseMethodDescriptor yX8_append.desc).map (fun d => d.parameters.length) = some 5 := by decide +kernel
set_option maxRecDepth 100000 in
theorem kX8_append (l : Launch) (w : Wd) (P : Shp) (n : Nat) {s : St} {a0 : Int} {a1 : Int} {a2 : Int} {a3 : Int} {a4 : Int} {a5 : Int} {res : Int × St} (h : fX8_append P s a0 a1 a2 a3 a4 a5 = some res) : Ct l w yX8_append cX8_append 6 (some FieldType.int) rX8_append P n [A w a0, I a1, I a2, I a3, I a4, I a5] s (QI w P n res.1 res.2) :=
  Ct.of h (by decide) (Nat.le_of_ble_eq_true rfl) (lv := [(0, A w a0), (1, I a1), (2, I a2), (3, I a3), (4, I a4), (5, I a5)]) rfl fun X hl hRm C hO => by
  subst hl
  unfold fX8_append
  refine v_aload_n C dX8_append_0 rfl (j := 0) rfl ?_
  refine v_iconst C dX8_append_1 ?_
  refine v_putI C 0 rfl (T := TX8) rfl inB8 (by decide) tyX8_ok nmX8 (by decide) rfl rfl tw_1140 dX8_append_2 rfl (fun s1 => ?_)
  refine v_aload_n C dX8_append_5 rfl (j := 0) rfl ?_
  refine v_getI C 2 rfl (T := TX8) rfl inB8 (by decide) (by decide) rfl tw_1142 dX8_append_6 (fun x2 => ?_)
  refine v_bipush C dX8_append_9 (by decide) ?_
  refine v_iadd C dX8_append_11 ?_
  refine v_sipush C dX8_append_12 (by decide) ?_
  refine v_icmp_le (tgt := 20) C dX8_append_15 rfl ?_ ?_
  · skip
    refine v_aload_n C dX8_append_20 rfl (j := 0) rfl ?_
    refine v_iload_n C dX8_append_21 rfl (j := 1) rfl ?_
    refine v_callV_wV C [I a1] [] (Cee.of (rm := rX8_appendInt) tw_1221 tw_9 hX8_appendInt rfl rfl hRm (Nat.le_of_ble_eq_true rfl) (Nat.le_of_ble_eq_true rfl)) (fun x h => kX8_appendInt X.2.1 w P n h) tw_1218 tw_1220 ts_51 rfl (ci := 8) rfl (by decide) rfl rfl (Nat.le_of_ble_eq_true rfl) ⟨Nat.zero_le _, Nat.zero_le _⟩ dX8_append_22 (fun s3 => ?_)
    refine v_aload_n C dX8_append_25 rfl (j := 0) rfl ?_
    refine v_iload_n C dX8_append_26 rfl (j := 2) rfl ?_
    refine v_callV_wV C [I a2] [] (Cee.of (rm := rX8_appendInt) tw_1221 tw_9 hX8_appendInt rfl rfl hRm (Nat.le_of_ble_eq_true rfl) (Nat.le_of_ble_eq_true rfl)) (fun x h => kX8_appendInt X.2.1 w P n h) tw_1218 tw_1220 ts_51 rfl (ci := 8) rfl (by decide) rfl rfl (Nat.le_of_ble_eq_true rfl) ⟨Nat.zero_le _, Nat.zero_le _⟩ dX8_append_27 (fun s4 => ?_)
    refine v_aload_n C dX8_append_30 rfl (j := 0) rfl ?_
    refine v_iload_n C dX8_append_31 rfl (j := 3) rfl ?_
    refine v_callV_wV C [I a3] [] (Cee.of (rm := rX8_appendInt) tw_1221 tw_9 hX8_appendInt rfl rfl hRm (Nat.le_of_ble_eq_true rfl) (Nat.le_of_ble_eq_true rfl)) (fun x h => kX8_appendInt X.2.1 w P n h) tw_1218 tw_1220 ts_51 rfl (ci := 8) rfl (by decide) rfl rfl (Nat.le_of_ble_eq_true rfl) ⟨Nat.zero_le _, Nat.zero_le _⟩ dX8_append_32 (fun s5 => ?_)
    refine v_aload_n C dX8_append_35 rfl (j := 0) rfl ?_
    refine v_iload C dX8_append_36 (j := 4) rfl ?_
    refine v_callV_wV C [I a4] [] (Cee.of (rm := rX8_appendInt) tw_1221 tw_9 hX8_appendInt rfl rfl hRm (Nat.le_of_ble_eq_true rfl) (Nat.le_of_ble_eq_true rfl)) (fun x h => kX8_appendInt X.2.1 w P n h) tw_1218 tw_1220 ts_51 rfl (ci := 8) rfl (by decide) rfl rfl (Nat.le_of_ble_eq_true rfl) ⟨Nat.zero_le _, Nat.zero_le _⟩ dX8_append_38 (fun s6 => ?_)
    refine v_aload_n C dX8_append_41 rfl (j := 0) rfl ?_
    refine v_iload C dX8_append_42 (j := 5) rfl ?_
    refine v_callV_wV C [I a5] [] (Cee.of (rm := rX8_appendInt) tw_1221 tw_9 hX8_appendInt rfl rfl hRm (Nat.le_of_ble_eq_true rfl) (Nat.le_of_ble_eq_true rfl)) (fun x h => kX8_appendInt X.2.1 w P n h) tw_1218 tw_1220 ts_51 rfl (ci := 8) rfl (by decide) rfl rfl (Nat.le_of_ble_eq_true rfl) ⟨Nat.zero_le _, Nat.zero_le _⟩ dX8_append_44 (fun s7 => ?_)
    refine v_aload_n C dX8_append_47 rfl (j := 0) rfl ?_
    refine v_getI C 2 rfl (T := TX8) rfl inB8 (by decide) (by decide) rfl tw_1142 dX8_append_48 (fun x8 => ?_)
    exact v_iret C rfl hO pI dX8_append_51
  · skip
    refine v_iconst C dX8_append_18 ?_
    exact v_iret C rfl hO pI dX8_append_19
-- ForesightHubModel.byteAt
theorem hX8_byteAt : yX8_byteAt.cls ≠ "java/lang/invoke/MethodHandle" ∧ yX8_byteAt.cls ≠ "java/lang/invoke/VarHandle" ∧ (parseMethodDescriptor yX8_byteAt.desc).map (fun d => d.parameters.length) = some 1 := by decide +kernel
set_option maxRecDepth 100000 in
theorem kX8_byteAt (l : Launch) (w : Wd) (P : Shp) (n : Nat) {s : St} {a0 : Int} {a1 : Int} {res : Int} (h : fX8_byteAt P s a0 a1 = some res) : Ct l w yX8_byteAt cX8_byteAt 2 (some FieldType.int) rX8_byteAt P n [A w a0, I a1] s (QI w P n res s) :=
  Ct.of h (by decide) (Nat.le_of_ble_eq_true rfl) (lv := [(0, A w a0), (1, I a1)]) rfl fun X hl hRm C hO => by
  subst hl
  unfold fX8_byteAt
  refine v_iload_n C dX8_byteAt_0 rfl (j := 1) rfl ?_
  refine v_aload_n C dX8_byteAt_1 rfl (j := 0) rfl ?_
  refine v_getI C 3 rfl (T := TX8) rfl inB8 (by decide) (by decide) rfl tw_1143 dX8_byteAt_2 (fun x1 => ?_)
  refine v_icmp_ge (tgt := 21) C dX8_byteAt_5 rfl ?_ ?_
  · skip
    refine v_iconst C dX8_byteAt_21 ?_
    exact v_iret C rfl hO pS dX8_byteAt_22
  · skip
    refine v_aload_n C dX8_byteAt_8 rfl (j := 0) rfl ?_
    refine v_getR C 1 rfl (T := TX8) rfl inB8 (by decide) (by decide) rfl tw_1141 dX8_byteAt_9 (fun x2 => ?_)
    refine v_iload_n C dX8_byteAt_12 rfl (j := 1) rfl ?_
    refine v_bald C dX8_byteAt_13 (fun x3 => ?_)
    refine v_sipush C dX8_byteAt_14 (by decide) ?_
    refine v_iand C dX8_byteAt_17 ?_
    refine v_goto (tgt := 22) C dX8_byteAt_18 rfl ?_
    exact v_iret C rfl hO pS dX8_byteAt_22
-- ForesightHubModel.nextToken
set_option maxRecDepth 100000 in
theorem vX8_nextToken_L8 {X : Cxt} {w : Wd} {P : Shp} {n : Nat} (res : St) (hRm : X.2.2.2.1 = rX8_nextToken) (C : Cok X w cX8_nextToken 2 RX8 (Option.none : Option FieldType)) (hO : Own X w 0 0 (QV w P n res))  (c0 : Int) (kE47 : St → Option (St)) (hE47 : ∀ (se : St), V X w 2 P n 0 0 res (kE47 se) se 47 [(0, A w c0)] []) : ∀ (fuel : Nat) (s : St), V X w 2 P n 0 0 res (fX8_nextToken_L8 P c0 kE47 fuel s) s 8 [(0, A w c0)] [] := by
  intro fuel
  induction fuel with
  | zero => intro s; exact v_none
  | succ m ih =>
    intro s
    rw [fX8_nextToken_L8]
    refine v_aload_n C dX8_nextToken_8 rfl (j := 0) rfl ?_
    refine v_aload_n C dX8_nextToken_9 rfl (j := 0) rfl ?_
    refine v_getI C 4 rfl (T := TX8) rfl inB8 (by decide) (by decide) rfl tw_1144 dX8_nextToken_10 (fun x3 => ?_)
    refine v_callV_rI C [I x3] [] (Cee.of (rm := rX8_byteAt) tw_1240 tw_9 hX8_byteAt rfl rfl hRm (Nat.le_of_ble_eq_true rfl) (Nat.le_of_ble_eq_true rfl)) (fun x h => kX8_byteAt X.2.1 w P n h) tw_1237 tw_1239 ts_54 rfl (ci := 8) rfl (by decide) rfl rfl (Nat.le_of_ble_eq_true rfl) ⟨Nat.zero_le _, Nat.zero_le _⟩ dX8_nextToken_13 (fun x4 => ?_)
    refine v_bipush C dX8_nextToken_16 (by decide) ?_
    refine v_jnt (fun (k34 : Option (St)) => V X w 2 P n 0 0 res (k34) s 34 [(0, A w c0)] []) ?_ ?_
    · skip
      refine v_aload_n C dX8_nextToken_34 rfl (j := 0) rfl ?_
      refine v_dup C dX8_nextToken_35 rfl ?_
      refine v_getI C 4 rfl (T := TX8) rfl inB8 (by decide) (by decide) rfl tw_1144 dX8_nextToken_36 (fun x5 => ?_)
      refine v_iconst C dX8_nextToken_39 ?_
      refine v_iadd C dX8_nextToken_40 ?_
      refine v_putI C 4 rfl (T := TX8) rfl inB8 (by decide) tyX8_ok nmX8 (by decide) rfl rfl tw_1144 dX8_nextToken_41 rfl (fun s6 => ?_)
      refine v_goto (tgt := 8) C dX8_nextToken_44 rfl ?_
      exact ih s6
    intro k34 hk34
    refine v_icmp_eq (tgt := 34) C dX8_nextToken_18 rfl ?_ ?_
    · skip
      exact hk34
    · skip
      refine v_aload_n C dX8_nextToken_21 rfl (j := 0) rfl ?_
      refine v_aload_n C dX8_nextToken_22 rfl (j := 0) rfl ?_
      refine v_getI C 4 rfl (T := TX8) rfl inB8 (by decide) (by decide) rfl tw_1144 dX8_nextToken_23 (fun x7 => ?_)
      refine v_callV_rI C [I x7] [] (Cee.of (rm := rX8_byteAt) tw_1240 tw_9 hX8_byteAt rfl rfl hRm (Nat.le_of_ble_eq_true rfl) (Nat.le_of_ble_eq_true rfl)) (fun x h => kX8_byteAt X.2.1 w P n h) tw_1237 tw_1239 ts_54 rfl (ci := 8) rfl (by decide) rfl rfl (Nat.le_of_ble_eq_true rfl) ⟨Nat.zero_le _, Nat.zero_le _⟩ dX8_nextToken_26 (fun x8 => ?_)
      refine v_bipush C dX8_nextToken_29 (by decide) ?_
      refine v_icmp_ne (tgt := 47) C dX8_nextToken_31 rfl ?_ ?_
      · skip
        exact hE47 s
      · skip
        exact hk34
set_option maxRecDepth 100000 in
theorem vX8_nextToken_L166 {X : Cxt} {w : Wd} {P : Shp} {n : Nat} (res : St) (hRm : X.2.2.2.1 = rX8_nextToken) (C : Cok X w cX8_nextToken 2 RX8 (Option.none : Option FieldType)) (hO : Own X w 0 0 (QV w P n res))  (c0 : Int) (kE240 : St → Option (St)) (hE240 : ∀ (se : St), V X w 2 P n 0 0 res (kE240 se) se 240 [(0, A w c0)] []) : ∀ (fuel : Nat) (s : St), V X w 2 P n 0 0 res (fX8_nextToken_L166 P c0 kE240 fuel s) s 166 [(0, A w c0)] [] := by
  intro fuel
  induction fuel with
  | zero => intro s; exact v_none
  | succ m ih =>
    intro s
    rw [fX8_nextToken_L166]
    refine v_aload_n C dX8_nextToken_166 rfl (j := 0) rfl ?_
    refine v_aload_n C dX8_nextToken_167 rfl (j := 0) rfl ?_
    refine v_getI C 5 rfl (T := TX8) rfl inB8 (by decide) (by decide) rfl tw_1145 dX8_nextToken_168 (fun x22 => ?_)
    refine v_callV_rI C [I x22] [] (Cee.of (rm := rX8_byteAt) tw_1240 tw_9 hX8_byteAt rfl rfl hRm (Nat.le_of_ble_eq_true rfl) (Nat.le_of_ble_eq_true rfl)) (fun x h => kX8_byteAt X.2.1 w P n h) tw_1237 tw_1239 ts_54 rfl (ci := 8) rfl (by decide) rfl rfl (Nat.le_of_ble_eq_true rfl) ⟨Nat.zero_le _, Nat.zero_le _⟩ dX8_nextToken_171 (fun x23 => ?_)
    refine v_bipush C dX8_nextToken_174 (by decide) ?_
    refine v_bipush C dX8_nextToken_176 (by decide) ?_
    refine v_callS_rI C [I x23, I 48, I 57] [] (Cee.of (rm := rX8_within) tw_1228 tw_9 hX8_within rfl rfl hRm (Nat.le_of_ble_eq_true rfl) (Nat.le_of_ble_eq_true rfl)) (fun x h => kX8_within X.2.1 w P n h) tw_1226 tw_1227 rfl rfl (Nat.le_of_ble_eq_true rfl) ⟨Nat.zero_le _, Nat.zero_le _⟩ dX8_nextToken_178 (fun x24 => ?_)
    refine v_if_eq (tgt := 240) C dX8_nextToken_181 rfl ?_ ?_
    · skip
      exact hE240 s
    · skip
      refine v_aload_n C dX8_nextToken_184 rfl (j := 0) rfl ?_
      refine v_aload_n C dX8_nextToken_185 rfl (j := 0) rfl ?_
      refine v_getI C 5 rfl (T := TX8) rfl inB8 (by decide) (by decide) rfl tw_1145 dX8_nextToken_186 (fun x25 => ?_)
      refine v_aload_n C dX8_nextToken_189 rfl (j := 0) rfl ?_
      refine v_getI C 4 rfl (T := TX8) rfl inB8 (by decide) (by decide) rfl tw_1144 dX8_nextToken_190 (fun x26 => ?_)
      refine v_isub C dX8_nextToken_193 ?_
      refine v_iconst C dX8_nextToken_194 ?_
      refine v_jnt (fun (k224 : Int → Option (St)) => ∀ (x27 : Int), V X w 2 P n 0 0 res (k224 x27) s 224 [(0, A w c0)] [I x27, A w c0]) ?_ ?_
      · intro x27
        refine v_putI C 7 rfl (T := TX8) rfl inB8 (by decide) tyX8_ok nmX8 (by decide) rfl rfl tw_1147 dX8_nextToken_224 rfl (fun s28 => ?_)
        refine v_aload_n C dX8_nextToken_227 rfl (j := 0) rfl ?_
        refine v_dup C dX8_nextToken_228 rfl ?_
        refine v_getI C 5 rfl (T := TX8) rfl inB8 (by decide) (by decide) rfl tw_1145 dX8_nextToken_229 (fun x29 => ?_)
        refine v_iconst C dX8_nextToken_232 ?_
        refine v_iadd C dX8_nextToken_233 ?_
        refine v_putI C 5 rfl (T := TX8) rfl inB8 (by decide) tyX8_ok nmX8 (by decide) rfl rfl tw_1145 dX8_nextToken_234 rfl (fun s30 => ?_)
        refine v_goto (tgt := 166) C dX8_nextToken_237 rfl ?_
        exact ih s30
      intro k224 hk224
      refine v_icmp_ge (tgt := 220) C dX8_nextToken_195 rfl ?_ ?_
      · skip
        refine v_aload_n C dX8_nextToken_220 rfl (j := 0) rfl ?_
        refine v_getI C 7 rfl (T := TX8) rfl inB8 (by decide) (by decide) rfl tw_1147 dX8_nextToken_221 (fun x31 => ?_)
        exact hk224 x31
      · skip
        refine v_bipush C dX8_nextToken_198 (by decide) ?_
        refine v_aload_n C dX8_nextToken_200 rfl (j := 0) rfl ?_
        refine v_getI C 7 rfl (T := TX8) rfl inB8 (by decide) (by decide) rfl tw_1147 dX8_nextToken_201 (fun x32 => ?_)
        refine v_imul C dX8_nextToken_204 ?_
        refine v_aload_n C dX8_nextToken_205 rfl (j := 0) rfl ?_
        refine v_aload_n C dX8_nextToken_206 rfl (j := 0) rfl ?_
        refine v_getI C 5 rfl (T := TX8) rfl inB8 (by decide) (by decide) rfl tw_1145 dX8_nextToken_207 (fun x33 => ?_)
        refine v_callV_rI C [I x33] [I (10 * x32), A w c0] (Cee.of (rm := rX8_byteAt) tw_1240 tw_9 hX8_byteAt rfl rfl hRm (Nat.le_of_ble_eq_true rfl) (Nat.le_of_ble_eq_true rfl)) (fun x h => kX8_byteAt X.2.1 w P n h) tw_1237 tw_1239 ts_54 rfl (ci := 8) rfl (by decide) rfl rfl (Nat.le_of_ble_eq_true rfl) ⟨Nat.zero_le _, Nat.zero_le _⟩ dX8_nextToken_210 (fun x34 => ?_)
        refine v_iadd C dX8_nextToken_213 ?_
        refine v_bipush C dX8_nextToken_214 (by decide) ?_
        refine v_isub C dX8_nextToken_216 ?_
        refine v_goto (tgt := 224) C dX8_nextToken_217 rfl ?_
        exact hk224 (((10 * x32) + x34) - 48)
set_option maxRecDepth 100000 in
theorem vX8_nextToken_L93 {X : Cxt} {w : Wd} {P : Shp} {n : Nat} (res : St) (hRm : X.2.2.2.1 = rX8_nextToken) (C : Cok X w cX8_nextToken 2 RX8 (Option.none : Option FieldType)) (hO : Own X w 0 0 (QV w P n res))  (c0 : Int) (kE124 : St → Option (St)) (hE124 : ∀ (se : St), V X w 2 P n 0 0 res (kE124 se) se 124 [(0, A w c0)] []) : ∀ (fuel : Nat) (s : St), V X w 2 P n 0 0 res (fX8_nextToken_L93 P c0 kE124 fuel s) s 93 [(0, A w c0)] [] := by
  intro fuel
  induction fuel with
  | zero => intro s; exact v_none
  | succ m ih =>
    intro s
    rw [fX8_nextToken_L93]
    refine v_aload_n C dX8_nextToken_93 rfl (j := 0) rfl ?_
    refine v_aload_n C dX8_nextToken_94 rfl (j := 0) rfl ?_
    refine v_getI C 5 rfl (T := TX8) rfl inB8 (by decide) (by decide) rfl tw_1145 dX8_nextToken_95 (fun x40 => ?_)
    refine v_callV_rI C [I x40] [] (Cee.of (rm := rX8_byteAt) tw_1240 tw_9 hX8_byteAt rfl rfl hRm (Nat.le_of_ble_eq_true rfl) (Nat.le_of_ble_eq_true rfl)) (fun x h => kX8_byteAt X.2.1 w P n h) tw_1237 tw_1239 ts_54 rfl (ci := 8) rfl (by decide) rfl rfl (Nat.le_of_ble_eq_true rfl) ⟨Nat.zero_le _, Nat.zero_le _⟩ dX8_nextToken_98 (fun x41 => ?_)
    refine v_bipush C dX8_nextToken_101 (by decide) ?_
    refine v_bipush C dX8_nextToken_103 (by decide) ?_
    refine v_callS_rI C [I x41, I 97, I 122] [] (Cee.of (rm := rX8_within) tw_1228 tw_9 hX8_within rfl rfl hRm (Nat.le_of_ble_eq_true rfl) (Nat.le_of_ble_eq_true rfl)) (fun x h => kX8_within X.2.1 w P n h) tw_1226 tw_1227 rfl rfl (Nat.le_of_ble_eq_true rfl) ⟨Nat.zero_le _, Nat.zero_le _⟩ dX8_nextToken_105 (fun x42 => ?_)
    refine v_if_eq (tgt := 124) C dX8_nextToken_108 rfl ?_ ?_
    · skip
      exact hE124 s
    · skip
      refine v_aload_n C dX8_nextToken_111 rfl (j := 0) rfl ?_
      refine v_dup C dX8_nextToken_112 rfl ?_
      refine v_getI C 5 rfl (T := TX8) rfl inB8 (by decide) (by decide) rfl tw_1145 dX8_nextToken_113 (fun x43 => ?_)
      refine v_iconst C dX8_nextToken_116 ?_
      refine v_iadd C dX8_nextToken_117 ?_
      refine v_putI C 5 rfl (T := TX8) rfl inB8 (by decide) tyX8_ok nmX8 (by decide) rfl rfl tw_1145 dX8_nextToken_118 rfl (fun s44 => ?_)
      refine v_goto (tgt := 93) C dX8_nextToken_121 rfl ?_
      exact ih s44
theorem hX8_nextToken : yX8_nextToken.cls ≠ "java/lang/invoke/MethodHandle" ∧ yX8_nextToken.cls ≠ "java/lang/invoke/VarHandle" ∧ (parseMethodDescriptor yX8_nextToken.desc).map (fun d => d.parameters.length) = some 0 := by decide +kernel
set_option maxRecDepth 100000 in
theorem kX8_nextToken (l : Launch) (w : Wd) (P : Shp) (n : Nat) {s : St} {a0 : Int} {res : St} (h : fX8_nextToken P s a0 = some res) : Ct l w yX8_nextToken cX8_nextToken 2 (Option.none : Option FieldType) rX8_nextToken P n [A w a0] s (QV w P n res) :=
  Ct.of h (by decide) (Nat.le_of_ble_eq_true rfl) (lv := [(0, A w a0)]) rfl fun X hl hRm C hO => by
  subst hl
  unfold fX8_nextToken
  refine v_aload_n C dX8_nextToken_0 rfl (j := 0) rfl ?_
  refine v_aload_n C dX8_nextToken_1 rfl (j := 0) rfl ?_
  refine v_getI C 5 rfl (T := TX8) rfl inB8 (by decide) (by decide) rfl tw_1145 dX8_nextToken_2 (fun x1 => ?_)
  refine v_putI C 4 rfl (T := TX8) rfl inB8 (by decide) tyX8_ok nmX8 (by decide) rfl rfl tw_1144 dX8_nextToken_5 rfl (fun s2 => ?_)
  refine vX8_nextToken_L8 res hRm C hO a0 _ ?_ 1000 s2
  · intro s9
    refine v_aload_n C dX8_nextToken_47 rfl (j := 0) rfl ?_
    refine v_aload_n C dX8_nextToken_48 rfl (j := 0) rfl ?_
    refine v_getI C 4 rfl (T := TX8) rfl inB8 (by decide) (by decide) rfl tw_1144 dX8_nextToken_49 (fun x10 => ?_)
    refine v_callV_rI C [I x10] [] (Cee.of (rm := rX8_byteAt) tw_1240 tw_9 hX8_byteAt rfl rfl hRm (Nat.le_of_ble_eq_true rfl) (Nat.le_of_ble_eq_true rfl)) (fun x h => kX8_byteAt X.2.1 w P n h) tw_1237 tw_1239 ts_54 rfl (ci := 8) rfl (by decide) rfl rfl (Nat.le_of_ble_eq_true rfl) ⟨Nat.zero_le _, Nat.zero_le _⟩ dX8_nextToken_52 (fun x11 => ?_)
    refine v_istore_n C [(1, I x11), (0, A w a0)] dX8_nextToken_55 rfl (by decide) rfl ?_
    refine v_aload_n C dX8_nextToken_56 rfl (j := 1) rfl ?_
    refine v_aload_n C dX8_nextToken_57 rfl (j := 1) rfl ?_
    refine v_getI C 4 rfl (T := TX8) rfl inB8 (by decide) (by decide) rfl tw_1144 dX8_nextToken_58 (fun x12 => ?_)
    refine v_putI C 5 rfl (T := TX8) rfl inB8 (by decide) tyX8_ok nmX8 (by decide) rfl rfl tw_1145 dX8_nextToken_61 rfl (fun s13 => ?_)
    refine v_aload_n C dX8_nextToken_64 rfl (j := 1) rfl ?_
    refine v_iconst C dX8_nextToken_65 ?_
    refine v_putI C 6 rfl (T := TX8) rfl inB8 (by decide) tyX8_ok nmX8 (by decide) rfl rfl tw_1146 dX8_nextToken_66 rfl (fun s14 => ?_)
    refine v_iload_n C dX8_nextToken_69 rfl (j := 0) rfl ?_
    refine v_iconst C dX8_nextToken_70 ?_
    refine v_icmp_ne (tgt := 82) C dX8_nextToken_71 rfl ?_ ?_
    · skip
      refine v_iload_n C dX8_nextToken_82 rfl (j := 0) rfl ?_
      refine v_bipush C dX8_nextToken_83 (by decide) ?_
      refine v_bipush C dX8_nextToken_85 (by decide) ?_
      refine v_callS_rI C [I x11, I 97, I 122] [] (Cee.of (rm := rX8_within) tw_1228 tw_9 hX8_within rfl rfl hRm (Nat.le_of_ble_eq_true rfl) (Nat.le_of_ble_eq_true rfl)) (fun x h => kX8_within X.2.1 w P n h) tw_1226 tw_1227 rfl rfl (Nat.le_of_ble_eq_true rfl) ⟨Nat.zero_le _, Nat.zero_le _⟩ dX8_nextToken_87 (fun x15 => ?_)
      refine v_if_eq (tgt := 150) C dX8_nextToken_90 rfl ?_ ?_
      · skip
        refine v_iload_n C dX8_nextToken_150 rfl (j := 0) rfl ?_
        refine v_bipush C dX8_nextToken_151 (by decide) ?_
        refine v_bipush C dX8_nextToken_153 (by decide) ?_
        refine v_callS_rI C [I x11, I 48, I 57] [] (Cee.of (rm := rX8_within) tw_1228 tw_9 hX8_within rfl rfl hRm (Nat.le_of_ble_eq_true rfl) (Nat.le_of_ble_eq_true rfl)) (fun x h => kX8_within X.2.1 w P n h) tw_1226 tw_1227 rfl rfl (Nat.le_of_ble_eq_true rfl) ⟨Nat.zero_le _, Nat.zero_le _⟩ dX8_nextToken_155 (fun x16 => ?_)
        refine v_if_eq (tgt := 265) C dX8_nextToken_158 rfl ?_ ?_
        · skip
          refine v_aload_n C dX8_nextToken_265 rfl (j := 1) rfl ?_
          refine v_dup C dX8_nextToken_266 rfl ?_
          refine v_getI C 5 rfl (T := TX8) rfl inB8 (by decide) (by decide) rfl tw_1145 dX8_nextToken_267 (fun x17 => ?_)
          refine v_iconst C dX8_nextToken_270 ?_
          refine v_iadd C dX8_nextToken_271 ?_
          refine v_putI C 5 rfl (T := TX8) rfl inB8 (by decide) tyX8_ok nmX8 (by decide) rfl rfl tw_1145 dX8_nextToken_272 rfl (fun s18 => ?_)
          refine v_aload_n C dX8_nextToken_275 rfl (j := 1) rfl ?_
          refine v_iload_n C dX8_nextToken_276 rfl (j := 0) rfl ?_
          refine v_bipush C dX8_nextToken_277 (by decide) ?_
          refine v_jnt (fun (k287 : Int → Option (St)) => ∀ (x19 : Int), V X w 2 P n 0 0 res (k287 x19) s18 287 [] [I x19, A w a0]) ?_ ?_
          · intro x19
            refine v_putI C 6 rfl (T := TX8) rfl inB8 (by decide) tyX8_ok nmX8 (by decide) rfl rfl tw_1146 dX8_nextToken_287 rfl (fun s20 => ?_)
            exact v_vret C rfl hO (fun h => Option.some.inj h) dX8_nextToken_290
          intro k287 hk287
          refine v_icmp_ne (tgt := 286) C dX8_nextToken_279 rfl ?_ ?_
          · skip
            refine v_iconst C dX8_nextToken_286 ?_
            refine v_sub [] [] rfl ?_
            exact hk287 4
          · skip
            refine v_iconst C dX8_nextToken_282 ?_
            refine v_goto (tgt := 287) C dX8_nextToken_283 rfl ?_
            refine v_sub [] [] rfl ?_
            exact hk287 3
        · skip
          refine v_aload_n C dX8_nextToken_161 rfl (j := 1) rfl ?_
          refine v_iconst C dX8_nextToken_162 ?_
          refine v_putI C 7 rfl (T := TX8) rfl inB8 (by decide) tyX8_ok nmX8 (by decide) rfl rfl tw_1147 dX8_nextToken_163 rfl (fun s21 => ?_)
          refine v_sub [(0, A w a0)] [1] rfl ?_
          refine vX8_nextToken_L166 res hRm C hO a0 _ ?_ 1000 s21
          · intro s35
            refine v_aload_n C dX8_nextToken_240 rfl (j := 0) rfl ?_
            refine v_aload_n C dX8_nextToken_241 rfl (j := 0) rfl ?_
            refine v_getI C 5 rfl (T := TX8) rfl inB8 (by decide) (by decide) rfl tw_1145 dX8_nextToken_242 (fun x36 => ?_)
            refine v_aload_n C dX8_nextToken_245 rfl (j := 0) rfl ?_
            refine v_getI C 4 rfl (T := TX8) rfl inB8 (by decide) (by decide) rfl tw_1144 dX8_nextToken_246 (fun x37 => ?_)
            refine v_isub C dX8_nextToken_249 ?_
            refine v_iconst C dX8_nextToken_250 ?_
            refine v_jnt (fun (k259 : Int → Option (St)) => ∀ (x38 : Int), V X w 2 P n 0 0 res (k259 x38) s35 259 [] [I x38, A w a0]) ?_ ?_
            · intro x38
              refine v_putI C 6 rfl (T := TX8) rfl inB8 (by decide) tyX8_ok nmX8 (by decide) rfl rfl tw_1146 dX8_nextToken_259 rfl (fun s39 => ?_)
              refine v_goto (tgt := 290) C dX8_nextToken_262 rfl ?_
              exact v_vret C rfl hO (fun h => Option.some.inj h) dX8_nextToken_290
            intro k259 hk259
            refine v_icmp_le (tgt := 258) C dX8_nextToken_251 rfl ?_ ?_
            · skip
              refine v_iconst C dX8_nextToken_258 ?_
              refine v_sub [] [] rfl ?_
              exact hk259 2
            · skip
              refine v_iconst C dX8_nextToken_254 ?_
              refine v_goto (tgt := 259) C dX8_nextToken_255 rfl ?_
              refine v_sub [] [] rfl ?_
              exact hk259 4
      · skip
        refine v_sub [(0, A w a0)] [1] rfl ?_
        refine vX8_nextToken_L93 res hRm C hO a0 _ ?_ 1000 s14
        · intro s45
          refine v_aload_n C dX8_nextToken_124 rfl (j := 0) rfl ?_
          refine v_aload_n C dX8_nextToken_125 rfl (j := 0) rfl ?_
          refine v_getI C 5 rfl (T := TX8) rfl inB8 (by decide) (by decide) rfl tw_1145 dX8_nextToken_126 (fun x46 => ?_)
          refine v_aload_n C dX8_nextToken_129 rfl (j := 0) rfl ?_
          refine v_getI C 4 rfl (T := TX8) rfl inB8 (by decide) (by decide) rfl tw_1144 dX8_nextToken_130 (fun x47 => ?_)
          refine v_isub C dX8_nextToken_133 ?_
          refine v_bipush C dX8_nextToken_134 (by decide) ?_
          refine v_jnt (fun (k144 : Int → Option (St)) => ∀ (x48 : Int), V X w 2 P n 0 0 res (k144 x48) s45 144 [] [I x48, A w a0]) ?_ ?_
          · intro x48
            refine v_putI C 6 rfl (T := TX8) rfl inB8 (by decide) tyX8_ok nmX8 (by decide) rfl rfl tw_1146 dX8_nextToken_144 rfl (fun s49 => ?_)
            refine v_goto (tgt := 290) C dX8_nextToken_147 rfl ?_
            exact v_vret C rfl hO (fun h => Option.some.inj h) dX8_nextToken_290
          intro k144 hk144
          refine v_icmp_le (tgt := 143) C dX8_nextToken_136 rfl ?_ ?_
          · skip
            refine v_iconst C dX8_nextToken_143 ?_
            refine v_sub [] [] rfl ?_
            exact hk144 1
          · skip
            refine v_iconst C dX8_nextToken_139 ?_
            refine v_goto (tgt := 144) C dX8_nextToken_140 rfl ?_
            refine v_sub [] [] rfl ?_
            exact hk144 4
    · skip
      refine v_aload_n C dX8_nextToken_74 rfl (j := 1) rfl ?_
      refine v_iconst C dX8_nextToken_75 ?_
      refine v_putI C 6 rfl (T := TX8) rfl inB8 (by decide) tyX8_ok nmX8 (by decide) rfl rfl tw_1146 dX8_nextToken_76 rfl (fun s50 => ?_)
      refine v_goto (tgt := 290) C dX8_nextToken_79 rfl ?_
      exact v_vret C rfl hO (fun h => Option.some.inj h) dX8_nextToken_290
-- ForesightHubModel.must
theorem hX8_must : yX8_must.cls ≠ "java/lang/invoke/MethodHandle" ∧ yX8_must.cls ≠ "java/lang/invoke/VarHandle" ∧ (parseMethodDescriptor yX8_must.desc).map (fun d => d.parameters.length) = some 2 := by decide +kernel
set_option maxRecDepth 100000 in
theorem kX8_must (l : Launch) (w : Wd) (P : Shp) (n : Nat) {s : St} {a0 : Int} {a1 : Int} {a2 : Int} {res : Int × St} (h : fX8_must P s a0 a1 a2 = some res) : Ct l w yX8_must cX8_must 3 (some FieldType.boolean) rX8_must P n [A w a0, I a1, I a2] s (QI w P n res.1 res.2) :=
  Ct.of h (by decide) (Nat.le_of_ble_eq_true rfl) (lv := [(0, A w a0), (1, I a1), (2, I a2)]) rfl fun X hl hRm C hO => by
  subst hl
  unfold fX8_must
  refine v_aload_n C dX8_must_0 rfl (j := 0) rfl ?_
  refine v_getI C 8 rfl (T := TX8) rfl inB8 (by decide) (by decide) rfl tw_1148 dX8_must_1 (fun x1 => ?_)
  refine v_jnt (fun (k24 : St → Option (Int × St)) => ∀ (s2 : St), V X w 3 P n 0 0 res (k24 s2) s2 24 [(0, A w a0)] []) ?_ ?_
  · intro s2
    refine v_aload_n C dX8_must_24 rfl (j := 0) rfl ?_
    refine v_getI C 8 rfl (T := TX8) rfl inB8 (by decide) (by decide) rfl tw_1148 dX8_must_25 (fun x3 => ?_)
    refine v_if_ne (tgt := 35) C dX8_must_28 rfl ?_ ?_
    · skip
      refine v_iconst C dX8_must_35 ?_
      exact v_zret C rfl hO pI dX8_must_36
    · skip
      refine v_iconst C dX8_must_31 ?_
      refine v_goto (tgt := 36) C dX8_must_32 rfl ?_
      exact v_zret C rfl hO pI dX8_must_36
  intro k24 hk24
  refine v_if_ne (tgt := 24) C dX8_must_4 rfl ?_ ?_
  · skip
    refine v_sub [(0, A w a0)] [0] rfl ?_
    exact hk24 s
  · skip
    refine v_iload_n C dX8_must_7 rfl (j := 1) rfl ?_
    refine v_if_ne (tgt := 24) C dX8_must_8 rfl ?_ ?_
    · skip
      refine v_sub [(0, A w a0)] [0] rfl ?_
      exact hk24 s
    · skip
      refine v_aload_n C dX8_must_11 rfl (j := 0) rfl ?_
      refine v_iload_n C dX8_must_12 rfl (j := 2) rfl ?_
      refine v_putI C 8 rfl (T := TX8) rfl inB8 (by decide) tyX8_ok nmX8 (by decide) rfl rfl tw_1148 dX8_must_13 rfl (fun s4 => ?_)
      refine v_aload_n C dX8_must_16 rfl (j := 0) rfl ?_
      refine v_aload_n C dX8_must_17 rfl (j := 0) rfl ?_
      refine v_getI C 4 rfl (T := TX8) rfl inB8 (by decide) (by decide) rfl tw_1144 dX8_must_18 (fun x5 => ?_)
      refine v_putI C 9 rfl (T := TX8) rfl inB8 (by decide) tyX8_ok nmX8 (by decide) rfl rfl tw_1149 dX8_must_21 rfl (fun s6 => ?_)
      refine v_sub [(0, A w a0)] [0] rfl ?_
      exact hk24 s6
-- ForesightHubModel.isWord
set_option maxRecDepth 100000 in
theorem vX8_isWord_L39 {X : Cxt} {w : Wd} {P : Shp} {n : Nat} {s : St} (res : Int) (hRm : X.2.2.2.1 = rX8_isWord) (C : Cok X w cX8_isWord 4 RX8 (some FieldType.boolean)) (hO : Own X w 0 0 (QI w P n res s))  (c0 : Int) (c1 : Int) (kE82 : Int → Option (Int)) (hE82 : ∀ (p2e : Int), V X w 4 P n 0 0 res (kE82 p2e) s 82 [(2, I p2e)] []) : ∀ (fuel : Nat) (p2 p3 : Int), V X w 4 P n 0 0 res (fX8_isWord_L39 P s c0 c1 kE82 fuel p2 p3) s 39 [(0, A w c0), (1, A w c1), (2, I p2), (3, I p3)] [] := by
  intro fuel
  induction fuel with
  | zero => intro p2 p3; exact v_none
  | succ m ih =>
    intro p2 p3
    rw [fX8_isWord_L39]
    refine v_iload_n C dX8_isWord_39 rfl (j := 3) rfl ?_
    refine v_aload_n C dX8_isWord_40 rfl (j := 1) rfl ?_
    refine v_sln C [I p3] tw_1246 tw_562 hRm (Nat.le_of_ble_eq_true rfl) (Nat.le_of_ble_eq_true rfl) rfl (Nat.le_of_ble_eq_true rfl) ⟨Nat.zero_le _, Nat.zero_le _⟩ dX8_isWord_41 (fun x3 => ?_)
    refine v_icmp_ge (tgt := 82) C dX8_isWord_44 rfl ?_ ?_
    · skip
      refine v_sub [(2, I p2)] [2] rfl ?_
      exact hE82 p2
    · skip
      refine v_iload_n C dX8_isWord_47 rfl (j := 2) rfl ?_
      refine v_if_eq (tgt := 82) C dX8_isWord_48 rfl ?_ ?_
      · skip
        refine v_sub [(2, I p2)] [2] rfl ?_
        exact hE82 p2
      · skip
        refine v_aload_n C dX8_isWord_51 rfl (j := 0) rfl ?_
        refine v_getR C 1 rfl (T := TX8) rfl inB8 (by decide) (by decide) rfl tw_1141 dX8_isWord_52 (fun x4 => ?_)
        refine v_aload_n C dX8_isWord_55 rfl (j := 0) rfl ?_
        refine v_getI C 4 rfl (T := TX8) rfl inB8 (by decide) (by decide) rfl tw_1144 dX8_isWord_56 (fun x5 => ?_)
        refine v_iload_n C dX8_isWord_59 rfl (j := 3) rfl ?_
        refine v_iadd C dX8_isWord_60 ?_
        refine v_bald C dX8_isWord_61 (fun x6 => ?_)
        refine v_aload_n C dX8_isWord_62 rfl (j := 1) rfl ?_
        refine v_iload_n C dX8_isWord_63 rfl (j := 3) rfl ?_
        refine v_sch C [I x6] tw_1247 tw_572 hRm (Nat.le_of_ble_eq_true rfl) (Nat.le_of_ble_eq_true rfl) rfl (Nat.le_of_ble_eq_true rfl) ⟨Nat.zero_le _, Nat.zero_le _⟩ dX8_isWord_64 (fun x7 => ?_)
        refine v_jnt (fun (k75 : Int → Option (Int)) => ∀ (x8 : Int), V X w 4 P n 0 0 res (k75 x8) s 75 [(0, A w c0), (1, A w c1), (3, I p3)] [I x8]) ?_ ?_
        · intro x8
          refine v_istore_n C [(2, I x8), (0, A w c0), (1, A w c1), (3, I p3)] dX8_isWord_75 rfl (by decide) rfl ?_
          refine v_iinc C (j := 3) [(2, I x8), (0, A w c0), (1, A w c1)] dX8_isWord_76 (by decide) rfl (fun _ => rfl) (fun x9 => ?_)
          refine v_goto (tgt := 39) C dX8_isWord_79 rfl ?_
          refine v_sub [(0, A w c0), (1, A w c1), (2, I x8), (3, I x9)] [2, 3, 1, 0] rfl ?_
          exact ih x8 x9
        intro k75 hk75
        refine v_icmp_ne (tgt := 74) C dX8_isWord_67 rfl ?_ ?_
        · skip
          refine v_iconst C dX8_isWord_74 ?_
          refine v_sub [(0, A w c0), (1, A w c1), (3, I p3)] [0, 1, 3] rfl ?_
          exact hk75 0
        · skip
          refine v_iconst C dX8_isWord_70 ?_
          refine v_goto (tgt := 75) C dX8_isWord_71 rfl ?_
          refine v_sub [(0, A w c0), (1, A w c1), (3, I p3)] [0, 1, 3] rfl ?_
          exact hk75 1
theorem hX8_isWord : yX8_isWord.cls ≠ "java/lang/invoke/MethodHandle" ∧ yX8_isWord.cls ≠ "java/lang/invoke/VarHandle" ∧ (parseMethodDescriptor yX8_isWord.desc).map (fun d => d.parameters.length) = some 1 := by decide +kernel
set_option maxRecDepth 100000 in
theorem kX8_isWord (l : Launch) (w : Wd) (P : Shp) (n : Nat) {s : St} {a0 : Int} {a1 : Int} {res : Int} (h : fX8_isWord P s a0 a1 = some res) : Ct l w yX8_isWord cX8_isWord 4 (some FieldType.boolean) rX8_isWord P n [A w a0, A w a1] s (QI w P n res s) :=
  Ct.of h (by decide) (Nat.le_of_ble_eq_true rfl) (lv := [(0, A w a0), (1, A w a1)]) rfl fun X hl hRm C hO => by
  subst hl
  unfold fX8_isWord
  refine v_aload_n C dX8_isWord_0 rfl (j := 0) rfl ?_
  refine v_getI C 8 rfl (T := TX8) rfl inB8 (by decide) (by decide) rfl tw_1148 dX8_isWord_1 (fun x1 => ?_)
  refine v_jnt (fun (k36 : Int → Option (Int)) => ∀ (x2 : Int), V X w 4 P n 0 0 res (k36 x2) s 36 [(0, A w a0), (1, A w a1)] [I x2]) ?_ ?_
  · intro x2
    refine v_istore_n C [(2, I x2), (0, A w a0), (1, A w a1)] dX8_isWord_36 rfl (by decide) rfl ?_
    refine v_iconst C dX8_isWord_37 ?_
    refine v_istore_n C [(3, I 0), (2, I x2), (0, A w a0), (1, A w a1)] dX8_isWord_38 rfl (by decide) rfl ?_
    refine v_sub [(0, A w a0), (1, A w a1), (2, I x2), (3, I 0)] [2, 3, 1, 0] rfl ?_
    refine vX8_isWord_L39 res hRm C hO a0 a1 _ ?_ 1000 x2 0
    · intro x10
      refine v_iload_n C dX8_isWord_82 rfl (j := 0) rfl ?_
      exact v_zret C rfl hO pS dX8_isWord_83
  intro k36 hk36
  refine v_jnt (fun (k35 : Option (Int)) => V X w 4 P n 0 0 res (k35) s 35 [(0, A w a0), (1, A w a1)] []) ?_ ?_
  · skip
    refine v_iconst C dX8_isWord_35 ?_
    exact hk36 0
  intro k35 hk35
  refine v_if_ne (tgt := 35) C dX8_isWord_4 rfl ?_ ?_
  · skip
    exact hk35
  · skip
    refine v_aload_n C dX8_isWord_7 rfl (j := 0) rfl ?_
    refine v_getI C 6 rfl (T := TX8) rfl inB8 (by decide) (by decide) rfl tw_1146 dX8_isWord_8 (fun x11 => ?_)
    refine v_iconst C dX8_isWord_11 ?_
    refine v_icmp_ne (tgt := 35) C dX8_isWord_12 rfl ?_ ?_
    · skip
      exact hk35
    · skip
      refine v_aload_n C dX8_isWord_15 rfl (j := 0) rfl ?_
      refine v_getI C 5 rfl (T := TX8) rfl inB8 (by decide) (by decide) rfl tw_1145 dX8_isWord_16 (fun x12 => ?_)
      refine v_aload_n C dX8_isWord_19 rfl (j := 0) rfl ?_
      refine v_getI C 4 rfl (T := TX8) rfl inB8 (by decide) (by decide) rfl tw_1144 dX8_isWord_20 (fun x13 => ?_)
      refine v_isub C dX8_isWord_23 ?_
      refine v_aload_n C dX8_isWord_24 rfl (j := 1) rfl ?_
      refine v_sln C [I (x12 - x13)] tw_1246 tw_562 hRm (Nat.le_of_ble_eq_true rfl) (Nat.le_of_ble_eq_true rfl) rfl (Nat.le_of_ble_eq_true rfl) ⟨Nat.zero_le _, Nat.zero_le _⟩ dX8_isWord_25 (fun x14 => ?_)
      refine v_icmp_ne (tgt := 35) C dX8_isWord_28 rfl ?_ ?_
      · skip
        exact hk35
      · skip
        refine v_iconst C dX8_isWord_31 ?_
        refine v_goto (tgt := 36) C dX8_isWord_32 rfl ?_
        exact hk36 1
