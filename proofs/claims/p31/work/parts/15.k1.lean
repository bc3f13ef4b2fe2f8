/-! CONTRACTS (laid by wip/p31/gen/wmake.py) -/
-- ForesightHub$Reader.faultAnswer
theorem hX5_faultAnswer : yX5_faultAnswer.cls ≠ "java/lang/invoke/MethodHandle" ∧ yX5_faultAnswer.cls ≠ "java/lang/invoke/VarHandle" ∧ (parseMethodDescriptor yX5_faultAnswer.desc).map (fun d => d.parameters.length) = some 0 := by decide +kernel
set_option maxRecDepth 100000 in
theorem kX5_faultAnswer (l : Launch) (w : Wd) (P : Shp) (n : Nat) {s : St} {a0 : Int} {res : Int} (h : fX5_faultAnswer P s a0 = some res) : Ct l w yX5_faultAnswer cX5_faultAnswer 1 (some FieldType.int) rX5_faultAnswer P n [A w a0] s (QI w P n res s) :=
  Ct.of h (by decide) (Nat.le_of_ble_eq_true rfl) (lv := [(0, A w a0)]) rfl fun X hl hRm C hO => by
  subst hl
  unfold fX5_faultAnswer
  refine v_bipush C dX5_faultAnswer_0 (by decide) ?_
  refine v_bipush C dX5_faultAnswer_2 (by decide) ?_
  refine v_aload_n C dX5_faultAnswer_4 rfl (j := 0) rfl ?_
  refine v_getI C 7 rfl (T := TX5) rfl inB5 (by decide) (by decide) rfl tw_152 dX5_faultAnswer_5 (fun x1 => ?_)
  refine v_imul C dX5_faultAnswer_8 ?_
  refine v_aload_n C dX5_faultAnswer_9 rfl (j := 0) rfl ?_
  refine v_getI C 8 rfl (T := TX5) rfl inB5 (by decide) (by decide) rfl tw_153 dX5_faultAnswer_10 (fun x2 => ?_)
  refine v_iadd C dX5_faultAnswer_13 ?_
  refine v_isub C dX5_faultAnswer_14 ?_
  exact v_iret C rfl hO pS dX5_faultAnswer_15
-- ForesightHub$Reader.exchangePlan
theorem hX5_exchangePlan : yX5_exchangePlan.cls ≠ "java/lang/invoke/MethodHandle" ∧ yX5_exchangePlan.cls ≠ "java/lang/invoke/VarHandle" ∧ (parseMethodDescriptor yX5_exchangePlan.desc).map (fun d => d.parameters.length) = some 1 := by decide +kernel
set_option maxRecDepth 100000 in
theorem kX5_exchangePlan (l : Launch) (w : Wd) (P : Shp) (n : Nat) {s : St} {a0 : Int} {a1 : Int} {res : Int × St} (h : fX5_exchangePlan P s a0 a1 = some res) : Ct l w yX5_exchangePlan cX5_exchangePlan 3 (some (FieldType.object "ForesightHub$Plan")) rX5_exchangePlan P n [A w a0, A w a1] s (QR w P n res.1 res.2) :=
  Ct.of h (by decide) (Nat.le_of_ble_eq_true rfl) (lv := [(0, A w a0), (1, A w a1)]) rfl fun X hl hRm C hO => by
  subst hl
  unfold fX5_exchangePlan
  refine v_aload_n C dX5_exchangePlan_0 rfl (j := 0) rfl ?_
  refine v_getR C 9 rfl (T := TX5) rfl inB5 (by decide) (by decide) rfl tw_154 dX5_exchangePlan_1 (fun x1 => ?_)
  refine v_astore_n C [(2, A w x1), (0, A w a0), (1, A w a1)] dX5_exchangePlan_4 rfl (by decide) rfl ?_
  refine v_aload_n C dX5_exchangePlan_5 rfl (j := 1) rfl ?_
  refine v_aload_n C dX5_exchangePlan_6 rfl (j := 2) rfl ?_
  refine v_putR C 9 rfl (T := TX5) rfl inB5 (by decide) tyX5_ok nmX5 (by decide) rfl rfl tw_154 dX5_exchangePlan_7 (Or.inl ⟨_, rfl⟩) (fun s2 => ?_)
  refine v_aload_n C dX5_exchangePlan_10 rfl (j := 0) rfl ?_
  exact v_aret C rfl hO pI dX5_exchangePlan_11
-- ForesightHub$ErrorBook.clear
set_option maxRecDepth 100000 in
theorem vX0_clear_L7 {X : Cxt} {w : Wd} {P : Shp} {n : Nat} (res : St) (hRm : X.2.2.2.1 = rX0_clear) (C : Cok X w cX0_clear 2 RX0 (Option.none : Option FieldType)) (hO : Own X w 0 0 (QV w P n res))  (c0 : Int) (kE26 : St → Option (St)) (hE26 : ∀ (se : St), V X w 2 P n 0 0 res (kE26 se) se 26 [(0, A w c0)] []) : ∀ (fuel : Nat) (p1 : Int) (s : St), V X w 2 P n 0 0 res (fX0_clear_L7 P c0 kE26 fuel p1 s) s 7 [(0, A w c0), (1, I p1)] [] := by
  intro fuel
  induction fuel with
  | zero => intro p1 s; exact v_none
  | succ m ih =>
    intro p1 s
    rw [fX0_clear_L7]
    refine v_iload_n C dX0_clear_7 rfl (j := 1) rfl ?_
    refine v_bipush C dX0_clear_8 (by decide) ?_
    refine v_icmp_ge (tgt := 26) C dX0_clear_10 rfl ?_ ?_
    · skip
      refine v_sub [(0, A w c0)] [0] rfl ?_
      exact hE26 s
    · skip
      refine v_aload_n C dX0_clear_13 rfl (j := 0) rfl ?_
      refine v_getR C 5 rfl (T := TX0) rfl inB0 (by decide) (by decide) rfl tw_216 dX0_clear_14 (fun x2 => ?_)
      refine v_iload_n C dX0_clear_17 rfl (j := 1) rfl ?_
      refine v_iconst C dX0_clear_18 ?_
      refine v_iast C dX0_clear_19 (fun s3 => ?_)
      refine v_iinc C (j := 1) [(0, A w c0)] dX0_clear_20 (by decide) rfl (fun _ => rfl) (fun x4 => ?_)
      refine v_goto (tgt := 7) C dX0_clear_23 rfl ?_
      refine v_sub [(0, A w c0), (1, I x4)] [1, 0] rfl ?_
      exact ih x4 s3
set_option maxRecDepth 100000 in
theorem vX0_clear_L28 {X : Cxt} {w : Wd} {P : Shp} {n : Nat} (res : St) (hRm : X.2.2.2.1 = rX0_clear) (C : Cok X w cX0_clear 2 RX0 (Option.none : Option FieldType)) (hO : Own X w 0 0 (QV w P n res))  (c0 : Int) (kE47 : St → Option (St)) (hE47 : ∀ (se : St), V X w 2 P n 0 0 res (kE47 se) se 47 [] []) : ∀ (fuel : Nat) (p1 : Int) (s : St), V X w 2 P n 0 0 res (fX0_clear_L28 P c0 kE47 fuel p1 s) s 28 [(0, A w c0), (1, I p1)] [] := by
  intro fuel
  induction fuel with
  | zero => intro p1 s; exact v_none
  | succ m ih =>
    intro p1 s
    rw [fX0_clear_L28]
    refine v_iload_n C dX0_clear_28 rfl (j := 1) rfl ?_
    refine v_bipush C dX0_clear_29 (by decide) ?_
    refine v_icmp_ge (tgt := 47) C dX0_clear_31 rfl ?_ ?_
    · skip
      refine v_sub [] [] rfl ?_
      exact hE47 s
    · skip
      refine v_aload_n C dX0_clear_34 rfl (j := 0) rfl ?_
      refine v_getR C 0 rfl (T := TX0) rfl inB0 (by decide) (by decide) rfl tw_209 dX0_clear_35 (fun x6 => ?_)
      refine v_iload_n C dX0_clear_38 rfl (j := 1) rfl ?_
      refine v_iconst C dX0_clear_39 ?_
      refine v_iast C dX0_clear_40 (fun s7 => ?_)
      refine v_iinc C (j := 1) [(0, A w c0)] dX0_clear_41 (by decide) rfl (fun _ => rfl) (fun x8 => ?_)
      refine v_goto (tgt := 28) C dX0_clear_44 rfl ?_
      refine v_sub [(0, A w c0), (1, I x8)] [1, 0] rfl ?_
      exact ih x8 s7
theorem hX0_clear : yX0_clear.cls ≠ "java/lang/invoke/MethodHandle" ∧ yX0_clear.cls ≠ "java/lang/invoke/VarHandle" ∧ (parseMethodDescriptor yX0_clear.desc).map (fun d => d.parameters.length) = some 0 := by decide +kernel
set_option maxRecDepth 100000 in
theorem kX0_clear (l : Launch) (w : Wd) (P : Shp) (n : Nat) {s : St} {a0 : Int} {res : St} (h : fX0_clear P s a0 = some res) : Ct l w yX0_clear cX0_clear 2 (Option.none : Option FieldType) rX0_clear P n [A w a0] s (QV w P n res) :=
  Ct.of h (by decide) (Nat.le_of_ble_eq_true rfl) (lv := [(0, A w a0)]) rfl fun X hl hRm C hO => by
  subst hl
  unfold fX0_clear
  refine v_aload_n C dX0_clear_0 rfl (j := 0) rfl ?_
  refine v_iconst C dX0_clear_1 ?_
  refine v_putI C 3 rfl (T := TX0) rfl inB0 (by decide) tyX0_ok nmX0 (by decide) rfl rfl tw_214 dX0_clear_2 rfl (fun s1 => ?_)
  refine v_iconst C dX0_clear_5 ?_
  refine v_istore_n C [(1, I 0), (0, A w a0)] dX0_clear_6 rfl (by decide) rfl ?_
  refine v_sub [(0, A w a0), (1, I 0)] [1, 0] rfl ?_
  refine vX0_clear_L7 res hRm C hO a0 _ ?_ 1000 0 s1
  · intro s5
    refine v_iconst C dX0_clear_26 ?_
    refine v_istore_n C [(1, I 0), (0, A w a0)] dX0_clear_27 rfl (by decide) rfl ?_
    refine v_sub [(0, A w a0), (1, I 0)] [1, 0] rfl ?_
    refine vX0_clear_L28 res hRm C hO a0 _ ?_ 1000 0 s5
    · intro s9
      exact v_vret C rfl hO (fun h => Option.some.inj h) dX0_clear_47
-- ForesightHub$Log.clear
set_option maxRecDepth 100000 in
theorem vX3_clear_L12 {X : Cxt} {w : Wd} {P : Shp} {n : Nat} (res : St) (hRm : X.2.2.2.1 = rX3_clear) (C : Cok X w cX3_clear 2 RX3 (Option.none : Option FieldType)) (hO : Own X w 0 0 (QV w P n res))  (c0 : Int) (kE31 : St → Option (St)) (hE31 : ∀ (se : St), V X w 2 P n 0 0 res (kE31 se) se 31 [] []) : ∀ (fuel : Nat) (p1 : Int) (s : St), V X w 2 P n 0 0 res (fX3_clear_L12 P c0 kE31 fuel p1 s) s 12 [(0, A w c0), (1, I p1)] [] := by
  intro fuel
  induction fuel with
  | zero => intro p1 s; exact v_none
  | succ m ih =>
    intro p1 s
    rw [fX3_clear_L12]
    refine v_iload_n C dX3_clear_12 rfl (j := 1) rfl ?_
    refine v_bipush C dX3_clear_13 (by decide) ?_
    refine v_icmp_ge (tgt := 31) C dX3_clear_15 rfl ?_ ?_
    · skip
      refine v_sub [] [] rfl ?_
      exact hE31 s
    · skip
      refine v_aload_n C dX3_clear_18 rfl (j := 0) rfl ?_
      refine v_getR C 5 rfl (T := TX3) rfl inB3 (by decide) (by decide) rfl tw_241 dX3_clear_19 (fun x3 => ?_)
      refine v_iload_n C dX3_clear_22 rfl (j := 1) rfl ?_
      refine v_iconst C dX3_clear_23 ?_
      refine v_iast C dX3_clear_24 (fun s4 => ?_)
      refine v_iinc C (j := 1) [(0, A w c0)] dX3_clear_25 (by decide) rfl (fun _ => rfl) (fun x5 => ?_)
      refine v_goto (tgt := 12) C dX3_clear_28 rfl ?_
      refine v_sub [(0, A w c0), (1, I x5)] [1, 0] rfl ?_
      exact ih x5 s4
theorem hX3_clear : yX3_clear.cls ≠ "java/lang/invoke/MethodHandle" ∧ yX3_clear.cls ≠ "java/lang/invoke/VarHandle" ∧ (parseMethodDescriptor yX3_clear.desc).map (fun d => d.parameters.length) = some 0 := by decide +kernel
set_option maxRecDepth 100000 in
theorem kX3_clear (l : Launch) (w : Wd) (P : Shp) (n : Nat) {s : St} {a0 : Int} {res : St} (h : fX3_clear P s a0 = some res) : Ct l w yX3_clear cX3_clear 2 (Option.none : Option FieldType) rX3_clear P n [A w a0] s (QV w P n res) :=
  Ct.of h (by decide) (Nat.le_of_ble_eq_true rfl) (lv := [(0, A w a0)]) rfl fun X hl hRm C hO => by
  subst hl
  unfold fX3_clear
  refine v_aload_n C dX3_clear_0 rfl (j := 0) rfl ?_
  refine v_iconst C dX3_clear_1 ?_
  refine v_putI C 0 rfl (T := TX3) rfl inB3 (by decide) tyX3_ok nmX3 (by decide) rfl rfl tw_236 dX3_clear_2 rfl (fun s1 => ?_)
  refine v_aload_n C dX3_clear_5 rfl (j := 0) rfl ?_
  refine v_iconst C dX3_clear_6 ?_
  refine v_putI C 1 rfl (T := TX3) rfl inB3 (by decide) tyX3_ok nmX3 (by decide) rfl rfl tw_237 dX3_clear_7 rfl (fun s2 => ?_)
  refine v_iconst C dX3_clear_10 ?_
  refine v_istore_n C [(1, I 0), (0, A w a0)] dX3_clear_11 rfl (by decide) rfl ?_
  refine v_sub [(0, A w a0), (1, I 0)] [1, 0] rfl ?_
  refine vX3_clear_L12 res hRm C hO a0 _ ?_ 1000 0 s2
  · intro s6
    exact v_vret C rfl hO (fun h => Option.some.inj h) dX3_clear_31
-- ForesightHub$State.begin
set_option maxRecDepth 100000 in
theorem vX6_begin_L15 {X : Cxt} {w : Wd} {P : Shp} {n : Nat} (res : St) (hRm : X.2.2.2.1 = rX6_begin) (C : Cok X w cX6_begin 3 RX6 (Option.none : Option FieldType)) (hO : Own X w 0 0 (QV w P n res))  (c0 : Int) (c1 : Int) (kE58 : St → Option (St)) (hE58 : ∀ (se : St), V X w 3 P n 0 0 res (kE58 se) se 58 [(0, A w c0)] []) : ∀ (fuel : Nat) (p2 : Int) (s : St), V X w 3 P n 0 0 res (fX6_begin_L15 P c0 c1 kE58 fuel p2 s) s 15 [(0, A w c0), (1, A w c1), (2, I p2)] [] := by
  intro fuel
  induction fuel with
  | zero => intro p2 s; exact v_none
  | succ m ih =>
    intro p2 s
    rw [fX6_begin_L15]
    refine v_iload_n C dX6_begin_15 rfl (j := 2) rfl ?_
    refine v_bipush C dX6_begin_16 (by decide) ?_
    refine v_icmp_ge (tgt := 58) C dX6_begin_18 rfl ?_ ?_
    · skip
      refine v_sub [(0, A w c0)] [0] rfl ?_
      exact hE58 s
    · skip
      refine v_aload_n C dX6_begin_21 rfl (j := 0) rfl ?_
      refine v_getR C 2 rfl (T := TX6) rfl inB6 (by decide) (by decide) rfl tw_263 dX6_begin_22 (fun x4 => ?_)
      refine v_iload_n C dX6_begin_25 rfl (j := 2) rfl ?_
      refine v_iload_n C dX6_begin_26 rfl (j := 2) rfl ?_
      refine v_aload_n C dX6_begin_27 rfl (j := 1) rfl ?_
      refine v_getI C 5 rfl (T := TX4) rfl inB4 (by decide) (by decide) rfl tw_70 dX6_begin_28 (fun x5 => ?_)
      refine v_jnt (fun (k44 : Int → Option (St)) => ∀ (x6 : Int), V X w 3 P n 0 0 res (k44 x6) s 44 [(0, A w c0), (1, A w c1), (2, I p2)] [I x6, I p2, A w x4]) ?_ ?_
      · intro x6
        refine v_iast C dX6_begin_44 (fun s7 => ?_)
        refine v_aload_n C dX6_begin_45 rfl (j := 0) rfl ?_
        refine v_getR C 3 rfl (T := TX6) rfl inB6 (by decide) (by decide) rfl tw_266 dX6_begin_46 (fun x8 => ?_)
        refine v_iload_n C dX6_begin_49 rfl (j := 2) rfl ?_
        refine v_iconst C dX6_begin_50 ?_
        refine v_iast C dX6_begin_51 (fun s9 => ?_)
        refine v_iinc C (j := 2) [(0, A w c0), (1, A w c1)] dX6_begin_52 (by decide) rfl (fun _ => rfl) (fun x10 => ?_)
        refine v_goto (tgt := 15) C dX6_begin_55 rfl ?_
        refine v_sub [(0, A w c0), (1, A w c1), (2, I x10)] [1, 2, 0] rfl ?_
        exact ih x10 s9
      intro k44 hk44
      refine v_icmp_ge (tgt := 43) C dX6_begin_31 rfl ?_ ?_
      · skip
        refine v_iconst C dX6_begin_43 ?_
        exact hk44 ((-1))
      · skip
        refine v_aload_n C dX6_begin_34 rfl (j := 1) rfl ?_
        refine v_getR C 11 rfl (T := TX4) rfl inB4 (by decide) (by decide) rfl tw_91 dX6_begin_35 (fun x11 => ?_)
        refine v_iload_n C dX6_begin_38 rfl (j := 2) rfl ?_
        refine v_iald C dX6_begin_39 (fun x12 => ?_)
        refine v_goto (tgt := 44) C dX6_begin_40 rfl ?_
        exact hk44 x12
set_option maxRecDepth 100000 in
theorem vX6_begin_L60 {X : Cxt} {w : Wd} {P : Shp} {n : Nat} (res : St) (hRm : X.2.2.2.1 = rX6_begin) (C : Cok X w cX6_begin 3 RX6 (Option.none : Option FieldType)) (hO : Own X w 0 0 (QV w P n res))  (c0 : Int) (kE100 : St → Option (St)) (hE100 : ∀ (se : St), V X w 3 P n 0 0 res (kE100 se) se 100 [(0, A w c0)] []) : ∀ (fuel : Nat) (p2 : Int) (s : St), V X w 3 P n 0 0 res (fX6_begin_L60 P c0 kE100 fuel p2 s) s 60 [(0, A w c0), (2, I p2)] [] := by
  intro fuel
  induction fuel with
  | zero => intro p2 s; exact v_none
  | succ m ih =>
    intro p2 s
    rw [fX6_begin_L60]
    refine v_iload_n C dX6_begin_60 rfl (j := 1) rfl ?_
    refine v_bipush C dX6_begin_61 (by decide) ?_
    refine v_icmp_ge (tgt := 100) C dX6_begin_63 rfl ?_ ?_
    · skip
      refine v_sub [(0, A w c0)] [0] rfl ?_
      exact hE100 s
    · skip
      refine v_aload_n C dX6_begin_66 rfl (j := 0) rfl ?_
      refine v_getR C 4 rfl (T := TX6) rfl inB6 (by decide) (by decide) rfl tw_268 dX6_begin_67 (fun x14 => ?_)
      refine v_iload_n C dX6_begin_70 rfl (j := 1) rfl ?_
      refine v_iconst C dX6_begin_71 ?_
      refine v_iast C dX6_begin_72 (fun s15 => ?_)
      refine v_aload_n C dX6_begin_73 rfl (j := 0) rfl ?_
      refine v_getR C 5 rfl (T := TX6) rfl inB6 (by decide) (by decide) rfl tw_271 dX6_begin_74 (fun x16 => ?_)
      refine v_iload_n C dX6_begin_77 rfl (j := 1) rfl ?_
      refine v_iconst C dX6_begin_78 ?_
      refine v_iast C dX6_begin_79 (fun s17 => ?_)
      refine v_aload_n C dX6_begin_80 rfl (j := 0) rfl ?_
      refine v_getR C 6 rfl (T := TX6) rfl inB6 (by decide) (by decide) rfl tw_274 dX6_begin_81 (fun x18 => ?_)
      refine v_iload_n C dX6_begin_84 rfl (j := 1) rfl ?_
      refine v_iconst C dX6_begin_85 ?_
      refine v_iast C dX6_begin_86 (fun s19 => ?_)
      refine v_aload_n C dX6_begin_87 rfl (j := 0) rfl ?_
      refine v_getR C 7 rfl (T := TX6) rfl inB6 (by decide) (by decide) rfl tw_277 dX6_begin_88 (fun x20 => ?_)
      refine v_iload_n C dX6_begin_91 rfl (j := 1) rfl ?_
      refine v_lconst (z := 0) C dX6_begin_92 rfl ?_
      refine v_last C dX6_begin_93 (fun s21 => ?_)
      refine v_iinc C (j := 1) [(0, A w c0)] dX6_begin_94 (by decide) rfl (fun _ => rfl) (fun x22 => ?_)
      refine v_goto (tgt := 60) C dX6_begin_97 rfl ?_
      refine v_sub [(0, A w c0), (2, I x22)] [1, 0] rfl ?_
      exact ih x22 s21
theorem hX6_begin : yX6_begin.cls ≠ "java/lang/invoke/MethodHandle" ∧ yX6_begin.cls ≠ "java/lang/invoke/VarHandle" ∧ (parseMethodDescriptor yX6_begin.desc).map (fun d => d.parameters.length) = some 1 := by decide +kernel
set_option maxRecDepth 100000 in
theorem kX6_begin (l : Launch) (w : Wd) (P : Shp) (n : Nat) {s : St} {a0 : Int} {a1 : Int} {res : St} (h : fX6_begin P s a0 a1 = some res) : Ct l w yX6_begin cX6_begin 3 (Option.none : Option FieldType) rX6_begin P n [A w a0, A w a1] s (QV w P n res) :=
  Ct.of h (by decide) (Nat.le_of_ble_eq_true rfl) (lv := [(0, A w a0), (1, A w a1)]) rfl fun X hl hRm C hO => by
  subst hl
  unfold fX6_begin
  refine v_aload_n C dX6_begin_0 rfl (j := 0) rfl ?_
  refine v_iconst C dX6_begin_1 ?_
  refine v_putI C 0 rfl (T := TX6) rfl inB6 (by decide) tyX6_ok nmX6 (by decide) rfl rfl tw_257 dX6_begin_2 rfl (fun s1 => ?_)
  refine v_aload_n C dX6_begin_5 rfl (j := 0) rfl ?_
  refine v_aload_n C dX6_begin_6 rfl (j := 1) rfl ?_
  refine v_getI C 2 rfl (T := TX4) rfl inB4 (by decide) (by decide) rfl tw_58 dX6_begin_7 (fun x2 => ?_)
  refine v_putI C 1 rfl (T := TX6) rfl inB6 (by decide) tyX6_ok nmX6 (by decide) rfl rfl tw_261 dX6_begin_10 rfl (fun s3 => ?_)
  refine v_iconst C dX6_begin_13 ?_
  refine v_istore_n C [(2, I 0), (0, A w a0), (1, A w a1)] dX6_begin_14 rfl (by decide) rfl ?_
  refine v_sub [(0, A w a0), (1, A w a1), (2, I 0)] [1, 2, 0] rfl ?_
  refine vX6_begin_L15 res hRm C hO a0 a1 _ ?_ 1000 0 s3
  · intro s13
    refine v_iconst C dX6_begin_58 ?_
    refine v_istore_n C [(2, I 0), (0, A w a0)] dX6_begin_59 rfl (by decide) rfl ?_
    refine v_sub [(0, A w a0), (2, I 0)] [1, 0] rfl ?_
    refine vX6_begin_L60 res hRm C hO a0 _ ?_ 1000 0 s13
    · intro s23
      refine v_aload_n C dX6_begin_100 rfl (j := 0) rfl ?_
      refine v_getR C 8 rfl (T := TX6) rfl inB6 (by decide) (by decide) rfl tw_279 dX6_begin_101 (fun x24 => ?_)
      refine v_callV_wV C [] [] (Cee.of (rm := rX0_clear) tw_950 tw_6 hX0_clear rfl rfl hRm (Nat.le_of_ble_eq_true rfl) (Nat.le_of_ble_eq_true rfl)) (fun x h => kX0_clear X.2.1 w _ _ h) tw_947 tw_948 tw_949 rfl (ci := 0) rfl (by decide) rfl rfl (Nat.le_of_ble_eq_true rfl) ⟨Nat.zero_le _, Nat.zero_le _⟩ dX6_begin_104 (fun s25 => ?_)
      refine v_aload_n C dX6_begin_107 rfl (j := 0) rfl ?_
      refine v_getR C 9 rfl (T := TX6) rfl inB6 (by decide) (by decide) rfl tw_282 dX6_begin_108 (fun x26 => ?_)
      refine v_callV_wV C [] [] (Cee.of (rm := rX3_clear) tw_954 tw_7 hX3_clear rfl rfl hRm (Nat.le_of_ble_eq_true rfl) (Nat.le_of_ble_eq_true rfl)) (fun x h => kX3_clear X.2.1 w _ _ h) tw_951 tw_952 tw_953 rfl (ci := 3) rfl (by decide) rfl rfl (Nat.le_of_ble_eq_true rfl) ⟨Nat.zero_le _, Nat.zero_le _⟩ dX6_begin_111 (fun s27 => ?_)
      exact v_vret C rfl hO (fun h => Option.some.inj h) dX6_begin_114
-- ForesightHub$Hub.isDevice
theorem hX2_isDevice : yX2_isDevice.cls ≠ "java/lang/invoke/MethodHandle" ∧ yX2_isDevice.cls ≠ "java/lang/invoke/VarHandle" ∧ (parseMethodDescriptor yX2_isDevice.desc).map (fun d => d.parameters.length) = some 1 := by decide +kernel
set_option maxRecDepth 100000 in
theorem kX2_isDevice (l : Launch) (w : Wd) (P : Shp) (n : Nat) {s : St} {a0 : Int} {a1 : Int} {res : Int} (h : fX2_isDevice P s a0 a1 = some res) : Ct l w yX2_isDevice cX2_isDevice 2 (some FieldType.boolean) rX2_isDevice P n [A w a0, I a1] s (QI w P n res s) :=
  Ct.of h (by decide) (Nat.le_of_ble_eq_true rfl) (lv := [(0, A w a0), (1, I a1)]) rfl fun X hl hRm C hO => by
  subst hl
  unfold fX2_isDevice
  refine v_iload_n C dX2_isDevice_0 rfl (j := 1) rfl ?_
  refine v_if_lt (tgt := 25) C dX2_isDevice_1 rfl ?_ ?_
  · skip
    refine v_iconst C dX2_isDevice_25 ?_
    exact v_zret C rfl hO pS dX2_isDevice_26
  · skip
    refine v_iload_n C dX2_isDevice_4 rfl (j := 1) rfl ?_
    refine v_aload_n C dX2_isDevice_5 rfl (j := 0) rfl ?_
    refine v_getR C 0 rfl (T := TX2) rfl inB2 (by decide) (by decide) rfl tw_306 dX2_isDevice_6 (fun x1 => ?_)
    refine v_getI C 5 rfl (T := TX4) rfl inB4 (by decide) (by decide) rfl tw_71 dX2_isDevice_9 (fun x2 => ?_)
    refine v_icmp_ge (tgt := 25) C dX2_isDevice_12 rfl ?_ ?_
    · skip
      refine v_iconst C dX2_isDevice_25 ?_
      exact v_zret C rfl hO pS dX2_isDevice_26
    · skip
      refine v_iload_n C dX2_isDevice_15 rfl (j := 1) rfl ?_
      refine v_bipush C dX2_isDevice_16 (by decide) ?_
      refine v_icmp_ge (tgt := 25) C dX2_isDevice_18 rfl ?_ ?_
      · skip
        refine v_iconst C dX2_isDevice_25 ?_
        exact v_zret C rfl hO pS dX2_isDevice_26
      · skip
        refine v_iconst C dX2_isDevice_21 ?_
        refine v_goto (tgt := 26) C dX2_isDevice_22 rfl ?_
        exact v_zret C rfl hO pS dX2_isDevice_26
-- ForesightHub$Hub.canHold
theorem hX2_canHold : yX2_canHold.cls ≠ "java/lang/invoke/MethodHandle" ∧ yX2_canHold.cls ≠ "java/lang/invoke/VarHandle" ∧ (parseMethodDescriptor yX2_canHold.desc).map (fun d => d.parameters.length) = some 1 := by decide +kernel
set_option maxRecDepth 100000 in
theorem kX2_canHold (l : Launch) (w : Wd) (P : Shp) (n : Nat) {s : St} {a0 : Int} {a1 : Int} {res : Int} (h : fX2_canHold P s a0 a1 = some res) : Ct l w yX2_canHold cX2_canHold 2 (some FieldType.boolean) rX2_canHold P n [A w a0, I a1] s (QI w P n res s) :=
  Ct.of h (by decide) (Nat.le_of_ble_eq_true rfl) (lv := [(0, A w a0), (1, I a1)]) rfl fun X hl hRm C hO => by
  subst hl
  unfold fX2_canHold
  refine v_aload_n C dX2_canHold_0 rfl (j := 0) rfl ?_
  refine v_iload_n C dX2_canHold_1 rfl (j := 1) rfl ?_
  refine v_callV_rI C [I a1] [] (Cee.of (rm := rX2_isDevice) tw_440 tw_4 hX2_isDevice rfl rfl hRm (Nat.le_of_ble_eq_true rfl) (Nat.le_of_ble_eq_true rfl)) (fun x h => kX2_isDevice X.2.1 w _ _ h) tw_461 tw_438 tw_439 rfl (ci := 2) rfl (by decide) rfl rfl (Nat.le_of_ble_eq_true rfl) ⟨Nat.zero_le _, Nat.zero_le _⟩ dX2_canHold_2 (fun x1 => ?_)
  refine v_if_eq (tgt := 38) C dX2_canHold_5 rfl ?_ ?_
  · skip
    refine v_iconst C dX2_canHold_38 ?_
    exact v_zret C rfl hO pS dX2_canHold_39
  · skip
    refine v_aload_n C dX2_canHold_8 rfl (j := 0) rfl ?_
    refine v_getR C 1 rfl (T := TX2) rfl inB2 (by decide) (by decide) rfl tw_308 dX2_canHold_9 (fun x2 => ?_)
    refine v_getR C 2 rfl (T := TX6) rfl inB6 (by decide) (by decide) rfl tw_264 dX2_canHold_12 (fun x3 => ?_)
    refine v_iload_n C dX2_canHold_15 rfl (j := 1) rfl ?_
    refine v_iald C dX2_canHold_16 (fun x4 => ?_)
    refine v_iconst C dX2_canHold_17 ?_
    refine v_icmp_eq (tgt := 38) C dX2_canHold_18 rfl ?_ ?_
    · skip
      refine v_iconst C dX2_canHold_38 ?_
      exact v_zret C rfl hO pS dX2_canHold_39
    · skip
      refine v_aload_n C dX2_canHold_21 rfl (j := 0) rfl ?_
      refine v_getR C 1 rfl (T := TX2) rfl inB2 (by decide) (by decide) rfl tw_308 dX2_canHold_22 (fun x5 => ?_)
      refine v_getR C 3 rfl (T := TX6) rfl inB6 (by decide) (by decide) rfl tw_267 dX2_canHold_25 (fun x6 => ?_)
      refine v_iload_n C dX2_canHold_28 rfl (j := 1) rfl ?_
      refine v_iald C dX2_canHold_29 (fun x7 => ?_)
      refine v_iconst C dX2_canHold_30 ?_
      refine v_icmp_ne (tgt := 38) C dX2_canHold_31 rfl ?_ ?_
      · skip
        refine v_iconst C dX2_canHold_38 ?_
        exact v_zret C rfl hO pS dX2_canHold_39
      · skip
        refine v_iconst C dX2_canHold_34 ?_
        refine v_goto (tgt := 39) C dX2_canHold_35 rfl ?_
        exact v_zret C rfl hO pS dX2_canHold_39
-- ForesightHub$Hub.heirOfHome
theorem hX2_heirOfHome : yX2_heirOfHome.cls ≠ "java/lang/invoke/MethodHandle" ∧ yX2_heirOfHome.cls ≠ "java/lang/invoke/VarHandle" ∧ (parseMethodDescriptor yX2_heirOfHome.desc).map (fun d => d.parameters.length) = some 1 := by decide +kernel
set_option maxRecDepth 100000 in
theorem kX2_heirOfHome (l : Launch) (w : Wd) (P : Shp) (n : Nat) {s : St} {a0 : Int} {a1 : Int} {res : Int} (h : fX2_heirOfHome P s a0 a1 = some res) : Ct l w yX2_heirOfHome cX2_heirOfHome 3 (some FieldType.int) rX2_heirOfHome P n [A w a0, I a1] s (QI w P n res s) :=
  Ct.of h (by decide) (Nat.le_of_ble_eq_true rfl) (lv := [(0, A w a0), (1, I a1)]) rfl fun X hl hRm C hO => by
  subst hl
  unfold fX2_heirOfHome
  refine v_aload_n C dX2_heirOfHome_0 rfl (j := 0) rfl ?_
  refine v_getR C 0 rfl (T := TX2) rfl inB2 (by decide) (by decide) rfl tw_306 dX2_heirOfHome_1 (fun x1 => ?_)
  refine v_getR C 13 rfl (T := TX4) rfl inB4 (by decide) (by decide) rfl tw_100 dX2_heirOfHome_4 (fun x2 => ?_)
  refine v_iload_n C dX2_heirOfHome_7 rfl (j := 1) rfl ?_
  refine v_iald C dX2_heirOfHome_8 (fun x3 => ?_)
  refine v_istore_n C [(2, I x3), (0, A w a0), (1, I a1)] dX2_heirOfHome_9 rfl (by decide) rfl ?_
  refine v_aload_n C dX2_heirOfHome_10 rfl (j := 1) rfl ?_
  refine v_iload_n C dX2_heirOfHome_11 rfl (j := 0) rfl ?_
  refine v_callV_rI C [I x3] [] (Cee.of (rm := rX2_isDevice) tw_440 tw_4 hX2_isDevice rfl rfl hRm (Nat.le_of_ble_eq_true rfl) (Nat.le_of_ble_eq_true rfl)) (fun x h => kX2_isDevice X.2.1 w _ _ h) tw_461 tw_438 tw_439 rfl (ci := 2) rfl (by decide) rfl rfl (Nat.le_of_ble_eq_true rfl) ⟨Nat.zero_le _, Nat.zero_le _⟩ dX2_heirOfHome_12 (fun x4 => ?_)
  refine v_if_eq (tgt := 30) C dX2_heirOfHome_15 rfl ?_ ?_
  · skip
    refine v_iconst C dX2_heirOfHome_30 ?_
    exact v_iret C rfl hO pS dX2_heirOfHome_31
  · skip
    refine v_aload_n C dX2_heirOfHome_18 rfl (j := 1) rfl ?_
    refine v_getR C 0 rfl (T := TX2) rfl inB2 (by decide) (by decide) rfl tw_306 dX2_heirOfHome_19 (fun x5 => ?_)
    refine v_getR C 12 rfl (T := TX4) rfl inB4 (by decide) (by decide) rfl tw_96 dX2_heirOfHome_22 (fun x6 => ?_)
    refine v_iload_n C dX2_heirOfHome_25 rfl (j := 0) rfl ?_
    refine v_iald C dX2_heirOfHome_26 (fun x7 => ?_)
    refine v_goto (tgt := 31) C dX2_heirOfHome_27 rfl ?_
    exact v_iret C rfl hO pS dX2_heirOfHome_31
-- ForesightHub$Hub.wantedHolder
theorem hX2_wantedHolder : yX2_wantedHolder.cls ≠ "java/lang/invoke/MethodHandle" ∧ yX2_wantedHolder.cls ≠ "java/lang/invoke/VarHandle" ∧ (parseMethodDescriptor yX2_wantedHolder.desc).map (fun d => d.parameters.length) = some 1 := by decide +kernel
set_option maxRecDepth 100000 in
theorem kX2_wantedHolder (l : Launch) (w : Wd) (P : Shp) (n : Nat) {s : St} {a0 : Int} {a1 : Int} {res : Int} (h : fX2_wantedHolder P s a0 a1 = some res) : Ct l w yX2_wantedHolder cX2_wantedHolder 4 (some FieldType.int) rX2_wantedHolder P n [A w a0, I a1] s (QI w P n res s) :=
  Ct.of h (by decide) (Nat.le_of_ble_eq_true rfl) (lv := [(0, A w a0), (1, I a1)]) rfl fun X hl hRm C hO => by
  subst hl
  unfold fX2_wantedHolder
  refine v_aload_n C dX2_wantedHolder_0 rfl (j := 0) rfl ?_
  refine v_getR C 0 rfl (T := TX2) rfl inB2 (by decide) (by decide) rfl tw_306 dX2_wantedHolder_1 (fun x1 => ?_)
  refine v_getR C 13 rfl (T := TX4) rfl inB4 (by decide) (by decide) rfl tw_100 dX2_wantedHolder_4 (fun x2 => ?_)
  refine v_iload_n C dX2_wantedHolder_7 rfl (j := 1) rfl ?_
  refine v_iald C dX2_wantedHolder_8 (fun x3 => ?_)
  refine v_istore_n C [(2, I x3), (0, A w a0), (1, I a1)] dX2_wantedHolder_9 rfl (by decide) rfl ?_
  refine v_aload_n C dX2_wantedHolder_10 rfl (j := 1) rfl ?_
  refine v_iload_n C dX2_wantedHolder_11 rfl (j := 0) rfl ?_
  refine v_callV_rI C [I x3] [] (Cee.of (rm := rX2_canHold) tw_970 tw_4 hX2_canHold rfl rfl hRm (Nat.le_of_ble_eq_true rfl) (Nat.le_of_ble_eq_true rfl)) (fun x h => kX2_canHold X.2.1 w _ _ h) tw_967 tw_969 ts_23 rfl (ci := 2) rfl (by decide) rfl rfl (Nat.le_of_ble_eq_true rfl) ⟨Nat.zero_le _, Nat.zero_le _⟩ dX2_wantedHolder_12 (fun x4 => ?_)
  refine v_if_eq (tgt := 20) C dX2_wantedHolder_15 rfl ?_ ?_
  · skip
    refine v_aload_n C dX2_wantedHolder_20 rfl (j := 1) rfl ?_
    refine v_iload_n C dX2_wantedHolder_21 rfl (j := 2) rfl ?_
    refine v_callV_rI C [I a1] [] (Cee.of (rm := rX2_heirOfHome) tw_974 tw_4 hX2_heirOfHome rfl rfl hRm (Nat.le_of_ble_eq_true rfl) (Nat.le_of_ble_eq_true rfl)) (fun x h => kX2_heirOfHome X.2.1 w _ _ h) tw_971 tw_973 ts_24 rfl (ci := 2) rfl (by decide) rfl rfl (Nat.le_of_ble_eq_true rfl) ⟨Nat.zero_le _, Nat.zero_le _⟩ dX2_wantedHolder_22 (fun x5 => ?_)
    refine v_istore_n C [(3, I x5), (2, I x3), (0, A w a0), (1, I a1)] dX2_wantedHolder_25 rfl (by decide) rfl ?_
    refine v_aload_n C dX2_wantedHolder_26 rfl (j := 2) rfl ?_
    refine v_iload_n C dX2_wantedHolder_27 rfl (j := 0) rfl ?_
    refine v_callV_rI C [I x5] [] (Cee.of (rm := rX2_canHold) tw_970 tw_4 hX2_canHold rfl rfl hRm (Nat.le_of_ble_eq_true rfl) (Nat.le_of_ble_eq_true rfl)) (fun x h => kX2_canHold X.2.1 w _ _ h) tw_967 tw_969 ts_23 rfl (ci := 2) rfl (by decide) rfl rfl (Nat.le_of_ble_eq_true rfl) ⟨Nat.zero_le _, Nat.zero_le _⟩ dX2_wantedHolder_28 (fun x6 => ?_)
    refine v_if_eq (tgt := 38) C dX2_wantedHolder_31 rfl ?_ ?_
    · skip
      refine v_iconst C dX2_wantedHolder_38 ?_
      exact v_iret C rfl hO pS dX2_wantedHolder_39
    · skip
      refine v_iload_n C dX2_wantedHolder_34 rfl (j := 0) rfl ?_
      refine v_goto (tgt := 39) C dX2_wantedHolder_35 rfl ?_
      exact v_iret C rfl hO pS dX2_wantedHolder_39
  · skip
    refine v_iload_n C dX2_wantedHolder_18 rfl (j := 0) rfl ?_
    exact v_iret C rfl hO pS dX2_wantedHolder_19
-- ForesightHub$Log.add
theorem hX3_add : yX3_add.cls ≠ "java/lang/invoke/MethodHandle" ∧ yX3_add.cls ≠ "java/lang/invoke/VarHandle" ∧ (parseMethodDescriptor yX3_add.desc).map (fun d => d.parameters.length) = some 3 := by decide +kernel
set_option maxRecDepth 100000 in
theorem kX3_add (l : Launch) (w : Wd) (P : Shp) (n : Nat) {s : St} {a0 : Int} {a1 : Int} {a2 : Int} {a3 : Int} {res : St} (h : fX3_add P s a0 a1 a2 a3 = some res) : Ct l w yX3_add cX3_add 4 (Option.none : Option FieldType) rX3_add P n [A w a0, I a1, I a2, I a3] s (QV w P n res) :=
  Ct.of h (by decide) (Nat.le_of_ble_eq_true rfl) (lv := [(0, A w a0), (1, I a1), (2, I a2), (3, I a3)]) rfl fun X hl hRm C hO => by
  subst hl
  unfold fX3_add
  refine v_iload_n C dX3_add_0 rfl (j := 1) rfl ?_
  refine v_jnt (fun (k20 : St → Option (St)) => ∀ (s1 : St), V X w 4 P n 0 0 res (k20 s1) s1 20 [(0, A w a0), (1, I a1), (2, I a2), (3, I a3)] []) ?_ ?_
  · intro s1
    refine v_aload_n C dX3_add_20 rfl (j := 0) rfl ?_
    refine v_getI C 1 rfl (T := TX3) rfl inB3 (by decide) (by decide) rfl tw_237 dX3_add_21 (fun x2 => ?_)
    refine v_jnt (fun (k41 : St → Option (St)) => ∀ (s3 : St), V X w 4 P n 0 0 res (k41 s3) s3 41 [(0, A w a0), (1, I a1), (2, I a2), (3, I a3)] []) ?_ ?_
    · intro s3
      refine v_aload_n C dX3_add_41 rfl (j := 0) rfl ?_
      refine v_getR C 2 rfl (T := TX3) rfl inB3 (by decide) (by decide) rfl tw_238 dX3_add_42 (fun x4 => ?_)
      refine v_aload_n C dX3_add_45 rfl (j := 0) rfl ?_
      refine v_getI C 1 rfl (T := TX3) rfl inB3 (by decide) (by decide) rfl tw_237 dX3_add_46 (fun x5 => ?_)
      refine v_iload_n C dX3_add_49 rfl (j := 1) rfl ?_
      refine v_iast C dX3_add_50 (fun s6 => ?_)
      refine v_aload_n C dX3_add_51 rfl (j := 0) rfl ?_
      refine v_getR C 3 rfl (T := TX3) rfl inB3 (by decide) (by decide) rfl tw_239 dX3_add_52 (fun x7 => ?_)
      refine v_aload_n C dX3_add_55 rfl (j := 0) rfl ?_
      refine v_getI C 1 rfl (T := TX3) rfl inB3 (by decide) (by decide) rfl tw_237 dX3_add_56 (fun x8 => ?_)
      refine v_iload_n C dX3_add_59 rfl (j := 2) rfl ?_
      refine v_iast C dX3_add_60 (fun s9 => ?_)
      refine v_aload_n C dX3_add_61 rfl (j := 0) rfl ?_
      refine v_getR C 4 rfl (T := TX3) rfl inB3 (by decide) (by decide) rfl tw_240 dX3_add_62 (fun x10 => ?_)
      refine v_aload_n C dX3_add_65 rfl (j := 0) rfl ?_
      refine v_getI C 1 rfl (T := TX3) rfl inB3 (by decide) (by decide) rfl tw_237 dX3_add_66 (fun x11 => ?_)
      refine v_iload_n C dX3_add_69 rfl (j := 3) rfl ?_
      refine v_iast C dX3_add_70 (fun s12 => ?_)
      refine v_aload_n C dX3_add_71 rfl (j := 0) rfl ?_
      refine v_dup C dX3_add_72 rfl ?_
      refine v_getI C 1 rfl (T := TX3) rfl inB3 (by decide) (by decide) rfl tw_237 dX3_add_73 (fun x13 => ?_)
      refine v_iconst C dX3_add_76 ?_
      refine v_iadd C dX3_add_77 ?_
      refine v_putI C 1 rfl (T := TX3) rfl inB3 (by decide) tyX3_ok nmX3 (by decide) rfl rfl tw_237 dX3_add_78 rfl (fun s14 => ?_)
      refine v_aload_n C dX3_add_81 rfl (j := 0) rfl ?_
      refine v_aload_n C dX3_add_82 rfl (j := 0) rfl ?_
      refine v_getI C 0 rfl (T := TX3) rfl inB3 (by decide) (by decide) rfl tw_236 dX3_add_83 (fun x15 => ?_)
      refine v_iconst C dX3_add_86 ?_
      refine v_iadd C dX3_add_87 ?_
      refine v_bipush C dX3_add_88 (by decide) ?_
      refine v_mn C tw_979 tw_479 tw_13 tw_480 (by rw [hRm]; exact Nat.le_of_ble_eq_true rfl) (by rw [hRm]; exact Nat.le_of_ble_eq_true rfl) (Nat.le_of_ble_eq_true rfl) ⟨Nat.zero_le _, Nat.zero_le _⟩ dX3_add_90 (fun x16 => ?_)
      refine v_putI C 0 rfl (T := TX3) rfl inB3 (by decide) tyX3_ok nmX3 (by decide) rfl rfl tw_236 dX3_add_93 rfl (fun s17 => ?_)
      exact v_vret C rfl hO (fun h => Option.some.inj h) dX3_add_96
    intro k41 hk41
    refine v_jnt (fun (k36 : Option (St)) => V X w 4 P n 0 0 res (k36) s1 36 [(0, A w a0), (1, I a1), (2, I a2), (3, I a3)] []) ?_ ?_
    · skip
      refine v_aload_n C dX3_add_36 rfl (j := 0) rfl ?_
      refine v_iconst C dX3_add_37 ?_
      refine v_putI C 1 rfl (T := TX3) rfl inB3 (by decide) tyX3_ok nmX3 (by decide) rfl rfl tw_237 dX3_add_38 rfl (fun s18 => ?_)
      exact hk41 s18
    intro k36 hk36
    refine v_if_lt (tgt := 36) C dX3_add_24 rfl ?_ ?_
    · skip
      exact hk36
    · skip
      refine v_aload_n C dX3_add_27 rfl (j := 0) rfl ?_
      refine v_getI C 1 rfl (T := TX3) rfl inB3 (by decide) (by decide) rfl tw_237 dX3_add_28 (fun x19 => ?_)
      refine v_bipush C dX3_add_31 (by decide) ?_
      refine v_icmp_lt (tgt := 41) C dX3_add_33 rfl ?_ ?_
      · skip
        exact hk41 s1
      · skip
        exact hk36
  intro k20 hk20
  refine v_if_lt (tgt := 20) C dX3_add_1 rfl ?_ ?_
  · skip
    exact hk20 s
  · skip
    refine v_iload_n C dX3_add_4 rfl (j := 1) rfl ?_
    refine v_bipush C dX3_add_5 (by decide) ?_
    refine v_icmp_ge (tgt := 20) C dX3_add_7 rfl ?_ ?_
    · skip
      exact hk20 s
    · skip
      refine v_aload_n C dX3_add_10 rfl (j := 0) rfl ?_
      refine v_getR C 5 rfl (T := TX3) rfl inB3 (by decide) (by decide) rfl tw_241 dX3_add_11 (fun x20 => ?_)
      refine v_iload_n C dX3_add_14 rfl (j := 1) rfl ?_
      refine v_dup2 C dX3_add_15 rfl rfl ?_
      refine v_iald C dX3_add_16 (fun x21 => ?_)
      refine v_iconst C dX3_add_17 ?_
      refine v_iadd C dX3_add_18 ?_
      refine v_iast C dX3_add_19 (fun s22 => ?_)
      exact hk20 s22
-- ForesightHub$Hub.settleHeld
theorem hX2_settleHeld : yX2_settleHeld.cls ≠ "java/lang/invoke/MethodHandle" ∧ yX2_settleHeld.cls ≠ "java/lang/invoke/VarHandle" ∧ (parseMethodDescriptor yX2_settleHeld.desc).map (fun d => d.parameters.length) = some 1 := by decide +kernel
set_option maxRecDepth 100000 in
theorem kX2_settleHeld (l : Launch) (w : Wd) (P : Shp) (n : Nat) {s : St} {a0 : Int} {a1 : Int} {res : St} (h : fX2_settleHeld P s a0 a1 = some res) : Ct l w yX2_settleHeld cX2_settleHeld 3 (Option.none : Option FieldType) rX2_settleHeld P n [A w a0, I a1] s (QV w P n res) :=
  Ct.of h (by decide) (Nat.le_of_ble_eq_true rfl) (lv := [(0, A w a0), (1, I a1)]) rfl fun X hl hRm C hO => by
  subst hl
  unfold fX2_settleHeld
  refine v_aload_n C dX2_settleHeld_0 rfl (j := 0) rfl ?_
  refine v_iload_n C dX2_settleHeld_1 rfl (j := 1) rfl ?_
  refine v_callV_rI C [I a1] [] (Cee.of (rm := rX2_wantedHolder) tw_966 tw_4 hX2_wantedHolder rfl rfl hRm (Nat.le_of_ble_eq_true rfl) (Nat.le_of_ble_eq_true rfl)) (fun x h => kX2_wantedHolder X.2.1 w _ _ h) tw_963 tw_964 tw_965 rfl (ci := 2) rfl (by decide) rfl rfl (Nat.le_of_ble_eq_true rfl) ⟨Nat.zero_le _, Nat.zero_le _⟩ dX2_settleHeld_2 (fun x1 => ?_)
  refine v_istore_n C [(2, I x1), (0, A w a0), (1, I a1)] dX2_settleHeld_5 rfl (by decide) rfl ?_
  refine v_aload_n C dX2_settleHeld_6 rfl (j := 1) rfl ?_
  refine v_getR C 1 rfl (T := TX2) rfl inB2 (by decide) (by decide) rfl tw_308 dX2_settleHeld_7 (fun x2 => ?_)
  refine v_getR C 4 rfl (T := TX6) rfl inB6 (by decide) (by decide) rfl tw_270 dX2_settleHeld_10 (fun x3 => ?_)
  refine v_iload_n C dX2_settleHeld_13 rfl (j := 2) rfl ?_
  refine v_iald C dX2_settleHeld_14 (fun x4 => ?_)
  refine v_iload_n C dX2_settleHeld_15 rfl (j := 0) rfl ?_
  refine v_icmp_ne (tgt := 32) C dX2_settleHeld_16 rfl ?_ ?_
  · skip
    refine v_aload_n C dX2_settleHeld_32 rfl (j := 1) rfl ?_
    refine v_getR C 1 rfl (T := TX2) rfl inB2 (by decide) (by decide) rfl tw_308 dX2_settleHeld_33 (fun x5 => ?_)
    refine v_getR C 6 rfl (T := TX6) rfl inB6 (by decide) (by decide) rfl tw_276 dX2_settleHeld_36 (fun x6 => ?_)
    refine v_iload_n C dX2_settleHeld_39 rfl (j := 2) rfl ?_
    refine v_iald C dX2_settleHeld_40 (fun x7 => ?_)
    refine v_if_le (tgt := 57) C dX2_settleHeld_41 rfl ?_ ?_
    · skip
      refine v_aload_n C dX2_settleHeld_57 rfl (j := 1) rfl ?_
      refine v_getR C 1 rfl (T := TX2) rfl inB2 (by decide) (by decide) rfl tw_308 dX2_settleHeld_58 (fun x8 => ?_)
      refine v_getR C 4 rfl (T := TX6) rfl inB6 (by decide) (by decide) rfl tw_270 dX2_settleHeld_61 (fun x9 => ?_)
      refine v_iload_n C dX2_settleHeld_64 rfl (j := 2) rfl ?_
      refine v_iload_n C dX2_settleHeld_65 rfl (j := 0) rfl ?_
      refine v_iast C dX2_settleHeld_66 (fun s10 => ?_)
      refine v_aload_n C dX2_settleHeld_67 rfl (j := 1) rfl ?_
      refine v_getR C 1 rfl (T := TX2) rfl inB2 (by decide) (by decide) rfl tw_308 dX2_settleHeld_68 (fun x11 => ?_)
      refine v_getR C 5 rfl (T := TX6) rfl inB6 (by decide) (by decide) rfl tw_273 dX2_settleHeld_71 (fun x12 => ?_)
      refine v_iload_n C dX2_settleHeld_74 rfl (j := 2) rfl ?_
      refine v_iload_n C dX2_settleHeld_75 rfl (j := 0) rfl ?_
      refine v_iconst C dX2_settleHeld_76 ?_
      refine v_jnt (fun (k85 : Int → Option (St)) => ∀ (x13 : Int), V X w 3 P n 0 0 res (k85 x13) s10 85 [(0, A w a0), (1, I a1), (2, I x1)] [I x13, I a1, A w x12]) ?_ ?_
      · intro x13
        refine v_iast C dX2_settleHeld_85 (fun s14 => ?_)
        refine v_aload_n C dX2_settleHeld_86 rfl (j := 0) rfl ?_
        refine v_getR C 1 rfl (T := TX2) rfl inB2 (by decide) (by decide) rfl tw_308 dX2_settleHeld_87 (fun x15 => ?_)
        refine v_getR C 9 rfl (T := TX6) rfl inB6 (by decide) (by decide) rfl tw_284 dX2_settleHeld_90 (fun x16 => ?_)
        refine v_iload_n C dX2_settleHeld_93 rfl (j := 2) rfl ?_
        refine v_iconst C dX2_settleHeld_94 ?_
        refine v_jnt (fun (k103 : Int → Option (St)) => ∀ (x17 : Int), V X w 3 P n 0 0 res (k103 x17) s14 103 [(0, A w a0), (1, I a1)] [I x17, A w x16]) ?_ ?_
        · intro x17
          refine v_iload_n C dX2_settleHeld_103 rfl (j := 1) rfl ?_
          refine v_aload_n C dX2_settleHeld_104 rfl (j := 0) rfl ?_
          refine v_getR C 1 rfl (T := TX2) rfl inB2 (by decide) (by decide) rfl tw_308 dX2_settleHeld_105 (fun x18 => ?_)
          refine v_getI C 0 rfl (T := TX6) rfl inB6 (by decide) (by decide) rfl tw_259 dX2_settleHeld_108 (fun x19 => ?_)
          refine v_callV_wV C [I x17, I a1, I x19] [] (Cee.of (rm := rX3_add) tw_978 tw_7 hX3_add rfl rfl hRm (Nat.le_of_ble_eq_true rfl) (Nat.le_of_ble_eq_true rfl)) (fun x h => kX3_add X.2.1 w _ _ h) tw_975 tw_976 tw_977 rfl (ci := 3) rfl (by decide) rfl rfl (Nat.le_of_ble_eq_true rfl) ⟨Nat.zero_le _, Nat.zero_le _⟩ dX2_settleHeld_111 (fun s20 => ?_)
          exact v_vret C rfl hO (fun h => Option.some.inj h) dX2_settleHeld_114
        intro k103 hk103
        refine v_icmp_ne (tgt := 102) C dX2_settleHeld_95 rfl ?_ ?_
        · skip
          refine v_iconst C dX2_settleHeld_102 ?_
          refine v_sub [(0, A w a0), (1, I a1)] [0, 1] rfl ?_
          exact hk103 4
        · skip
          refine v_iconst C dX2_settleHeld_98 ?_
          refine v_goto (tgt := 103) C dX2_settleHeld_99 rfl ?_
          refine v_sub [(0, A w a0), (1, I a1)] [0, 1] rfl ?_
          exact hk103 5
      intro k85 hk85
      refine v_icmp_ne (tgt := 84) C dX2_settleHeld_77 rfl ?_ ?_
      · skip
        refine v_iconst C dX2_settleHeld_84 ?_
        refine v_sub [(0, A w a0), (1, I a1), (2, I x1)] [1, 2, 0] rfl ?_
        exact hk85 1
      · skip
        refine v_iconst C dX2_settleHeld_80 ?_
        refine v_goto (tgt := 85) C dX2_settleHeld_81 rfl ?_
        refine v_sub [(0, A w a0), (1, I a1), (2, I x1)] [1, 2, 0] rfl ?_
        exact hk85 0
    · skip
      refine v_aload_n C dX2_settleHeld_44 rfl (j := 1) rfl ?_
      refine v_getR C 1 rfl (T := TX2) rfl inB2 (by decide) (by decide) rfl tw_308 dX2_settleHeld_45 (fun x21 => ?_)
      refine v_getR C 5 rfl (T := TX6) rfl inB6 (by decide) (by decide) rfl tw_273 dX2_settleHeld_48 (fun x22 => ?_)
      refine v_iload_n C dX2_settleHeld_51 rfl (j := 2) rfl ?_
      refine v_iconst C dX2_settleHeld_52 ?_
      refine v_iast C dX2_settleHeld_53 (fun s23 => ?_)
      refine v_goto (tgt := 114) C dX2_settleHeld_54 rfl ?_
      exact v_vret C rfl hO (fun h => Option.some.inj h) dX2_settleHeld_114
  · skip
    refine v_aload_n C dX2_settleHeld_19 rfl (j := 1) rfl ?_
    refine v_getR C 1 rfl (T := TX2) rfl inB2 (by decide) (by decide) rfl tw_308 dX2_settleHeld_20 (fun x24 => ?_)
    refine v_getR C 5 rfl (T := TX6) rfl inB6 (by decide) (by decide) rfl tw_273 dX2_settleHeld_23 (fun x25 => ?_)
    refine v_iload_n C dX2_settleHeld_26 rfl (j := 2) rfl ?_
    refine v_iconst C dX2_settleHeld_27 ?_
    refine v_iast C dX2_settleHeld_28 (fun s26 => ?_)
    refine v_goto (tgt := 114) C dX2_settleHeld_29 rfl ?_
    exact v_vret C rfl hO (fun h => Option.some.inj h) dX2_settleHeld_114
-- ForesightHub$Hub.reserved
set_option maxRecDepth 100000 in
theorem vX2_reserved_L4 {X : Cxt} {w : Wd} {P : Shp} {n : Nat} {s : St} (res : Int) (hRm : X.2.2.2.1 = rX2_reserved) (C : Cok X w cX2_reserved 3 RX2 (some FieldType.int)) (hO : Own X w 0 0 (QI w P n res s))  (c0 : Int) (kE45 : Int → Option (Int)) (hE45 : ∀ (p1e : Int), V X w 3 P n 0 0 res (kE45 p1e) s 45 [(1, I p1e)] []) : ∀ (fuel : Nat) (p1 p2 : Int), V X w 3 P n 0 0 res (fX2_reserved_L4 P s c0 kE45 fuel p1 p2) s 4 [(0, A w c0), (1, I p1), (2, I p2)] [] := by
  intro fuel
  induction fuel with
  | zero => intro p1 p2; exact v_none
  | succ m ih =>
    intro p1 p2
    rw [fX2_reserved_L4]
    refine v_iload_n C dX2_reserved_4 rfl (j := 2) rfl ?_
    refine v_aload_n C dX2_reserved_5 rfl (j := 0) rfl ?_
    refine v_getR C 0 rfl (T := TX2) rfl inB2 (by decide) (by decide) rfl tw_306 dX2_reserved_6 (fun x1 => ?_)
    refine v_getI C 6 rfl (T := TX4) rfl inB4 (by decide) (by decide) rfl tw_76 dX2_reserved_9 (fun x2 => ?_)
    refine v_icmp_ge (tgt := 45) C dX2_reserved_12 rfl ?_ ?_
    · skip
      refine v_sub [(1, I p1)] [1] rfl ?_
      exact hE45 p1
    · skip
      refine v_aload_n C dX2_reserved_15 rfl (j := 0) rfl ?_
      refine v_getR C 1 rfl (T := TX2) rfl inB2 (by decide) (by decide) rfl tw_308 dX2_reserved_16 (fun x3 => ?_)
      refine v_getR C 5 rfl (T := TX6) rfl inB6 (by decide) (by decide) rfl tw_273 dX2_reserved_19 (fun x4 => ?_)
      refine v_iload_n C dX2_reserved_22 rfl (j := 2) rfl ?_
      refine v_iald C dX2_reserved_23 (fun x5 => ?_)
      refine v_jnt (fun (k39 : Int → Option (Int)) => ∀ (x6 : Int), V X w 3 P n 0 0 res (k39 x6) s 39 [(0, A w c0), (1, I x6), (2, I p2)] []) ?_ ?_
      · intro x6
        refine v_iinc C (j := 2) [(0, A w c0), (1, I x6)] dX2_reserved_39 (by decide) rfl (fun _ => rfl) (fun x7 => ?_)
        refine v_goto (tgt := 4) C dX2_reserved_42 rfl ?_
        refine v_sub [(0, A w c0), (1, I x6), (2, I x7)] [1, 2, 0] rfl ?_
        exact ih x6 x7
      intro k39 hk39
      refine v_if_eq (tgt := 39) C dX2_reserved_24 rfl ?_ ?_
      · skip
        exact hk39 p1
      · skip
        refine v_iload_n C dX2_reserved_27 rfl (j := 1) rfl ?_
        refine v_aload_n C dX2_reserved_28 rfl (j := 0) rfl ?_
        refine v_getR C 0 rfl (T := TX2) rfl inB2 (by decide) (by decide) rfl tw_306 dX2_reserved_29 (fun x8 => ?_)
        refine v_getR C 14 rfl (T := TX4) rfl inB4 (by decide) (by decide) rfl tw_103 dX2_reserved_32 (fun x9 => ?_)
        refine v_iload_n C dX2_reserved_35 rfl (j := 2) rfl ?_
        refine v_iald C dX2_reserved_36 (fun x10 => ?_)
        refine v_iadd C dX2_reserved_37 ?_
        refine v_bdI (fun x11 => ?_)
        refine v_istore_n C [(1, I x11), (0, A w c0), (2, I p2)] dX2_reserved_38 rfl (by decide) rfl ?_
        refine v_sub [(0, A w c0), (1, I x11), (2, I p2)] [1, 0, 2] rfl ?_
        exact hk39 x11
theorem hX2_reserved : yX2_reserved.cls ≠ "java/lang/invoke/MethodHandle" ∧ yX2_reserved.cls ≠ "java/lang/invoke/VarHandle" ∧ (parseMethodDescriptor yX2_reserved.desc).map (fun d => d.parameters.length) = some 0 := by decide +kernel
set_option maxRecDepth 100000 in
theorem kX2_reserved (l : Launch) (w : Wd) (P : Shp) (n : Nat) {s : St} {a0 : Int} {res : Int} (h : fX2_reserved P s a0 = some res) : Ct l w yX2_reserved cX2_reserved 3 (some FieldType.int) rX2_reserved P n [A w a0] s (QI w P n res s) :=
  Ct.of h (by decide) (Nat.le_of_ble_eq_true rfl) (lv := [(0, A w a0)]) rfl fun X hl hRm C hO => by
  subst hl
  unfold fX2_reserved
  refine v_iconst C dX2_reserved_0 ?_
  refine v_istore_n C [(1, I 0), (0, A w a0)] dX2_reserved_1 rfl (by decide) rfl ?_
  refine v_iconst C dX2_reserved_2 ?_
  refine v_istore_n C [(2, I 0), (1, I 0), (0, A w a0)] dX2_reserved_3 rfl (by decide) rfl ?_
  refine v_sub [(0, A w a0), (1, I 0), (2, I 0)] [2, 1, 0] rfl ?_
  refine vX2_reserved_L4 res hRm C hO a0 _ ?_ 1000 0 0
  · intro x12
    refine v_iload_n C dX2_reserved_45 rfl (j := 0) rfl ?_
    exact v_iret C rfl hO pS dX2_reserved_46
-- ForesightHub$Hub.settle
set_option maxRecDepth 100000 in
theorem vX2_settle_L2 {X : Cxt} {w : Wd} {P : Shp} {n : Nat} (res : St) (hRm : X.2.2.2.1 = rX2_settle) (C : Cok X w cX2_settle 5 RX2 (Option.none : Option FieldType)) (hO : Own X w 0 0 (QV w P n res))  (c0 : Int) (kE36 : St → Option (St)) (hE36 : ∀ (se : St), V X w 5 P n 0 0 res (kE36 se) se 36 [(0, A w c0)] []) : ∀ (fuel : Nat) (p1 : Int) (s : St), V X w 5 P n 0 0 res (fX2_settle_L2 P c0 kE36 fuel p1 s) s 2 [(0, A w c0), (1, I p1)] [] := by
  intro fuel
  induction fuel with
  | zero => intro p1 s; exact v_none
  | succ m ih =>
    intro p1 s
    rw [fX2_settle_L2]
    refine v_iload_n C dX2_settle_2 rfl (j := 1) rfl ?_
    refine v_aload_n C dX2_settle_3 rfl (j := 0) rfl ?_
    refine v_getR C 0 rfl (T := TX2) rfl inB2 (by decide) (by decide) rfl tw_306 dX2_settle_4 (fun x1 => ?_)
    refine v_getI C 6 rfl (T := TX4) rfl inB4 (by decide) (by decide) rfl tw_76 dX2_settle_7 (fun x2 => ?_)
    refine v_icmp_ge (tgt := 36) C dX2_settle_10 rfl ?_ ?_
    · skip
      refine v_sub [(0, A w c0)] [0] rfl ?_
      exact hE36 s
    · skip
      refine v_aload_n C dX2_settle_13 rfl (j := 0) rfl ?_
      refine v_getR C 1 rfl (T := TX2) rfl inB2 (by decide) (by decide) rfl tw_308 dX2_settle_14 (fun x3 => ?_)
      refine v_getR C 5 rfl (T := TX6) rfl inB6 (by decide) (by decide) rfl tw_273 dX2_settle_17 (fun x4 => ?_)
      refine v_iload_n C dX2_settle_20 rfl (j := 1) rfl ?_
      refine v_iald C dX2_settle_21 (fun x5 => ?_)
      refine v_jnt (fun (k30 : St → Option (St)) => ∀ (s6 : St), V X w 5 P n 0 0 res (k30 s6) s6 30 [(0, A w c0), (1, I p1)] []) ?_ ?_
      · intro s6
        refine v_iinc C (j := 1) [(0, A w c0)] dX2_settle_30 (by decide) rfl (fun _ => rfl) (fun x7 => ?_)
        refine v_goto (tgt := 2) C dX2_settle_33 rfl ?_
        refine v_sub [(0, A w c0), (1, I x7)] [1, 0] rfl ?_
        exact ih x7 s6
      intro k30 hk30
      refine v_if_eq (tgt := 30) C dX2_settle_22 rfl ?_ ?_
      · skip
        exact hk30 s
      · skip
        refine v_aload_n C dX2_settle_25 rfl (j := 0) rfl ?_
        refine v_iload_n C dX2_settle_26 rfl (j := 1) rfl ?_
        refine v_callV_wV C [I p1] [] (Cee.of (rm := rX2_settleHeld) tw_962 tw_4 hX2_settleHeld rfl rfl hRm (Nat.le_of_ble_eq_true rfl) (Nat.le_of_ble_eq_true rfl)) (fun x h => kX2_settleHeld X.2.1 w _ _ h) tw_959 tw_961 ts_22 rfl (ci := 2) rfl (by decide) rfl rfl (Nat.le_of_ble_eq_true rfl) ⟨Nat.zero_le _, Nat.zero_le _⟩ dX2_settle_27 (fun s8 => ?_)
        exact hk30 s8
set_option maxRecDepth 100000 in
theorem vX2_settle_L51 {X : Cxt} {w : Wd} {P : Shp} {n : Nat} (res : St) (hRm : X.2.2.2.1 = rX2_settle) (C : Cok X w cX2_settle 5 RX2 (Option.none : Option FieldType)) (hO : Own X w 0 0 (QV w P n res))  (c0 : Int) (kE168 : St → Option (St)) (hE168 : ∀ (se : St), V X w 5 P n 0 0 res (kE168 se) se 168 [] []) : ∀ (fuel : Nat) (p1 p2 : Int) (s : St), V X w 5 P n 0 0 res (fX2_settle_L51 P c0 kE168 fuel p1 p2 s) s 51 [(0, A w c0), (1, I p1), (2, I p2)] [] := by
  intro fuel
  induction fuel with
  | zero => intro p1 p2 s; exact v_none
  | succ m ih =>
    intro p1 p2 s
    rw [fX2_settle_L51]
    refine v_iload_n C dX2_settle_51 rfl (j := 2) rfl ?_
    refine v_aload_n C dX2_settle_52 rfl (j := 0) rfl ?_
    refine v_getR C 0 rfl (T := TX2) rfl inB2 (by decide) (by decide) rfl tw_306 dX2_settle_53 (fun x14 => ?_)
    refine v_getI C 6 rfl (T := TX4) rfl inB4 (by decide) (by decide) rfl tw_76 dX2_settle_56 (fun x15 => ?_)
    refine v_icmp_ge (tgt := 168) C dX2_settle_59 rfl ?_ ?_
    · skip
      refine v_sub [] [] rfl ?_
      exact hE168 s
    · skip
      refine v_aload_n C dX2_settle_62 rfl (j := 0) rfl ?_
      refine v_iload_n C dX2_settle_63 rfl (j := 2) rfl ?_
      refine v_callV_rI C [I p2] [] (Cee.of (rm := rX2_wantedHolder) tw_966 tw_4 hX2_wantedHolder rfl rfl hRm (Nat.le_of_ble_eq_true rfl) (Nat.le_of_ble_eq_true rfl)) (fun x h => kX2_wantedHolder X.2.1 w _ _ h) tw_963 tw_964 tw_965 rfl (ci := 2) rfl (by decide) rfl rfl (Nat.le_of_ble_eq_true rfl) ⟨Nat.zero_le _, Nat.zero_le _⟩ dX2_settle_64 (fun x16 => ?_)
      refine v_istore_n C [(3, I x16), (0, A w c0), (1, I p1), (2, I p2)] dX2_settle_67 rfl (by decide) rfl ?_
      refine v_aload_n C dX2_settle_68 rfl (j := 1) rfl ?_
      refine v_getR C 1 rfl (T := TX2) rfl inB2 (by decide) (by decide) rfl tw_308 dX2_settle_69 (fun x17 => ?_)
      refine v_getR C 5 rfl (T := TX6) rfl inB6 (by decide) (by decide) rfl tw_273 dX2_settle_72 (fun x18 => ?_)
      refine v_iload_n C dX2_settle_75 rfl (j := 3) rfl ?_
      refine v_iald C dX2_settle_76 (fun x19 => ?_)
      refine v_jnt (fun (k85 : Int → Option (St)) => ∀ (x20 : Int), V X w 5 P n 0 0 res (k85 x20) s 85 [(0, A w c0), (1, I p1), (2, I p2), (3, I x16)] [I x20]) ?_ ?_
      · intro x20
        refine v_istore C [(4, I x20), (0, A w c0), (1, I p1), (2, I p2), (3, I x16)] dX2_settle_85 (by decide) rfl ?_
        refine v_iload C dX2_settle_87 (j := 0) rfl ?_
        refine v_jnt (fun (k162 : Int → St → Option (St)) => ∀ (x21 : Int) (s22 : St), V X w 5 P n 0 0 res (k162 x21 s22) s22 162 [(0, A w c0), (1, I x21), (2, I p2)] []) ?_ ?_
        · intro x21 s22
          refine v_iinc C (j := 2) [(0, A w c0), (1, I x21)] dX2_settle_162 (by decide) rfl (fun _ => rfl) (fun x23 => ?_)
          refine v_goto (tgt := 51) C dX2_settle_165 rfl ?_
          refine v_sub [(0, A w c0), (1, I x21), (2, I x23)] [1, 2, 0] rfl ?_
          exact ih x21 x23 s22
        intro k162 hk162
        refine v_if_eq (tgt := 162) C dX2_settle_89 rfl ?_ ?_
        · skip
          refine v_sub [(0, A w c0), (1, I p1), (2, I p2)] [1, 2, 3] rfl ?_
          exact hk162 p1 s
        · skip
          refine v_iload_n C dX2_settle_92 rfl (j := 4) rfl ?_
          refine v_iconst C dX2_settle_93 ?_
          refine v_icmp_eq (tgt := 162) C dX2_settle_94 rfl ?_ ?_
          · skip
            refine v_sub [(0, A w c0), (1, I p1), (2, I p2)] [1, 2, 3] rfl ?_
            exact hk162 p1 s
          · skip
            refine v_aload_n C dX2_settle_97 rfl (j := 1) rfl ?_
            refine v_getR C 0 rfl (T := TX2) rfl inB2 (by decide) (by decide) rfl tw_306 dX2_settle_98 (fun x24 => ?_)
            refine v_getR C 14 rfl (T := TX4) rfl inB4 (by decide) (by decide) rfl tw_103 dX2_settle_101 (fun x25 => ?_)
            refine v_iload_n C dX2_settle_104 rfl (j := 3) rfl ?_
            refine v_iald C dX2_settle_105 (fun x26 => ?_)
            refine v_iload_n C dX2_settle_106 rfl (j := 2) rfl ?_
            refine v_icmp_gt (tgt := 162) C dX2_settle_107 rfl ?_ ?_
            · skip
              refine v_sub [(0, A w c0), (1, I p1), (2, I p2)] [1, 2, 3] rfl ?_
              exact hk162 p1 s
            · skip
              refine v_iload_n C dX2_settle_110 rfl (j := 2) rfl ?_
              refine v_aload_n C dX2_settle_111 rfl (j := 1) rfl ?_
              refine v_getR C 0 rfl (T := TX2) rfl inB2 (by decide) (by decide) rfl tw_306 dX2_settle_112 (fun x27 => ?_)
              refine v_getR C 14 rfl (T := TX4) rfl inB4 (by decide) (by decide) rfl tw_103 dX2_settle_115 (fun x28 => ?_)
              refine v_iload_n C dX2_settle_118 rfl (j := 3) rfl ?_
              refine v_iald C dX2_settle_119 (fun x29 => ?_)
              refine v_isub C dX2_settle_120 ?_
              refine v_bdI (fun x30 => ?_)
              refine v_istore_n C [(1, I x30), (4, I x20), (0, A w c0), (2, I p2), (3, I x16)] dX2_settle_121 rfl (by decide) rfl ?_
              refine v_aload_n C dX2_settle_122 rfl (j := 2) rfl ?_
              refine v_getR C 1 rfl (T := TX2) rfl inB2 (by decide) (by decide) rfl tw_308 dX2_settle_123 (fun x31 => ?_)
              refine v_getR C 4 rfl (T := TX6) rfl inB6 (by decide) (by decide) rfl tw_270 dX2_settle_126 (fun x32 => ?_)
              refine v_iload_n C dX2_settle_129 rfl (j := 3) rfl ?_
              refine v_iload_n C dX2_settle_130 rfl (j := 4) rfl ?_
              refine v_iast C dX2_settle_131 (fun s33 => ?_)
              refine v_aload_n C dX2_settle_132 rfl (j := 2) rfl ?_
              refine v_getR C 1 rfl (T := TX2) rfl inB2 (by decide) (by decide) rfl tw_308 dX2_settle_133 (fun x34 => ?_)
              refine v_getR C 5 rfl (T := TX6) rfl inB6 (by decide) (by decide) rfl tw_273 dX2_settle_136 (fun x35 => ?_)
              refine v_iload_n C dX2_settle_139 rfl (j := 3) rfl ?_
              refine v_iconst C dX2_settle_140 ?_
              refine v_iast C dX2_settle_141 (fun s36 => ?_)
              refine v_aload_n C dX2_settle_142 rfl (j := 2) rfl ?_
              refine v_getR C 1 rfl (T := TX2) rfl inB2 (by decide) (by decide) rfl tw_308 dX2_settle_143 (fun x37 => ?_)
              refine v_getR C 9 rfl (T := TX6) rfl inB6 (by decide) (by decide) rfl tw_284 dX2_settle_146 (fun x38 => ?_)
              refine v_bipush C dX2_settle_149 (by decide) ?_
              refine v_iload_n C dX2_settle_151 rfl (j := 3) rfl ?_
              refine v_aload_n C dX2_settle_152 rfl (j := 2) rfl ?_
              refine v_getR C 1 rfl (T := TX2) rfl inB2 (by decide) (by decide) rfl tw_308 dX2_settle_153 (fun x39 => ?_)
              refine v_getI C 0 rfl (T := TX6) rfl inB6 (by decide) (by decide) rfl tw_259 dX2_settle_156 (fun x40 => ?_)
              refine v_callV_wV C [I 6, I p2, I x40] [] (Cee.of (rm := rX3_add) tw_978 tw_7 hX3_add rfl rfl hRm (Nat.le_of_ble_eq_true rfl) (Nat.le_of_ble_eq_true rfl)) (fun x h => kX3_add X.2.1 w _ _ h) tw_975 tw_976 tw_977 rfl (ci := 3) rfl (by decide) rfl rfl (Nat.le_of_ble_eq_true rfl) ⟨Nat.zero_le _, Nat.zero_le _⟩ dX2_settle_159 (fun s41 => ?_)
              refine v_sub [(0, A w c0), (1, I x30), (2, I p2)] [2, 0, 3] rfl ?_
              exact hk162 x30 s41
      intro k85 hk85
      refine v_if_ne (tgt := 84) C dX2_settle_77 rfl ?_ ?_
      · skip
        refine v_iconst C dX2_settle_84 ?_
        refine v_sub [(0, A w c0), (1, I p1), (2, I p2), (3, I x16)] [1, 2, 3, 0] rfl ?_
        exact hk85 0
      · skip
        refine v_iconst C dX2_settle_80 ?_
        refine v_goto (tgt := 85) C dX2_settle_81 rfl ?_
        refine v_sub [(0, A w c0), (1, I p1), (2, I p2), (3, I x16)] [1, 2, 3, 0] rfl ?_
        exact hk85 1
theorem hX2_settle : yX2_settle.cls ≠ "java/lang/invoke/MethodHandle" ∧ yX2_settle.cls ≠ "java/lang/invoke/VarHandle" ∧ (parseMethodDescriptor yX2_settle.desc).map (fun d => d.parameters.length) = some 0 := by decide +kernel
set_option maxRecDepth 100000 in
theorem kX2_settle (l : Launch) (w : Wd) (P : Shp) (n : Nat) {s : St} {a0 : Int} {res : St} (h : fX2_settle P s a0 = some res) : Ct l w yX2_settle cX2_settle 5 (Option.none : Option FieldType) rX2_settle P n [A w a0] s (QV w P n res) :=
  Ct.of h (by decide) (Nat.le_of_ble_eq_true rfl) (lv := [(0, A w a0)]) rfl fun X hl hRm C hO => by
  subst hl
  unfold fX2_settle
  refine v_iconst C dX2_settle_0 ?_
  refine v_istore_n C [(1, I 0), (0, A w a0)] dX2_settle_1 rfl (by decide) rfl ?_
  refine v_sub [(0, A w a0), (1, I 0)] [1, 0] rfl ?_
  refine vX2_settle_L2 res hRm C hO a0 _ ?_ 1000 0 s
  · intro s9
    refine v_aload_n C dX2_settle_36 rfl (j := 0) rfl ?_
    refine v_getR C 0 rfl (T := TX2) rfl inB2 (by decide) (by decide) rfl tw_306 dX2_settle_37 (fun x10 => ?_)
    refine v_getI C 0 rfl (T := TX4) rfl inB4 (by decide) (by decide) rfl tw_53 dX2_settle_40 (fun x11 => ?_)
    refine v_aload_n C dX2_settle_43 rfl (j := 0) rfl ?_
    refine v_callV_rI C [] [I x11] (Cee.of (rm := rX2_reserved) tw_361 tw_4 hX2_reserved rfl rfl hRm (Nat.le_of_ble_eq_true rfl) (Nat.le_of_ble_eq_true rfl)) (fun x h => kX2_reserved X.2.1 w _ _ h) tw_980 tw_359 tw_360 rfl (ci := 2) rfl (by decide) rfl rfl (Nat.le_of_ble_eq_true rfl) ⟨Nat.zero_le _, Nat.zero_le _⟩ dX2_settle_44 (fun x12 => ?_)
    refine v_isub C dX2_settle_47 ?_
    refine v_bdI (fun x13 => ?_)
    refine v_istore_n C [(1, I x13), (0, A w a0)] dX2_settle_48 rfl (by decide) rfl ?_
    refine v_iconst C dX2_settle_49 ?_
    refine v_istore_n C [(2, I 0), (1, I x13), (0, A w a0)] dX2_settle_50 rfl (by decide) rfl ?_
    refine v_sub [(0, A w a0), (1, I x13), (2, I 0)] [2, 1, 0] rfl ?_
    refine vX2_settle_L51 res hRm C hO a0 _ ?_ 1000 x13 0 s9
    · intro s42
      exact v_vret C rfl hO (fun h => Option.some.inj h) dX2_settle_168
-- ForesightHub$Hub.begin
theorem hX2_begin : yX2_begin.cls ≠ "java/lang/invoke/MethodHandle" ∧ yX2_begin.cls ≠ "java/lang/invoke/VarHandle" ∧ (parseMethodDescriptor yX2_begin.desc).map (fun d => d.parameters.length) = some 1 := by decide +kernel
set_option maxRecDepth 100000 in
theorem kX2_begin (l : Launch) (w : Wd) (P : Shp) (n : Nat) {s : St} {a0 : Int} {a1 : Int} {res : St} (h : fX2_begin P s a0 a1 = some res) : Ct l w yX2_begin cX2_begin 2 (Option.none : Option FieldType) rX2_begin P n [A w a0, A w a1] s (QV w P n res) :=
  Ct.of h (by decide) (Nat.le_of_ble_eq_true rfl) (lv := [(0, A w a0), (1, A w a1)]) rfl fun X hl hRm C hO => by
  subst hl
  unfold fX2_begin
  refine v_aload_n C dX2_begin_0 rfl (j := 0) rfl ?_
  refine v_aload_n C dX2_begin_1 rfl (j := 1) rfl ?_
  refine v_putR C 0 rfl (T := TX2) rfl inB2 (by decide) tyX2_ok nmX2 (by decide) rfl rfl tw_306 dX2_begin_2 (Or.inl ⟨_, rfl⟩) (fun s1 => ?_)
  refine v_aload_n C dX2_begin_5 rfl (j := 0) rfl ?_
  refine v_getR C 1 rfl (T := TX2) rfl inB2 (by decide) (by decide) rfl tw_308 dX2_begin_6 (fun x2 => ?_)
  refine v_aload_n C dX2_begin_9 rfl (j := 1) rfl ?_
  refine v_callV_wV C [A w a1] [] (Cee.of (rm := rX6_begin) tw_946 tw_5 hX6_begin rfl rfl hRm (Nat.le_of_ble_eq_true rfl) (Nat.le_of_ble_eq_true rfl)) (fun x h => kX6_begin X.2.1 w _ _ h) tw_943 tw_944 tw_945 rfl (ci := 6) rfl (by decide) rfl rfl (Nat.le_of_ble_eq_true rfl) ⟨Nat.zero_le _, Nat.zero_le _⟩ dX2_begin_10 (fun s3 => ?_)
  refine v_aload_n C dX2_begin_13 rfl (j := 0) rfl ?_
  refine v_callV_wV C [] [] (Cee.of (rm := rX2_settle) tw_958 tw_4 hX2_settle rfl rfl hRm (Nat.le_of_ble_eq_true rfl) (Nat.le_of_ble_eq_true rfl)) (fun x h => kX2_settle X.2.1 w _ _ h) tw_955 tw_956 tw_957 rfl (ci := 2) rfl (by decide) rfl rfl (Nat.le_of_ble_eq_true rfl) ⟨Nat.zero_le _, Nat.zero_le _⟩ dX2_begin_14 (fun s4 => ?_)
  exact v_vret C rfl hO (fun h => Option.some.inj h) dX2_begin_17
-- ForesightHub$History.clear
theorem hX1_clear : yX1_clear.cls ≠ "java/lang/invoke/MethodHandle" ∧ yX1_clear.cls ≠ "java/lang/invoke/VarHandle" ∧ (parseMethodDescriptor yX1_clear.desc).map (fun d => d.parameters.length) = some 0 := by decide +kernel
set_option maxRecDepth 100000 in
theorem kX1_clear (l : Launch) (w : Wd) (P : Shp) (n : Nat) {s : St} {a0 : Int} {res : St} (h : fX1_clear P s a0 = some res) : Ct l w yX1_clear cX1_clear 1 (Option.none : Option FieldType) rX1_clear P n [A w a0] s (QV w P n res) :=
  Ct.of h (by decide) (Nat.le_of_ble_eq_true rfl) (lv := [(0, A w a0)]) rfl fun X hl hRm C hO => by
  subst hl
  unfold fX1_clear
  refine v_aload_n C dX1_clear_0 rfl (j := 0) rfl ?_
  refine v_iconst C dX1_clear_1 ?_
  refine v_putI C 1 rfl (T := TX1) rfl inB1 (by decide) tyX1_ok nmX1 (by decide) rfl rfl tw_325 dX1_clear_2 rfl (fun s1 => ?_)
  exact v_vret C rfl hO (fun h => Option.some.inj h) dX1_clear_5
-- ForesightHub.parse
set_option maxRecDepth 100000 in
theorem vX7_parse_L84 {X : Cxt} {w : Wd} {P : Shp} {n : Nat} (res : Int × St) (hRm : X.2.2.2.1 = rX7_parse) (C : Cok X w cX7_parse 4 RX7 (some FieldType.int)) (hO : Own X w 0 0 (QI w P n res.1 res.2))  (c0 : Int) (kE102 : St → Option (Int × St)) (hE102 : ∀ (se : St), V X w 4 P n 0 0 res (kE102 se) se 102 [(0, A w c0)] []) : ∀ (fuel : Nat) (p3 : Int) (s : St), V X w 4 P n 0 0 res (fX7_parse_L84 P c0 kE102 fuel p3 s) s 84 [(0, A w c0), (3, I p3)] [] := by
  intro fuel
  induction fuel with
  | zero => intro p3 s; exact v_none
  | succ m ih =>
    intro p3 s
    rw [fX7_parse_L84]
    refine v_iload_n C dX7_parse_84 rfl (j := 1) rfl ?_
    refine v_iconst C dX7_parse_85 ?_
    refine v_icmp_ge (tgt := 102) C dX7_parse_86 rfl ?_ ?_
    · skip
      refine v_sub [(0, A w c0)] [0] rfl ?_
      exact hE102 s
    · skip
      refine v_aload_n C dX7_parse_89 rfl (j := 0) rfl ?_
      refine v_getR C 4 rfl (T := TX7) rfl inB7 (by decide) (by decide) rfl tw_341 dX7_parse_90 (fun x19 => ?_)
      refine v_iload_n C dX7_parse_93 rfl (j := 1) rfl ?_
      refine v_iconst C dX7_parse_94 ?_
      refine v_zast C dX7_parse_95 (fun s20 => ?_)
      refine v_iinc C (j := 1) [(0, A w c0)] dX7_parse_96 (by decide) rfl (fun _ => rfl) (fun x21 => ?_)
      refine v_goto (tgt := 84) C dX7_parse_99 rfl ?_
      refine v_sub [(0, A w c0), (3, I x21)] [1, 0] rfl ?_
      exact ih x21 s20
theorem hX7_parse : yX7_parse.cls ≠ "java/lang/invoke/MethodHandle" ∧ yX7_parse.cls ≠ "java/lang/invoke/VarHandle" ∧ (parseMethodDescriptor yX7_parse.desc).map (fun d => d.parameters.length) = some 1 := by decide +kernel
set_option maxRecDepth 100000 in
theorem kX7_parse (l : Launch) (w : Wd) (P : Shp) (n : Nat) {s : St} {a0 : Int} {a1 : Int} {res : Int × St} (h : fX7_parse P s a0 a1 = some res) : Ct l w yX7_parse cX7_parse 4 (some FieldType.int) rX7_parse P n [A w a0, I a1] s (QI w P n res.1 res.2) :=
  Ct.of h (by decide) (Nat.le_of_ble_eq_true rfl) (lv := [(0, A w a0), (1, I a1)]) rfl fun X hl hRm C hO => by
  subst hl
  unfold fX7_parse
  refine v_iload_n C dX7_parse_0 rfl (j := 1) rfl ?_
  refine v_jnt (fun (k15 : Option (Int × St)) => V X w 4 P n 0 0 res (k15) s 15 [] []) ?_ ?_
  · skip
    exact v_none
  intro k15 hk15
  refine v_if_lt (tgt := 15) C dX7_parse_1 rfl ?_ ?_
  · skip
    refine v_sub [] [] rfl ?_
    exact hk15
  · skip
    refine v_iload_n C dX7_parse_4 rfl (j := 1) rfl ?_
    refine v_aload_n C dX7_parse_5 rfl (j := 0) rfl ?_
    refine v_getR C 0 rfl (T := TX7) rfl inB7 (by decide) (by decide) rfl tw_337 dX7_parse_6 (fun x1 => ?_)
    refine v_getI C 1 rfl (T := TX5) rfl inB5 (by decide) (by decide) rfl tw_146 dX7_parse_9 (fun x2 => ?_)
    refine v_icmp_le (tgt := 25) C dX7_parse_12 rfl ?_ ?_
    · skip
      refine v_aload_n C dX7_parse_25 rfl (j := 0) rfl ?_
      refine v_getR C 0 rfl (T := TX7) rfl inB7 (by decide) (by decide) rfl tw_337 dX7_parse_26 (fun x3 => ?_)
      refine v_iload_n C dX7_parse_29 rfl (j := 1) rfl ?_
      refine v_callV_wI C [I a1] [] (Cee.of (rm := rX5_read) tw_829 tw_2 hX5_read rfl rfl hRm (Nat.le_of_ble_eq_true rfl) (Nat.le_of_ble_eq_true rfl)) (fun x h => kX5_read X.2.1 w _ _ h) tw_826 tw_827 tw_828 rfl (ci := 5) rfl (by decide) rfl rfl (Nat.le_of_ble_eq_true rfl) ⟨Nat.zero_le _, Nat.zero_le _⟩ dX7_parse_30 (fun q4 => ?_)
      obtain ⟨x5, s6⟩ := q4
      refine v_istore_n C [(2, I x5), (0, A w a0), (1, I a1)] dX7_parse_33 rfl (by decide) rfl ?_
      refine v_aload_n C dX7_parse_34 rfl (j := 1) rfl ?_
      refine v_getR C 0 rfl (T := TX7) rfl inB7 (by decide) (by decide) rfl tw_337 dX7_parse_35 (fun x7 => ?_)
      refine v_iconst C dX7_parse_38 ?_
      refine v_putI C 1 rfl (T := TX5) rfl inB5 (by decide) tyX5_ok nmX5 (by decide) rfl rfl tw_146 dX7_parse_39 rfl (fun s8 => ?_)
      refine v_iload_n C dX7_parse_42 rfl (j := 0) rfl ?_
      refine v_if_ne (tgt := 54) C dX7_parse_43 rfl ?_ ?_
      · skip
        refine v_aload_n C dX7_parse_54 rfl (j := 1) rfl ?_
        refine v_getR C 1 rfl (T := TX7) rfl inB7 (by decide) (by decide) rfl tw_338 dX7_parse_55 (fun x9 => ?_)
        refine v_aload_n C dX7_parse_58 rfl (j := 1) rfl ?_
        refine v_getR C 0 rfl (T := TX7) rfl inB7 (by decide) (by decide) rfl tw_337 dX7_parse_59 (fun x10 => ?_)
        refine v_aload_n C dX7_parse_62 rfl (j := 1) rfl ?_
        refine v_getR C 1 rfl (T := TX7) rfl inB7 (by decide) (by decide) rfl tw_338 dX7_parse_63 (fun x11 => ?_)
        refine v_getR C 0 rfl (T := TX2) rfl inB2 (by decide) (by decide) rfl tw_307 dX7_parse_66 (fun x12 => ?_)
        refine v_callV_wR C [A w x12] [A w x9] (Cee.of (rm := rX5_exchangePlan) tw_938 tw_2 hX5_exchangePlan rfl rfl hRm (Nat.le_of_ble_eq_true rfl) (Nat.le_of_ble_eq_true rfl)) (fun x h => kX5_exchangePlan X.2.1 w _ _ h) tw_935 tw_936 tw_937 rfl (ci := 5) rfl (by decide) rfl rfl (Nat.le_of_ble_eq_true rfl) ⟨Nat.zero_le _, Nat.zero_le _⟩ dX7_parse_69 (fun q13 => ?_)
        obtain ⟨x14, s15⟩ := q13
        refine v_callV_wV C [A w x14] [] (Cee.of (rm := rX2_begin) tw_942 tw_4 hX2_begin rfl rfl hRm (Nat.le_of_ble_eq_true rfl) (Nat.le_of_ble_eq_true rfl)) (fun x h => kX2_begin X.2.1 w _ _ h) tw_939 tw_940 tw_941 rfl (ci := 2) rfl (by decide) rfl rfl (Nat.le_of_ble_eq_true rfl) ⟨Nat.zero_le _, Nat.zero_le _⟩ dX7_parse_72 (fun s16 => ?_)
        refine v_aload_n C dX7_parse_75 rfl (j := 1) rfl ?_
        refine v_getR C 2 rfl (T := TX7) rfl inB7 (by decide) (by decide) rfl tw_339 dX7_parse_76 (fun x17 => ?_)
        refine v_callV_wV C [] [] (Cee.of (rm := rX1_clear) tw_560 tw_8 hX1_clear rfl rfl hRm (Nat.le_of_ble_eq_true rfl) (Nat.le_of_ble_eq_true rfl)) (fun x h => kX1_clear X.2.1 w _ _ h) tw_557 tw_558 tw_559 rfl (ci := 1) rfl (by decide) rfl rfl (Nat.le_of_ble_eq_true rfl) ⟨Nat.zero_le _, Nat.zero_le _⟩ dX7_parse_79 (fun s18 => ?_)
        refine v_iconst C dX7_parse_82 ?_
        refine v_istore_n C [(3, I 0), (2, I x5), (0, A w a0), (1, I a1)] dX7_parse_83 rfl (by decide) rfl ?_
        refine v_sub [(0, A w a0), (3, I 0)] [2, 0] rfl ?_
        refine vX7_parse_L84 res hRm C hO a0 _ ?_ 1000 0 s18
        · intro s22
          refine v_aload_n C dX7_parse_102 rfl (j := 0) rfl ?_
          refine v_getR C 1 rfl (T := TX7) rfl inB7 (by decide) (by decide) rfl tw_338 dX7_parse_103 (fun x23 => ?_)
          refine v_getR C 0 rfl (T := TX2) rfl inB2 (by decide) (by decide) rfl tw_307 dX7_parse_106 (fun x24 => ?_)
          refine v_getI C 6 rfl (T := TX4) rfl inB4 (by decide) (by decide) rfl tw_75 dX7_parse_109 (fun x25 => ?_)
          exact v_iret C rfl hO pI dX7_parse_112
      · skip
        refine v_aload_n C dX7_parse_46 rfl (j := 1) rfl ?_
        refine v_getR C 0 rfl (T := TX7) rfl inB7 (by decide) (by decide) rfl tw_337 dX7_parse_47 (fun x26 => ?_)
        refine v_callV_rI C [] [] (Cee.of (rm := rX5_faultAnswer) tw_934 tw_2 hX5_faultAnswer rfl rfl hRm (Nat.le_of_ble_eq_true rfl) (Nat.le_of_ble_eq_true rfl)) (fun x h => kX5_faultAnswer X.2.1 w _ _ h) tw_931 tw_932 tw_933 rfl (ci := 5) rfl (by decide) rfl rfl (Nat.le_of_ble_eq_true rfl) ⟨Nat.zero_le _, Nat.zero_le _⟩ dX7_parse_50 (fun x27 => ?_)
        exact v_iret C rfl hO pI dX7_parse_53
    · skip
      refine v_sub [] [] rfl ?_
      exact hk15
-- ForesightHub.size
theorem hX7_size : yX7_size.cls ≠ "java/lang/invoke/MethodHandle" ∧ yX7_size.cls ≠ "java/lang/invoke/VarHandle" ∧ (parseMethodDescriptor yX7_size.desc).map (fun d => d.parameters.length) = some 1 := by decide +kernel
set_option maxRecDepth 100000 in
theorem kX7_size (l : Launch) (w : Wd) (P : Shp) (n : Nat) {s : St} {a0 : Int} {a1 : Int} {res : Int} (h : fX7_size P s a0 a1 = some res) : Ct l w yX7_size cX7_size 2 (some FieldType.int) rX7_size P n [A w a0, I a1] s (QI w P n res s) :=
  Ct.of h (by decide) (Nat.le_of_ble_eq_true rfl) (lv := [(0, A w a0), (1, I a1)]) rfl fun X hl hRm C hO => by
  subst hl
  unfold fX7_size
  refine v_iload_n C dX7_size_0 rfl (j := 1) rfl ?_
  refine v_tsw C (vals := [0, 1, 2, 3, 4, 5, 6, 7, 8, 9]) (tgts := [56, 67, 78, 89, 100, 111, 122, 130, 141, 152]) (dt := 160) dX7_size_1 rfl rfl (by decide) ?_ ?_
  · skip
    refine v_sw_cons ?_ ?_
    · skip
      refine v_aload_n C dX7_size_56 rfl (j := 0) rfl ?_
      refine v_getR C 1 rfl (T := TX7) rfl inB7 (by decide) (by decide) rfl tw_338 dX7_size_57 (fun x1 => ?_)
      refine v_getR C 0 rfl (T := TX2) rfl inB2 (by decide) (by decide) rfl tw_307 dX7_size_60 (fun x2 => ?_)
      refine v_getI C 4 rfl (T := TX4) rfl inB4 (by decide) (by decide) rfl tw_66 dX7_size_63 (fun x3 => ?_)
      exact v_iret C rfl hO pS dX7_size_66
    refine v_sw_cons ?_ ?_
    · skip
      refine v_aload_n C dX7_size_67 rfl (j := 0) rfl ?_
      refine v_getR C 1 rfl (T := TX7) rfl inB7 (by decide) (by decide) rfl tw_338 dX7_size_68 (fun x4 => ?_)
      refine v_getR C 0 rfl (T := TX2) rfl inB2 (by decide) (by decide) rfl tw_307 dX7_size_71 (fun x5 => ?_)
      refine v_getI C 5 rfl (T := TX4) rfl inB4 (by decide) (by decide) rfl tw_72 dX7_size_74 (fun x6 => ?_)
      exact v_iret C rfl hO pS dX7_size_77
    refine v_sw_cons ?_ ?_
    · skip
      refine v_aload_n C dX7_size_78 rfl (j := 0) rfl ?_
      refine v_getR C 1 rfl (T := TX7) rfl inB7 (by decide) (by decide) rfl tw_338 dX7_size_79 (fun x7 => ?_)
      refine v_getR C 0 rfl (T := TX2) rfl inB2 (by decide) (by decide) rfl tw_307 dX7_size_82 (fun x8 => ?_)
      refine v_getI C 6 rfl (T := TX4) rfl inB4 (by decide) (by decide) rfl tw_75 dX7_size_85 (fun x9 => ?_)
      exact v_iret C rfl hO pS dX7_size_88
    refine v_sw_cons ?_ ?_
    · skip
      refine v_aload_n C dX7_size_89 rfl (j := 0) rfl ?_
      refine v_getR C 1 rfl (T := TX7) rfl inB7 (by decide) (by decide) rfl tw_338 dX7_size_90 (fun x10 => ?_)
      refine v_getR C 0 rfl (T := TX2) rfl inB2 (by decide) (by decide) rfl tw_307 dX7_size_93 (fun x11 => ?_)
      refine v_getI C 0 rfl (T := TX4) rfl inB4 (by decide) (by decide) rfl tw_51 dX7_size_96 (fun x12 => ?_)
      exact v_iret C rfl hO pS dX7_size_99
    refine v_sw_cons ?_ ?_
    · skip
      refine v_aload_n C dX7_size_100 rfl (j := 0) rfl ?_
      refine v_getR C 1 rfl (T := TX7) rfl inB7 (by decide) (by decide) rfl tw_338 dX7_size_101 (fun x13 => ?_)
      refine v_getR C 0 rfl (T := TX2) rfl inB2 (by decide) (by decide) rfl tw_307 dX7_size_104 (fun x14 => ?_)
      refine v_getI C 1 rfl (T := TX4) rfl inB4 (by decide) (by decide) rfl tw_55 dX7_size_107 (fun x15 => ?_)
      exact v_iret C rfl hO pS dX7_size_110
    refine v_sw_cons ?_ ?_
    · skip
      refine v_aload_n C dX7_size_111 rfl (j := 0) rfl ?_
      refine v_getR C 1 rfl (T := TX7) rfl inB7 (by decide) (by decide) rfl tw_338 dX7_size_112 (fun x16 => ?_)
      refine v_getR C 1 rfl (T := TX2) rfl inB2 (by decide) (by decide) rfl tw_309 dX7_size_115 (fun x17 => ?_)
      refine v_getI C 0 rfl (T := TX6) rfl inB6 (by decide) (by decide) rfl tw_258 dX7_size_118 (fun x18 => ?_)
      exact v_iret C rfl hO pS dX7_size_121
    refine v_sw_cons ?_ ?_
    · skip
      refine v_aload_n C dX7_size_122 rfl (j := 0) rfl ?_
      refine v_getR C 1 rfl (T := TX7) rfl inB7 (by decide) (by decide) rfl tw_338 dX7_size_123 (fun x19 => ?_)
      refine v_callV_rI C [] [] (Cee.of (rm := rX2_reserved) tw_361 tw_4 hX2_reserved rfl rfl hRm (Nat.le_of_ble_eq_true rfl) (Nat.le_of_ble_eq_true rfl)) (fun x h => kX2_reserved X.2.1 w _ _ h) tw_358 tw_359 tw_360 rfl (ci := 2) rfl (by decide) rfl rfl (Nat.le_of_ble_eq_true rfl) ⟨Nat.zero_le _, Nat.zero_le _⟩ dX7_size_126 (fun x20 => ?_)
      exact v_iret C rfl hO pS dX7_size_129
    refine v_sw_cons ?_ ?_
    · skip
      refine v_aload_n C dX7_size_130 rfl (j := 0) rfl ?_
      refine v_getR C 1 rfl (T := TX7) rfl inB7 (by decide) (by decide) rfl tw_338 dX7_size_131 (fun x21 => ?_)
      refine v_getR C 1 rfl (T := TX2) rfl inB2 (by decide) (by decide) rfl tw_309 dX7_size_134 (fun x22 => ?_)
      refine v_getI C 1 rfl (T := TX6) rfl inB6 (by decide) (by decide) rfl tw_262 dX7_size_137 (fun x23 => ?_)
      exact v_iret C rfl hO pS dX7_size_140
    refine v_sw_cons ?_ ?_
    · skip
      refine v_aload_n C dX7_size_141 rfl (j := 0) rfl ?_
      refine v_getR C 1 rfl (T := TX7) rfl inB7 (by decide) (by decide) rfl tw_338 dX7_size_142 (fun x24 => ?_)
      refine v_getR C 0 rfl (T := TX2) rfl inB2 (by decide) (by decide) rfl tw_307 dX7_size_145 (fun x25 => ?_)
      refine v_getI C 3 rfl (T := TX4) rfl inB4 (by decide) (by decide) rfl tw_62 dX7_size_148 (fun x26 => ?_)
      exact v_iret C rfl hO pS dX7_size_151
    refine v_sw_cons ?_ ?_
    · skip
      refine v_aload_n C dX7_size_152 rfl (j := 0) rfl ?_
      refine v_getR C 2 rfl (T := TX7) rfl inB7 (by decide) (by decide) rfl tw_339 dX7_size_153 (fun x27 => ?_)
      refine v_getI C 1 rfl (T := TX1) rfl inB1 (by decide) (by decide) rfl tw_326 dX7_size_156 (fun x28 => ?_)
      exact v_iret C rfl hO pS dX7_size_159
    exact v_sw_nil
  · skip
    exact v_none
-- ForesightHub.requireDevice
theorem hX7_requireDevice : yX7_requireDevice.cls ≠ "java/lang/invoke/MethodHandle" ∧ yX7_requireDevice.cls ≠ "java/lang/invoke/VarHandle" ∧ (parseMethodDescriptor yX7_requireDevice.desc).map (fun d => d.parameters.length) = some 1 := by decide +kernel
set_option maxRecDepth 100000 in
theorem kX7_requireDevice (l : Launch) (w : Wd) (P : Shp) (n : Nat) {s : St} {a0 : Int} {a1 : Int} {res : Unit} (h : fX7_requireDevice P s a0 a1 = some res) : Ct l w yX7_requireDevice cX7_requireDevice 2 (Option.none : Option FieldType) rX7_requireDevice P n [A w a0, I a1] s (QV w P n s) :=
  Ct.of h (by decide) (Nat.le_of_ble_eq_true rfl) (lv := [(0, A w a0), (1, I a1)]) rfl fun X hl hRm C hO => by
  subst hl
  unfold fX7_requireDevice
  refine v_aload_n C dX7_requireDevice_0 rfl (j := 0) rfl ?_
  refine v_getR C 1 rfl (T := TX7) rfl inB7 (by decide) (by decide) rfl tw_338 dX7_requireDevice_1 (fun x1 => ?_)
  refine v_iload_n C dX7_requireDevice_4 rfl (j := 1) rfl ?_
  refine v_callV_rI C [I a1] [] (Cee.of (rm := rX2_isDevice) tw_440 tw_4 hX2_isDevice rfl rfl hRm (Nat.le_of_ble_eq_true rfl) (Nat.le_of_ble_eq_true rfl)) (fun x h => kX2_isDevice X.2.1 w _ _ h) tw_437 tw_438 tw_439 rfl (ci := 2) rfl (by decide) rfl rfl (Nat.le_of_ble_eq_true rfl) ⟨Nat.zero_le _, Nat.zero_le _⟩ dX7_requireDevice_5 (fun x2 => ?_)
  refine v_if_ne (tgt := 22) C dX7_requireDevice_8 rfl ?_ ?_
  · skip
    exact v_vret C rfl hO (fun h => rfl) dX7_requireDevice_22
  · skip
    exact v_none
-- ForesightHub$Hub.inAlarm
theorem hX2_inAlarm : yX2_inAlarm.cls ≠ "java/lang/invoke/MethodHandle" ∧ yX2_inAlarm.cls ≠ "java/lang/invoke/VarHandle" ∧ (parseMethodDescriptor yX2_inAlarm.desc).map (fun d => d.parameters.length) = some 1 := by decide +kernel
set_option maxRecDepth 100000 in
theorem kX2_inAlarm (l : Launch) (w : Wd) (P : Shp) (n : Nat) {s : St} {a0 : Int} {a1 : Int} {res : Int} (h : fX2_inAlarm P s a0 a1 = some res) : Ct l w yX2_inAlarm cX2_inAlarm 2 (some FieldType.boolean) rX2_inAlarm P n [A w a0, I a1] s (QI w P n res s) :=
  Ct.of h (by decide) (Nat.le_of_ble_eq_true rfl) (lv := [(0, A w a0), (1, I a1)]) rfl fun X hl hRm C hO => by
  subst hl
  unfold fX2_inAlarm
  refine v_aload_n C dX2_inAlarm_0 rfl (j := 0) rfl ?_
  refine v_iload_n C dX2_inAlarm_1 rfl (j := 1) rfl ?_
  refine v_callV_rI C [I a1] [] (Cee.of (rm := rX2_isDevice) tw_440 tw_4 hX2_isDevice rfl rfl hRm (Nat.le_of_ble_eq_true rfl) (Nat.le_of_ble_eq_true rfl)) (fun x h => kX2_isDevice X.2.1 w _ _ h) tw_461 tw_438 tw_439 rfl (ci := 2) rfl (by decide) rfl rfl (Nat.le_of_ble_eq_true rfl) ⟨Nat.zero_le _, Nat.zero_le _⟩ dX2_inAlarm_2 (fun x1 => ?_)
  refine v_if_eq (tgt := 25) C dX2_inAlarm_5 rfl ?_ ?_
  · skip
    refine v_iconst C dX2_inAlarm_25 ?_
    exact v_zret C rfl hO pS dX2_inAlarm_26
  · skip
    refine v_aload_n C dX2_inAlarm_8 rfl (j := 0) rfl ?_
    refine v_getR C 1 rfl (T := TX2) rfl inB2 (by decide) (by decide) rfl tw_308 dX2_inAlarm_9 (fun x2 => ?_)
    refine v_getR C 3 rfl (T := TX6) rfl inB6 (by decide) (by decide) rfl tw_267 dX2_inAlarm_12 (fun x3 => ?_)
    refine v_iload_n C dX2_inAlarm_15 rfl (j := 1) rfl ?_
    refine v_iald C dX2_inAlarm_16 (fun x4 => ?_)
    refine v_iconst C dX2_inAlarm_17 ?_
    refine v_icmp_eq (tgt := 25) C dX2_inAlarm_18 rfl ?_ ?_
    · skip
      refine v_iconst C dX2_inAlarm_25 ?_
      exact v_zret C rfl hO pS dX2_inAlarm_26
    · skip
      refine v_iconst C dX2_inAlarm_21 ?_
      refine v_goto (tgt := 26) C dX2_inAlarm_22 rfl ?_
      exact v_zret C rfl hO pS dX2_inAlarm_26
-- ForesightHub$ErrorBook.staying
theorem hX0_staying : yX0_staying.cls ≠ "java/lang/invoke/MethodHandle" ∧ yX0_staying.cls ≠ "java/lang/invoke/VarHandle" ∧ (parseMethodDescriptor yX0_staying.desc).map (fun d => d.parameters.length) = some 1 := by decide +kernel
set_option maxRecDepth 100000 in
theorem kX0_staying (l : Launch) (w : Wd) (P : Shp) (n : Nat) {s : St} {a0 : Int} {a1 : Int} {res : Int} (h : fX0_staying P s a0 a1 = some res) : Ct l w yX0_staying cX0_staying 2 (some FieldType.int) rX0_staying P n [A w a0, I a1] s (QI w P n res s) :=
  Ct.of h (by decide) (Nat.le_of_ble_eq_true rfl) (lv := [(0, A w a0), (1, I a1)]) rfl fun X hl hRm C hO => by
  subst hl
  unfold fX0_staying
  refine v_iload_n C dX0_staying_0 rfl (j := 1) rfl ?_
  refine v_if_lt (tgt := 10) C dX0_staying_1 rfl ?_ ?_
  · skip
    refine v_iconst C dX0_staying_10 ?_
    exact v_iret C rfl hO pS dX0_staying_11
  · skip
    refine v_iload_n C dX0_staying_4 rfl (j := 1) rfl ?_
    refine v_bipush C dX0_staying_5 (by decide) ?_
    refine v_icmp_lt (tgt := 12) C dX0_staying_7 rfl ?_ ?_
    · skip
      refine v_aload_n C dX0_staying_12 rfl (j := 0) rfl ?_
      refine v_getR C 0 rfl (T := TX0) rfl inB0 (by decide) (by decide) rfl tw_209 dX0_staying_13 (fun x1 => ?_)
      refine v_iload_n C dX0_staying_16 rfl (j := 1) rfl ?_
      refine v_iald C dX0_staying_17 (fun x2 => ?_)
      refine v_bipush C dX0_staying_18 (by decide) ?_
      refine v_mn C tw_478 tw_479 tw_13 tw_480 (by rw [hRm]; exact Nat.le_of_ble_eq_true rfl) (by rw [hRm]; exact Nat.le_of_ble_eq_true rfl) (Nat.le_of_ble_eq_true rfl) ⟨Nat.zero_le _, Nat.zero_le _⟩ dX0_staying_20 (fun x3 => ?_)
      exact v_iret C rfl hO pS dX0_staying_23
    · skip
      refine v_iconst C dX0_staying_10 ?_
      exact v_iret C rfl hO pS dX0_staying_11
-- ForesightHub$ErrorBook.placeOf
theorem hX0_placeOf : yX0_placeOf.cls ≠ "java/lang/invoke/MethodHandle" ∧ yX0_placeOf.cls ≠ "java/lang/invoke/VarHandle" ∧ (parseMethodDescriptor yX0_placeOf.desc).map (fun d => d.parameters.length) = some 2 := by decide +kernel
set_option maxRecDepth 100000 in
theorem kX0_placeOf (l : Launch) (w : Wd) (P : Shp) (n : Nat) {s : St} {a0 : Int} {a1 : Int} {a2 : Int} {res : Int} (h : fX0_placeOf P s a0 a1 a2 = some res) : Ct l w yX0_placeOf cX0_placeOf 3 (some FieldType.int) rX0_placeOf P n [A w a0, I a1, I a2] s (QI w P n res s) :=
  Ct.of h (by decide) (Nat.le_of_ble_eq_true rfl) (lv := [(0, A w a0), (1, I a1), (2, I a2)]) rfl fun X hl hRm C hO => by
  subst hl
  unfold fX0_placeOf
  refine v_iload_n C dX0_placeOf_0 rfl (j := 1) rfl ?_
  refine v_if_lt (tgt := 24) C dX0_placeOf_1 rfl ?_ ?_
  · skip
    refine v_iconst C dX0_placeOf_24 ?_
    exact v_iret C rfl hO pS dX0_placeOf_25
  · skip
    refine v_iload_n C dX0_placeOf_4 rfl (j := 1) rfl ?_
    refine v_bipush C dX0_placeOf_5 (by decide) ?_
    refine v_icmp_ge (tgt := 24) C dX0_placeOf_7 rfl ?_ ?_
    · skip
      refine v_iconst C dX0_placeOf_24 ?_
      exact v_iret C rfl hO pS dX0_placeOf_25
    · skip
      refine v_iload_n C dX0_placeOf_10 rfl (j := 2) rfl ?_
      refine v_if_lt (tgt := 24) C dX0_placeOf_11 rfl ?_ ?_
      · skip
        refine v_iconst C dX0_placeOf_24 ?_
        exact v_iret C rfl hO pS dX0_placeOf_25
      · skip
        refine v_iload_n C dX0_placeOf_14 rfl (j := 2) rfl ?_
        refine v_aload_n C dX0_placeOf_15 rfl (j := 0) rfl ?_
        refine v_getR C 0 rfl (T := TX0) rfl inB0 (by decide) (by decide) rfl tw_209 dX0_placeOf_16 (fun x1 => ?_)
        refine v_iload_n C dX0_placeOf_19 rfl (j := 1) rfl ?_
        refine v_iald C dX0_placeOf_20 (fun x2 => ?_)
        refine v_icmp_lt (tgt := 26) C dX0_placeOf_21 rfl ?_ ?_
        · skip
          refine v_iload_n C dX0_placeOf_26 rfl (j := 1) rfl ?_
          refine v_bipush C dX0_placeOf_27 (by decide) ?_
          refine v_imul C dX0_placeOf_29 ?_
          refine v_aload_n C dX0_placeOf_30 rfl (j := 0) rfl ?_
          refine v_getR C 0 rfl (T := TX0) rfl inB0 (by decide) (by decide) rfl tw_209 dX0_placeOf_31 (fun x3 => ?_)
          refine v_iload_n C dX0_placeOf_34 rfl (j := 1) rfl ?_
          refine v_iald C dX0_placeOf_35 (fun x4 => ?_)
          refine v_iadd C dX0_placeOf_36 ?_
          refine v_iconst C dX0_placeOf_37 ?_
          refine v_isub C dX0_placeOf_38 ?_
          refine v_iload_n C dX0_placeOf_39 rfl (j := 2) rfl ?_
          refine v_isub C dX0_placeOf_40 ?_
          exact v_iret C rfl hO pS dX0_placeOf_41
        · skip
          refine v_iconst C dX0_placeOf_24 ?_
          exact v_iret C rfl hO pS dX0_placeOf_25
-- ForesightHub$ErrorBook.timeOf
theorem hX0_timeOf : yX0_timeOf.cls ≠ "java/lang/invoke/MethodHandle" ∧ yX0_timeOf.cls ≠ "java/lang/invoke/VarHandle" ∧ (parseMethodDescriptor yX0_timeOf.desc).map (fun d => d.parameters.length) = some 2 := by decide +kernel
set_option maxRecDepth 100000 in
theorem kX0_timeOf (l : Launch) (w : Wd) (P : Shp) (n : Nat) {s : St} {a0 : Int} {a1 : Int} {a2 : Int} {res : Int} (h : fX0_timeOf P s a0 a1 a2 = some res) : Ct l w yX0_timeOf cX0_timeOf 4 (some FieldType.int) rX0_timeOf P n [A w a0, I a1, I a2] s (QI w P n res s) :=
  Ct.of h (by decide) (Nat.le_of_ble_eq_true rfl) (lv := [(0, A w a0), (1, I a1), (2, I a2)]) rfl fun X hl hRm C hO => by
  subst hl
  unfold fX0_timeOf
  refine v_aload_n C dX0_timeOf_0 rfl (j := 0) rfl ?_
  refine v_iload_n C dX0_timeOf_1 rfl (j := 1) rfl ?_
  refine v_iload_n C dX0_timeOf_2 rfl (j := 2) rfl ?_
  refine v_callV_rI C [I a1, I a2] [] (Cee.of (rm := rX0_placeOf) tw_488 tw_6 hX0_placeOf rfl rfl hRm (Nat.le_of_ble_eq_true rfl) (Nat.le_of_ble_eq_true rfl)) (fun x h => kX0_placeOf X.2.1 w _ _ h) tw_485 tw_487 ts_3 rfl (ci := 0) rfl (by decide) rfl rfl (Nat.le_of_ble_eq_true rfl) ⟨Nat.zero_le _, Nat.zero_le _⟩ dX0_timeOf_3 (fun x1 => ?_)
  refine v_istore_n C [(3, I x1), (0, A w a0), (1, I a1), (2, I a2)] dX0_timeOf_6 rfl (by decide) rfl ?_
  refine v_iload_n C dX0_timeOf_7 rfl (j := 0) rfl ?_
  refine v_iconst C dX0_timeOf_8 ?_
  refine v_icmp_ne (tgt := 16) C dX0_timeOf_9 rfl ?_ ?_
  · skip
    refine v_aload_n C dX0_timeOf_16 rfl (j := 1) rfl ?_
    refine v_getR C 2 rfl (T := TX0) rfl inB0 (by decide) (by decide) rfl tw_213 dX0_timeOf_17 (fun x2 => ?_)
    refine v_iload_n C dX0_timeOf_20 rfl (j := 0) rfl ?_
    refine v_iald C dX0_timeOf_21 (fun x3 => ?_)
    exact v_iret C rfl hO pS dX0_timeOf_22
  · skip
    refine v_iconst C dX0_timeOf_12 ?_
    refine v_goto (tgt := 22) C dX0_timeOf_13 rfl ?_
    exact v_iret C rfl hO pS dX0_timeOf_22
-- ForesightHub$ErrorBook.kindOf
theorem hX0_kindOf : yX0_kindOf.cls ≠ "java/lang/invoke/MethodHandle" ∧ yX0_kindOf.cls ≠ "java/lang/invoke/VarHandle" ∧ (parseMethodDescriptor yX0_kindOf.desc).map (fun d => d.parameters.length) = some 2 := by decide +kernel
set_option maxRecDepth 100000 in
theorem kX0_kindOf (l : Launch) (w : Wd) (P : Shp) (n : Nat) {s : St} {a0 : Int} {a1 : Int} {a2 : Int} {res : Int} (h : fX0_kindOf P s a0 a1 a2 = some res) : Ct l w yX0_kindOf cX0_kindOf 4 (some FieldType.int) rX0_kindOf P n [A w a0, I a1, I a2] s (QI w P n res s) :=
  Ct.of h (by decide) (Nat.le_of_ble_eq_true rfl) (lv := [(0, A w a0), (1, I a1), (2, I a2)]) rfl fun X hl hRm C hO => by
  subst hl
  unfold fX0_kindOf
  refine v_aload_n C dX0_kindOf_0 rfl (j := 0) rfl ?_
  refine v_iload_n C dX0_kindOf_1 rfl (j := 1) rfl ?_
  refine v_iload_n C dX0_kindOf_2 rfl (j := 2) rfl ?_
  refine v_callV_rI C [I a1, I a2] [] (Cee.of (rm := rX0_placeOf) tw_488 tw_6 hX0_placeOf rfl rfl hRm (Nat.le_of_ble_eq_true rfl) (Nat.le_of_ble_eq_true rfl)) (fun x h => kX0_placeOf X.2.1 w _ _ h) tw_485 tw_487 ts_3 rfl (ci := 0) rfl (by decide) rfl rfl (Nat.le_of_ble_eq_true rfl) ⟨Nat.zero_le _, Nat.zero_le _⟩ dX0_kindOf_3 (fun x1 => ?_)
  refine v_istore_n C [(3, I x1), (0, A w a0), (1, I a1), (2, I a2)] dX0_kindOf_6 rfl (by decide) rfl ?_
  refine v_iload_n C dX0_kindOf_7 rfl (j := 0) rfl ?_
  refine v_iconst C dX0_kindOf_8 ?_
  refine v_icmp_ne (tgt := 16) C dX0_kindOf_9 rfl ?_ ?_
  · skip
    refine v_aload_n C dX0_kindOf_16 rfl (j := 1) rfl ?_
    refine v_getR C 1 rfl (T := TX0) rfl inB0 (by decide) (by decide) rfl tw_212 dX0_kindOf_17 (fun x2 => ?_)
    refine v_iload_n C dX0_kindOf_20 rfl (j := 0) rfl ?_
    refine v_iald C dX0_kindOf_21 (fun x3 => ?_)
    exact v_iret C rfl hO pS dX0_kindOf_22
  · skip
    refine v_iconst C dX0_kindOf_12 ?_
    refine v_goto (tgt := 22) C dX0_kindOf_13 rfl ?_
    exact v_iret C rfl hO pS dX0_kindOf_22
-- ForesightHub$Hub.isNextOf
theorem hX2_isNextOf : yX2_isNextOf.cls ≠ "java/lang/invoke/MethodHandle" ∧ yX2_isNextOf.cls ≠ "java/lang/invoke/VarHandle" ∧ (parseMethodDescriptor yX2_isNextOf.desc).map (fun d => d.parameters.length) = some 3 := by decide +kernel
set_option maxRecDepth 100000 in
theorem kX2_isNextOf (l : Launch) (w : Wd) (P : Shp) (n : Nat) {s : St} {a0 : Int} {a1 : Int} {a2 : Int} {a3 : Int} {res : Int} (h : fX2_isNextOf P s a0 a1 a2 a3 = some res) : Ct l w yX2_isNextOf cX2_isNextOf 4 (some FieldType.boolean) rX2_isNextOf P n [A w a0, I a1, I a2, I a3] s (QI w P n res s) :=
  Ct.of h (by decide) (Nat.le_of_ble_eq_true rfl) (lv := [(0, A w a0), (1, I a1), (2, I a2), (3, I a3)]) rfl fun X hl hRm C hO => by
  subst hl
  unfold fX2_isNextOf
  refine v_iload_n C dX2_isNextOf_0 rfl (j := 2) rfl ?_
  refine v_aload_n C dX2_isNextOf_1 rfl (j := 0) rfl ?_
  refine v_getR C 0 rfl (T := TX2) rfl inB2 (by decide) (by decide) rfl tw_306 dX2_isNextOf_2 (fun x1 => ?_)
  refine v_getR C 9 rfl (T := TX4) rfl inB4 (by decide) (by decide) rfl tw_86 dX2_isNextOf_5 (fun x2 => ?_)
  refine v_iload_n C dX2_isNextOf_8 rfl (j := 1) rfl ?_
  refine v_iald C dX2_isNextOf_9 (fun x3 => ?_)
  refine v_icmp_ge (tgt := 39) C dX2_isNextOf_10 rfl ?_ ?_
  · skip
    refine v_iconst C dX2_isNextOf_39 ?_
    exact v_zret C rfl hO pS dX2_isNextOf_40
  · skip
    refine v_iload_n C dX2_isNextOf_13 rfl (j := 2) rfl ?_
    refine v_iconst C dX2_isNextOf_14 ?_
    refine v_icmp_ge (tgt := 39) C dX2_isNextOf_15 rfl ?_ ?_
    · skip
      refine v_iconst C dX2_isNextOf_39 ?_
      exact v_zret C rfl hO pS dX2_isNextOf_40
    · skip
      refine v_aload_n C dX2_isNextOf_18 rfl (j := 0) rfl ?_
      refine v_getR C 0 rfl (T := TX2) rfl inB2 (by decide) (by decide) rfl tw_306 dX2_isNextOf_19 (fun x4 => ?_)
      refine v_getR C 10 rfl (T := TX4) rfl inB4 (by decide) (by decide) rfl tw_89 dX2_isNextOf_22 (fun x5 => ?_)
      refine v_iload_n C dX2_isNextOf_25 rfl (j := 1) rfl ?_
      refine v_iconst C dX2_isNextOf_26 ?_
      refine v_imul C dX2_isNextOf_27 ?_
      refine v_iload_n C dX2_isNextOf_28 rfl (j := 2) rfl ?_
      refine v_iadd C dX2_isNextOf_29 ?_
      refine v_iald C dX2_isNextOf_30 (fun x6 => ?_)
      refine v_iload_n C dX2_isNextOf_31 rfl (j := 3) rfl ?_
      refine v_icmp_ne (tgt := 39) C dX2_isNextOf_32 rfl ?_ ?_
      · skip
        refine v_iconst C dX2_isNextOf_39 ?_
        exact v_zret C rfl hO pS dX2_isNextOf_40
      · skip
        refine v_iconst C dX2_isNextOf_35 ?_
        refine v_goto (tgt := 40) C dX2_isNextOf_36 rfl ?_
        exact v_zret C rfl hO pS dX2_isNextOf_40
-- ForesightHub$Hub.matches
set_option maxRecDepth 100000 in
theorem vX2_matches_L71 {X : Cxt} {w : Wd} {P : Shp} {n : Nat} {s : St} (res : Int) (hRm : X.2.2.2.1 = rX2_matches) (C : Cok X w cX2_matches 9 RX2 (some FieldType.boolean)) (hO : Own X w 0 0 (QI w P n res s))  (c0 : Int) (c1 : Int) (c2 : Int) (c3 : Int) (c4 : Int) (kE138 : Int → Option (Int)) (hE138 : ∀ (p6e : Int), V X w 9 P n 0 0 res (kE138 p6e) s 138 [(0, A w c0), (1, I c1), (3, I c3), (6, I p6e)] []) : ∀ (fuel : Nat) (p6 p7 : Int), V X w 9 P n 0 0 res (fX2_matches_L71 P s c0 c1 c2 c3 c4 kE138 fuel p6 p7) s 71 [(0, A w c0), (1, I c1), (2, I c2), (3, I c3), (4, I c4), (6, I p6), (7, I p7)] [] := by
  intro fuel
  induction fuel with
  | zero => intro p6 p7; exact v_none
  | succ m ih =>
    intro p6 p7
    rw [fX2_matches_L71]
    refine v_iload C dX2_matches_71 (j := 6) rfl ?_
    refine v_if_lt (tgt := 138) C dX2_matches_73 rfl ?_ ?_
    · skip
      refine v_sub [(0, A w c0), (1, I c1), (3, I c3), (6, I p6)] [0, 1, 3, 5] rfl ?_
      exact hE138 p6
    · skip
      refine v_aload_n C dX2_matches_76 rfl (j := 0) rfl ?_
      refine v_getR C 1 rfl (T := TX2) rfl inB2 (by decide) (by decide) rfl tw_308 dX2_matches_77 (fun x10 => ?_)
      refine v_getR C 8 rfl (T := TX6) rfl inB6 (by decide) (by decide) rfl tw_281 dX2_matches_80 (fun x11 => ?_)
      refine v_iload_n C dX2_matches_83 rfl (j := 2) rfl ?_
      refine v_iload C dX2_matches_84 (j := 6) rfl ?_
      refine v_callV_rI C [I c2, I p7] [] (Cee.of (rm := rX0_timeOf) tw_484 tw_6 hX0_timeOf rfl rfl hRm (Nat.le_of_ble_eq_true rfl) (Nat.le_of_ble_eq_true rfl)) (fun x h => kX0_timeOf X.2.1 w _ _ h) tw_481 tw_482 tw_483 rfl (ci := 0) rfl (by decide) rfl rfl (Nat.le_of_ble_eq_true rfl) ⟨Nat.zero_le _, Nat.zero_le _⟩ dX2_matches_86 (fun x12 => ?_)
      refine v_iload C dX2_matches_89 (j := 4) rfl ?_
      refine v_jnt (fun (k99 : Int → Option (Int)) => ∀ (x13 : Int), V X w 9 P n 0 0 res (k99 x13) s 99 [(0, A w c0), (1, I c1), (2, I c2), (3, I c3), (4, I c4), (6, I p6), (7, I p7)] [I x13]) ?_ ?_
      · intro x13
        refine v_istore C [(8, I x13), (0, A w c0), (1, I c1), (2, I c2), (3, I c3), (4, I c4), (6, I p6), (7, I p7)] dX2_matches_99 (by decide) rfl ?_
        refine v_iload C dX2_matches_101 (j := 0) rfl ?_
        refine v_jnt (fun (k132 : Int → Option (Int)) => ∀ (x14 : Int), V X w 9 P n 0 0 res (k132 x14) s 132 [(0, A w c0), (1, I c1), (2, I c2), (3, I c3), (4, I c4), (6, I x14), (7, I p7)] []) ?_ ?_
        · intro x14
          refine v_iinc C (j := 6) [(0, A w c0), (1, I c1), (2, I c2), (3, I c3), (4, I c4), (6, I x14)] dX2_matches_132 (by decide) rfl (fun _ => rfl) (fun x15 => ?_)
          refine v_goto (tgt := 71) C dX2_matches_135 rfl ?_
          refine v_sub [(0, A w c0), (1, I c1), (2, I c2), (3, I c3), (4, I c4), (6, I x14), (7, I x15)] [1, 2, 3, 4, 5, 6, 0] rfl ?_
          exact ih x14 x15
        intro k132 hk132
        refine v_if_eq (tgt := 132) C dX2_matches_103 rfl ?_ ?_
        · skip
          refine v_sub [(0, A w c0), (1, I c1), (2, I c2), (3, I c3), (4, I c4), (6, I p6), (7, I p7)] [1, 2, 3, 4, 5, 6, 7] rfl ?_
          exact hk132 p6
        · skip
          refine v_aload_n C dX2_matches_106 rfl (j := 1) rfl ?_
          refine v_iload_n C dX2_matches_107 rfl (j := 2) rfl ?_
          refine v_iload C dX2_matches_108 (j := 6) rfl ?_
          refine v_aload_n C dX2_matches_110 rfl (j := 1) rfl ?_
          refine v_getR C 1 rfl (T := TX2) rfl inB2 (by decide) (by decide) rfl tw_308 dX2_matches_111 (fun x16 => ?_)
          refine v_getR C 8 rfl (T := TX6) rfl inB6 (by decide) (by decide) rfl tw_281 dX2_matches_114 (fun x17 => ?_)
          refine v_iload_n C dX2_matches_117 rfl (j := 3) rfl ?_
          refine v_iload C dX2_matches_118 (j := 7) rfl ?_
          refine v_callV_rI C [I c2, I p7] [I p6, I c1, A w c0] (Cee.of (rm := rX0_kindOf) tw_492 tw_6 hX0_kindOf rfl rfl hRm (Nat.le_of_ble_eq_true rfl) (Nat.le_of_ble_eq_true rfl)) (fun x h => kX0_kindOf X.2.1 w _ _ h) tw_489 tw_490 tw_491 rfl (ci := 0) rfl (by decide) rfl rfl (Nat.le_of_ble_eq_true rfl) ⟨Nat.zero_le _, Nat.zero_le _⟩ dX2_matches_120 (fun x18 => ?_)
          refine v_callV_rI C [I c1, I p6, I x18] [] (Cee.of (rm := rX2_isNextOf) tw_496 tw_4 hX2_isNextOf rfl rfl hRm (Nat.le_of_ble_eq_true rfl) (Nat.le_of_ble_eq_true rfl)) (fun x h => kX2_isNextOf X.2.1 w _ _ h) tw_493 tw_495 ts_4 rfl (ci := 2) rfl (by decide) rfl rfl (Nat.le_of_ble_eq_true rfl) ⟨Nat.zero_le _, Nat.zero_le _⟩ dX2_matches_123 (fun x19 => ?_)
          refine v_if_eq (tgt := 132) C dX2_matches_126 rfl ?_ ?_
          · skip
            refine v_sub [(0, A w c0), (1, I c1), (2, I c2), (3, I c3), (4, I c4), (6, I p6), (7, I p7)] [1, 2, 3, 4, 5, 6, 7] rfl ?_
            exact hk132 p6
          · skip
            refine v_iinc C (j := 6) [(8, I x13), (0, A w c0), (1, I c1), (2, I c2), (3, I c3), (4, I c4), (7, I p7)] dX2_matches_129 (by decide) rfl (fun _ => rfl) (fun x20 => ?_)
            refine v_sub [(0, A w c0), (1, I c1), (2, I c2), (3, I c3), (4, I c4), (6, I x20), (7, I p7)] [2, 3, 4, 5, 6, 0, 7] rfl ?_
            exact hk132 x20
      intro k99 hk99
      refine v_icmp_le (tgt := 98) C dX2_matches_91 rfl ?_ ?_
      · skip
        refine v_iconst C dX2_matches_98 ?_
        exact hk99 0
      · skip
        refine v_iconst C dX2_matches_94 ?_
        refine v_goto (tgt := 99) C dX2_matches_95 rfl ?_
        exact hk99 1
theorem hX2_matches : yX2_matches.cls ≠ "java/lang/invoke/MethodHandle" ∧ yX2_matches.cls ≠ "java/lang/invoke/VarHandle" ∧ (parseMethodDescriptor yX2_matches.desc).map (fun d => d.parameters.length) = some 3 := by decide +kernel
set_option maxRecDepth 100000 in
theorem kX2_matches (l : Launch) (w : Wd) (P : Shp) (n : Nat) {s : St} {a0 : Int} {a1 : Int} {a2 : Int} {a3 : Int} {res : Int} (h : fX2_matches P s a0 a1 a2 a3 = some res) : Ct l w yX2_matches cX2_matches 9 (some FieldType.boolean) rX2_matches P n [A w a0, I a1, I a2, I a3] s (QI w P n res s) :=
  Ct.of h (by decide) (Nat.le_of_ble_eq_true rfl) (lv := [(0, A w a0), (1, I a1), (2, I a2), (3, I a3)]) rfl fun X hl hRm C hO => by
  subst hl
  unfold fX2_matches
  refine v_aload_n C dX2_matches_0 rfl (j := 0) rfl ?_
  refine v_iload_n C dX2_matches_1 rfl (j := 2) rfl ?_
  refine v_callV_rI C [I a2] [] (Cee.of (rm := rX2_isDevice) tw_440 tw_4 hX2_isDevice rfl rfl hRm (Nat.le_of_ble_eq_true rfl) (Nat.le_of_ble_eq_true rfl)) (fun x h => kX2_isDevice X.2.1 w _ _ h) tw_461 tw_438 tw_439 rfl (ci := 2) rfl (by decide) rfl rfl (Nat.le_of_ble_eq_true rfl) ⟨Nat.zero_le _, Nat.zero_le _⟩ dX2_matches_2 (fun x1 => ?_)
  refine v_if_ne (tgt := 10) C dX2_matches_5 rfl ?_ ?_
  · skip
    refine v_aload_n C dX2_matches_10 rfl (j := 0) rfl ?_
    refine v_getR C 1 rfl (T := TX2) rfl inB2 (by decide) (by decide) rfl tw_308 dX2_matches_11 (fun x2 => ?_)
    refine v_getI C 0 rfl (T := TX6) rfl inB6 (by decide) (by decide) rfl tw_259 dX2_matches_14 (fun x3 => ?_)
    refine v_aload_n C dX2_matches_17 rfl (j := 0) rfl ?_
    refine v_getR C 0 rfl (T := TX2) rfl inB2 (by decide) (by decide) rfl tw_306 dX2_matches_18 (fun x4 => ?_)
    refine v_getR C 8 rfl (T := TX4) rfl inB4 (by decide) (by decide) rfl tw_83 dX2_matches_21 (fun x5 => ?_)
    refine v_iload_n C dX2_matches_24 rfl (j := 1) rfl ?_
    refine v_iald C dX2_matches_25 (fun x6 => ?_)
    refine v_isub C dX2_matches_26 ?_
    refine v_bdI (fun x7 => ?_)
    refine v_istore C [(4, I x7), (0, A w a0), (1, I a1), (2, I a2), (3, I a3)] dX2_matches_27 (by decide) rfl ?_
    refine v_iload_n C dX2_matches_29 rfl (j := 4) rfl ?_
    refine v_iconst C dX2_matches_30 ?_
    refine v_jnt (fun (k60 : Int → Option (Int)) => ∀ (x8 : Int), V X w 9 P n 0 0 res (k60 x8) s 60 [(0, A w a0), (1, I a1), (2, I a2), (3, I a3), (4, I x7)] [I x8]) ?_ ?_
    · intro x8
      refine v_istore C [(5, I x8), (0, A w a0), (1, I a1), (2, I a2), (3, I a3), (4, I x7)] dX2_matches_60 (by decide) rfl ?_
      refine v_iconst C dX2_matches_62 ?_
      refine v_istore C [(6, I 0), (5, I x8), (0, A w a0), (1, I a1), (2, I a2), (3, I a3), (4, I x7)] dX2_matches_63 (by decide) rfl ?_
      refine v_iload C dX2_matches_65 (j := 1) rfl ?_
      refine v_iconst C dX2_matches_67 ?_
      refine v_isub C dX2_matches_68 ?_
      refine v_bdI (fun x9 => ?_)
      refine v_istore C [(7, I x9), (6, I 0), (5, I x8), (0, A w a0), (1, I a1), (2, I a2), (3, I a3), (4, I x7)] dX2_matches_69 (by decide) rfl ?_
      refine v_sub [(0, A w a0), (1, I a1), (2, I a2), (3, I a3), (4, I x7), (6, I 0), (7, I x9)] [3, 4, 5, 6, 7, 1, 0] rfl ?_
      refine vX2_matches_L71 res hRm C hO a0 a1 a2 a3 x7 _ ?_ 1000 0 x9
      · intro x21
        refine v_iload_n C dX2_matches_138 rfl (j := 2) rfl ?_
        refine v_iconst C dX2_matches_139 ?_
        refine v_jnt (fun (k157 : Int → Option (Int)) => ∀ (x22 : Int), V X w 9 P n 0 0 res (k157 x22) s 157 [(0, A w a0), (1, I a1), (6, I x22)] []) ?_ ?_
        · intro x22
          refine v_iload C dX2_matches_157 (j := 2) rfl ?_
          refine v_aload_n C dX2_matches_159 rfl (j := 0) rfl ?_
          refine v_getR C 0 rfl (T := TX2) rfl inB2 (by decide) (by decide) rfl tw_306 dX2_matches_160 (fun x23 => ?_)
          refine v_getR C 9 rfl (T := TX4) rfl inB4 (by decide) (by decide) rfl tw_86 dX2_matches_163 (fun x24 => ?_)
          refine v_iload_n C dX2_matches_166 rfl (j := 1) rfl ?_
          refine v_iald C dX2_matches_167 (fun x25 => ?_)
          refine v_icmp_ne (tgt := 175) C dX2_matches_168 rfl ?_ ?_
          · skip
            refine v_iconst C dX2_matches_175 ?_
            exact v_zret C rfl hO pS dX2_matches_176
          · skip
            refine v_iconst C dX2_matches_171 ?_
            refine v_goto (tgt := 176) C dX2_matches_172 rfl ?_
            exact v_zret C rfl hO pS dX2_matches_176
        intro k157 hk157
        refine v_icmp_eq (tgt := 157) C dX2_matches_140 rfl ?_ ?_
        · skip
          refine v_sub [(0, A w a0), (1, I a1), (6, I x21)] [0, 1, 3] rfl ?_
          exact hk157 x21
        · skip
          refine v_aload_n C dX2_matches_143 rfl (j := 0) rfl ?_
          refine v_iload_n C dX2_matches_144 rfl (j := 1) rfl ?_
          refine v_iload C dX2_matches_145 (j := 3) rfl ?_
          refine v_iload_n C dX2_matches_147 rfl (j := 2) rfl ?_
          refine v_callV_rI C [I a1, I x21, I a3] [] (Cee.of (rm := rX2_isNextOf) tw_496 tw_4 hX2_isNextOf rfl rfl hRm (Nat.le_of_ble_eq_true rfl) (Nat.le_of_ble_eq_true rfl)) (fun x h => kX2_isNextOf X.2.1 w _ _ h) tw_493 tw_495 ts_4 rfl (ci := 2) rfl (by decide) rfl rfl (Nat.le_of_ble_eq_true rfl) ⟨Nat.zero_le _, Nat.zero_le _⟩ dX2_matches_148 (fun x26 => ?_)
          refine v_if_eq (tgt := 157) C dX2_matches_151 rfl ?_ ?_
          · skip
            refine v_sub [(0, A w a0), (1, I a1), (6, I x21)] [0, 1, 3] rfl ?_
            exact hk157 x21
          · skip
            refine v_iinc C (j := 3) [(0, A w a0), (1, I a1), (3, I a3)] dX2_matches_154 (by decide) rfl (fun _ => rfl) (fun x27 => ?_)
            refine v_sub [(0, A w a0), (1, I a1), (6, I x27)] [1, 2, 0] rfl ?_
            exact hk157 x27
    intro k60 hk60
    refine v_icmp_ne (tgt := 49) C dX2_matches_31 rfl ?_ ?_
    · skip
      refine v_aload_n C dX2_matches_49 rfl (j := 1) rfl ?_
      refine v_getR C 1 rfl (T := TX2) rfl inB2 (by decide) (by decide) rfl tw_308 dX2_matches_50 (fun x28 => ?_)
      refine v_getR C 8 rfl (T := TX6) rfl inB6 (by decide) (by decide) rfl tw_281 dX2_matches_53 (fun x29 => ?_)
      refine v_iload_n C dX2_matches_56 rfl (j := 3) rfl ?_
      refine v_callV_rI C [I a2] [] (Cee.of (rm := rX0_staying) tw_477 tw_6 hX0_staying rfl rfl hRm (Nat.le_of_ble_eq_true rfl) (Nat.le_of_ble_eq_true rfl)) (fun x h => kX0_staying X.2.1 w _ _ h) tw_474 tw_475 tw_476 rfl (ci := 0) rfl (by decide) rfl rfl (Nat.le_of_ble_eq_true rfl) ⟨Nat.zero_le _, Nat.zero_le _⟩ dX2_matches_57 (fun x30 => ?_)
      refine v_sub [(0, A w a0), (1, I a1), (2, I a2), (3, I a3), (4, I x7)] [1, 2, 3, 4, 0] rfl ?_
      exact hk60 x30
    · skip
      refine v_aload_n C dX2_matches_34 rfl (j := 1) rfl ?_
      refine v_getR C 1 rfl (T := TX2) rfl inB2 (by decide) (by decide) rfl tw_308 dX2_matches_35 (fun x31 => ?_)
      refine v_getR C 8 rfl (T := TX6) rfl inB6 (by decide) (by decide) rfl tw_281 dX2_matches_38 (fun x32 => ?_)
      refine v_getR C 0 rfl (T := TX0) rfl inB0 (by decide) (by decide) rfl tw_211 dX2_matches_41 (fun x33 => ?_)
      refine v_iload_n C dX2_matches_44 rfl (j := 3) rfl ?_
      refine v_iald C dX2_matches_45 (fun x34 => ?_)
      refine v_goto (tgt := 60) C dX2_matches_46 rfl ?_
      refine v_sub [(0, A w a0), (1, I a1), (2, I a2), (3, I a3), (4, I x7)] [1, 2, 3, 4, 0] rfl ?_
      exact hk60 x34
  · skip
    refine v_iconst C dX2_matches_8 ?_
    exact v_zret C rfl hO pS dX2_matches_9
-- ForesightHub$Hub.matchingBits
set_option maxRecDepth 100000 in
theorem vX2_matchingBits_L5 {X : Cxt} {w : Wd} {P : Shp} {n : Nat} {s : St} (res : Int) (hRm : X.2.2.2.1 = rX2_matchingBits) (C : Cok X w cX2_matchingBits 5 RX2 (some FieldType.int)) (hO : Own X w 0 0 (QI w P n res s))  (c0 : Int) (c1 : Int) (c2 : Int) (kE41 : Int → Option (Int)) (hE41 : ∀ (p3e : Int), V X w 5 P n 0 0 res (kE41 p3e) s 41 [(3, I p3e)] []) : ∀ (fuel : Nat) (p3 p4 : Int), V X w 5 P n 0 0 res (fX2_matchingBits_L5 P s c0 c1 c2 kE41 fuel p3 p4) s 5 [(0, A w c0), (1, I c1), (2, I c2), (3, I p3), (4, I p4)] [] := by
  intro fuel
  induction fuel with
  | zero => intro p3 p4; exact v_none
  | succ m ih =>
    intro p3 p4
    rw [fX2_matchingBits_L5]
    refine v_iload C dX2_matchingBits_5 (j := 4) rfl ?_
    refine v_aload_n C dX2_matchingBits_7 rfl (j := 0) rfl ?_
    refine v_getR C 0 rfl (T := TX2) rfl inB2 (by decide) (by decide) rfl tw_306 dX2_matchingBits_8 (fun x1 => ?_)
    refine v_getI C 4 rfl (T := TX4) rfl inB4 (by decide) (by decide) rfl tw_68 dX2_matchingBits_11 (fun x2 => ?_)
    refine v_icmp_ge (tgt := 41) C dX2_matchingBits_14 rfl ?_ ?_
    · skip
      refine v_sub [(3, I p3)] [3] rfl ?_
      exact hE41 p3
    · skip
      refine v_aload_n C dX2_matchingBits_17 rfl (j := 0) rfl ?_
      refine v_iload C dX2_matchingBits_18 (j := 4) rfl ?_
      refine v_iload_n C dX2_matchingBits_20 rfl (j := 1) rfl ?_
      refine v_iload_n C dX2_matchingBits_21 rfl (j := 2) rfl ?_
      refine v_callV_rI C [I p4, I c1, I c2] [] (Cee.of (rm := rX2_matches) tw_473 tw_4 hX2_matches rfl rfl hRm (Nat.le_of_ble_eq_true rfl) (Nat.le_of_ble_eq_true rfl)) (fun x h => kX2_matches X.2.1 w _ _ h) tw_470 tw_472 ts_2 rfl (ci := 2) rfl (by decide) rfl rfl (Nat.le_of_ble_eq_true rfl) ⟨Nat.zero_le _, Nat.zero_le _⟩ dX2_matchingBits_22 (fun x3 => ?_)
      refine v_jnt (fun (k35 : Int → Option (Int)) => ∀ (x4 : Int), V X w 5 P n 0 0 res (k35 x4) s 35 [(0, A w c0), (1, I c1), (2, I c2), (3, I x4), (4, I p4)] []) ?_ ?_
      · intro x4
        refine v_iinc C (j := 4) [(0, A w c0), (1, I c1), (2, I c2), (3, I x4)] dX2_matchingBits_35 (by decide) rfl (fun _ => rfl) (fun x5 => ?_)
        refine v_goto (tgt := 5) C dX2_matchingBits_38 rfl ?_
        refine v_sub [(0, A w c0), (1, I c1), (2, I c2), (3, I x4), (4, I x5)] [1, 2, 3, 4, 0] rfl ?_
        exact ih x4 x5
      intro k35 hk35
      refine v_if_eq (tgt := 35) C dX2_matchingBits_25 rfl ?_ ?_
      · skip
        exact hk35 p3
      · skip
        refine v_iload_n C dX2_matchingBits_28 rfl (j := 3) rfl ?_
        refine v_iconst C dX2_matchingBits_29 ?_
        refine v_iload C dX2_matchingBits_30 (j := 4) rfl ?_
        refine v_ishl C dX2_matchingBits_32 ?_
        refine v_ior C dX2_matchingBits_33 ?_
        refine v_bdI (fun x6 => ?_)
        refine v_istore_n C [(3, I x6), (0, A w c0), (1, I c1), (2, I c2), (4, I p4)] dX2_matchingBits_34 rfl (by decide) rfl ?_
        refine v_sub [(0, A w c0), (1, I c1), (2, I c2), (3, I x6), (4, I p4)] [1, 2, 3, 0, 4] rfl ?_
        exact hk35 x6
theorem hX2_matchingBits : yX2_matchingBits.cls ≠ "java/lang/invoke/MethodHandle" ∧ yX2_matchingBits.cls ≠ "java/lang/invoke/VarHandle" ∧ (parseMethodDescriptor yX2_matchingBits.desc).map (fun d => d.parameters.length) = some 2 := by decide +kernel
set_option maxRecDepth 100000 in
theorem kX2_matchingBits (l : Launch) (w : Wd) (P : Shp) (n : Nat) {s : St} {a0 : Int} {a1 : Int} {a2 : Int} {res : Int} (h : fX2_matchingBits P s a0 a1 a2 = some res) : Ct l w yX2_matchingBits cX2_matchingBits 5 (some FieldType.int) rX2_matchingBits P n [A w a0, I a1, I a2] s (QI w P n res s) :=
  Ct.of h (by decide) (Nat.le_of_ble_eq_true rfl) (lv := [(0, A w a0), (1, I a1), (2, I a2)]) rfl fun X hl hRm C hO => by
  subst hl
  unfold fX2_matchingBits
  refine v_iconst C dX2_matchingBits_0 ?_
  refine v_istore_n C [(3, I 0), (0, A w a0), (1, I a1), (2, I a2)] dX2_matchingBits_1 rfl (by decide) rfl ?_
  refine v_iconst C dX2_matchingBits_2 ?_
  refine v_istore C [(4, I 0), (3, I 0), (0, A w a0), (1, I a1), (2, I a2)] dX2_matchingBits_3 (by decide) rfl ?_
  refine v_sub [(0, A w a0), (1, I a1), (2, I a2), (3, I 0), (4, I 0)] [2, 3, 4, 1, 0] rfl ?_
  refine vX2_matchingBits_L5 res hRm C hO a0 a1 a2 _ ?_ 1000 0 0
  · intro x7
    refine v_iload_n C dX2_matchingBits_41 rfl (j := 0) rfl ?_
    exact v_iret C rfl hO pS dX2_matchingBits_42
-- ForesightHub$Hub.scoreOf
set_option maxRecDepth 100000 in
theorem vX2_scoreOf_L13 {X : Cxt} {w : Wd} {P : Shp} {n : Nat} {s : St} (res : Int) (hRm : X.2.2.2.1 = rX2_scoreOf) (C : Cok X w cX2_scoreOf 6 RX2 (some FieldType.int)) (hO : Own X w 0 0 (QI w P n res s))  (c0 : Int) (c3 : Int) (kE56 : Int → Option (Int)) (hE56 : ∀ (p4e : Int), V X w 6 P n 0 0 res (kE56 p4e) s 56 [(4, I p4e)] []) : ∀ (fuel : Nat) (p4 p5 : Int), V X w 6 P n 0 0 res (fX2_scoreOf_L13 P s c0 c3 kE56 fuel p4 p5) s 13 [(0, A w c0), (3, I c3), (4, I p4), (5, I p5)] [] := by
  intro fuel
  induction fuel with
  | zero => intro p4 p5; exact v_none
  | succ m ih =>
    intro p4 p5
    rw [fX2_scoreOf_L13]
    refine v_iload C dX2_scoreOf_13 (j := 3) rfl ?_
    refine v_aload_n C dX2_scoreOf_15 rfl (j := 0) rfl ?_
    refine v_getR C 0 rfl (T := TX2) rfl inB2 (by decide) (by decide) rfl tw_306 dX2_scoreOf_16 (fun x2 => ?_)
    refine v_getI C 4 rfl (T := TX4) rfl inB4 (by decide) (by decide) rfl tw_68 dX2_scoreOf_19 (fun x3 => ?_)
    refine v_icmp_ge (tgt := 56) C dX2_scoreOf_22 rfl ?_ ?_
    · skip
      refine v_sub [(4, I p4)] [2] rfl ?_
      exact hE56 p4
    · skip
      refine v_iload_n C dX2_scoreOf_25 rfl (j := 1) rfl ?_
      refine v_iload C dX2_scoreOf_26 (j := 3) rfl ?_
      refine v_ishr C dX2_scoreOf_28 ?_
      refine v_iconst C dX2_scoreOf_29 ?_
      refine v_iand C dX2_scoreOf_30 ?_
      refine v_iconst C dX2_scoreOf_31 ?_
      refine v_jnt (fun (k50 : Int → Option (Int)) => ∀ (x4 : Int), V X w 6 P n 0 0 res (k50 x4) s 50 [(0, A w c0), (3, I c3), (4, I x4), (5, I p5)] []) ?_ ?_
      · intro x4
        refine v_iinc C (j := 3) [(0, A w c0), (3, I c3), (4, I x4)] dX2_scoreOf_50 (by decide) rfl (fun _ => rfl) (fun x5 => ?_)
        refine v_goto (tgt := 13) C dX2_scoreOf_53 rfl ?_
        refine v_sub [(0, A w c0), (3, I c3), (4, I x4), (5, I x5)] [1, 2, 3, 0] rfl ?_
        exact ih x4 x5
      intro k50 hk50
      refine v_icmp_ne (tgt := 50) C dX2_scoreOf_32 rfl ?_ ?_
      · skip
        exact hk50 p4
      · skip
        refine v_iload C dX2_scoreOf_35 (j := 2) rfl ?_
        refine v_aload_n C dX2_scoreOf_37 rfl (j := 0) rfl ?_
        refine v_getR C 0 rfl (T := TX2) rfl inB2 (by decide) (by decide) rfl tw_306 dX2_scoreOf_38 (fun x6 => ?_)
        refine v_getR C 7 rfl (T := TX4) rfl inB4 (by decide) (by decide) rfl tw_80 dX2_scoreOf_41 (fun x7 => ?_)
        refine v_iload C dX2_scoreOf_44 (j := 3) rfl ?_
        refine v_iald C dX2_scoreOf_46 (fun x8 => ?_)
        refine v_iadd C dX2_scoreOf_47 ?_
        refine v_bdI (fun x9 => ?_)
        refine v_istore C [(4, I x9), (0, A w c0), (3, I c3), (5, I p5)] dX2_scoreOf_48 (by decide) rfl ?_
        refine v_sub [(0, A w c0), (3, I c3), (4, I x9), (5, I p5)] [1, 2, 0, 3] rfl ?_
        exact hk50 x9
theorem hX2_scoreOf : yX2_scoreOf.cls ≠ "java/lang/invoke/MethodHandle" ∧ yX2_scoreOf.cls ≠ "java/lang/invoke/VarHandle" ∧ (parseMethodDescriptor yX2_scoreOf.desc).map (fun d => d.parameters.length) = some 2 := by decide +kernel
set_option maxRecDepth 100000 in
theorem kX2_scoreOf (l : Launch) (w : Wd) (P : Shp) (n : Nat) {s : St} {a0 : Int} {a1 : Int} {a2 : Int} {res : Int} (h : fX2_scoreOf P s a0 a1 a2 = some res) : Ct l w yX2_scoreOf cX2_scoreOf 6 (some FieldType.int) rX2_scoreOf P n [A w a0, I a1, I a2] s (QI w P n res s) :=
  Ct.of h (by decide) (Nat.le_of_ble_eq_true rfl) (lv := [(0, A w a0), (1, I a1), (2, I a2)]) rfl fun X hl hRm C hO => by
  subst hl
  unfold fX2_scoreOf
  refine v_aload_n C dX2_scoreOf_0 rfl (j := 0) rfl ?_
  refine v_iload_n C dX2_scoreOf_1 rfl (j := 1) rfl ?_
  refine v_iload_n C dX2_scoreOf_2 rfl (j := 2) rfl ?_
  refine v_callV_rI C [I a1, I a2] [] (Cee.of (rm := rX2_matchingBits) tw_469 tw_4 hX2_matchingBits rfl rfl hRm (Nat.le_of_ble_eq_true rfl) (Nat.le_of_ble_eq_true rfl)) (fun x h => kX2_matchingBits X.2.1 w _ _ h) tw_466 tw_467 tw_468 rfl (ci := 2) rfl (by decide) rfl rfl (Nat.le_of_ble_eq_true rfl) ⟨Nat.zero_le _, Nat.zero_le _⟩ dX2_scoreOf_3 (fun x1 => ?_)
  refine v_istore_n C [(3, I x1), (0, A w a0), (1, I a1), (2, I a2)] dX2_scoreOf_6 rfl (by decide) rfl ?_
  refine v_iconst C dX2_scoreOf_7 ?_
  refine v_istore C [(4, I 0), (3, I x1), (0, A w a0), (1, I a1), (2, I a2)] dX2_scoreOf_8 (by decide) rfl ?_
  refine v_iconst C dX2_scoreOf_10 ?_
  refine v_istore C [(5, I 0), (4, I 0), (3, I x1), (0, A w a0), (1, I a1), (2, I a2)] dX2_scoreOf_11 (by decide) rfl ?_
  refine v_sub [(0, A w a0), (3, I x1), (4, I 0), (5, I 0)] [3, 2, 1, 0] rfl ?_
  refine vX2_scoreOf_L13 res hRm C hO a0 x1 _ ?_ 1000 0 0
  · intro x10
    refine v_iload C dX2_scoreOf_56 (j := 0) rfl ?_
    exact v_iret C rfl hO pS dX2_scoreOf_58
-- ForesightHub$Hub.heldBits
set_option maxRecDepth 100000 in
theorem vX2_heldBits_L4 {X : Cxt} {w : Wd} {P : Shp} {n : Nat} {s : St} (res : Int) (hRm : X.2.2.2.1 = rX2_heldBits) (C : Cok X w cX2_heldBits 4 RX2 (some FieldType.int)) (hO : Own X w 0 0 (QI w P n res s))  (c0 : Int) (c1 : Int) (kE40 : Int → Option (Int)) (hE40 : ∀ (p2e : Int), V X w 4 P n 0 0 res (kE40 p2e) s 40 [(2, I p2e)] []) : ∀ (fuel : Nat) (p2 p3 : Int), V X w 4 P n 0 0 res (fX2_heldBits_L4 P s c0 c1 kE40 fuel p2 p3) s 4 [(0, A w c0), (1, I c1), (2, I p2), (3, I p3)] [] := by
  intro fuel
  induction fuel with
  | zero => intro p2 p3; exact v_none
  | succ m ih =>
    intro p2 p3
    rw [fX2_heldBits_L4]
    refine v_iload_n C dX2_heldBits_4 rfl (j := 3) rfl ?_
    refine v_aload_n C dX2_heldBits_5 rfl (j := 0) rfl ?_
    refine v_getR C 0 rfl (T := TX2) rfl inB2 (by decide) (by decide) rfl tw_306 dX2_heldBits_6 (fun x1 => ?_)
    refine v_getI C 6 rfl (T := TX4) rfl inB4 (by decide) (by decide) rfl tw_76 dX2_heldBits_9 (fun x2 => ?_)
    refine v_icmp_ge (tgt := 40) C dX2_heldBits_12 rfl ?_ ?_
    · skip
      refine v_sub [(2, I p2)] [2] rfl ?_
      exact hE40 p2
    · skip
      refine v_aload_n C dX2_heldBits_15 rfl (j := 0) rfl ?_
      refine v_getR C 1 rfl (T := TX2) rfl inB2 (by decide) (by decide) rfl tw_308 dX2_heldBits_16 (fun x3 => ?_)
      refine v_getR C 4 rfl (T := TX6) rfl inB6 (by decide) (by decide) rfl tw_270 dX2_heldBits_19 (fun x4 => ?_)
      refine v_iload_n C dX2_heldBits_22 rfl (j := 3) rfl ?_
      refine v_iald C dX2_heldBits_23 (fun x5 => ?_)
      refine v_iload_n C dX2_heldBits_24 rfl (j := 1) rfl ?_
      refine v_jnt (fun (k34 : Int → Option (Int)) => ∀ (x6 : Int), V X w 4 P n 0 0 res (k34 x6) s 34 [(0, A w c0), (1, I c1), (2, I x6), (3, I p3)] []) ?_ ?_
      · intro x6
        refine v_iinc C (j := 3) [(0, A w c0), (1, I c1), (2, I x6)] dX2_heldBits_34 (by decide) rfl (fun _ => rfl) (fun x7 => ?_)
        refine v_goto (tgt := 4) C dX2_heldBits_37 rfl ?_
        refine v_sub [(0, A w c0), (1, I c1), (2, I x6), (3, I x7)] [1, 2, 3, 0] rfl ?_
        exact ih x6 x7
      intro k34 hk34
      refine v_icmp_ne (tgt := 34) C dX2_heldBits_25 rfl ?_ ?_
      · skip
        exact hk34 p2
      · skip
        refine v_iload_n C dX2_heldBits_28 rfl (j := 2) rfl ?_
        refine v_iconst C dX2_heldBits_29 ?_
        refine v_iload_n C dX2_heldBits_30 rfl (j := 3) rfl ?_
        refine v_ishl C dX2_heldBits_31 ?_
        refine v_ior C dX2_heldBits_32 ?_
        refine v_bdI (fun x8 => ?_)
        refine v_istore_n C [(2, I x8), (0, A w c0), (1, I c1), (3, I p3)] dX2_heldBits_33 rfl (by decide) rfl ?_
        refine v_sub [(0, A w c0), (1, I c1), (2, I x8), (3, I p3)] [1, 2, 0, 3] rfl ?_
        exact hk34 x8
theorem hX2_heldBits : yX2_heldBits.cls ≠ "java/lang/invoke/MethodHandle" ∧ yX2_heldBits.cls ≠ "java/lang/invoke/VarHandle" ∧ (parseMethodDescriptor yX2_heldBits.desc).map (fun d => d.parameters.length) = some 1 := by decide +kernel
set_option maxRecDepth 100000 in
theorem kX2_heldBits (l : Launch) (w : Wd) (P : Shp) (n : Nat) {s : St} {a0 : Int} {a1 : Int} {res : Int} (h : fX2_heldBits P s a0 a1 = some res) : Ct l w yX2_heldBits cX2_heldBits 4 (some FieldType.int) rX2_heldBits P n [A w a0, I a1] s (QI w P n res s) :=
  Ct.of h (by decide) (Nat.le_of_ble_eq_true rfl) (lv := [(0, A w a0), (1, I a1)]) rfl fun X hl hRm C hO => by
  subst hl
  unfold fX2_heldBits
  refine v_iconst C dX2_heldBits_0 ?_
  refine v_istore_n C [(2, I 0), (0, A w a0), (1, I a1)] dX2_heldBits_1 rfl (by decide) rfl ?_
  refine v_iconst C dX2_heldBits_2 ?_
  refine v_istore_n C [(3, I 0), (2, I 0), (0, A w a0), (1, I a1)] dX2_heldBits_3 rfl (by decide) rfl ?_
  refine v_sub [(0, A w a0), (1, I a1), (2, I 0), (3, I 0)] [2, 3, 1, 0] rfl ?_
  refine vX2_heldBits_L4 res hRm C hO a0 a1 _ ?_ 1000 0 0
  · intro x9
    refine v_iload_n C dX2_heldBits_40 rfl (j := 0) rfl ?_
    exact v_iret C rfl hO pS dX2_heldBits_41
