/-! CONTRACTS of the constructors -/
theorem dfX0 : dfOk 0 6 tyX0 := by
  intro j hj
  match j, hj with
  | 0, _ => exact ⟨_, rfl, rfl⟩
  | 1, _ => exact ⟨_, rfl, rfl⟩
  | 2, _ => exact ⟨_, rfl, rfl⟩
  | 3, _ => exact ⟨_, rfl, rfl⟩
  | 4, _ => exact ⟨_, rfl, rfl⟩
  | 5, _ => exact ⟨_, rfl, rfl⟩
  | j + 6, h => exact absurd h (by omega)
theorem dfX1 : dfOk 1 3 tyX1 := by
  intro j hj
  match j, hj with
  | 0, _ => exact ⟨_, rfl, rfl⟩
  | 1, _ => exact ⟨_, rfl, rfl⟩
  | 2, _ => exact ⟨_, rfl, rfl⟩
  | j + 3, h => exact absurd h (by omega)
theorem dfX2 : dfOk 2 2 tyX2 := by
  intro j hj
  match j, hj with
  | 0, _ => exact ⟨_, rfl, rfl⟩
  | 1, _ => exact ⟨_, rfl, rfl⟩
  | j + 2, h => exact absurd h (by omega)
theorem dfX3 : dfOk 3 6 tyX3 := by
  intro j hj
  match j, hj with
  | 0, _ => exact ⟨_, rfl, rfl⟩
  | 1, _ => exact ⟨_, rfl, rfl⟩
  | 2, _ => exact ⟨_, rfl, rfl⟩
  | 3, _ => exact ⟨_, rfl, rfl⟩
  | 4, _ => exact ⟨_, rfl, rfl⟩
  | 5, _ => exact ⟨_, rfl, rfl⟩
  | j + 6, h => exact absurd h (by omega)
theorem dfX4 : dfOk 4 16 tyX4 := by
  intro j hj
  match j, hj with
  | 0, _ => exact ⟨_, rfl, rfl⟩
  | 1, _ => exact ⟨_, rfl, rfl⟩
  | 2, _ => exact ⟨_, rfl, rfl⟩
  | 3, _ => exact ⟨_, rfl, rfl⟩
  | 4, _ => exact ⟨_, rfl, rfl⟩
  | 5, _ => exact ⟨_, rfl, rfl⟩
  | 6, _ => exact ⟨_, rfl, rfl⟩
  | 7, _ => exact ⟨_, rfl, rfl⟩
  | 8, _ => exact ⟨_, rfl, rfl⟩
  | 9, _ => exact ⟨_, rfl, rfl⟩
  | 10, _ => exact ⟨_, rfl, rfl⟩
  | 11, _ => exact ⟨_, rfl, rfl⟩
  | 12, _ => exact ⟨_, rfl, rfl⟩
  | 13, _ => exact ⟨_, rfl, rfl⟩
  | 14, _ => exact ⟨_, rfl, rfl⟩
  | 15, _ => exact ⟨_, rfl, rfl⟩
  | j + 16, h => exact absurd h (by omega)
theorem dfX5 : dfOk 5 14 tyX5 := by
  intro j hj
  match j, hj with
  | 0, _ => exact ⟨_, rfl, rfl⟩
  | 1, _ => exact ⟨_, rfl, rfl⟩
  | 2, _ => exact ⟨_, rfl, rfl⟩
  | 3, _ => exact ⟨_, rfl, rfl⟩
  | 4, _ => exact ⟨_, rfl, rfl⟩
  | 5, _ => exact ⟨_, rfl, rfl⟩
  | 6, _ => exact ⟨_, rfl, rfl⟩
  | 7, _ => exact ⟨_, rfl, rfl⟩
  | 8, _ => exact ⟨_, rfl, rfl⟩
  | 9, _ => exact ⟨_, rfl, rfl⟩
  | 10, _ => exact ⟨_, rfl, rfl⟩
  | 11, _ => exact ⟨_, rfl, rfl⟩
  | 12, _ => exact ⟨_, rfl, rfl⟩
  | 13, _ => exact ⟨_, rfl, rfl⟩
  | j + 14, h => exact absurd h (by omega)
theorem dfX6 : dfOk 6 10 tyX6 := by
  intro j hj
  match j, hj with
  | 0, _ => exact ⟨_, rfl, rfl⟩
  | 1, _ => exact ⟨_, rfl, rfl⟩
  | 2, _ => exact ⟨_, rfl, rfl⟩
  | 3, _ => exact ⟨_, rfl, rfl⟩
  | 4, _ => exact ⟨_, rfl, rfl⟩
  | 5, _ => exact ⟨_, rfl, rfl⟩
  | 6, _ => exact ⟨_, rfl, rfl⟩
  | 7, _ => exact ⟨_, rfl, rfl⟩
  | 8, _ => exact ⟨_, rfl, rfl⟩
  | 9, _ => exact ⟨_, rfl, rfl⟩
  | j + 10, h => exact absurd h (by omega)
theorem dfX7 : dfOk 7 5 tyX7 := by
  intro j hj
  match j, hj with
  | 0, _ => exact ⟨_, rfl, rfl⟩
  | 1, _ => exact ⟨_, rfl, rfl⟩
  | 2, _ => exact ⟨_, rfl, rfl⟩
  | 3, _ => exact ⟨_, rfl, rfl⟩
  | 4, _ => exact ⟨_, rfl, rfl⟩
  | j + 5, h => exact absurd h (by omega)
theorem dfX8 : dfOk 8 4 tyJ4 := by
  intro j hj
  match j, hj with
  | 0, _ => exact ⟨_, rfl, rfl⟩
  | 1, _ => exact ⟨_, rfl, rfl⟩
  | 2, _ => exact ⟨_, rfl, rfl⟩
  | 3, _ => exact ⟨_, rfl, rfl⟩
  | j + 4, h => exact absurd h (by omega)
-- ForesightHub$Plan.<init>
theorem hX4_init : yX4_init.cls ≠ "java/lang/invoke/MethodHandle" ∧ yX4_init.cls ≠ "java/lang/invoke/VarHandle" ∧ (parseMethodDescriptor yX4_init.desc).map (fun d => d.parameters.length) = some 0 := by decide +kernel
set_option maxRecDepth 100000 in
theorem kX4_init (l : Launch) (w : Wd) (P : Shp) (n : Nat) {s : St} {a0 : Int} {res : Hs} (h : fX4_init P n s a0 = some res) : CtN l w yX4_init cX4_init 1 rX4_init 9 100 P n [A w a0] s res :=
  CtN.of h (by decide) (Nat.le_of_ble_eq_true rfl) (lv := [(0, A w a0)]) rfl fun X hl hRm C hnm hO => by
  subst hl
  unfold fX4_init
  refine v_aload_n C dX4_init_0 rfl (j := 0) rfl ?_
  refine v_oinit C tw_45 tw_32 tw_33 (by rw [hRm]; exact Nat.le_of_ble_eq_true rfl) (by rw [hRm]; exact Nat.le_of_ble_eq_true rfl) (Nat.le_of_ble_eq_true rfl) dX4_init_1 ?_
  refine v_aload_n C dX4_init_4 rfl (j := 0) rfl ?_
  refine v_bipush C dX4_init_5 (by decide) ?_
  refine v_newa10 C tw_143 (by decide) (by rw [hRm]; exact Nat.le_of_ble_eq_true rfl) (by rw [hRm]; exact Nat.le_of_ble_eq_true rfl) dX4_init_7 (fun P n x1 s2 => ?_)
  refine v_putFR C 7 rfl (T := TX4) rfl inB4 (by decide) tyX4_ok nmX4 (by decide) rfl rfl (hnm.trans rfl) rfl tw_78 dX4_init_9 (Or.inr ⟨_, rfl⟩) (fun s3 => ?_)
  refine v_aload_n C dX4_init_12 rfl (j := 0) rfl ?_
  refine v_bipush C dX4_init_13 (by decide) ?_
  refine v_newa10 C tw_143 (by decide) (by rw [hRm]; exact Nat.le_of_ble_eq_true rfl) (by rw [hRm]; exact Nat.le_of_ble_eq_true rfl) dX4_init_15 (fun P n x4 s5 => ?_)
  refine v_putFR C 8 rfl (T := TX4) rfl inB4 (by decide) tyX4_ok nmX4 (by decide) rfl rfl (hnm.trans rfl) rfl tw_81 dX4_init_17 (Or.inr ⟨_, rfl⟩) (fun s6 => ?_)
  refine v_aload_n C dX4_init_20 rfl (j := 0) rfl ?_
  refine v_bipush C dX4_init_21 (by decide) ?_
  refine v_newa10 C tw_143 (by decide) (by rw [hRm]; exact Nat.le_of_ble_eq_true rfl) (by rw [hRm]; exact Nat.le_of_ble_eq_true rfl) dX4_init_23 (fun P n x7 s8 => ?_)
  refine v_putFR C 9 rfl (T := TX4) rfl inB4 (by decide) tyX4_ok nmX4 (by decide) rfl rfl (hnm.trans rfl) rfl tw_84 dX4_init_25 (Or.inr ⟨_, rfl⟩) (fun s9 => ?_)
  refine v_aload_n C dX4_init_28 rfl (j := 0) rfl ?_
  refine v_bipush C dX4_init_29 (by decide) ?_
  refine v_newa10 C tw_143 (by decide) (by rw [hRm]; exact Nat.le_of_ble_eq_true rfl) (by rw [hRm]; exact Nat.le_of_ble_eq_true rfl) dX4_init_31 (fun P n x10 s11 => ?_)
  refine v_putFR C 10 rfl (T := TX4) rfl inB4 (by decide) tyX4_ok nmX4 (by decide) rfl rfl (hnm.trans rfl) rfl tw_87 dX4_init_33 (Or.inr ⟨_, rfl⟩) (fun s12 => ?_)
  refine v_aload_n C dX4_init_36 rfl (j := 0) rfl ?_
  refine v_bipush C dX4_init_37 (by decide) ?_
  refine v_newa10 C tw_143 (by decide) (by rw [hRm]; exact Nat.le_of_ble_eq_true rfl) (by rw [hRm]; exact Nat.le_of_ble_eq_true rfl) dX4_init_39 (fun P n x13 s14 => ?_)
  refine v_putFR C 11 rfl (T := TX4) rfl inB4 (by decide) tyX4_ok nmX4 (by decide) rfl rfl (hnm.trans rfl) rfl tw_90 dX4_init_41 (Or.inr ⟨_, rfl⟩) (fun s15 => ?_)
  refine v_aload_n C dX4_init_44 rfl (j := 0) rfl ?_
  refine v_bipush C dX4_init_45 (by decide) ?_
  refine v_newa10 C tw_143 (by decide) (by rw [hRm]; exact Nat.le_of_ble_eq_true rfl) (by rw [hRm]; exact Nat.le_of_ble_eq_true rfl) dX4_init_47 (fun P n x16 s17 => ?_)
  refine v_putFR C 12 rfl (T := TX4) rfl inB4 (by decide) tyX4_ok nmX4 (by decide) rfl rfl (hnm.trans rfl) rfl tw_93 dX4_init_49 (Or.inr ⟨_, rfl⟩) (fun s18 => ?_)
  refine v_aload_n C dX4_init_52 rfl (j := 0) rfl ?_
  refine v_bipush C dX4_init_53 (by decide) ?_
  refine v_newa10 C tw_143 (by decide) (by rw [hRm]; exact Nat.le_of_ble_eq_true rfl) (by rw [hRm]; exact Nat.le_of_ble_eq_true rfl) dX4_init_55 (fun P n x19 s20 => ?_)
  refine v_putFR C 13 rfl (T := TX4) rfl inB4 (by decide) tyX4_ok nmX4 (by decide) rfl rfl (hnm.trans rfl) rfl tw_97 dX4_init_57 (Or.inr ⟨_, rfl⟩) (fun s21 => ?_)
  refine v_aload_n C dX4_init_60 rfl (j := 0) rfl ?_
  refine v_bipush C dX4_init_61 (by decide) ?_
  refine v_newa10 C tw_143 (by decide) (by rw [hRm]; exact Nat.le_of_ble_eq_true rfl) (by rw [hRm]; exact Nat.le_of_ble_eq_true rfl) dX4_init_63 (fun P n x22 s23 => ?_)
  refine v_putFR C 14 rfl (T := TX4) rfl inB4 (by decide) tyX4_ok nmX4 (by decide) rfl rfl (hnm.trans rfl) rfl tw_101 dX4_init_65 (Or.inr ⟨_, rfl⟩) (fun s24 => ?_)
  refine v_aload_n C dX4_init_68 rfl (j := 0) rfl ?_
  refine v_bipush C dX4_init_69 (by decide) ?_
  refine v_newa10 C tw_143 (by decide) (by rw [hRm]; exact Nat.le_of_ble_eq_true rfl) (by rw [hRm]; exact Nat.le_of_ble_eq_true rfl) dX4_init_71 (fun P n x25 s26 => ?_)
  refine v_putFR C 15 rfl (T := TX4) rfl inB4 (by decide) tyX4_ok nmX4 (by decide) rfl rfl (hnm.trans rfl) rfl tw_105 dX4_init_73 (Or.inr ⟨_, rfl⟩) (fun s27 => ?_)
  refine v_aload_n C dX4_init_76 rfl (j := 0) rfl ?_
  refine v_callV_wV C [] [] (Cee.of (rm := rX4_clear) tw_49 tw_3 hX4_clear rfl rfl hRm (Nat.le_of_ble_eq_true rfl) (Nat.le_of_ble_eq_true rfl)) (fun x h => kX4_clear X.2.1 w _ _ h) tw_46 tw_47 tw_48 rfl (ci := 4) rfl (by decide) rfl rfl (Nat.le_of_ble_eq_true rfl) (by rw [hRm]; exact ⟨Nat.le_of_ble_eq_true rfl, Nat.le_of_ble_eq_true rfl⟩) dX4_init_77 (fun s28 => ?_)
  exact v_nret C rfl hO (Nat.le_of_ble_eq_true rfl) (Nat.le_of_ble_eq_true rfl) dX4_init_80
-- ForesightHub$Reader.<init>
theorem hX5_init : yX5_init.cls ≠ "java/lang/invoke/MethodHandle" ∧ yX5_init.cls ≠ "java/lang/invoke/VarHandle" ∧ (parseMethodDescriptor yX5_init.desc).map (fun d => d.parameters.length) = some 0 := by decide +kernel
set_option maxRecDepth 100000 in
theorem kX5_init (l : Launch) (w : Wd) (P : Shp) (n : Nat) {s : St} {a0 : Int} {res : Hs} (h : fX5_init P n s a0 = some res) : CtN l w yX5_init cX5_init 1 rX5_init 14 742 P n [A w a0] s res :=
  CtN.of h (by decide) (Nat.le_of_ble_eq_true rfl) (lv := [(0, A w a0)]) rfl fun X hl hRm C hnm hO => by
  subst hl
  unfold fX5_init
  refine v_aload_n C dX5_init_0 rfl (j := 0) rfl ?_
  refine v_oinit C tw_39 tw_32 tw_33 (by rw [hRm]; exact Nat.le_of_ble_eq_true rfl) (by rw [hRm]; exact Nat.le_of_ble_eq_true rfl) (Nat.le_of_ble_eq_true rfl) dX5_init_1 ?_
  refine v_aload_n C dX5_init_4 rfl (j := 0) rfl ?_
  refine v_sipush C dX5_init_5 (by decide) ?_
  refine v_newa9 C tw_142 (by decide) (by rw [hRm]; exact Nat.le_of_ble_eq_true rfl) (by rw [hRm]; exact Nat.le_of_ble_eq_true rfl) dX5_init_8 (fun P n x1 s2 => ?_)
  refine v_putFR C 0 rfl (T := TX5) rfl inB5 (by decide) tyX5_ok nmX5 (by decide) rfl rfl (hnm.trans rfl) rfl tw_144 dX5_init_10 (Or.inr ⟨_, rfl⟩) (fun s3 => ?_)
  refine v_aload_n C dX5_init_13 rfl (j := 0) rfl ?_
  refine v_new C (ci := 4) rfl inB4 (by decide) tyX4_ok dfX4 tw_40 tw_41 tw_3 (by rw [hRm]; exact Nat.le_of_ble_eq_true rfl) (by rw [hRm]; exact Nat.le_of_ble_eq_true rfl) dX5_init_14 (fun P n x4 s5 => ?_)
  refine v_dup C dX5_init_17 rfl ?_
  refine v_callN C (rm := rX4_init) [] [A w x4, A w a0] (fun x h => kX4_init X.2.1 w _ _ h) rfl tw_44 tw_3 hX4_init rfl rfl hRm (Nat.le_of_ble_eq_true rfl) (Nat.le_of_ble_eq_true rfl) tw_42 tw_43 rfl rfl (Nat.le_of_ble_eq_true rfl) ⟨Nat.le_of_ble_eq_true rfl, Nat.le_of_ble_eq_true rfl⟩ dX5_init_18 (fun P n s6 => ?_)
  refine v_putR C 9 rfl (T := TX5) rfl inB5 (by decide) tyX5_ok nmX5 (by decide) rfl rfl tw_154 dX5_init_21 (Or.inl ⟨_, rfl⟩) (fun s7 => ?_)
  refine v_aload_n C dX5_init_24 rfl (j := 0) rfl ?_
  refine v_bipush C dX5_init_25 (by decide) ?_
  refine v_newa11 C tw_188 (by decide) (by rw [hRm]; exact Nat.le_of_ble_eq_true rfl) (by rw [hRm]; exact Nat.le_of_ble_eq_true rfl) dX5_init_27 (fun P n x8 s9 => ?_)
  refine v_putFR C 11 rfl (T := TX5) rfl inB5 (by decide) tyX5_ok nmX5 (by decide) rfl rfl (hnm.trans rfl) rfl tw_156 dX5_init_29 (Or.inr ⟨_, rfl⟩) (fun s10 => ?_)
  refine v_aload_n C dX5_init_32 rfl (j := 0) rfl ?_
  refine v_bipush C dX5_init_33 (by decide) ?_
  refine v_newa11 C tw_188 (by decide) (by rw [hRm]; exact Nat.le_of_ble_eq_true rfl) (by rw [hRm]; exact Nat.le_of_ble_eq_true rfl) dX5_init_35 (fun P n x11 s12 => ?_)
  refine v_putFR C 12 rfl (T := TX5) rfl inB5 (by decide) tyX5_ok nmX5 (by decide) rfl rfl (hnm.trans rfl) rfl tw_157 dX5_init_37 (Or.inr ⟨_, rfl⟩) (fun s13 => ?_)
  refine v_aload_n C dX5_init_40 rfl (j := 0) rfl ?_
  refine v_bipush C dX5_init_41 (by decide) ?_
  refine v_newa11 C tw_188 (by decide) (by rw [hRm]; exact Nat.le_of_ble_eq_true rfl) (by rw [hRm]; exact Nat.le_of_ble_eq_true rfl) dX5_init_43 (fun P n x14 s15 => ?_)
  refine v_putFR C 13 rfl (T := TX5) rfl inB5 (by decide) tyX5_ok nmX5 (by decide) rfl rfl (hnm.trans rfl) rfl tw_158 dX5_init_45 (Or.inr ⟨_, rfl⟩) (fun s16 => ?_)
  exact v_nret C rfl hO (Nat.le_of_ble_eq_true rfl) (Nat.le_of_ble_eq_true rfl) dX5_init_48
-- ForesightHub$ErrorBook.<init>
theorem hX0_init : yX0_init.cls ≠ "java/lang/invoke/MethodHandle" ∧ yX0_init.cls ≠ "java/lang/invoke/VarHandle" ∧ (parseMethodDescriptor yX0_init.desc).map (fun d => d.parameters.length) = some 0 := by decide +kernel
set_option maxRecDepth 100000 in
theorem kX0_init (l : Launch) (w : Wd) (P : Shp) (n : Nat) {s : St} {a0 : Int} {res : Hs} (h : fX0_init P n s a0 = some res) : CtN l w yX0_init cX0_init 1 rX0_init 5 264 P n [A w a0] s res :=
  CtN.of h (by decide) (Nat.le_of_ble_eq_true rfl) (lv := [(0, A w a0)]) rfl fun X hl hRm C hnm hO => by
  subst hl
  unfold fX0_init
  refine v_aload_n C dX0_init_0 rfl (j := 0) rfl ?_
  refine v_oinit C tw_208 tw_32 tw_33 (by rw [hRm]; exact Nat.le_of_ble_eq_true rfl) (by rw [hRm]; exact Nat.le_of_ble_eq_true rfl) (Nat.le_of_ble_eq_true rfl) dX0_init_1 ?_
  refine v_aload_n C dX0_init_4 rfl (j := 0) rfl ?_
  refine v_bipush C dX0_init_5 (by decide) ?_
  refine v_newa10 C tw_143 (by decide) (by rw [hRm]; exact Nat.le_of_ble_eq_true rfl) (by rw [hRm]; exact Nat.le_of_ble_eq_true rfl) dX0_init_7 (fun P n x1 s2 => ?_)
  refine v_putFR C 0 rfl (T := TX0) rfl inB0 (by decide) tyX0_ok nmX0 (by decide) rfl rfl (hnm.trans rfl) rfl tw_209 dX0_init_9 (Or.inr ⟨_, rfl⟩) (fun s3 => ?_)
  refine v_aload_n C dX0_init_12 rfl (j := 0) rfl ?_
  refine v_bipush C dX0_init_13 (by decide) ?_
  refine v_newa10 C tw_143 (by decide) (by rw [hRm]; exact Nat.le_of_ble_eq_true rfl) (by rw [hRm]; exact Nat.le_of_ble_eq_true rfl) dX0_init_15 (fun P n x4 s5 => ?_)
  refine v_putFR C 1 rfl (T := TX0) rfl inB0 (by decide) tyX0_ok nmX0 (by decide) rfl rfl (hnm.trans rfl) rfl tw_212 dX0_init_17 (Or.inr ⟨_, rfl⟩) (fun s6 => ?_)
  refine v_aload_n C dX0_init_20 rfl (j := 0) rfl ?_
  refine v_bipush C dX0_init_21 (by decide) ?_
  refine v_newa10 C tw_143 (by decide) (by rw [hRm]; exact Nat.le_of_ble_eq_true rfl) (by rw [hRm]; exact Nat.le_of_ble_eq_true rfl) dX0_init_23 (fun P n x7 s8 => ?_)
  refine v_putFR C 2 rfl (T := TX0) rfl inB0 (by decide) tyX0_ok nmX0 (by decide) rfl rfl (hnm.trans rfl) rfl tw_213 dX0_init_25 (Or.inr ⟨_, rfl⟩) (fun s9 => ?_)
  refine v_aload_n C dX0_init_28 rfl (j := 0) rfl ?_
  refine v_bipush C dX0_init_29 (by decide) ?_
  refine v_newa10 C tw_143 (by decide) (by rw [hRm]; exact Nat.le_of_ble_eq_true rfl) (by rw [hRm]; exact Nat.le_of_ble_eq_true rfl) dX0_init_31 (fun P n x10 s11 => ?_)
  refine v_putFR C 4 rfl (T := TX0) rfl inB0 (by decide) tyX0_ok nmX0 (by decide) rfl rfl (hnm.trans rfl) rfl tw_215 dX0_init_33 (Or.inr ⟨_, rfl⟩) (fun s12 => ?_)
  refine v_aload_n C dX0_init_36 rfl (j := 0) rfl ?_
  refine v_bipush C dX0_init_37 (by decide) ?_
  refine v_newa10 C tw_143 (by decide) (by rw [hRm]; exact Nat.le_of_ble_eq_true rfl) (by rw [hRm]; exact Nat.le_of_ble_eq_true rfl) dX0_init_39 (fun P n x13 s14 => ?_)
  refine v_putFR C 5 rfl (T := TX0) rfl inB0 (by decide) tyX0_ok nmX0 (by decide) rfl rfl (hnm.trans rfl) rfl tw_216 dX0_init_41 (Or.inr ⟨_, rfl⟩) (fun s15 => ?_)
  exact v_nret C rfl hO (Nat.le_of_ble_eq_true rfl) (Nat.le_of_ble_eq_true rfl) dX0_init_44
-- ForesightHub$Log.<init>
theorem hX3_init : yX3_init.cls ≠ "java/lang/invoke/MethodHandle" ∧ yX3_init.cls ≠ "java/lang/invoke/VarHandle" ∧ (parseMethodDescriptor yX3_init.desc).map (fun d => d.parameters.length) = some 0 := by decide +kernel
set_option maxRecDepth 100000 in
theorem kX3_init (l : Launch) (w : Wd) (P : Shp) (n : Nat) {s : St} {a0 : Int} {res : Hs} (h : fX3_init P n s a0 = some res) : CtN l w yX3_init cX3_init 1 rX3_init 4 82 P n [A w a0] s res :=
  CtN.of h (by decide) (Nat.le_of_ble_eq_true rfl) (lv := [(0, A w a0)]) rfl fun X hl hRm C hnm hO => by
  subst hl
  unfold fX3_init
  refine v_aload_n C dX3_init_0 rfl (j := 0) rfl ?_
  refine v_oinit C tw_235 tw_32 tw_33 (by rw [hRm]; exact Nat.le_of_ble_eq_true rfl) (by rw [hRm]; exact Nat.le_of_ble_eq_true rfl) (Nat.le_of_ble_eq_true rfl) dX3_init_1 ?_
  refine v_aload_n C dX3_init_4 rfl (j := 0) rfl ?_
  refine v_bipush C dX3_init_5 (by decide) ?_
  refine v_newa10 C tw_143 (by decide) (by rw [hRm]; exact Nat.le_of_ble_eq_true rfl) (by rw [hRm]; exact Nat.le_of_ble_eq_true rfl) dX3_init_7 (fun P n x1 s2 => ?_)
  refine v_putFR C 2 rfl (T := TX3) rfl inB3 (by decide) tyX3_ok nmX3 (by decide) rfl rfl (hnm.trans rfl) rfl tw_238 dX3_init_9 (Or.inr ⟨_, rfl⟩) (fun s3 => ?_)
  refine v_aload_n C dX3_init_12 rfl (j := 0) rfl ?_
  refine v_bipush C dX3_init_13 (by decide) ?_
  refine v_newa10 C tw_143 (by decide) (by rw [hRm]; exact Nat.le_of_ble_eq_true rfl) (by rw [hRm]; exact Nat.le_of_ble_eq_true rfl) dX3_init_15 (fun P n x4 s5 => ?_)
  refine v_putFR C 3 rfl (T := TX3) rfl inB3 (by decide) tyX3_ok nmX3 (by decide) rfl rfl (hnm.trans rfl) rfl tw_239 dX3_init_17 (Or.inr ⟨_, rfl⟩) (fun s6 => ?_)
  refine v_aload_n C dX3_init_20 rfl (j := 0) rfl ?_
  refine v_bipush C dX3_init_21 (by decide) ?_
  refine v_newa10 C tw_143 (by decide) (by rw [hRm]; exact Nat.le_of_ble_eq_true rfl) (by rw [hRm]; exact Nat.le_of_ble_eq_true rfl) dX3_init_23 (fun P n x7 s8 => ?_)
  refine v_putFR C 4 rfl (T := TX3) rfl inB3 (by decide) tyX3_ok nmX3 (by decide) rfl rfl (hnm.trans rfl) rfl tw_240 dX3_init_25 (Or.inr ⟨_, rfl⟩) (fun s9 => ?_)
  refine v_aload_n C dX3_init_28 rfl (j := 0) rfl ?_
  refine v_bipush C dX3_init_29 (by decide) ?_
  refine v_newa10 C tw_143 (by decide) (by rw [hRm]; exact Nat.le_of_ble_eq_true rfl) (by rw [hRm]; exact Nat.le_of_ble_eq_true rfl) dX3_init_31 (fun P n x10 s11 => ?_)
  refine v_putFR C 5 rfl (T := TX3) rfl inB3 (by decide) tyX3_ok nmX3 (by decide) rfl rfl (hnm.trans rfl) rfl tw_241 dX3_init_33 (Or.inr ⟨_, rfl⟩) (fun s12 => ?_)
  exact v_nret C rfl hO (Nat.le_of_ble_eq_true rfl) (Nat.le_of_ble_eq_true rfl) dX3_init_36
-- ForesightHub$State.<init>
theorem hX6_init : yX6_init.cls ≠ "java/lang/invoke/MethodHandle" ∧ yX6_init.cls ≠ "java/lang/invoke/VarHandle" ∧ (parseMethodDescriptor yX6_init.desc).map (fun d => d.parameters.length) = some 0 := by decide +kernel
set_option maxRecDepth 100000 in
theorem kX6_init (l : Launch) (w : Wd) (P : Shp) (n : Nat) {s : St} {a0 : Int} {res : Hs} (h : fX6_init P n s a0 = some res) : CtN l w yX6_init cX6_init 1 rX6_init 17 422 P n [A w a0] s res :=
  CtN.of h (by decide) (Nat.le_of_ble_eq_true rfl) (lv := [(0, A w a0)]) rfl fun X hl hRm C hnm hO => by
  subst hl
  unfold fX6_init
  refine v_aload_n C dX6_init_0 rfl (j := 0) rfl ?_
  refine v_oinit C tw_202 tw_32 tw_33 (by rw [hRm]; exact Nat.le_of_ble_eq_true rfl) (by rw [hRm]; exact Nat.le_of_ble_eq_true rfl) (Nat.le_of_ble_eq_true rfl) dX6_init_1 ?_
  refine v_aload_n C dX6_init_4 rfl (j := 0) rfl ?_
  refine v_bipush C dX6_init_5 (by decide) ?_
  refine v_newa10 C tw_143 (by decide) (by rw [hRm]; exact Nat.le_of_ble_eq_true rfl) (by rw [hRm]; exact Nat.le_of_ble_eq_true rfl) dX6_init_7 (fun P n x1 s2 => ?_)
  refine v_putFR C 2 rfl (T := TX6) rfl inB6 (by decide) tyX6_ok nmX6 (by decide) rfl rfl (hnm.trans rfl) rfl tw_263 dX6_init_9 (Or.inr ⟨_, rfl⟩) (fun s3 => ?_)
  refine v_aload_n C dX6_init_12 rfl (j := 0) rfl ?_
  refine v_bipush C dX6_init_13 (by decide) ?_
  refine v_newa10 C tw_143 (by decide) (by rw [hRm]; exact Nat.le_of_ble_eq_true rfl) (by rw [hRm]; exact Nat.le_of_ble_eq_true rfl) dX6_init_15 (fun P n x4 s5 => ?_)
  refine v_putFR C 3 rfl (T := TX6) rfl inB6 (by decide) tyX6_ok nmX6 (by decide) rfl rfl (hnm.trans rfl) rfl tw_266 dX6_init_17 (Or.inr ⟨_, rfl⟩) (fun s6 => ?_)
  refine v_aload_n C dX6_init_20 rfl (j := 0) rfl ?_
  refine v_bipush C dX6_init_21 (by decide) ?_
  refine v_newa10 C tw_143 (by decide) (by rw [hRm]; exact Nat.le_of_ble_eq_true rfl) (by rw [hRm]; exact Nat.le_of_ble_eq_true rfl) dX6_init_23 (fun P n x7 s8 => ?_)
  refine v_putFR C 4 rfl (T := TX6) rfl inB6 (by decide) tyX6_ok nmX6 (by decide) rfl rfl (hnm.trans rfl) rfl tw_268 dX6_init_25 (Or.inr ⟨_, rfl⟩) (fun s9 => ?_)
  refine v_aload_n C dX6_init_28 rfl (j := 0) rfl ?_
  refine v_bipush C dX6_init_29 (by decide) ?_
  refine v_newa10 C tw_143 (by decide) (by rw [hRm]; exact Nat.le_of_ble_eq_true rfl) (by rw [hRm]; exact Nat.le_of_ble_eq_true rfl) dX6_init_31 (fun P n x10 s11 => ?_)
  refine v_putFR C 5 rfl (T := TX6) rfl inB6 (by decide) tyX6_ok nmX6 (by decide) rfl rfl (hnm.trans rfl) rfl tw_271 dX6_init_33 (Or.inr ⟨_, rfl⟩) (fun s12 => ?_)
  refine v_aload_n C dX6_init_36 rfl (j := 0) rfl ?_
  refine v_bipush C dX6_init_37 (by decide) ?_
  refine v_newa10 C tw_143 (by decide) (by rw [hRm]; exact Nat.le_of_ble_eq_true rfl) (by rw [hRm]; exact Nat.le_of_ble_eq_true rfl) dX6_init_39 (fun P n x13 s14 => ?_)
  refine v_putFR C 6 rfl (T := TX6) rfl inB6 (by decide) tyX6_ok nmX6 (by decide) rfl rfl (hnm.trans rfl) rfl tw_274 dX6_init_41 (Or.inr ⟨_, rfl⟩) (fun s15 => ?_)
  refine v_aload_n C dX6_init_44 rfl (j := 0) rfl ?_
  refine v_bipush C dX6_init_45 (by decide) ?_
  refine v_newa11 C tw_188 (by decide) (by rw [hRm]; exact Nat.le_of_ble_eq_true rfl) (by rw [hRm]; exact Nat.le_of_ble_eq_true rfl) dX6_init_47 (fun P n x16 s17 => ?_)
  refine v_putFR C 7 rfl (T := TX6) rfl inB6 (by decide) tyX6_ok nmX6 (by decide) rfl rfl (hnm.trans rfl) rfl tw_277 dX6_init_49 (Or.inr ⟨_, rfl⟩) (fun s18 => ?_)
  refine v_aload_n C dX6_init_52 rfl (j := 0) rfl ?_
  refine v_new C (ci := 0) rfl inB0 (by decide) tyX0_ok dfX0 tw_203 tw_204 tw_6 (by rw [hRm]; exact Nat.le_of_ble_eq_true rfl) (by rw [hRm]; exact Nat.le_of_ble_eq_true rfl) dX6_init_53 (fun P n x19 s20 => ?_)
  refine v_dup C dX6_init_56 rfl ?_
  refine v_callNN C (host := "ForesightHub") (rm := rX0_init) [] [A w x19, A w a0] (fun x h => kX0_init X.2.1 w _ _ h) rfl tw_207 tw_6 hX0_init rfl rfl hRm (Nat.le_of_ble_eq_true rfl) (Nat.le_of_ble_eq_true rfl) (by decide) tw_206 rfl rfl (Nat.le_of_ble_eq_true rfl) ⟨Nat.le_of_ble_eq_true rfl, Nat.le_of_ble_eq_true rfl⟩ dX6_init_57 (fun P n s21 => ?_)
  refine v_putFR C 8 rfl (T := TX6) rfl inB6 (by decide) tyX6_ok nmX6 (by decide) rfl rfl (hnm.trans rfl) rfl tw_279 dX6_init_60 (Or.inl ⟨_, rfl⟩) (fun s22 => ?_)
  refine v_aload_n C dX6_init_63 rfl (j := 0) rfl ?_
  refine v_new C (ci := 3) rfl inB3 (by decide) tyX3_ok dfX3 tw_230 tw_231 tw_7 (by rw [hRm]; exact Nat.le_of_ble_eq_true rfl) (by rw [hRm]; exact Nat.le_of_ble_eq_true rfl) dX6_init_64 (fun P n x23 s24 => ?_)
  refine v_dup C dX6_init_67 rfl ?_
  refine v_callNN C (host := "ForesightHub") (rm := rX3_init) [] [A w x23, A w a0] (fun x h => kX3_init X.2.1 w _ _ h) rfl tw_234 tw_7 hX3_init rfl rfl hRm (Nat.le_of_ble_eq_true rfl) (Nat.le_of_ble_eq_true rfl) (by decide) tw_233 rfl rfl (Nat.le_of_ble_eq_true rfl) ⟨Nat.le_of_ble_eq_true rfl, Nat.le_of_ble_eq_true rfl⟩ dX6_init_68 (fun P n s25 => ?_)
  refine v_putFR C 9 rfl (T := TX6) rfl inB6 (by decide) tyX6_ok nmX6 (by decide) rfl rfl (hnm.trans rfl) rfl tw_282 dX6_init_71 (Or.inl ⟨_, rfl⟩) (fun s26 => ?_)
  exact v_nret C rfl hO (Nat.le_of_ble_eq_true rfl) (Nat.le_of_ble_eq_true rfl) dX6_init_74
-- ForesightHub$Hub.<init>
theorem hX2_init : yX2_init.cls ≠ "java/lang/invoke/MethodHandle" ∧ yX2_init.cls ≠ "java/lang/invoke/VarHandle" ∧ (parseMethodDescriptor yX2_init.desc).map (fun d => d.parameters.length) = some 0 := by decide +kernel
set_option maxRecDepth 100000 in
theorem kX2_init (l : Launch) (w : Wd) (P : Shp) (n : Nat) {s : St} {a0 : Int} {res : Hs} (h : fX2_init P n s a0 = some res) : CtN l w yX2_init cX2_init 1 rX2_init 28 548 P n [A w a0] s res :=
  CtN.of h (by decide) (Nat.le_of_ble_eq_true rfl) (lv := [(0, A w a0)]) rfl fun X hl hRm C hnm hO => by
  subst hl
  unfold fX2_init
  refine v_aload_n C dX2_init_0 rfl (j := 0) rfl ?_
  refine v_oinit C tw_194 tw_32 tw_33 (by rw [hRm]; exact Nat.le_of_ble_eq_true rfl) (by rw [hRm]; exact Nat.le_of_ble_eq_true rfl) (Nat.le_of_ble_eq_true rfl) dX2_init_1 ?_
  refine v_aload_n C dX2_init_4 rfl (j := 0) rfl ?_
  refine v_new C (ci := 4) rfl inB4 (by decide) tyX4_ok dfX4 tw_195 tw_41 tw_3 (by rw [hRm]; exact Nat.le_of_ble_eq_true rfl) (by rw [hRm]; exact Nat.le_of_ble_eq_true rfl) dX2_init_5 (fun P n x1 s2 => ?_)
  refine v_dup C dX2_init_8 rfl ?_
  refine v_callN C (rm := rX4_init) [] [A w x1, A w a0] (fun x h => kX4_init X.2.1 w _ _ h) rfl tw_44 tw_3 hX4_init rfl rfl hRm (Nat.le_of_ble_eq_true rfl) (Nat.le_of_ble_eq_true rfl) tw_196 tw_43 rfl rfl (Nat.le_of_ble_eq_true rfl) ⟨Nat.le_of_ble_eq_true rfl, Nat.le_of_ble_eq_true rfl⟩ dX2_init_9 (fun P n s3 => ?_)
  refine v_putR C 0 rfl (T := TX2) rfl inB2 (by decide) tyX2_ok nmX2 (by decide) rfl rfl tw_306 dX2_init_12 (Or.inl ⟨_, rfl⟩) (fun s4 => ?_)
  refine v_aload_n C dX2_init_15 rfl (j := 0) rfl ?_
  refine v_new C (ci := 6) rfl inB6 (by decide) tyX6_ok dfX6 tw_197 tw_198 tw_5 (by rw [hRm]; exact Nat.le_of_ble_eq_true rfl) (by rw [hRm]; exact Nat.le_of_ble_eq_true rfl) dX2_init_16 (fun P n x5 s6 => ?_)
  refine v_dup C dX2_init_19 rfl ?_
  refine v_callNN C (host := "ForesightHub") (rm := rX6_init) [] [A w x5, A w a0] (fun x h => kX6_init X.2.1 w _ _ h) rfl tw_201 tw_5 hX6_init rfl rfl hRm (Nat.le_of_ble_eq_true rfl) (Nat.le_of_ble_eq_true rfl) (by decide) tw_200 rfl rfl (Nat.le_of_ble_eq_true rfl) ⟨Nat.le_of_ble_eq_true rfl, Nat.le_of_ble_eq_true rfl⟩ dX2_init_20 (fun P n s7 => ?_)
  refine v_putFR C 1 rfl (T := TX2) rfl inB2 (by decide) tyX2_ok nmX2 (by decide) rfl rfl (hnm.trans rfl) rfl tw_308 dX2_init_23 (Or.inl ⟨_, rfl⟩) (fun s8 => ?_)
  refine v_aload_n C dX2_init_26 rfl (j := 0) rfl ?_
  refine v_getR C 1 rfl (T := TX2) rfl inB2 (by decide) (by decide) rfl tw_308 dX2_init_27 (fun x9 => ?_)
  refine v_aload_n C dX2_init_30 rfl (j := 0) rfl ?_
  refine v_getR C 0 rfl (T := TX2) rfl inB2 (by decide) (by decide) rfl tw_306 dX2_init_31 (fun x10 => ?_)
  refine v_getI C 2 rfl (T := TX4) rfl inB4 (by decide) (by decide) rfl tw_57 dX2_init_34 (fun x11 => ?_)
  refine v_putI C 1 rfl (T := TX6) rfl inB6 (by decide) tyX6_ok nmX6 (by decide) rfl rfl tw_260 dX2_init_37 rfl (fun s12 => ?_)
  exact v_nret C rfl hO (Nat.le_of_ble_eq_true rfl) (Nat.le_of_ble_eq_true rfl) dX2_init_40
-- ForesightHub$History.<init>
set_option maxRecDepth 100000 in
theorem vX1_init_L15 {X : Cxt} {w : Wd} (res : Hs) (hRm : X.2.2.2.1 = rX1_init) (C : Cok X w cX1_init 2 RX1 none) (c0 : Int) (kE : Shp → Nat → St → Option Hs) (hE : ∀ (P : Shp) (n : Nat) (s : St), V X w 2 P n 181 4330 res (kE P n s) s 40 [(0, A w c0)] []) : ∀ (fuel j : Nat) (P : Shp) (n : Nat) (s : St), j ≤ 10 → V X w 2 P n (1 + 18 * j) (10 + 432 * j) res (fX1_init_L15 c0 kE fuel (j : Int) P n s) s 15 [(0, A w c0), (1, I (j : Int))] [] := by
  intro fuel
  induction fuel with
  | zero => intro j P n s hj; exact v_none
  | succ m ih =>
    intro j P n s hj
    rw [fX1_init_L15]
    refine v_iload_n C dX1_init_15 rfl (j := 1) rfl ?_
    refine v_bipush C dX1_init_16 (by decide) ?_
    refine v_icmp_geF (tgt := 40) C dX1_init_18 rfl (fun hc => ?_) (fun hc => ?_)
    · refine v_sub [(0, A w c0)] [0] rfl ?_
      refine v_wid 181 4330 (by omega) (by omega) ?_
      exact hE P n s
    · refine v_aload_n C dX1_init_21 rfl (j := 0) rfl ?_
      refine v_getR C 0 rfl (T := TX1) rfl inB1 (by decide) (by decide) rfl tw_324 dX1_init_22 (fun x1 => ?_)
      refine v_iload_n C dX1_init_25 rfl (j := 1) rfl ?_
      refine v_new C (ci := 6) rfl inB6 (by decide) tyX6_ok dfX6 tw_321 tw_198 tw_5 (by rw [hRm]; show (1 + 18 * j) + 1 ≤ 181; omega) (by rw [hRm]; show (10 + 432 * j) + 10 ≤ 4330; omega) dX1_init_26 (fun P n x2 s2 => ?_)
      refine v_dup C dX1_init_29 rfl ?_
      refine v_callNN C (host := "ForesightHub") (rm := rX6_init) [] [A w x2, I (j : Int), A w x1] (fun x h => kX6_init X.2.1 w _ _ h) rfl tw_201 tw_5 hX6_init rfl rfl hRm (Nat.le_of_ble_eq_true rfl) (Nat.le_of_ble_eq_true rfl) (by decide) tw_200 rfl rfl (Nat.le_of_ble_eq_true rfl) ⟨by show (1 + 18 * j) + 1 + 17 ≤ 181; omega, by show (10 + 432 * j) + 10 + 422 ≤ 4330; omega⟩ dX1_init_30 (fun P n s3 => ?_)
      refine v_aast C dX1_init_33 (fun s4 => ?_)
      refine v_iincE C (j := 1) [(0, A w c0)] dX1_init_34 (by decide) rfl (fun _ => rfl) ?_
      refine v_goto (tgt := 15) C dX1_init_37 rfl ?_
      refine v_sub [(0, A w c0), (1, I ((j : Int) + 1))] [1, 0] rfl ?_
      refine v_wid (1 + 18 * (j + 1)) (10 + 432 * (j + 1)) (by omega) (by omega) ?_
      have h9 := ih (j + 1) P n s4 (by omega)
      rw [show ((j + 1 : Nat) : Int) = (j : Int) + 1 by omega] at h9
      exact h9
theorem hX1_init : yX1_init.cls ≠ "java/lang/invoke/MethodHandle" ∧ yX1_init.cls ≠ "java/lang/invoke/VarHandle" ∧ (parseMethodDescriptor yX1_init.desc).map (fun d => d.parameters.length) = some 0 := by decide +kernel
set_option maxRecDepth 100000 in
theorem kX1_init (l : Launch) (w : Wd) (P : Shp) (n : Nat) {s : St} {a0 : Int} {res : Hs} (h : fX1_init P n s a0 = some res) : CtN l w yX1_init cX1_init 2 rX1_init 181 4330 P n [A w a0] s res :=
  CtN.of h (by decide) (Nat.le_of_ble_eq_true rfl) (lv := [(0, A w a0)]) rfl fun X hl hRm C hnm hO => by
  subst hl
  unfold fX1_init
  refine v_aload_n C dX1_init_0 rfl (j := 0) rfl ?_
  refine v_oinit C tw_320 tw_32 tw_33 (by rw [hRm]; exact Nat.le_of_ble_eq_true rfl) (by rw [hRm]; exact Nat.le_of_ble_eq_true rfl) (Nat.le_of_ble_eq_true rfl) dX1_init_1 ?_
  refine v_aload_n C dX1_init_4 rfl (j := 0) rfl ?_
  refine v_bipush C dX1_init_5 (by decide) ?_
  refine v_newq C tw_321 (by decide) (by rw [hRm]; exact Nat.le_of_ble_eq_true rfl) (by rw [hRm]; exact Nat.le_of_ble_eq_true rfl) dX1_init_7 (fun P n x1 s2 => ?_)
  refine v_putFR C 0 rfl (T := TX1) rfl inB1 (by decide) tyX1_ok nmX1 (by decide) rfl rfl (hnm.trans rfl) rfl tw_324 dX1_init_10 (Or.inr ⟨_, rfl⟩) (fun s3 => ?_)
  refine v_iconst C dX1_init_13 ?_
  refine v_istore_n C [(1, I 0), (0, A w a0)] dX1_init_14 rfl (by decide) rfl ?_
  refine v_sub [(0, A w a0), (1, I 0)] [1, 0] rfl ?_
  refine vX1_init_L15 res hRm C a0 _ (fun P n s9 => ?_) 1000 0 P n s3 (by omega)
  exact v_nret C rfl hO (Nat.le_of_ble_eq_true rfl) (Nat.le_of_ble_eq_true rfl) dX1_init_40
-- ForesightHub.<init>
set_option maxRecDepth 100000 in
theorem vX7_init_L54 {X : Cxt} {w : Wd} (res : Hs) (hRm : X.2.2.2.1 = rX7_init) (C : Cok X w cX7_init 2 RX7 none) (c0 : Int) (kE : Shp → Nat → St → Option Hs) (hE : ∀ (P : Shp) (n : Nat) (s : St), V X w 2 P n 264 6507 res (kE P n s) s 78 [(0, A w c0)] []) : ∀ (fuel j : Nat) (P : Shp) (n : Nat) (s : St), j ≤ 2 → V X w 2 P n (228 + 18 * j) (5643 + 432 * j) res (fX7_init_L54 c0 kE fuel (j : Int) P n s) s 54 [(0, A w c0), (1, I (j : Int))] [] := by
  intro fuel
  induction fuel with
  | zero => intro j P n s hj; exact v_none
  | succ m ih =>
    intro j P n s hj
    rw [fX7_init_L54]
    refine v_iload_n C dX7_init_54 rfl (j := 1) rfl ?_
    refine v_iconst C dX7_init_55 ?_
    refine v_icmp_geF (tgt := 78) C dX7_init_56 rfl (fun hc => ?_) (fun hc => ?_)
    · refine v_sub [(0, A w c0)] [0] rfl ?_
      refine v_wid 264 6507 (by omega) (by omega) ?_
      exact hE P n s
    · refine v_aload_n C dX7_init_59 rfl (j := 0) rfl ?_
      refine v_getR C 3 rfl (T := TX7) rfl inB7 (by decide) (by decide) rfl tw_340 dX7_init_60 (fun x1 => ?_)
      refine v_iload_n C dX7_init_63 rfl (j := 1) rfl ?_
      refine v_new C (ci := 6) rfl inB6 (by decide) tyX6_ok dfX6 tw_335 tw_198 tw_5 (by rw [hRm]; show (228 + 18 * j) + 1 ≤ 264; omega) (by rw [hRm]; show (5643 + 432 * j) + 10 ≤ 6507; omega) dX7_init_64 (fun P n x2 s2 => ?_)
      refine v_dup C dX7_init_67 rfl ?_
      refine v_callNN C (host := "ForesightHub") (rm := rX6_init) [] [A w x2, I (j : Int), A w x1] (fun x h => kX6_init X.2.1 w _ _ h) rfl tw_201 tw_5 hX6_init rfl rfl hRm (Nat.le_of_ble_eq_true rfl) (Nat.le_of_ble_eq_true rfl) (by decide) tw_200 rfl rfl (Nat.le_of_ble_eq_true rfl) ⟨by show (228 + 18 * j) + 1 + 17 ≤ 264; omega, by show (5643 + 432 * j) + 10 + 422 ≤ 6507; omega⟩ dX7_init_68 (fun P n s3 => ?_)
      refine v_aast C dX7_init_71 (fun s4 => ?_)
      refine v_iincE C (j := 1) [(0, A w c0)] dX7_init_72 (by decide) rfl (fun _ => rfl) ?_
      refine v_goto (tgt := 54) C dX7_init_75 rfl ?_
      refine v_sub [(0, A w c0), (1, I ((j : Int) + 1))] [1, 0] rfl ?_
      refine v_wid (228 + 18 * (j + 1)) (5643 + 432 * (j + 1)) (by omega) (by omega) ?_
      have h9 := ih (j + 1) P n s4 (by omega)
      rw [show ((j + 1 : Nat) : Int) = (j : Int) + 1 by omega] at h9
      exact h9
theorem hX7_init : yX7_init.cls ≠ "java/lang/invoke/MethodHandle" ∧ yX7_init.cls ≠ "java/lang/invoke/VarHandle" ∧ (parseMethodDescriptor yX7_init.desc).map (fun d => d.parameters.length) = some 0 := by decide +kernel
set_option maxRecDepth 100000 in
theorem kX7_init (l : Launch) (w : Wd) (P : Shp) (n : Nat) {s : St} {a0 : Int} {res : Hs} (h : fX7_init P n s a0 = some res) : CtN l w yX7_init cX7_init 2 rX7_init 264 6507 P n [A w a0] s res :=
  CtN.of h (by decide) (Nat.le_of_ble_eq_true rfl) (lv := [(0, A w a0)]) rfl fun X hl hRm C hnm hO => by
  subst hl
  unfold fX7_init
  refine v_aload_n C dX7_init_0 rfl (j := 0) rfl ?_
  refine v_oinit C tw_31 tw_32 tw_33 (by rw [hRm]; exact Nat.le_of_ble_eq_true rfl) (by rw [hRm]; exact Nat.le_of_ble_eq_true rfl) (Nat.le_of_ble_eq_true rfl) dX7_init_1 ?_
  refine v_aload_n C dX7_init_4 rfl (j := 0) rfl ?_
  refine v_new C (ci := 5) rfl inB5 (by decide) tyX5_ok dfX5 tw_34 tw_35 tw_2 (by rw [hRm]; exact Nat.le_of_ble_eq_true rfl) (by rw [hRm]; exact Nat.le_of_ble_eq_true rfl) dX7_init_5 (fun P n x1 s2 => ?_)
  refine v_dup C dX7_init_8 rfl ?_
  refine v_callNN C (host := "ForesightHub") (rm := rX5_init) [] [A w x1, A w a0] (fun x h => kX5_init X.2.1 w _ _ h) rfl tw_38 tw_2 hX5_init rfl rfl hRm (Nat.le_of_ble_eq_true rfl) (Nat.le_of_ble_eq_true rfl) (by decide) tw_37 rfl rfl (Nat.le_of_ble_eq_true rfl) ⟨Nat.le_of_ble_eq_true rfl, Nat.le_of_ble_eq_true rfl⟩ dX7_init_9 (fun P n s3 => ?_)
  refine v_putFR C 0 rfl (T := TX7) rfl inB7 (by decide) tyX7_ok nmX7 (by decide) rfl rfl (hnm.trans rfl) rfl tw_337 dX7_init_12 (Or.inl ⟨_, rfl⟩) (fun s4 => ?_)
  refine v_aload_n C dX7_init_15 rfl (j := 0) rfl ?_
  refine v_new C (ci := 2) rfl inB2 (by decide) tyX2_ok dfX2 tw_189 tw_190 tw_4 (by rw [hRm]; exact Nat.le_of_ble_eq_true rfl) (by rw [hRm]; exact Nat.le_of_ble_eq_true rfl) dX7_init_16 (fun P n x5 s6 => ?_)
  refine v_dup C dX7_init_19 rfl ?_
  refine v_callN C (rm := rX2_init) [] [A w x5, A w a0] (fun x h => kX2_init X.2.1 w _ _ h) rfl tw_193 tw_4 hX2_init rfl rfl hRm (Nat.le_of_ble_eq_true rfl) (Nat.le_of_ble_eq_true rfl) tw_191 tw_192 rfl rfl (Nat.le_of_ble_eq_true rfl) ⟨Nat.le_of_ble_eq_true rfl, Nat.le_of_ble_eq_true rfl⟩ dX7_init_20 (fun P n s7 => ?_)
  refine v_putFR C 1 rfl (T := TX7) rfl inB7 (by decide) tyX7_ok nmX7 (by decide) rfl rfl (hnm.trans rfl) rfl tw_338 dX7_init_23 (Or.inl ⟨_, rfl⟩) (fun s8 => ?_)
  refine v_aload_n C dX7_init_26 rfl (j := 0) rfl ?_
  refine v_new C (ci := 1) rfl inB1 (by decide) tyX1_ok dfX1 tw_315 tw_316 tw_8 (by rw [hRm]; exact Nat.le_of_ble_eq_true rfl) (by rw [hRm]; exact Nat.le_of_ble_eq_true rfl) dX7_init_27 (fun P n x9 s10 => ?_)
  refine v_dup C dX7_init_30 rfl ?_
  refine v_callN C (rm := rX1_init) [] [A w x9, A w a0] (fun x h => kX1_init X.2.1 w _ _ h) rfl tw_319 tw_8 hX1_init rfl rfl hRm (Nat.le_of_ble_eq_true rfl) (Nat.le_of_ble_eq_true rfl) tw_317 tw_318 rfl rfl (Nat.le_of_ble_eq_true rfl) ⟨Nat.le_of_ble_eq_true rfl, Nat.le_of_ble_eq_true rfl⟩ dX7_init_31 (fun P n s11 => ?_)
  refine v_putFR C 2 rfl (T := TX7) rfl inB7 (by decide) tyX7_ok nmX7 (by decide) rfl rfl (hnm.trans rfl) rfl tw_339 dX7_init_34 (Or.inl ⟨_, rfl⟩) (fun s12 => ?_)
  refine v_aload_n C dX7_init_37 rfl (j := 0) rfl ?_
  refine v_iconst C dX7_init_38 ?_
  refine v_newq C tw_335 (by decide) (by rw [hRm]; exact Nat.le_of_ble_eq_true rfl) (by rw [hRm]; exact Nat.le_of_ble_eq_true rfl) dX7_init_39 (fun P n x13 s14 => ?_)
  refine v_putFR C 3 rfl (T := TX7) rfl inB7 (by decide) tyX7_ok nmX7 (by decide) rfl rfl (hnm.trans rfl) rfl tw_340 dX7_init_42 (Or.inr ⟨_, rfl⟩) (fun s15 => ?_)
  refine v_aload_n C dX7_init_45 rfl (j := 0) rfl ?_
  refine v_iconst C dX7_init_46 ?_
  refine v_newa12 C tw_353 (by decide) (by rw [hRm]; exact Nat.le_of_ble_eq_true rfl) (by rw [hRm]; exact Nat.le_of_ble_eq_true rfl) dX7_init_47 (fun P n x16 s17 => ?_)
  refine v_putFR C 4 rfl (T := TX7) rfl inB7 (by decide) tyX7_ok nmX7 (by decide) rfl rfl (hnm.trans rfl) rfl tw_341 dX7_init_49 (Or.inr ⟨_, rfl⟩) (fun s18 => ?_)
  refine v_iconst C dX7_init_52 ?_
  refine v_istore_n C [(1, I 0), (0, A w a0)] dX7_init_53 rfl (by decide) rfl ?_
  refine v_sub [(0, A w a0), (1, I 0)] [1, 0] rfl ?_
  refine vX7_init_L54 res hRm C a0 _ (fun P n s9 => ?_) 1000 0 P n s18 (by omega)
  exact v_nret C rfl hO (Nat.le_of_ble_eq_true rfl) (Nat.le_of_ble_eq_true rfl) dX7_init_78
