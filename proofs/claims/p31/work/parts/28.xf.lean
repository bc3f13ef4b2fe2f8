/-! frames(0) throws: the method once more, with its throw (laid by wip/p31/gen/wx.py) -/
theorem twt0_57 : ∀ v ∈ tws 0 57, v ∈ lw_tbl := by decide +kernel
theorem twb0_57 : ∀ v ∈ (tws 0 57).filter (fun v => !goodWord v), v ∈ bads := by decide +kernel
theorem tw0_57 : ∀ v ∈ tws 0 57, v ∈ TB ∨ v ∈ bads := fun v hv => by
  cases g : goodWord v with
  | true => exact Or.inl (TB_l (twt0_57 v hv) g)
  | false => exact Or.inr (twb0_57 v (List.mem_filter.mpr ⟨hv, by simp [g]⟩))
theorem tg0_53_57 : ∀ v ∈ Cond.classLink RX7 53 (exN 0) :: Cond.initialized (exN 0) :: tws 0 57, vx_ot v = true := by decide +kernel
abbrev rzX7_frames : Room := { frames := 6, cells := 1, slots := 6, locals := 133 }
noncomputable def fzX7_frames_L38 (P : Shp) (c0 : Int) (c1 : Int) (kE56 : St → Option ((Int × St) ⊕ Nat)) : Nat → Int → St → Option ((Int × St) ⊕ Nat)
  | 0, _, _ => none
  | m + 1, p2, s =>
    jge p2 c1
      (kE56 s)
      (
        gR P 7 s c0 1 fun x5 =>
        onO P 2 x5 <| cl (fX2_passFrame P s x5) fun s6 =>
        bd (p2 + 1) fun x7 =>
        fzX7_frames_L38 P c0 c1 kE56 m x7 s6)
noncomputable def fzX7_frames (P : Shp) (s : St) (a0 : Int) (a1 : Int) : Option ((Int × St) ⊕ Nat) :=
  jnt
    (
      some (.inr 0))
    fun k12 =>
  jlt a1 1
    (k12)
    (
      jle a1 200
        (
          gR P 7 s a0 2 fun x1 =>
          gR P 7 s a0 1 fun x2 =>
          gR P 2 s x2 1 fun x3 =>
          onO P 1 x1 <| cl (fX1_remember P s x1 x3) fun s4 =>
          fzX7_frames_L38 P a0 a1
            (fun s8 =>
              gR P 7 s8 a0 1 fun x9 =>
              onO P 2 x9 <| cl (fX2_reserved P s8 x9) fun x10 =>
              some (.inl ((x10 : Int), s8)))
            1000 0 s4)
        (k12))
set_option maxRecDepth 100000 in
theorem vzX7_frames_L38 {X : Cxt} {w : Wd} {P : Shp} {n : Nat} (res : (Int × St) ⊕ Nat) (hRm : X.2.2.2.1 = rzX7_frames) (C : Cok X w cX7_frames 3 RX7 (some FieldType.int)) {s00 : St} (T : noT X) (hO : OwnX X w 1 6 (XQI w P n res) (XXC w P n s00 res))  (c0 : Int) (c1 : Int) (kE56 : St → Option ((Int × St) ⊕ Nat)) (hE56 : ∀ (se : St), V X w 3 P n 0 0 res (kE56 se) se 56 [(0, A w c0)] []) : ∀ (fuel : Nat) (p2 : Int) (s : St), V X w 3 P n 0 0 res (fzX7_frames_L38 P c0 c1 kE56 fuel p2 s) s 38 [(0, A w c0), (1, I c1), (2, I p2)] [] := by
  intro fuel
  induction fuel with
  | zero => intro p2 s; exact v_none
  | succ m ih =>
    intro p2 s
    rw [fzX7_frames_L38]
    refine v_iload_n C dX7_frames_38 rfl (j := 2) rfl ?_
    refine v_iload_n C dX7_frames_39 rfl (j := 1) rfl ?_
    refine v_icmp_ge (tgt := 56) C dX7_frames_40 rfl ?_ ?_
    · skip
      refine v_sub [(0, A w c0)] [0] rfl ?_
      exact hE56 s
    · skip
      refine v_aload_n C dX7_frames_43 rfl (j := 0) rfl ?_
      refine v_getR C 1 rfl (T := TX7) rfl inB7 (by decide) (by decide) rfl tw_338 dX7_frames_44 (fun x5 => ?_)
      refine v_callV_wV C [] [] (Cee.of (rm := rX2_passFrame) tw_1087 tw_4 hX2_passFrame rfl rfl hRm (Nat.le_of_ble_eq_true rfl) (Nat.le_of_ble_eq_true rfl)) (fun x h => kX2_passFrame X.2.1 w _ _ h) tw_1084 tw_1085 tw_1086 rfl (ci := 2) rfl (by decide) rfl rfl (Nat.le_of_ble_eq_true rfl) (by rw [hRm]; exact ⟨Nat.le_of_ble_eq_true rfl, Nat.le_of_ble_eq_true rfl⟩) dX7_frames_47 (fun s6 => ?_)
      refine v_iinc C (j := 2) [(0, A w c0), (1, I c1)] dX7_frames_50 (by decide) rfl (fun _ => rfl) (fun x7 => ?_)
      refine v_goto (tgt := 38) C dX7_frames_53 rfl ?_
      refine v_sub [(0, A w c0), (1, I c1), (2, I x7)] [1, 2, 0] rfl ?_
      exact ih x7 s6
theorem hzX7_frames : yX7_frames.cls ≠ "java/lang/invoke/MethodHandle" ∧ yX7_frames.cls ≠ "java/lang/invoke/VarHandle" ∧ (parseMethodDescriptor yX7_frames.desc).map (fun d => d.parameters.length) = some 1 := by decide +kernel
set_option maxRecDepth 100000 in
theorem kzX7_frames (l : Launch) (hst : l.stackTraces = false) (w : Wd) (P : Shp) (n : Nat) {s : St} {a0 : Int} {a1 : Int} {res : (Int × St) ⊕ Nat} (h : fzX7_frames P s a0 a1 = some res) : CtX l w yX7_frames cX7_frames 3 (some FieldType.int) rzX7_frames 1 6 P n [A w a0, I a1] s (XQI w P n res) res :=
  CtX.of hst h (by decide) (Nat.le_of_ble_eq_true rfl) (lv := [(0, A w a0), (1, I a1)]) rfl fun X hl hRm C T hn hO => by
  subst hl
  unfold fzX7_frames
  refine v_iload_n C dX7_frames_0 rfl (j := 1) rfl ?_
  refine v_iconst C dX7_frames_1 ?_
  refine v_jnt (fun (k12 : Option ((Int × St) ⊕ Nat)) => V X w 3 P n 0 0 res (k12) s 12 [] []) ?_ ?_
  · skip
    exact v_throw C T hO (e := 0) (ik := 53) (is := 243) (ic := 57) (i := 35) (tx := "no such number of frames") tw_362 tw_12 (by decide +kernel) (by decide) tw0_57 tg0_53_57 dX7_frames_12 dX7_frames_15 dX7_frames_16 dX7_frames_18 dX7_frames_21 (by rw [hRm]; exact Nat.le_of_ble_eq_true rfl) (by rw [hRm]; exact Nat.le_of_ble_eq_true rfl) (Nat.le_of_ble_eq_true rfl) (by rw [hRm]; exact Nat.le_of_ble_eq_true rfl) (by rw [hRm]; exact Nat.le_of_ble_eq_true rfl) (Nat.le_of_ble_eq_true rfl) (Nat.le_of_ble_eq_true rfl)
  intro k12 hk12
  refine v_icmp_lt (tgt := 12) C dX7_frames_2 rfl ?_ ?_
  · skip
    refine v_sub [] [] rfl ?_
    exact hk12
  · skip
    refine v_iload_n C dX7_frames_5 rfl (j := 1) rfl ?_
    refine v_sipush C dX7_frames_6 (by decide) ?_
    refine v_icmp_le (tgt := 22) C dX7_frames_9 rfl ?_ ?_
    · skip
      refine v_aload_n C dX7_frames_22 rfl (j := 0) rfl ?_
      refine v_getR C 2 rfl (T := TX7) rfl inB7 (by decide) (by decide) rfl tw_339 dX7_frames_23 (fun x1 => ?_)
      refine v_aload_n C dX7_frames_26 rfl (j := 0) rfl ?_
      refine v_getR C 1 rfl (T := TX7) rfl inB7 (by decide) (by decide) rfl tw_338 dX7_frames_27 (fun x2 => ?_)
      refine v_getR C 1 rfl (T := TX2) rfl inB2 (by decide) (by decide) rfl tw_309 dX7_frames_30 (fun x3 => ?_)
      refine v_callV_wV C [A w x3] [] (Cee.of (rm := rX1_remember) tw_1017 tw_8 hX1_remember rfl rfl hRm (Nat.le_of_ble_eq_true rfl) (Nat.le_of_ble_eq_true rfl)) (fun x h => kX1_remember X.2.1 w _ _ h) tw_1014 tw_1015 tw_1016 rfl (ci := 1) rfl (by decide) rfl rfl (Nat.le_of_ble_eq_true rfl) (by rw [hRm]; exact ⟨Nat.le_of_ble_eq_true rfl, Nat.le_of_ble_eq_true rfl⟩) dX7_frames_33 (fun s4 => ?_)
      refine v_iconst C dX7_frames_36 ?_
      refine v_istore_n C [(2, I 0), (0, A w a0), (1, I a1)] dX7_frames_37 rfl (by decide) rfl ?_
      refine v_sub [(0, A w a0), (1, I a1), (2, I 0)] [1, 2, 0] rfl ?_
      refine vzX7_frames_L38 res hRm C T hO a0 a1 _ ?_ 1000 0 s4
      · intro s8
        refine v_aload_n C dX7_frames_56 rfl (j := 0) rfl ?_
        refine v_getR C 1 rfl (T := TX7) rfl inB7 (by decide) (by decide) rfl tw_338 dX7_frames_57 (fun x9 => ?_)
        refine v_callV_rI C [] [] (Cee.of (rm := rX2_reserved) tw_361 tw_4 hX2_reserved rfl rfl hRm (Nat.le_of_ble_eq_true rfl) (Nat.le_of_ble_eq_true rfl)) (fun x h => kX2_reserved X.2.1 w _ _ h) tw_358 tw_359 tw_360 rfl (ci := 2) rfl (by decide) rfl rfl (Nat.le_of_ble_eq_true rfl) (by rw [hRm]; exact ⟨Nat.le_of_ble_eq_true rfl, Nat.le_of_ble_eq_true rfl⟩) dX7_frames_60 (fun x10 => ?_)
        refine v_wid 1 6 (Nat.le_of_ble_eq_true rfl) (Nat.le_of_ble_eq_true rfl) ?_
        exact v_xiret C rfl hO dX7_frames_63
    · skip
      refine v_sub [] [] rfl ?_
      exact hk12
