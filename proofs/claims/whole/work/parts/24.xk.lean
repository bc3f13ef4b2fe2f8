/-! CONTRACTS of the throwing methods -/
-- ForesightHub.parse
set_option maxRecDepth 100000 in
theorem vX7_parse_L84 {X : Cxt} {w : Wd} {P : Shp} {n : Nat} (res : (Int × St) ⊕ Nat) (hRm : X.2.2.2.1 = rX7_parse) (C : Cok X w cX7_parse 4 RX7 (some FieldType.int)) {s00 : St} (T : noT X) (hO : OwnX X w 1 6 (XQI w P n res) (XXC w P n s00 res))  (c0 : Int) (kE102 : St → Option ((Int × St) ⊕ Nat)) (hE102 : ∀ (se : St), V X w 4 P n 0 0 res (kE102 se) se 102 [(0, A w c0)] []) : ∀ (fuel : Nat) (p3 : Int) (s : St), V X w 4 P n 0 0 res (fX7_parse_L84 P c0 kE102 fuel p3 s) s 84 [(0, A w c0), (3, I p3)] [] := by
  intro fuel
  induction fuel with
  | zero => intro p3 s; exact v_none
  | succ m ih =>
    intro p3 s
    rw [fX7_parse_L84]
    refine v_iload_n C dX7_parse_84 rfl (j := 1) rfl ?_
    refine v_iconst C dX7_parse_85 ?_
    refine v_icmp_ge (tgt := 102) C dX7_parse_86 rfl ?_ ?_
    · skip
      refine v_sub [(0, A w c0)] [0] rfl ?_
      exact hE102 s
    · skip
      refine v_aload_n C dX7_parse_89 rfl (j := 0) rfl ?_
      refine v_getR C 4 rfl (T := TX7) rfl inB7 (by decide) (by decide) rfl tw_339 dX7_parse_90 (fun x19 => ?_)
      refine v_iload_n C dX7_parse_93 rfl (j := 1) rfl ?_
      refine v_iconst C dX7_parse_94 ?_
      refine v_zast C dX7_parse_95 (fun s20 => ?_)
      refine v_iinc C (j := 1) [(0, A w c0)] dX7_parse_96 (by decide) rfl (fun _ => rfl) (fun x21 => ?_)
      refine v_goto (tgt := 84) C dX7_parse_99 rfl ?_
      refine v_sub [(0, A w c0), (3, I x21)] [1, 0] rfl ?_
      exact ih x21 s20
theorem hX7_parse : yX7_parse.cls ≠ "java/lang/invoke/MethodHandle" ∧ yX7_parse.cls ≠ "java/lang/invoke/VarHandle" ∧ (parseMethodDescriptor yX7_parse.desc).map (fun d => d.parameters.length) = some 1 := by decide +kernel
set_option maxRecDepth 100000 in
theorem kX7_parse (l : Launch) (hst : l.stackTraces = false) (w : Wd) (P : Shp) (n : Nat) {s : St} {a0 : Int} {a1 : Int} {res : (Int × St) ⊕ Nat} (h : fX7_parse P s a0 a1 = some res) : CtX l w yX7_parse cX7_parse 4 (some FieldType.int) rX7_parse 1 6 P n [A w a0, I a1] s (XQI w P n res) res :=
  CtX.of hst h (by decide) (Nat.le_of_ble_eq_true rfl) (lv := [(0, A w a0), (1, I a1)]) rfl fun X hl hRm C T hn hO => by
  subst hl
  unfold fX7_parse
  refine v_iload_n C dX7_parse_0 rfl (j := 1) rfl ?_
  refine v_jnt (fun (k15 : Option ((Int × St) ⊕ Nat)) => V X w 4 P n 0 0 res (k15) s 15 [] []) ?_ ?_
  · skip
    exact v_throw C T hO (e := 0) (ik := 53) (is := 55) (ic := 57) (i := 10) (tx := "no such length of the text") tw_468 tw_13 (by decide +kernel) (by decide) tw0_57 tg0_53_57 dX7_parse_15 dX7_parse_18 dX7_parse_19 dX7_parse_21 dX7_parse_24 (by rw [hRm]; exact Nat.le_of_ble_eq_true rfl) (by rw [hRm]; exact Nat.le_of_ble_eq_true rfl) (Nat.le_of_ble_eq_true rfl) (by rw [hRm]; exact Nat.le_of_ble_eq_true rfl) (by rw [hRm]; exact Nat.le_of_ble_eq_true rfl) (Nat.le_of_ble_eq_true rfl) (Nat.le_of_ble_eq_true rfl)
  intro k15 hk15
  refine v_if_lt (tgt := 15) C dX7_parse_1 rfl ?_ ?_
  · skip
    refine v_sub [] [] rfl ?_
    exact hk15
  · skip
    refine v_iload_n C dX7_parse_4 rfl (j := 1) rfl ?_
    refine v_aload_n C dX7_parse_5 rfl (j := 0) rfl ?_
    refine v_getR C 0 rfl (T := TX7) rfl inB7 (by decide) (by decide) rfl tw_335 dX7_parse_6 (fun x1 => ?_)
    refine v_getI C 1 rfl (T := TX5) rfl inB5 (by decide) (by decide) rfl tw_143 dX7_parse_9 (fun x2 => ?_)
    refine v_icmp_le (tgt := 25) C dX7_parse_12 rfl ?_ ?_
    · skip
      refine v_aload_n C dX7_parse_25 rfl (j := 0) rfl ?_
      refine v_getR C 0 rfl (T := TX7) rfl inB7 (by decide) (by decide) rfl tw_335 dX7_parse_26 (fun x3 => ?_)
      refine v_iload_n C dX7_parse_29 rfl (j := 1) rfl ?_
      refine v_callV_wI C [I a1] [] (Cee.of (rm := rX5_read) tw_538 tw_2 hX5_read rfl rfl hRm (Nat.le_of_ble_eq_true rfl) (Nat.le_of_ble_eq_true rfl)) (fun x h => kX5_read X.2.1 w P n h) tw_535 tw_536 tw_537 rfl (ci := 5) rfl (by decide) rfl rfl (Nat.le_of_ble_eq_true rfl) (by rw [hRm]; exact ⟨Nat.le_of_ble_eq_true rfl, Nat.le_of_ble_eq_true rfl⟩) dX7_parse_30 (fun q4 => ?_)
      obtain ⟨x5, s6⟩ := q4
      refine v_istore_n C [(2, I x5), (0, A w a0), (1, I a1)] dX7_parse_33 rfl (by decide) rfl ?_
      refine v_aload_n C dX7_parse_34 rfl (j := 1) rfl ?_
      refine v_getR C 0 rfl (T := TX7) rfl inB7 (by decide) (by decide) rfl tw_335 dX7_parse_35 (fun x7 => ?_)
      refine v_iconst C dX7_parse_38 ?_
      refine v_putI C 1 rfl (T := TX5) rfl inB5 (by decide) tyX5_ok nmX5 (by decide) rfl rfl tw_143 dX7_parse_39 rfl (fun s8 => ?_)
      refine v_iload_n C dX7_parse_42 rfl (j := 0) rfl ?_
      refine v_if_ne (tgt := 54) C dX7_parse_43 rfl ?_ ?_
      · skip
        refine v_aload_n C dX7_parse_54 rfl (j := 1) rfl ?_
        refine v_getR C 1 rfl (T := TX7) rfl inB7 (by decide) (by decide) rfl tw_336 dX7_parse_55 (fun x9 => ?_)
        refine v_aload_n C dX7_parse_58 rfl (j := 1) rfl ?_
        refine v_getR C 0 rfl (T := TX7) rfl inB7 (by decide) (by decide) rfl tw_335 dX7_parse_59 (fun x10 => ?_)
        refine v_aload_n C dX7_parse_62 rfl (j := 1) rfl ?_
        refine v_getR C 1 rfl (T := TX7) rfl inB7 (by decide) (by decide) rfl tw_336 dX7_parse_63 (fun x11 => ?_)
        refine v_getR C 0 rfl (T := TX2) rfl inB2 (by decide) (by decide) rfl tw_305 dX7_parse_66 (fun x12 => ?_)
        refine v_callV_wR C [A w x12] [A w x9] (Cee.of (rm := rX5_exchangePlan) tw_680 tw_2 hX5_exchangePlan rfl rfl hRm (Nat.le_of_ble_eq_true rfl) (Nat.le_of_ble_eq_true rfl)) (fun x h => kX5_exchangePlan X.2.1 w P n h) tw_677 tw_678 tw_679 rfl (ci := 5) rfl (by decide) rfl rfl (Nat.le_of_ble_eq_true rfl) (by rw [hRm]; exact ⟨Nat.le_of_ble_eq_true rfl, Nat.le_of_ble_eq_true rfl⟩) dX7_parse_69 (fun q13 => ?_)
        obtain ⟨x14, s15⟩ := q13
        refine v_callV_wV C [A w x14] [] (Cee.of (rm := rX2_begin) tw_684 tw_4 hX2_begin rfl rfl hRm (Nat.le_of_ble_eq_true rfl) (Nat.le_of_ble_eq_true rfl)) (fun x h => kX2_begin X.2.1 w P n h) tw_681 tw_682 tw_683 rfl (ci := 2) rfl (by decide) rfl rfl (Nat.le_of_ble_eq_true rfl) (by rw [hRm]; exact ⟨Nat.le_of_ble_eq_true rfl, Nat.le_of_ble_eq_true rfl⟩) dX7_parse_72 (fun s16 => ?_)
        refine v_aload_n C dX7_parse_75 rfl (j := 1) rfl ?_
        refine v_getR C 2 rfl (T := TX7) rfl inB7 (by decide) (by decide) rfl tw_337 dX7_parse_76 (fun x17 => ?_)
        refine v_callV_wV C [] [] (Cee.of (rm := rX1_clear) tw_459 tw_8 hX1_clear rfl rfl hRm (Nat.le_of_ble_eq_true rfl) (Nat.le_of_ble_eq_true rfl)) (fun x h => kX1_clear X.2.1 w P n h) tw_456 tw_457 tw_458 rfl (ci := 1) rfl (by decide) rfl rfl (Nat.le_of_ble_eq_true rfl) (by rw [hRm]; exact ⟨Nat.le_of_ble_eq_true rfl, Nat.le_of_ble_eq_true rfl⟩) dX7_parse_79 (fun s18 => ?_)
        refine v_iconst C dX7_parse_82 ?_
        refine v_istore_n C [(3, I 0), (2, I x5), (0, A w a0), (1, I a1)] dX7_parse_83 rfl (by decide) rfl ?_
        refine v_sub [(0, A w a0), (3, I 0)] [2, 0] rfl ?_
        refine vX7_parse_L84 res hRm C T hO a0 _ ?_ 1000 0 s18
        · intro s22
          refine v_aload_n C dX7_parse_102 rfl (j := 0) rfl ?_
          refine v_getR C 1 rfl (T := TX7) rfl inB7 (by decide) (by decide) rfl tw_336 dX7_parse_103 (fun x23 => ?_)
          refine v_getR C 0 rfl (T := TX2) rfl inB2 (by decide) (by decide) rfl tw_305 dX7_parse_106 (fun x24 => ?_)
          refine v_getI C 6 rfl (T := TX4) rfl inB4 (by decide) (by decide) rfl tw_72 dX7_parse_109 (fun x25 => ?_)
          refine v_wid 1 6 (Nat.le_of_ble_eq_true rfl) (Nat.le_of_ble_eq_true rfl) ?_
          exact v_xiret C rfl hO dX7_parse_112
      · skip
        refine v_aload_n C dX7_parse_46 rfl (j := 1) rfl ?_
        refine v_getR C 0 rfl (T := TX7) rfl inB7 (by decide) (by decide) rfl tw_335 dX7_parse_47 (fun x26 => ?_)
        refine v_callV_rI C [] [] (Cee.of (rm := rX5_faultAnswer) tw_676 tw_2 hX5_faultAnswer rfl rfl hRm (Nat.le_of_ble_eq_true rfl) (Nat.le_of_ble_eq_true rfl)) (fun x h => kX5_faultAnswer X.2.1 w P n h) tw_673 tw_674 tw_675 rfl (ci := 5) rfl (by decide) rfl rfl (Nat.le_of_ble_eq_true rfl) (by rw [hRm]; exact ⟨Nat.le_of_ble_eq_true rfl, Nat.le_of_ble_eq_true rfl⟩) dX7_parse_50 (fun x27 => ?_)
        refine v_wid 1 6 (Nat.le_of_ble_eq_true rfl) (Nat.le_of_ble_eq_true rfl) ?_
        exact v_xiret C rfl hO dX7_parse_53
    · skip
      refine v_sub [] [] rfl ?_
      exact hk15
-- ForesightHub.size
theorem hX7_size : yX7_size.cls ≠ "java/lang/invoke/MethodHandle" ∧ yX7_size.cls ≠ "java/lang/invoke/VarHandle" ∧ (parseMethodDescriptor yX7_size.desc).map (fun d => d.parameters.length) = some 1 := by decide +kernel
set_option maxRecDepth 100000 in
theorem kX7_size (l : Launch) (hst : l.stackTraces = false) (w : Wd) (P : Shp) (n : Nat) {s : St} {a0 : Int} {a1 : Int} {res : (Int × St) ⊕ Nat} (h : fX7_size P s a0 a1 = some res) : CtX l w yX7_size cX7_size 2 (some FieldType.int) rX7_size 1 6 P n [A w a0, I a1] s (XQI w P n res) res :=
  CtX.of hst h (by decide) (Nat.le_of_ble_eq_true rfl) (lv := [(0, A w a0), (1, I a1)]) rfl fun X hl hRm C T hn hO => by
  subst hl
  unfold fX7_size
  refine v_iload_n C dX7_size_0 rfl (j := 1) rfl ?_
  refine v_tsw C (vals := [0, 1, 2, 3, 4, 5, 6, 7, 8, 9]) (tgts := [56, 67, 78, 89, 100, 111, 122, 130, 141, 152]) (dt := 160) dX7_size_1 rfl rfl (by decide) ?_ ?_
  · skip
    refine v_sw_cons ?_ ?_
    · skip
      refine v_aload_n C dX7_size_56 rfl (j := 0) rfl ?_
      refine v_getR C 1 rfl (T := TX7) rfl inB7 (by decide) (by decide) rfl tw_336 dX7_size_57 (fun x1 => ?_)
      refine v_getR C 0 rfl (T := TX2) rfl inB2 (by decide) (by decide) rfl tw_305 dX7_size_60 (fun x2 => ?_)
      refine v_getI C 4 rfl (T := TX4) rfl inB4 (by decide) (by decide) rfl tw_63 dX7_size_63 (fun x3 => ?_)
      refine v_wid 1 6 (Nat.le_of_ble_eq_true rfl) (Nat.le_of_ble_eq_true rfl) ?_
      exact v_xiret C rfl hO dX7_size_66
    refine v_sw_cons ?_ ?_
    · skip
      refine v_aload_n C dX7_size_67 rfl (j := 0) rfl ?_
      refine v_getR C 1 rfl (T := TX7) rfl inB7 (by decide) (by decide) rfl tw_336 dX7_size_68 (fun x4 => ?_)
      refine v_getR C 0 rfl (T := TX2) rfl inB2 (by decide) (by decide) rfl tw_305 dX7_size_71 (fun x5 => ?_)
      refine v_getI C 5 rfl (T := TX4) rfl inB4 (by decide) (by decide) rfl tw_69 dX7_size_74 (fun x6 => ?_)
      refine v_wid 1 6 (Nat.le_of_ble_eq_true rfl) (Nat.le_of_ble_eq_true rfl) ?_
      exact v_xiret C rfl hO dX7_size_77
    refine v_sw_cons ?_ ?_
    · skip
      refine v_aload_n C dX7_size_78 rfl (j := 0) rfl ?_
      refine v_getR C 1 rfl (T := TX7) rfl inB7 (by decide) (by decide) rfl tw_336 dX7_size_79 (fun x7 => ?_)
      refine v_getR C 0 rfl (T := TX2) rfl inB2 (by decide) (by decide) rfl tw_305 dX7_size_82 (fun x8 => ?_)
      refine v_getI C 6 rfl (T := TX4) rfl inB4 (by decide) (by decide) rfl tw_72 dX7_size_85 (fun x9 => ?_)
      refine v_wid 1 6 (Nat.le_of_ble_eq_true rfl) (Nat.le_of_ble_eq_true rfl) ?_
      exact v_xiret C rfl hO dX7_size_88
    refine v_sw_cons ?_ ?_
    · skip
      refine v_aload_n C dX7_size_89 rfl (j := 0) rfl ?_
      refine v_getR C 1 rfl (T := TX7) rfl inB7 (by decide) (by decide) rfl tw_336 dX7_size_90 (fun x10 => ?_)
      refine v_getR C 0 rfl (T := TX2) rfl inB2 (by decide) (by decide) rfl tw_305 dX7_size_93 (fun x11 => ?_)
      refine v_getI C 0 rfl (T := TX4) rfl inB4 (by decide) (by decide) rfl tw_48 dX7_size_96 (fun x12 => ?_)
      refine v_wid 1 6 (Nat.le_of_ble_eq_true rfl) (Nat.le_of_ble_eq_true rfl) ?_
      exact v_xiret C rfl hO dX7_size_99
    refine v_sw_cons ?_ ?_
    · skip
      refine v_aload_n C dX7_size_100 rfl (j := 0) rfl ?_
      refine v_getR C 1 rfl (T := TX7) rfl inB7 (by decide) (by decide) rfl tw_336 dX7_size_101 (fun x13 => ?_)
      refine v_getR C 0 rfl (T := TX2) rfl inB2 (by decide) (by decide) rfl tw_305 dX7_size_104 (fun x14 => ?_)
      refine v_getI C 1 rfl (T := TX4) rfl inB4 (by decide) (by decide) rfl tw_52 dX7_size_107 (fun x15 => ?_)
      refine v_wid 1 6 (Nat.le_of_ble_eq_true rfl) (Nat.le_of_ble_eq_true rfl) ?_
      exact v_xiret C rfl hO dX7_size_110
    refine v_sw_cons ?_ ?_
    · skip
      refine v_aload_n C dX7_size_111 rfl (j := 0) rfl ?_
      refine v_getR C 1 rfl (T := TX7) rfl inB7 (by decide) (by decide) rfl tw_336 dX7_size_112 (fun x16 => ?_)
      refine v_getR C 1 rfl (T := TX2) rfl inB2 (by decide) (by decide) rfl tw_307 dX7_size_115 (fun x17 => ?_)
      refine v_getI C 0 rfl (T := TX6) rfl inB6 (by decide) (by decide) rfl tw_255 dX7_size_118 (fun x18 => ?_)
      refine v_wid 1 6 (Nat.le_of_ble_eq_true rfl) (Nat.le_of_ble_eq_true rfl) ?_
      exact v_xiret C rfl hO dX7_size_121
    refine v_sw_cons ?_ ?_
    · skip
      refine v_aload_n C dX7_size_122 rfl (j := 0) rfl ?_
      refine v_getR C 1 rfl (T := TX7) rfl inB7 (by decide) (by decide) rfl tw_336 dX7_size_123 (fun x19 => ?_)
      refine v_callV_rI C [] [] (Cee.of (rm := rX2_reserved) tw_725 tw_4 hX2_reserved rfl rfl hRm (Nat.le_of_ble_eq_true rfl) (Nat.le_of_ble_eq_true rfl)) (fun x h => kX2_reserved X.2.1 w P n h) tw_733 tw_723 tw_724 rfl (ci := 2) rfl (by decide) rfl rfl (Nat.le_of_ble_eq_true rfl) (by rw [hRm]; exact ⟨Nat.le_of_ble_eq_true rfl, Nat.le_of_ble_eq_true rfl⟩) dX7_size_126 (fun x20 => ?_)
      refine v_wid 1 6 (Nat.le_of_ble_eq_true rfl) (Nat.le_of_ble_eq_true rfl) ?_
      exact v_xiret C rfl hO dX7_size_129
    refine v_sw_cons ?_ ?_
    · skip
      refine v_aload_n C dX7_size_130 rfl (j := 0) rfl ?_
      refine v_getR C 1 rfl (T := TX7) rfl inB7 (by decide) (by decide) rfl tw_336 dX7_size_131 (fun x21 => ?_)
      refine v_getR C 1 rfl (T := TX2) rfl inB2 (by decide) (by decide) rfl tw_307 dX7_size_134 (fun x22 => ?_)
      refine v_getI C 1 rfl (T := TX6) rfl inB6 (by decide) (by decide) rfl tw_259 dX7_size_137 (fun x23 => ?_)
      refine v_wid 1 6 (Nat.le_of_ble_eq_true rfl) (Nat.le_of_ble_eq_true rfl) ?_
      exact v_xiret C rfl hO dX7_size_140
    refine v_sw_cons ?_ ?_
    · skip
      refine v_aload_n C dX7_size_141 rfl (j := 0) rfl ?_
      refine v_getR C 1 rfl (T := TX7) rfl inB7 (by decide) (by decide) rfl tw_336 dX7_size_142 (fun x24 => ?_)
      refine v_getR C 0 rfl (T := TX2) rfl inB2 (by decide) (by decide) rfl tw_305 dX7_size_145 (fun x25 => ?_)
      refine v_getI C 3 rfl (T := TX4) rfl inB4 (by decide) (by decide) rfl tw_59 dX7_size_148 (fun x26 => ?_)
      refine v_wid 1 6 (Nat.le_of_ble_eq_true rfl) (Nat.le_of_ble_eq_true rfl) ?_
      exact v_xiret C rfl hO dX7_size_151
    refine v_sw_cons ?_ ?_
    · skip
      refine v_aload_n C dX7_size_152 rfl (j := 0) rfl ?_
      refine v_getR C 2 rfl (T := TX7) rfl inB7 (by decide) (by decide) rfl tw_337 dX7_size_153 (fun x27 => ?_)
      refine v_getI C 1 rfl (T := TX1) rfl inB1 (by decide) (by decide) rfl tw_324 dX7_size_156 (fun x28 => ?_)
      refine v_wid 1 6 (Nat.le_of_ble_eq_true rfl) (Nat.le_of_ble_eq_true rfl) ?_
      exact v_xiret C rfl hO dX7_size_159
    exact v_sw_nil
  · skip
    exact v_throw C T hO (e := 0) (ik := 53) (is := 118) (ic := 57) (i := 11) (tx := "no such number") tw_468 tw_13 (by decide +kernel) (by decide) tw0_57 tg0_53_57 dX7_size_160 dX7_size_163 dX7_size_164 dX7_size_166 dX7_size_169 (by rw [hRm]; exact Nat.le_of_ble_eq_true rfl) (by rw [hRm]; exact Nat.le_of_ble_eq_true rfl) (Nat.le_of_ble_eq_true rfl) (by rw [hRm]; exact Nat.le_of_ble_eq_true rfl) (by rw [hRm]; exact Nat.le_of_ble_eq_true rfl) (Nat.le_of_ble_eq_true rfl) (Nat.le_of_ble_eq_true rfl)
-- ForesightHub.requirePort
theorem hX7_requirePort : yX7_requirePort.cls ≠ "java/lang/invoke/MethodHandle" ∧ yX7_requirePort.cls ≠ "java/lang/invoke/VarHandle" ∧ (parseMethodDescriptor yX7_requirePort.desc).map (fun d => d.parameters.length) = some 1 := by decide +kernel
set_option maxRecDepth 100000 in
theorem kX7_requirePort (l : Launch) (hst : l.stackTraces = false) (w : Wd) (P : Shp) (n : Nat) {s : St} {a0 : Int} {a1 : Int} {res : Int ⊕ Nat} (h : fX7_requirePort P s a0 a1 = some res) : CtX l w yX7_requirePort cX7_requirePort 2 (Option.none : Option FieldType) rX7_requirePort 1 6 P n [A w a0, I a1] s (XRV w P n s res) res :=
  CtX.of hst h (by decide) (Nat.le_of_ble_eq_true rfl) (lv := [(0, A w a0), (1, I a1)]) rfl fun X hl hRm C T hn hO => by
  subst hl
  unfold fX7_requirePort
  refine v_iload_n C dX7_requirePort_0 rfl (j := 1) rfl ?_
  refine v_jnt (fun (k18 : Option (Int ⊕ Nat)) => V X w 2 P n 0 0 res (k18) s 18 [] []) ?_ ?_
  · skip
    exact v_throwW C T hO (e := 2) (ik := 302) (is := 309) (ic := 306) (i := 12) (tx := "no such port") tw_747 tw_19 (by decide +kernel) (by decide) tw2_306 tg2_302_306 dX7_requirePort_18 dX7_requirePort_21 dX7_requirePort_22 dX7_requirePort_25 dX7_requirePort_28 (by rw [hRm]; exact Nat.le_of_ble_eq_true rfl) (by rw [hRm]; exact Nat.le_of_ble_eq_true rfl) (Nat.le_of_ble_eq_true rfl) (by rw [hRm]; exact Nat.le_of_ble_eq_true rfl) (by rw [hRm]; exact Nat.le_of_ble_eq_true rfl) (Nat.le_of_ble_eq_true rfl) (Nat.le_of_ble_eq_true rfl)
  intro k18 hk18
  refine v_if_lt (tgt := 18) C dX7_requirePort_1 rfl ?_ ?_
  · skip
    refine v_sub [] [] rfl ?_
    exact hk18
  · skip
    refine v_iload_n C dX7_requirePort_4 rfl (j := 1) rfl ?_
    refine v_aload_n C dX7_requirePort_5 rfl (j := 0) rfl ?_
    refine v_getR C 1 rfl (T := TX7) rfl inB7 (by decide) (by decide) rfl tw_336 dX7_requirePort_6 (fun x1 => ?_)
    refine v_getR C 0 rfl (T := TX2) rfl inB2 (by decide) (by decide) rfl tw_305 dX7_requirePort_9 (fun x2 => ?_)
    refine v_getI C 1 rfl (T := TX4) rfl inB4 (by decide) (by decide) rfl tw_52 dX7_requirePort_12 (fun x3 => ?_)
    refine v_icmp_lt (tgt := 29) C dX7_requirePort_15 rfl ?_ ?_
    · skip
      refine v_wid 1 6 (Nat.le_of_ble_eq_true rfl) (Nat.le_of_ble_eq_true rfl) ?_
      exact v_rvret C rfl hO dX7_requirePort_29
    · skip
      refine v_sub [] [] rfl ?_
      exact hk18
-- ForesightHub.deviceAt
theorem hX7_deviceAt : yX7_deviceAt.cls ≠ "java/lang/invoke/MethodHandle" ∧ yX7_deviceAt.cls ≠ "java/lang/invoke/VarHandle" ∧ (parseMethodDescriptor yX7_deviceAt.desc).map (fun d => d.parameters.length) = some 1 := by decide +kernel
set_option maxRecDepth 100000 in
theorem kX7_deviceAt (l : Launch) (hst : l.stackTraces = false) (w : Wd) (P : Shp) (n : Nat) {s : St} {a0 : Int} {a1 : Int} {res : (Int × St) ⊕ Nat} (h : fX7_deviceAt P s a0 a1 = some res) : CtX l w yX7_deviceAt cX7_deviceAt 2 (some FieldType.int) rX7_deviceAt 1 6 P n [A w a0, I a1] s (XQI w P n res) res :=
  CtX.of hst h (by decide) (Nat.le_of_ble_eq_true rfl) (lv := [(0, A w a0), (1, I a1)]) rfl fun X hl hRm C T hn hO => by
  subst hl
  unfold fX7_deviceAt
  refine v_aload_n C dX7_deviceAt_0 rfl (j := 0) rfl ?_
  refine v_iload_n C dX7_deviceAt_1 rfl (j := 1) rfl ?_
  refine v_callXV C T hO [I a1] [] (fun x h => kX7_requirePort X.2.1 T.2 w P n h) tw_746 tw_1 hX7_requirePort rfl rfl hRm (Nat.le_of_ble_eq_true rfl) (Nat.le_of_ble_eq_true rfl) tw_743 tw_745 ts_24 rfl (ci := 7) rfl (by decide) rfl rfl (Nat.le_of_ble_eq_true rfl) ⟨Nat.le_of_ble_eq_true rfl, Nat.le_of_ble_eq_true rfl⟩ ⟨Nat.le_of_ble_eq_true rfl, Nat.le_of_ble_eq_true rfl⟩ dX7_deviceAt_2 ?_
  refine v_aload_n C dX7_deviceAt_5 rfl (j := 0) rfl ?_
  refine v_getR C 1 rfl (T := TX7) rfl inB7 (by decide) (by decide) rfl tw_336 dX7_deviceAt_6 (fun x1 => ?_)
  refine v_iload_n C dX7_deviceAt_9 rfl (j := 1) rfl ?_
  refine v_callV_rI C [I a1] [] (Cee.of (rm := rX2_pluggedInAt) tw_766 tw_4 hX2_pluggedInAt rfl rfl hRm (Nat.le_of_ble_eq_true rfl) (Nat.le_of_ble_eq_true rfl)) (fun x h => kX2_pluggedInAt X.2.1 w P n h) tw_763 tw_764 tw_765 rfl (ci := 2) rfl (by decide) rfl rfl (Nat.le_of_ble_eq_true rfl) (by rw [hRm]; exact ⟨Nat.le_of_ble_eq_true rfl, Nat.le_of_ble_eq_true rfl⟩) dX7_deviceAt_10 (fun x2 => ?_)
  refine v_wid 1 6 (Nat.le_of_ble_eq_true rfl) (Nat.le_of_ble_eq_true rfl) ?_
  exact v_xiret C rfl hO dX7_deviceAt_13
-- ForesightHub.requireDevice
theorem hX7_requireDevice : yX7_requireDevice.cls ≠ "java/lang/invoke/MethodHandle" ∧ yX7_requireDevice.cls ≠ "java/lang/invoke/VarHandle" ∧ (parseMethodDescriptor yX7_requireDevice.desc).map (fun d => d.parameters.length) = some 1 := by decide +kernel
set_option maxRecDepth 100000 in
theorem kX7_requireDevice (l : Launch) (hst : l.stackTraces = false) (w : Wd) (P : Shp) (n : Nat) {s : St} {a0 : Int} {a1 : Int} {res : Int ⊕ Nat} (h : fX7_requireDevice P s a0 a1 = some res) : CtX l w yX7_requireDevice cX7_requireDevice 2 (Option.none : Option FieldType) rX7_requireDevice 1 6 P n [A w a0, I a1] s (XRV w P n s res) res :=
  CtX.of hst h (by decide) (Nat.le_of_ble_eq_true rfl) (lv := [(0, A w a0), (1, I a1)]) rfl fun X hl hRm C T hn hO => by
  subst hl
  unfold fX7_requireDevice
  refine v_aload_n C dX7_requireDevice_0 rfl (j := 0) rfl ?_
  refine v_getR C 1 rfl (T := TX7) rfl inB7 (by decide) (by decide) rfl tw_336 dX7_requireDevice_1 (fun x1 => ?_)
  refine v_iload_n C dX7_requireDevice_4 rfl (j := 1) rfl ?_
  refine v_callV_rI C [I a1] [] (Cee.of (rm := rX2_isDevice) tw_379 tw_4 hX2_isDevice rfl rfl hRm (Nat.le_of_ble_eq_true rfl) (Nat.le_of_ble_eq_true rfl)) (fun x h => kX2_isDevice X.2.1 w P n h) tw_778 tw_377 tw_378 rfl (ci := 2) rfl (by decide) rfl rfl (Nat.le_of_ble_eq_true rfl) (by rw [hRm]; exact ⟨Nat.le_of_ble_eq_true rfl, Nat.le_of_ble_eq_true rfl⟩) dX7_requireDevice_5 (fun x2 => ?_)
  refine v_if_ne (tgt := 22) C dX7_requireDevice_8 rfl ?_ ?_
  · skip
    refine v_wid 1 6 (Nat.le_of_ble_eq_true rfl) (Nat.le_of_ble_eq_true rfl) ?_
    exact v_rvret C rfl hO dX7_requireDevice_22
  · skip
    exact v_throwW C T hO (e := 2) (ik := 302) (is := 304) (ic := 306) (i := 13) (tx := "no such device") tw_747 tw_19 (by decide +kernel) (by decide) tw2_306 tg2_302_306 dX7_requireDevice_11 dX7_requireDevice_14 dX7_requireDevice_15 dX7_requireDevice_18 dX7_requireDevice_21 (by rw [hRm]; exact Nat.le_of_ble_eq_true rfl) (by rw [hRm]; exact Nat.le_of_ble_eq_true rfl) (Nat.le_of_ble_eq_true rfl) (by rw [hRm]; exact Nat.le_of_ble_eq_true rfl) (by rw [hRm]; exact Nat.le_of_ble_eq_true rfl) (Nat.le_of_ble_eq_true rfl) (Nat.le_of_ble_eq_true rfl)
-- ForesightHub.device
theorem hX7_device : yX7_device.cls ≠ "java/lang/invoke/MethodHandle" ∧ yX7_device.cls ≠ "java/lang/invoke/VarHandle" ∧ (parseMethodDescriptor yX7_device.desc).map (fun d => d.parameters.length) = some 2 := by decide +kernel
set_option maxRecDepth 100000 in
theorem kX7_device (l : Launch) (hst : l.stackTraces = false) (w : Wd) (P : Shp) (n : Nat) {s : St} {a0 : Int} {a1 : Int} {a2 : Int} {res : (Int × St) ⊕ Nat} (h : fX7_device P s a0 a1 a2 = some res) : CtX l w yX7_device cX7_device 3 (some FieldType.int) rX7_device 2 12 P n [A w a0, I a1, I a2] s (XQI w P n res) res :=
  CtX.of hst h (by decide) (Nat.le_of_ble_eq_true rfl) (lv := [(0, A w a0), (1, I a1), (2, I a2)]) rfl fun X hl hRm C T hn hO => by
  subst hl
  unfold fX7_device
  refine v_aload_n C dX7_device_0 rfl (j := 0) rfl ?_
  refine v_iload_n C dX7_device_1 rfl (j := 1) rfl ?_
  refine v_callXV C T hO [I a1] [] (fun x h => kX7_requireDevice X.2.1 T.2 w P n h) tw_777 tw_1 hX7_requireDevice rfl rfl hRm (Nat.le_of_ble_eq_true rfl) (Nat.le_of_ble_eq_true rfl) tw_774 tw_776 ts_25 rfl (ci := 7) rfl (by decide) rfl rfl (Nat.le_of_ble_eq_true rfl) ⟨Nat.le_of_ble_eq_true rfl, Nat.le_of_ble_eq_true rfl⟩ ⟨Nat.le_of_ble_eq_true rfl, Nat.le_of_ble_eq_true rfl⟩ dX7_device_2 ?_
  refine v_iload_n C dX7_device_5 rfl (j := 2) rfl ?_
  refine v_tsw C (vals := [0, 1, 2, 3, 4, 5, 6, 7]) (tgts := [52, 65, 78, 95, 105, 115, 131, 140]) (dt := 149) dX7_device_6 rfl rfl (by decide) ?_ ?_
  · skip
    refine v_sw_cons ?_ ?_
    · skip
      refine v_aload_n C dX7_device_52 rfl (j := 0) rfl ?_
      refine v_getR C 1 rfl (T := TX7) rfl inB7 (by decide) (by decide) rfl tw_336 dX7_device_53 (fun x1 => ?_)
      refine v_getR C 1 rfl (T := TX2) rfl inB2 (by decide) (by decide) rfl tw_307 dX7_device_56 (fun x2 => ?_)
      refine v_getR C 2 rfl (T := TX6) rfl inB6 (by decide) (by decide) rfl tw_262 dX7_device_59 (fun x3 => ?_)
      refine v_iload_n C dX7_device_62 rfl (j := 1) rfl ?_
      refine v_iald C dX7_device_63 (fun x4 => ?_)
      refine v_wid 2 12 (Nat.le_of_ble_eq_true rfl) (Nat.le_of_ble_eq_true rfl) ?_
      exact v_xiret C rfl hO dX7_device_64
    refine v_sw_cons ?_ ?_
    · skip
      refine v_aload_n C dX7_device_65 rfl (j := 0) rfl ?_
      refine v_getR C 1 rfl (T := TX7) rfl inB7 (by decide) (by decide) rfl tw_336 dX7_device_66 (fun x5 => ?_)
      refine v_getR C 0 rfl (T := TX2) rfl inB2 (by decide) (by decide) rfl tw_305 dX7_device_69 (fun x6 => ?_)
      refine v_getR C 12 rfl (T := TX4) rfl inB4 (by decide) (by decide) rfl tw_91 dX7_device_72 (fun x7 => ?_)
      refine v_iload_n C dX7_device_75 rfl (j := 1) rfl ?_
      refine v_iald C dX7_device_76 (fun x8 => ?_)
      refine v_wid 2 12 (Nat.le_of_ble_eq_true rfl) (Nat.le_of_ble_eq_true rfl) ?_
      exact v_xiret C rfl hO dX7_device_77
    refine v_sw_cons ?_ ?_
    · skip
      refine v_aload_n C dX7_device_78 rfl (j := 0) rfl ?_
      refine v_getR C 1 rfl (T := TX7) rfl inB7 (by decide) (by decide) rfl tw_336 dX7_device_79 (fun x9 => ?_)
      refine v_iload_n C dX7_device_82 rfl (j := 1) rfl ?_
      refine v_callV_rI C [I a1] [] (Cee.of (rm := rX2_inAlarm) tw_783 tw_4 hX2_inAlarm rfl rfl hRm (Nat.le_of_ble_eq_true rfl) (Nat.le_of_ble_eq_true rfl)) (fun x h => kX2_inAlarm X.2.1 w P n h) tw_780 tw_781 tw_782 rfl (ci := 2) rfl (by decide) rfl rfl (Nat.le_of_ble_eq_true rfl) (by rw [hRm]; exact ⟨Nat.le_of_ble_eq_true rfl, Nat.le_of_ble_eq_true rfl⟩) dX7_device_83 (fun x10 => ?_)
      refine v_if_eq (tgt := 93) C dX7_device_86 rfl ?_ ?_
      · skip
        refine v_iconst C dX7_device_93 ?_
        refine v_wid 2 12 (Nat.le_of_ble_eq_true rfl) (Nat.le_of_ble_eq_true rfl) ?_
        exact v_xiret C rfl hO dX7_device_94
      · skip
        refine v_iconst C dX7_device_89 ?_
        refine v_goto (tgt := 94) C dX7_device_90 rfl ?_
        refine v_wid 2 12 (Nat.le_of_ble_eq_true rfl) (Nat.le_of_ble_eq_true rfl) ?_
        exact v_xiret C rfl hO dX7_device_94
    refine v_sw_cons ?_ ?_
    · skip
      refine v_aload_n C dX7_device_95 rfl (j := 0) rfl ?_
      refine v_getR C 1 rfl (T := TX7) rfl inB7 (by decide) (by decide) rfl tw_336 dX7_device_96 (fun x11 => ?_)
      refine v_iload_n C dX7_device_99 rfl (j := 1) rfl ?_
      refine v_iconst C dX7_device_100 ?_
      refine v_callV_rI C [I a1, I ((-1))] [] (Cee.of (rm := rX2_scoreOf) tw_383 tw_4 hX2_scoreOf rfl rfl hRm (Nat.le_of_ble_eq_true rfl) (Nat.le_of_ble_eq_true rfl)) (fun x h => kX2_scoreOf X.2.1 w P n h) tw_784 tw_381 tw_382 rfl (ci := 2) rfl (by decide) rfl rfl (Nat.le_of_ble_eq_true rfl) (by rw [hRm]; exact ⟨Nat.le_of_ble_eq_true rfl, Nat.le_of_ble_eq_true rfl⟩) dX7_device_101 (fun x12 => ?_)
      refine v_wid 2 12 (Nat.le_of_ble_eq_true rfl) (Nat.le_of_ble_eq_true rfl) ?_
      exact v_xiret C rfl hO dX7_device_104
    refine v_sw_cons ?_ ?_
    · skip
      refine v_aload_n C dX7_device_105 rfl (j := 0) rfl ?_
      refine v_getR C 1 rfl (T := TX7) rfl inB7 (by decide) (by decide) rfl tw_336 dX7_device_106 (fun x13 => ?_)
      refine v_iload_n C dX7_device_109 rfl (j := 1) rfl ?_
      refine v_iconst C dX7_device_110 ?_
      refine v_callV_rI C [I a1, I ((-1))] [] (Cee.of (rm := rX2_matchingBits) tw_387 tw_4 hX2_matchingBits rfl rfl hRm (Nat.le_of_ble_eq_true rfl) (Nat.le_of_ble_eq_true rfl)) (fun x h => kX2_matchingBits X.2.1 w P n h) tw_785 tw_385 tw_386 rfl (ci := 2) rfl (by decide) rfl rfl (Nat.le_of_ble_eq_true rfl) (by rw [hRm]; exact ⟨Nat.le_of_ble_eq_true rfl, Nat.le_of_ble_eq_true rfl⟩) dX7_device_111 (fun x14 => ?_)
      refine v_wid 2 12 (Nat.le_of_ble_eq_true rfl) (Nat.le_of_ble_eq_true rfl) ?_
      exact v_xiret C rfl hO dX7_device_114
    refine v_sw_cons ?_ ?_
    · skip
      refine v_aload_n C dX7_device_115 rfl (j := 0) rfl ?_
      refine v_getR C 1 rfl (T := TX7) rfl inB7 (by decide) (by decide) rfl tw_336 dX7_device_116 (fun x15 => ?_)
      refine v_getR C 1 rfl (T := TX2) rfl inB2 (by decide) (by decide) rfl tw_307 dX7_device_119 (fun x16 => ?_)
      refine v_getR C 8 rfl (T := TX6) rfl inB6 (by decide) (by decide) rfl tw_278 dX7_device_122 (fun x17 => ?_)
      refine v_getR C 0 rfl (T := TX0) rfl inB0 (by decide) (by decide) rfl tw_207 dX7_device_125 (fun x18 => ?_)
      refine v_iload_n C dX7_device_128 rfl (j := 1) rfl ?_
      refine v_iald C dX7_device_129 (fun x19 => ?_)
      refine v_wid 2 12 (Nat.le_of_ble_eq_true rfl) (Nat.le_of_ble_eq_true rfl) ?_
      exact v_xiret C rfl hO dX7_device_130
    refine v_sw_cons ?_ ?_
    · skip
      refine v_aload_n C dX7_device_131 rfl (j := 0) rfl ?_
      refine v_getR C 1 rfl (T := TX7) rfl inB7 (by decide) (by decide) rfl tw_336 dX7_device_132 (fun x20 => ?_)
      refine v_iload_n C dX7_device_135 rfl (j := 1) rfl ?_
      refine v_callV_rI C [I a1] [] (Cee.of (rm := rX2_heldBits) tw_789 tw_4 hX2_heldBits rfl rfl hRm (Nat.le_of_ble_eq_true rfl) (Nat.le_of_ble_eq_true rfl)) (fun x h => kX2_heldBits X.2.1 w P n h) tw_786 tw_787 tw_788 rfl (ci := 2) rfl (by decide) rfl rfl (Nat.le_of_ble_eq_true rfl) (by rw [hRm]; exact ⟨Nat.le_of_ble_eq_true rfl, Nat.le_of_ble_eq_true rfl⟩) dX7_device_136 (fun x21 => ?_)
      refine v_wid 2 12 (Nat.le_of_ble_eq_true rfl) (Nat.le_of_ble_eq_true rfl) ?_
      exact v_xiret C rfl hO dX7_device_139
    refine v_sw_cons ?_ ?_
    · skip
      refine v_aload_n C dX7_device_140 rfl (j := 0) rfl ?_
      refine v_getR C 1 rfl (T := TX7) rfl inB7 (by decide) (by decide) rfl tw_336 dX7_device_141 (fun x22 => ?_)
      refine v_iload_n C dX7_device_144 rfl (j := 1) rfl ?_
      refine v_callV_rI C [I a1] [] (Cee.of (rm := rX2_reservedFor) tw_793 tw_4 hX2_reservedFor rfl rfl hRm (Nat.le_of_ble_eq_true rfl) (Nat.le_of_ble_eq_true rfl)) (fun x h => kX2_reservedFor X.2.1 w P n h) tw_790 tw_791 tw_792 rfl (ci := 2) rfl (by decide) rfl rfl (Nat.le_of_ble_eq_true rfl) (by rw [hRm]; exact ⟨Nat.le_of_ble_eq_true rfl, Nat.le_of_ble_eq_true rfl⟩) dX7_device_145 (fun x23 => ?_)
      refine v_wid 2 12 (Nat.le_of_ble_eq_true rfl) (Nat.le_of_ble_eq_true rfl) ?_
      exact v_xiret C rfl hO dX7_device_148
    exact v_sw_nil
  · skip
    exact v_throw C T hO (e := 0) (ik := 53) (is := 161) (ic := 57) (i := 14) (tx := "no such property of a device") tw_468 tw_13 (by decide +kernel) (by decide) tw0_57 tg0_53_57 dX7_device_149 dX7_device_152 dX7_device_153 dX7_device_155 dX7_device_158 (by rw [hRm]; exact Nat.le_of_ble_eq_true rfl) (by rw [hRm]; exact Nat.le_of_ble_eq_true rfl) (Nat.le_of_ble_eq_true rfl) (by rw [hRm]; exact Nat.le_of_ble_eq_true rfl) (by rw [hRm]; exact Nat.le_of_ble_eq_true rfl) (Nat.le_of_ble_eq_true rfl) (Nat.le_of_ble_eq_true rfl)
-- ForesightHub.requireStream
theorem hX7_requireStream : yX7_requireStream.cls ≠ "java/lang/invoke/MethodHandle" ∧ yX7_requireStream.cls ≠ "java/lang/invoke/VarHandle" ∧ (parseMethodDescriptor yX7_requireStream.desc).map (fun d => d.parameters.length) = some 1 := by decide +kernel
set_option maxRecDepth 100000 in
theorem kX7_requireStream (l : Launch) (hst : l.stackTraces = false) (w : Wd) (P : Shp) (n : Nat) {s : St} {a0 : Int} {a1 : Int} {res : Int ⊕ Nat} (h : fX7_requireStream P s a0 a1 = some res) : CtX l w yX7_requireStream cX7_requireStream 2 (Option.none : Option FieldType) rX7_requireStream 1 6 P n [A w a0, I a1] s (XRV w P n s res) res :=
  CtX.of hst h (by decide) (Nat.le_of_ble_eq_true rfl) (lv := [(0, A w a0), (1, I a1)]) rfl fun X hl hRm C T hn hO => by
  subst hl
  unfold fX7_requireStream
  refine v_iload_n C dX7_requireStream_0 rfl (j := 1) rfl ?_
  refine v_jnt (fun (k18 : Option (Int ⊕ Nat)) => V X w 2 P n 0 0 res (k18) s 18 [] []) ?_ ?_
  · skip
    exact v_throwW C T hO (e := 2) (ik := 302) (is := 307) (ic := 306) (i := 15) (tx := "no such stream") tw_747 tw_19 (by decide +kernel) (by decide) tw2_306 tg2_302_306 dX7_requireStream_18 dX7_requireStream_21 dX7_requireStream_22 dX7_requireStream_25 dX7_requireStream_28 (by rw [hRm]; exact Nat.le_of_ble_eq_true rfl) (by rw [hRm]; exact Nat.le_of_ble_eq_true rfl) (Nat.le_of_ble_eq_true rfl) (by rw [hRm]; exact Nat.le_of_ble_eq_true rfl) (by rw [hRm]; exact Nat.le_of_ble_eq_true rfl) (Nat.le_of_ble_eq_true rfl) (Nat.le_of_ble_eq_true rfl)
  intro k18 hk18
  refine v_if_lt (tgt := 18) C dX7_requireStream_1 rfl ?_ ?_
  · skip
    refine v_sub [] [] rfl ?_
    exact hk18
  · skip
    refine v_iload_n C dX7_requireStream_4 rfl (j := 1) rfl ?_
    refine v_aload_n C dX7_requireStream_5 rfl (j := 0) rfl ?_
    refine v_getR C 1 rfl (T := TX7) rfl inB7 (by decide) (by decide) rfl tw_336 dX7_requireStream_6 (fun x1 => ?_)
    refine v_getR C 0 rfl (T := TX2) rfl inB2 (by decide) (by decide) rfl tw_305 dX7_requireStream_9 (fun x2 => ?_)
    refine v_getI C 6 rfl (T := TX4) rfl inB4 (by decide) (by decide) rfl tw_72 dX7_requireStream_12 (fun x3 => ?_)
    refine v_icmp_lt (tgt := 29) C dX7_requireStream_15 rfl ?_ ?_
    · skip
      refine v_wid 1 6 (Nat.le_of_ble_eq_true rfl) (Nat.le_of_ble_eq_true rfl) ?_
      exact v_rvret C rfl hO dX7_requireStream_29
    · skip
      refine v_sub [] [] rfl ?_
      exact hk18
-- ForesightHub.stream
theorem hX7_stream : yX7_stream.cls ≠ "java/lang/invoke/MethodHandle" ∧ yX7_stream.cls ≠ "java/lang/invoke/VarHandle" ∧ (parseMethodDescriptor yX7_stream.desc).map (fun d => d.parameters.length) = some 2 := by decide +kernel
set_option maxRecDepth 100000 in
theorem kX7_stream (l : Launch) (hst : l.stackTraces = false) (w : Wd) (P : Shp) (n : Nat) {s : St} {a0 : Int} {a1 : Int} {a2 : Int} {res : (Int × St) ⊕ Nat} (h : fX7_stream P s a0 a1 a2 = some res) : CtX l w yX7_stream cX7_stream 3 (some FieldType.int) rX7_stream 2 12 P n [A w a0, I a1, I a2] s (XQI w P n res) res :=
  CtX.of hst h (by decide) (Nat.le_of_ble_eq_true rfl) (lv := [(0, A w a0), (1, I a1), (2, I a2)]) rfl fun X hl hRm C T hn hO => by
  subst hl
  unfold fX7_stream
  refine v_aload_n C dX7_stream_0 rfl (j := 0) rfl ?_
  refine v_iload_n C dX7_stream_1 rfl (j := 1) rfl ?_
  refine v_callXV C T hO [I a1] [] (fun x h => kX7_requireStream X.2.1 T.2 w P n h) tw_805 tw_1 hX7_requireStream rfl rfl hRm (Nat.le_of_ble_eq_true rfl) (Nat.le_of_ble_eq_true rfl) tw_802 tw_804 ts_26 rfl (ci := 7) rfl (by decide) rfl rfl (Nat.le_of_ble_eq_true rfl) ⟨Nat.le_of_ble_eq_true rfl, Nat.le_of_ble_eq_true rfl⟩ ⟨Nat.le_of_ble_eq_true rfl, Nat.le_of_ble_eq_true rfl⟩ dX7_stream_2 ?_
  refine v_iload_n C dX7_stream_5 rfl (j := 2) rfl ?_
  refine v_tsw C (vals := [0, 1, 2, 3, 4, 5, 6]) (tgts := [48, 61, 74, 83, 96, 109, 122]) (dt := 135) dX7_stream_6 rfl rfl (by decide) ?_ ?_
  · skip
    refine v_sw_cons ?_ ?_
    · skip
      refine v_aload_n C dX7_stream_48 rfl (j := 0) rfl ?_
      refine v_getR C 1 rfl (T := TX7) rfl inB7 (by decide) (by decide) rfl tw_336 dX7_stream_49 (fun x1 => ?_)
      refine v_getR C 1 rfl (T := TX2) rfl inB2 (by decide) (by decide) rfl tw_307 dX7_stream_52 (fun x2 => ?_)
      refine v_getR C 5 rfl (T := TX6) rfl inB6 (by decide) (by decide) rfl tw_269 dX7_stream_55 (fun x3 => ?_)
      refine v_iload_n C dX7_stream_58 rfl (j := 1) rfl ?_
      refine v_iald C dX7_stream_59 (fun x4 => ?_)
      refine v_wid 2 12 (Nat.le_of_ble_eq_true rfl) (Nat.le_of_ble_eq_true rfl) ?_
      exact v_xiret C rfl hO dX7_stream_60
    refine v_sw_cons ?_ ?_
    · skip
      refine v_aload_n C dX7_stream_61 rfl (j := 0) rfl ?_
      refine v_getR C 1 rfl (T := TX7) rfl inB7 (by decide) (by decide) rfl tw_336 dX7_stream_62 (fun x5 => ?_)
      refine v_getR C 1 rfl (T := TX2) rfl inB2 (by decide) (by decide) rfl tw_307 dX7_stream_65 (fun x6 => ?_)
      refine v_getR C 4 rfl (T := TX6) rfl inB6 (by decide) (by decide) rfl tw_266 dX7_stream_68 (fun x7 => ?_)
      refine v_iload_n C dX7_stream_71 rfl (j := 1) rfl ?_
      refine v_iald C dX7_stream_72 (fun x8 => ?_)
      refine v_wid 2 12 (Nat.le_of_ble_eq_true rfl) (Nat.le_of_ble_eq_true rfl) ?_
      exact v_xiret C rfl hO dX7_stream_73
    refine v_sw_cons ?_ ?_
    · skip
      refine v_aload_n C dX7_stream_74 rfl (j := 0) rfl ?_
      refine v_getR C 1 rfl (T := TX7) rfl inB7 (by decide) (by decide) rfl tw_336 dX7_stream_75 (fun x9 => ?_)
      refine v_iload_n C dX7_stream_78 rfl (j := 1) rfl ?_
      refine v_callV_rI C [I a1] [] (Cee.of (rm := rX2_wantedHolder) tw_708 tw_4 hX2_wantedHolder rfl rfl hRm (Nat.le_of_ble_eq_true rfl) (Nat.le_of_ble_eq_true rfl)) (fun x h => kX2_wantedHolder X.2.1 w P n h) tw_807 tw_706 tw_707 rfl (ci := 2) rfl (by decide) rfl rfl (Nat.le_of_ble_eq_true rfl) (by rw [hRm]; exact ⟨Nat.le_of_ble_eq_true rfl, Nat.le_of_ble_eq_true rfl⟩) dX7_stream_79 (fun x10 => ?_)
      refine v_wid 2 12 (Nat.le_of_ble_eq_true rfl) (Nat.le_of_ble_eq_true rfl) ?_
      exact v_xiret C rfl hO dX7_stream_82
    refine v_sw_cons ?_ ?_
    · skip
      refine v_aload_n C dX7_stream_83 rfl (j := 0) rfl ?_
      refine v_getR C 1 rfl (T := TX7) rfl inB7 (by decide) (by decide) rfl tw_336 dX7_stream_84 (fun x11 => ?_)
      refine v_getR C 0 rfl (T := TX2) rfl inB2 (by decide) (by decide) rfl tw_305 dX7_stream_87 (fun x12 => ?_)
      refine v_getR C 14 rfl (T := TX4) rfl inB4 (by decide) (by decide) rfl tw_99 dX7_stream_90 (fun x13 => ?_)
      refine v_iload_n C dX7_stream_93 rfl (j := 1) rfl ?_
      refine v_iald C dX7_stream_94 (fun x14 => ?_)
      refine v_wid 2 12 (Nat.le_of_ble_eq_true rfl) (Nat.le_of_ble_eq_true rfl) ?_
      exact v_xiret C rfl hO dX7_stream_95
    refine v_sw_cons ?_ ?_
    · skip
      refine v_aload_n C dX7_stream_96 rfl (j := 0) rfl ?_
      refine v_getR C 1 rfl (T := TX7) rfl inB7 (by decide) (by decide) rfl tw_336 dX7_stream_97 (fun x15 => ?_)
      refine v_getR C 0 rfl (T := TX2) rfl inB2 (by decide) (by decide) rfl tw_305 dX7_stream_100 (fun x16 => ?_)
      refine v_getR C 15 rfl (T := TX4) rfl inB4 (by decide) (by decide) rfl tw_103 dX7_stream_103 (fun x17 => ?_)
      refine v_iload_n C dX7_stream_106 rfl (j := 1) rfl ?_
      refine v_iald C dX7_stream_107 (fun x18 => ?_)
      refine v_wid 2 12 (Nat.le_of_ble_eq_true rfl) (Nat.le_of_ble_eq_true rfl) ?_
      exact v_xiret C rfl hO dX7_stream_108
    refine v_sw_cons ?_ ?_
    · skip
      refine v_aload_n C dX7_stream_109 rfl (j := 0) rfl ?_
      refine v_getR C 1 rfl (T := TX7) rfl inB7 (by decide) (by decide) rfl tw_336 dX7_stream_110 (fun x19 => ?_)
      refine v_getR C 1 rfl (T := TX2) rfl inB2 (by decide) (by decide) rfl tw_307 dX7_stream_113 (fun x20 => ?_)
      refine v_getR C 6 rfl (T := TX6) rfl inB6 (by decide) (by decide) rfl tw_272 dX7_stream_116 (fun x21 => ?_)
      refine v_iload_n C dX7_stream_119 rfl (j := 1) rfl ?_
      refine v_iald C dX7_stream_120 (fun x22 => ?_)
      refine v_wid 2 12 (Nat.le_of_ble_eq_true rfl) (Nat.le_of_ble_eq_true rfl) ?_
      exact v_xiret C rfl hO dX7_stream_121
    refine v_sw_cons ?_ ?_
    · skip
      refine v_aload_n C dX7_stream_122 rfl (j := 0) rfl ?_
      refine v_getR C 1 rfl (T := TX7) rfl inB7 (by decide) (by decide) rfl tw_336 dX7_stream_123 (fun x23 => ?_)
      refine v_getR C 0 rfl (T := TX2) rfl inB2 (by decide) (by decide) rfl tw_305 dX7_stream_126 (fun x24 => ?_)
      refine v_getR C 13 rfl (T := TX4) rfl inB4 (by decide) (by decide) rfl tw_95 dX7_stream_129 (fun x25 => ?_)
      refine v_iload_n C dX7_stream_132 rfl (j := 1) rfl ?_
      refine v_iald C dX7_stream_133 (fun x26 => ?_)
      refine v_wid 2 12 (Nat.le_of_ble_eq_true rfl) (Nat.le_of_ble_eq_true rfl) ?_
      exact v_xiret C rfl hO dX7_stream_134
    exact v_sw_nil
  · skip
    exact v_throw C T hO (e := 0) (ik := 53) (is := 187) (ic := 57) (i := 16) (tx := "no such property of a stream") tw_468 tw_13 (by decide +kernel) (by decide) tw0_57 tg0_53_57 dX7_stream_135 dX7_stream_138 dX7_stream_139 dX7_stream_141 dX7_stream_144 (by rw [hRm]; exact Nat.le_of_ble_eq_true rfl) (by rw [hRm]; exact Nat.le_of_ble_eq_true rfl) (Nat.le_of_ble_eq_true rfl) (by rw [hRm]; exact Nat.le_of_ble_eq_true rfl) (by rw [hRm]; exact Nat.le_of_ble_eq_true rfl) (Nat.le_of_ble_eq_true rfl) (Nat.le_of_ble_eq_true rfl)
-- ForesightHub.packets
theorem hX7_packets : yX7_packets.cls ≠ "java/lang/invoke/MethodHandle" ∧ yX7_packets.cls ≠ "java/lang/invoke/VarHandle" ∧ (parseMethodDescriptor yX7_packets.desc).map (fun d => d.parameters.length) = some 1 := by decide +kernel
set_option maxRecDepth 100000 in
theorem kX7_packets (l : Launch) (hst : l.stackTraces = false) (w : Wd) (P : Shp) (n : Nat) {s : St} {a0 : Int} {a1 : Int} {res : (Int × St) ⊕ Nat} (h : fX7_packets P s a0 a1 = some res) : CtX l w yX7_packets cX7_packets 2 (some FieldType.long) rX7_packets 1 6 P n [A w a0, I a1] s (XQL w P n res) res :=
  CtX.of hst h (by decide) (Nat.le_of_ble_eq_true rfl) (lv := [(0, A w a0), (1, I a1)]) rfl fun X hl hRm C T hn hO => by
  subst hl
  unfold fX7_packets
  refine v_aload_n C dX7_packets_0 rfl (j := 0) rfl ?_
  refine v_iload_n C dX7_packets_1 rfl (j := 1) rfl ?_
  refine v_callXV C T hO [I a1] [] (fun x h => kX7_requireStream X.2.1 T.2 w P n h) tw_805 tw_1 hX7_requireStream rfl rfl hRm (Nat.le_of_ble_eq_true rfl) (Nat.le_of_ble_eq_true rfl) tw_802 tw_804 ts_26 rfl (ci := 7) rfl (by decide) rfl rfl (Nat.le_of_ble_eq_true rfl) ⟨Nat.le_of_ble_eq_true rfl, Nat.le_of_ble_eq_true rfl⟩ ⟨Nat.le_of_ble_eq_true rfl, Nat.le_of_ble_eq_true rfl⟩ dX7_packets_2 ?_
  refine v_aload_n C dX7_packets_5 rfl (j := 0) rfl ?_
  refine v_getR C 1 rfl (T := TX7) rfl inB7 (by decide) (by decide) rfl tw_336 dX7_packets_6 (fun x1 => ?_)
  refine v_getR C 1 rfl (T := TX2) rfl inB2 (by decide) (by decide) rfl tw_307 dX7_packets_9 (fun x2 => ?_)
  refine v_getR C 7 rfl (T := TX6) rfl inB6 (by decide) (by decide) rfl tw_275 dX7_packets_12 (fun x3 => ?_)
  refine v_iload_n C dX7_packets_15 rfl (j := 1) rfl ?_
  refine v_lald C dX7_packets_16 (fun x4 => ?_)
  refine v_wid 1 6 (Nat.le_of_ble_eq_true rfl) (Nat.le_of_ble_eq_true rfl) ?_
  exact v_xlret C rfl hO dX7_packets_17
-- ForesightHub.error
theorem hX7_error : yX7_error.cls ≠ "java/lang/invoke/MethodHandle" ∧ yX7_error.cls ≠ "java/lang/invoke/VarHandle" ∧ (parseMethodDescriptor yX7_error.desc).map (fun d => d.parameters.length) = some 3 := by decide +kernel
set_option maxRecDepth 100000 in
theorem kX7_error (l : Launch) (hst : l.stackTraces = false) (w : Wd) (P : Shp) (n : Nat) {s : St} {a0 : Int} {a1 : Int} {a2 : Int} {a3 : Int} {res : (Int × St) ⊕ Nat} (h : fX7_error P s a0 a1 a2 a3 = some res) : CtX l w yX7_error cX7_error 4 (some FieldType.int) rX7_error 2 12 P n [A w a0, I a1, I a2, I a3] s (XQI w P n res) res :=
  CtX.of hst h (by decide) (Nat.le_of_ble_eq_true rfl) (lv := [(0, A w a0), (1, I a1), (2, I a2), (3, I a3)]) rfl fun X hl hRm C T hn hO => by
  subst hl
  unfold fX7_error
  refine v_aload_n C dX7_error_0 rfl (j := 0) rfl ?_
  refine v_iload_n C dX7_error_1 rfl (j := 1) rfl ?_
  refine v_callXV C T hO [I a1] [] (fun x h => kX7_requireDevice X.2.1 T.2 w P n h) tw_777 tw_1 hX7_requireDevice rfl rfl hRm (Nat.le_of_ble_eq_true rfl) (Nat.le_of_ble_eq_true rfl) tw_774 tw_776 ts_25 rfl (ci := 7) rfl (by decide) rfl rfl (Nat.le_of_ble_eq_true rfl) ⟨Nat.le_of_ble_eq_true rfl, Nat.le_of_ble_eq_true rfl⟩ ⟨Nat.le_of_ble_eq_true rfl, Nat.le_of_ble_eq_true rfl⟩ dX7_error_2 ?_
  refine v_iload_n C dX7_error_5 rfl (j := 3) rfl ?_
  refine v_jnt (fun (k14 : Option ((Int × St) ⊕ Nat)) => V X w 4 P n 1 6 res (k14) s 14 [] []) ?_ ?_
  · skip
    exact v_throw C T hO (e := 0) (ik := 53) (is := 193) (ic := 57) (i := 17) (tx := "no such part of an error") tw_468 tw_13 (by decide +kernel) (by decide) tw0_57 tg0_53_57 dX7_error_14 dX7_error_17 dX7_error_18 dX7_error_20 dX7_error_23 (by rw [hRm]; exact Nat.le_of_ble_eq_true rfl) (by rw [hRm]; exact Nat.le_of_ble_eq_true rfl) (Nat.le_of_ble_eq_true rfl) (by rw [hRm]; exact Nat.le_of_ble_eq_true rfl) (by rw [hRm]; exact Nat.le_of_ble_eq_true rfl) (Nat.le_of_ble_eq_true rfl) (Nat.le_of_ble_eq_true rfl)
  intro k14 hk14
  refine v_if_lt (tgt := 14) C dX7_error_6 rfl ?_ ?_
  · skip
    refine v_sub [] [] rfl ?_
    exact hk14
  · skip
    refine v_iload_n C dX7_error_9 rfl (j := 3) rfl ?_
    refine v_iconst C dX7_error_10 ?_
    refine v_icmp_le (tgt := 24) C dX7_error_11 rfl ?_ ?_
    · skip
      refine v_iload_n C dX7_error_24 rfl (j := 3) rfl ?_
      refine v_if_ne (tgt := 46) C dX7_error_25 rfl ?_ ?_
      · skip
        refine v_aload_n C dX7_error_46 rfl (j := 0) rfl ?_
        refine v_getR C 1 rfl (T := TX7) rfl inB7 (by decide) (by decide) rfl tw_336 dX7_error_47 (fun x1 => ?_)
        refine v_getR C 1 rfl (T := TX2) rfl inB2 (by decide) (by decide) rfl tw_307 dX7_error_50 (fun x2 => ?_)
        refine v_getR C 8 rfl (T := TX6) rfl inB6 (by decide) (by decide) rfl tw_278 dX7_error_53 (fun x3 => ?_)
        refine v_iload_n C dX7_error_56 rfl (j := 1) rfl ?_
        refine v_iload_n C dX7_error_57 rfl (j := 2) rfl ?_
        refine v_callV_rI C [I a1, I a2] [] (Cee.of (rm := rX0_timeOf) tw_402 tw_6 hX0_timeOf rfl rfl hRm (Nat.le_of_ble_eq_true rfl) (Nat.le_of_ble_eq_true rfl)) (fun x h => kX0_timeOf X.2.1 w P n h) tw_825 tw_400 tw_401 rfl (ci := 0) rfl (by decide) rfl rfl (Nat.le_of_ble_eq_true rfl) (by rw [hRm]; exact ⟨Nat.le_of_ble_eq_true rfl, Nat.le_of_ble_eq_true rfl⟩) dX7_error_58 (fun x4 => ?_)
        refine v_wid 2 12 (Nat.le_of_ble_eq_true rfl) (Nat.le_of_ble_eq_true rfl) ?_
        exact v_xiret C rfl hO dX7_error_61
      · skip
        refine v_aload_n C dX7_error_28 rfl (j := 0) rfl ?_
        refine v_getR C 1 rfl (T := TX7) rfl inB7 (by decide) (by decide) rfl tw_336 dX7_error_29 (fun x5 => ?_)
        refine v_getR C 1 rfl (T := TX2) rfl inB2 (by decide) (by decide) rfl tw_307 dX7_error_32 (fun x6 => ?_)
        refine v_getR C 8 rfl (T := TX6) rfl inB6 (by decide) (by decide) rfl tw_278 dX7_error_35 (fun x7 => ?_)
        refine v_iload_n C dX7_error_38 rfl (j := 1) rfl ?_
        refine v_iload_n C dX7_error_39 rfl (j := 2) rfl ?_
        refine v_callV_rI C [I a1, I a2] [] (Cee.of (rm := rX0_kindOf) tw_410 tw_6 hX0_kindOf rfl rfl hRm (Nat.le_of_ble_eq_true rfl) (Nat.le_of_ble_eq_true rfl)) (fun x h => kX0_kindOf X.2.1 w P n h) tw_824 tw_408 tw_409 rfl (ci := 0) rfl (by decide) rfl rfl (Nat.le_of_ble_eq_true rfl) (by rw [hRm]; exact ⟨Nat.le_of_ble_eq_true rfl, Nat.le_of_ble_eq_true rfl⟩) dX7_error_40 (fun x8 => ?_)
        refine v_goto (tgt := 61) C dX7_error_43 rfl ?_
        refine v_wid 2 12 (Nat.le_of_ble_eq_true rfl) (Nat.le_of_ble_eq_true rfl) ?_
        exact v_xiret C rfl hO dX7_error_61
    · skip
      refine v_sub [] [] rfl ?_
      exact hk14
-- ForesightHub.cause
theorem hX7_cause : yX7_cause.cls ≠ "java/lang/invoke/MethodHandle" ∧ yX7_cause.cls ≠ "java/lang/invoke/VarHandle" ∧ (parseMethodDescriptor yX7_cause.desc).map (fun d => d.parameters.length) = some 2 := by decide +kernel
set_option maxRecDepth 100000 in
theorem kX7_cause (l : Launch) (hst : l.stackTraces = false) (w : Wd) (P : Shp) (n : Nat) {s : St} {a0 : Int} {a1 : Int} {a2 : Int} {res : (Int × St) ⊕ Nat} (h : fX7_cause P s a0 a1 a2 = some res) : CtX l w yX7_cause cX7_cause 3 (some FieldType.int) rX7_cause 1 6 P n [A w a0, I a1, I a2] s (XQI w P n res) res :=
  CtX.of hst h (by decide) (Nat.le_of_ble_eq_true rfl) (lv := [(0, A w a0), (1, I a1), (2, I a2)]) rfl fun X hl hRm C T hn hO => by
  subst hl
  unfold fX7_cause
  refine v_iload_n C dX7_cause_0 rfl (j := 2) rfl ?_
  refine v_jnt (fun (k9 : Option ((Int × St) ⊕ Nat)) => V X w 3 P n 0 0 res (k9) s 9 [] []) ?_ ?_
  · skip
    exact v_throw C T hO (e := 0) (ik := 53) (is := 201) (ic := 57) (i := 18) (tx := "no such part of a cause") tw_468 tw_13 (by decide +kernel) (by decide) tw0_57 tg0_53_57 dX7_cause_9 dX7_cause_12 dX7_cause_13 dX7_cause_15 dX7_cause_18 (by rw [hRm]; exact Nat.le_of_ble_eq_true rfl) (by rw [hRm]; exact Nat.le_of_ble_eq_true rfl) (Nat.le_of_ble_eq_true rfl) (by rw [hRm]; exact Nat.le_of_ble_eq_true rfl) (by rw [hRm]; exact Nat.le_of_ble_eq_true rfl) (Nat.le_of_ble_eq_true rfl) (Nat.le_of_ble_eq_true rfl)
  intro k9 hk9
  refine v_if_lt (tgt := 9) C dX7_cause_1 rfl ?_ ?_
  · skip
    refine v_sub [] [] rfl ?_
    exact hk9
  · skip
    refine v_iload_n C dX7_cause_4 rfl (j := 2) rfl ?_
    refine v_iconst C dX7_cause_5 ?_
    refine v_icmp_le (tgt := 19) C dX7_cause_6 rfl ?_ ?_
    · skip
      refine v_aload_n C dX7_cause_19 rfl (j := 0) rfl ?_
      refine v_getR C 1 rfl (T := TX7) rfl inB7 (by decide) (by decide) rfl tw_336 dX7_cause_20 (fun x1 => ?_)
      refine v_getR C 1 rfl (T := TX2) rfl inB2 (by decide) (by decide) rfl tw_307 dX7_cause_23 (fun x2 => ?_)
      refine v_getR C 8 rfl (T := TX6) rfl inB6 (by decide) (by decide) rfl tw_278 dX7_cause_26 (fun x3 => ?_)
      refine v_iload_n C dX7_cause_29 rfl (j := 1) rfl ?_
      refine v_iload_n C dX7_cause_30 rfl (j := 2) rfl ?_
      refine v_callV_rI C [I a1, I a2] [] (Cee.of (rm := rX0_causePart) tw_837 tw_6 hX0_causePart rfl rfl hRm (Nat.le_of_ble_eq_true rfl) (Nat.le_of_ble_eq_true rfl)) (fun x h => kX0_causePart X.2.1 w P n h) tw_834 tw_835 tw_836 rfl (ci := 0) rfl (by decide) rfl rfl (Nat.le_of_ble_eq_true rfl) (by rw [hRm]; exact ⟨Nat.le_of_ble_eq_true rfl, Nat.le_of_ble_eq_true rfl⟩) dX7_cause_31 (fun x4 => ?_)
      refine v_wid 1 6 (Nat.le_of_ble_eq_true rfl) (Nat.le_of_ble_eq_true rfl) ?_
      exact v_xiret C rfl hO dX7_cause_34
    · skip
      refine v_sub [] [] rfl ?_
      exact hk9
-- ForesightHub.requireKind
theorem hX7_requireKind : yX7_requireKind.cls ≠ "java/lang/invoke/MethodHandle" ∧ yX7_requireKind.cls ≠ "java/lang/invoke/VarHandle" ∧ (parseMethodDescriptor yX7_requireKind.desc).map (fun d => d.parameters.length) = some 1 := by decide +kernel
set_option maxRecDepth 100000 in
theorem kX7_requireKind (l : Launch) (hst : l.stackTraces = false) (w : Wd) (P : Shp) (n : Nat) {s : St} {a0 : Int} {a1 : Int} {res : Int ⊕ Nat} (h : fX7_requireKind P s a0 a1 = some res) : CtX l w yX7_requireKind cX7_requireKind 2 (Option.none : Option FieldType) rX7_requireKind 1 6 P n [A w a0, I a1] s (XRV w P n s res) res :=
  CtX.of hst h (by decide) (Nat.le_of_ble_eq_true rfl) (lv := [(0, A w a0), (1, I a1)]) rfl fun X hl hRm C T hn hO => by
  subst hl
  unfold fX7_requireKind
  refine v_iload_n C dX7_requireKind_0 rfl (j := 1) rfl ?_
  refine v_jnt (fun (k9 : Option (Int ⊕ Nat)) => V X w 2 P n 0 0 res (k9) s 9 [] []) ?_ ?_
  · skip
    exact v_throwW C T hO (e := 0) (ik := 53) (is := 311) (ic := 57) (i := 19) (tx := "no such kind of error") tw_468 tw_13 (by decide +kernel) (by decide) tw0_57 tg0_53_57 dX7_requireKind_9 dX7_requireKind_12 dX7_requireKind_13 dX7_requireKind_16 dX7_requireKind_19 (by rw [hRm]; exact Nat.le_of_ble_eq_true rfl) (by rw [hRm]; exact Nat.le_of_ble_eq_true rfl) (Nat.le_of_ble_eq_true rfl) (by rw [hRm]; exact Nat.le_of_ble_eq_true rfl) (by rw [hRm]; exact Nat.le_of_ble_eq_true rfl) (Nat.le_of_ble_eq_true rfl) (Nat.le_of_ble_eq_true rfl)
  intro k9 hk9
  refine v_if_lt (tgt := 9) C dX7_requireKind_1 rfl ?_ ?_
  · skip
    refine v_sub [] [] rfl ?_
    exact hk9
  · skip
    refine v_iload_n C dX7_requireKind_4 rfl (j := 1) rfl ?_
    refine v_iconst C dX7_requireKind_5 ?_
    refine v_icmp_lt (tgt := 20) C dX7_requireKind_6 rfl ?_ ?_
    · skip
      refine v_wid 1 6 (Nat.le_of_ble_eq_true rfl) (Nat.le_of_ble_eq_true rfl) ?_
      exact v_rvret C rfl hO dX7_requireKind_20
    · skip
      refine v_sub [] [] rfl ?_
      exact hk9
-- ForesightHub.scoreWith
theorem hX7_scoreWith : yX7_scoreWith.cls ≠ "java/lang/invoke/MethodHandle" ∧ yX7_scoreWith.cls ≠ "java/lang/invoke/VarHandle" ∧ (parseMethodDescriptor yX7_scoreWith.desc).map (fun d => d.parameters.length) = some 2 := by decide +kernel
set_option maxRecDepth 100000 in
theorem kX7_scoreWith (l : Launch) (hst : l.stackTraces = false) (w : Wd) (P : Shp) (n : Nat) {s : St} {a0 : Int} {a1 : Int} {a2 : Int} {res : (Int × St) ⊕ Nat} (h : fX7_scoreWith P s a0 a1 a2 = some res) : CtX l w yX7_scoreWith cX7_scoreWith 3 (some FieldType.int) rX7_scoreWith 2 12 P n [A w a0, I a1, I a2] s (XQI w P n res) res :=
  CtX.of hst h (by decide) (Nat.le_of_ble_eq_true rfl) (lv := [(0, A w a0), (1, I a1), (2, I a2)]) rfl fun X hl hRm C T hn hO => by
  subst hl
  unfold fX7_scoreWith
  refine v_aload_n C dX7_scoreWith_0 rfl (j := 0) rfl ?_
  refine v_iload_n C dX7_scoreWith_1 rfl (j := 1) rfl ?_
  refine v_callXV C T hO [I a1] [] (fun x h => kX7_requireDevice X.2.1 T.2 w P n h) tw_777 tw_1 hX7_requireDevice rfl rfl hRm (Nat.le_of_ble_eq_true rfl) (Nat.le_of_ble_eq_true rfl) tw_774 tw_776 ts_25 rfl (ci := 7) rfl (by decide) rfl rfl (Nat.le_of_ble_eq_true rfl) ⟨Nat.le_of_ble_eq_true rfl, Nat.le_of_ble_eq_true rfl⟩ ⟨Nat.le_of_ble_eq_true rfl, Nat.le_of_ble_eq_true rfl⟩ dX7_scoreWith_2 ?_
  refine v_aload_n C dX7_scoreWith_5 rfl (j := 0) rfl ?_
  refine v_iload_n C dX7_scoreWith_6 rfl (j := 2) rfl ?_
  refine v_callXV C T hO [I a2] [] (fun x h => kX7_requireKind X.2.1 T.2 w P n h) tw_848 tw_1 hX7_requireKind rfl rfl hRm (Nat.le_of_ble_eq_true rfl) (Nat.le_of_ble_eq_true rfl) tw_845 tw_847 ts_27 rfl (ci := 7) rfl (by decide) rfl rfl (Nat.le_of_ble_eq_true rfl) ⟨Nat.le_of_ble_eq_true rfl, Nat.le_of_ble_eq_true rfl⟩ ⟨Nat.le_of_ble_eq_true rfl, Nat.le_of_ble_eq_true rfl⟩ dX7_scoreWith_7 ?_
  refine v_aload_n C dX7_scoreWith_10 rfl (j := 0) rfl ?_
  refine v_getR C 1 rfl (T := TX7) rfl inB7 (by decide) (by decide) rfl tw_336 dX7_scoreWith_11 (fun x1 => ?_)
  refine v_iload_n C dX7_scoreWith_14 rfl (j := 1) rfl ?_
  refine v_callV_rI C [I a1] [] (Cee.of (rm := rX2_isPluggedIn) tw_375 tw_4 hX2_isPluggedIn rfl rfl hRm (Nat.le_of_ble_eq_true rfl) (Nat.le_of_ble_eq_true rfl)) (fun x h => kX2_isPluggedIn X.2.1 w P n h) tw_850 tw_373 tw_374 rfl (ci := 2) rfl (by decide) rfl rfl (Nat.le_of_ble_eq_true rfl) (by rw [hRm]; exact ⟨Nat.le_of_ble_eq_true rfl, Nat.le_of_ble_eq_true rfl⟩) dX7_scoreWith_15 (fun x2 => ?_)
  refine v_if_eq (tgt := 33) C dX7_scoreWith_18 rfl ?_ ?_
  · skip
    refine v_iconst C dX7_scoreWith_33 ?_
    refine v_wid 2 12 (Nat.le_of_ble_eq_true rfl) (Nat.le_of_ble_eq_true rfl) ?_
    exact v_xiret C rfl hO dX7_scoreWith_34
  · skip
    refine v_aload_n C dX7_scoreWith_21 rfl (j := 0) rfl ?_
    refine v_getR C 1 rfl (T := TX7) rfl inB7 (by decide) (by decide) rfl tw_336 dX7_scoreWith_22 (fun x3 => ?_)
    refine v_iload_n C dX7_scoreWith_25 rfl (j := 1) rfl ?_
    refine v_iload_n C dX7_scoreWith_26 rfl (j := 2) rfl ?_
    refine v_callV_rI C [I a1, I a2] [] (Cee.of (rm := rX2_scoreOf) tw_383 tw_4 hX2_scoreOf rfl rfl hRm (Nat.le_of_ble_eq_true rfl) (Nat.le_of_ble_eq_true rfl)) (fun x h => kX2_scoreOf X.2.1 w P n h) tw_784 tw_381 tw_382 rfl (ci := 2) rfl (by decide) rfl rfl (Nat.le_of_ble_eq_true rfl) (by rw [hRm]; exact ⟨Nat.le_of_ble_eq_true rfl, Nat.le_of_ble_eq_true rfl⟩) dX7_scoreWith_27 (fun x4 => ?_)
    refine v_goto (tgt := 34) C dX7_scoreWith_30 rfl ?_
    refine v_wid 2 12 (Nat.le_of_ble_eq_true rfl) (Nat.le_of_ble_eq_true rfl) ?_
    exact v_xiret C rfl hO dX7_scoreWith_34
-- ForesightHub.feared
theorem hX7_feared : yX7_feared.cls ≠ "java/lang/invoke/MethodHandle" ∧ yX7_feared.cls ≠ "java/lang/invoke/VarHandle" ∧ (parseMethodDescriptor yX7_feared.desc).map (fun d => d.parameters.length) = some 1 := by decide +kernel
set_option maxRecDepth 100000 in
theorem kX7_feared (l : Launch) (hst : l.stackTraces = false) (w : Wd) (P : Shp) (n : Nat) {s : St} {a0 : Int} {a1 : Int} {res : (Int × St) ⊕ Nat} (h : fX7_feared P s a0 a1 = some res) : CtX l w yX7_feared cX7_feared 2 (some FieldType.int) rX7_feared 1 6 P n [A w a0, I a1] s (XQI w P n res) res :=
  CtX.of hst h (by decide) (Nat.le_of_ble_eq_true rfl) (lv := [(0, A w a0), (1, I a1)]) rfl fun X hl hRm C T hn hO => by
  subst hl
  unfold fX7_feared
  refine v_aload_n C dX7_feared_0 rfl (j := 0) rfl ?_
  refine v_iload_n C dX7_feared_1 rfl (j := 1) rfl ?_
  refine v_callXV C T hO [I a1] [] (fun x h => kX7_requireDevice X.2.1 T.2 w P n h) tw_777 tw_1 hX7_requireDevice rfl rfl hRm (Nat.le_of_ble_eq_true rfl) (Nat.le_of_ble_eq_true rfl) tw_774 tw_776 ts_25 rfl (ci := 7) rfl (by decide) rfl rfl (Nat.le_of_ble_eq_true rfl) ⟨Nat.le_of_ble_eq_true rfl, Nat.le_of_ble_eq_true rfl⟩ ⟨Nat.le_of_ble_eq_true rfl, Nat.le_of_ble_eq_true rfl⟩ dX7_feared_2 ?_
  refine v_aload_n C dX7_feared_5 rfl (j := 0) rfl ?_
  refine v_getR C 1 rfl (T := TX7) rfl inB7 (by decide) (by decide) rfl tw_336 dX7_feared_6 (fun x1 => ?_)
  refine v_iload_n C dX7_feared_9 rfl (j := 1) rfl ?_
  refine v_callV_rI C [I a1] [] (Cee.of (rm := rX2_fearedKind) tw_861 tw_4 hX2_fearedKind rfl rfl hRm (Nat.le_of_ble_eq_true rfl) (Nat.le_of_ble_eq_true rfl)) (fun x h => kX2_fearedKind X.2.1 w P n h) tw_858 tw_859 tw_860 rfl (ci := 2) rfl (by decide) rfl rfl (Nat.le_of_ble_eq_true rfl) (by rw [hRm]; exact ⟨Nat.le_of_ble_eq_true rfl, Nat.le_of_ble_eq_true rfl⟩) dX7_feared_10 (fun x2 => ?_)
  refine v_wid 1 6 (Nat.le_of_ble_eq_true rfl) (Nat.le_of_ble_eq_true rfl) ?_
  exact v_xiret C rfl hO dX7_feared_13
-- ForesightHub.framesToClear
theorem hX7_framesToClear : yX7_framesToClear.cls ≠ "java/lang/invoke/MethodHandle" ∧ yX7_framesToClear.cls ≠ "java/lang/invoke/VarHandle" ∧ (parseMethodDescriptor yX7_framesToClear.desc).map (fun d => d.parameters.length) = some 1 := by decide +kernel
set_option maxRecDepth 100000 in
theorem kX7_framesToClear (l : Launch) (hst : l.stackTraces = false) (w : Wd) (P : Shp) (n : Nat) {s : St} {a0 : Int} {a1 : Int} {res : (Int × St) ⊕ Nat} (h : fX7_framesToClear P s a0 a1 = some res) : CtX l w yX7_framesToClear cX7_framesToClear 2 (some FieldType.int) rX7_framesToClear 1 6 P n [A w a0, I a1] s (XQI w P n res) res :=
  CtX.of hst h (by decide) (Nat.le_of_ble_eq_true rfl) (lv := [(0, A w a0), (1, I a1)]) rfl fun X hl hRm C T hn hO => by
  subst hl
  unfold fX7_framesToClear
  refine v_aload_n C dX7_framesToClear_0 rfl (j := 0) rfl ?_
  refine v_iload_n C dX7_framesToClear_1 rfl (j := 1) rfl ?_
  refine v_callXV C T hO [I a1] [] (fun x h => kX7_requireDevice X.2.1 T.2 w P n h) tw_777 tw_1 hX7_requireDevice rfl rfl hRm (Nat.le_of_ble_eq_true rfl) (Nat.le_of_ble_eq_true rfl) tw_774 tw_776 ts_25 rfl (ci := 7) rfl (by decide) rfl rfl (Nat.le_of_ble_eq_true rfl) ⟨Nat.le_of_ble_eq_true rfl, Nat.le_of_ble_eq_true rfl⟩ ⟨Nat.le_of_ble_eq_true rfl, Nat.le_of_ble_eq_true rfl⟩ dX7_framesToClear_2 ?_
  refine v_aload_n C dX7_framesToClear_5 rfl (j := 0) rfl ?_
  refine v_getR C 1 rfl (T := TX7) rfl inB7 (by decide) (by decide) rfl tw_336 dX7_framesToClear_6 (fun x1 => ?_)
  refine v_iload_n C dX7_framesToClear_9 rfl (j := 1) rfl ?_
  refine v_callV_rI C [I a1] [] (Cee.of (rm := rX2_clearingFrames) tw_872 tw_4 hX2_clearingFrames rfl rfl hRm (Nat.le_of_ble_eq_true rfl) (Nat.le_of_ble_eq_true rfl)) (fun x h => kX2_clearingFrames X.2.1 w P n h) tw_869 tw_870 tw_871 rfl (ci := 2) rfl (by decide) rfl rfl (Nat.le_of_ble_eq_true rfl) (by rw [hRm]; exact ⟨Nat.le_of_ble_eq_true rfl, Nat.le_of_ble_eq_true rfl⟩) dX7_framesToClear_10 (fun x2 => ?_)
  refine v_wid 1 6 (Nat.le_of_ble_eq_true rfl) (Nat.le_of_ble_eq_true rfl) ?_
  exact v_xiret C rfl hO dX7_framesToClear_13
-- ForesightHub.atStake
theorem hX7_atStake : yX7_atStake.cls ≠ "java/lang/invoke/MethodHandle" ∧ yX7_atStake.cls ≠ "java/lang/invoke/VarHandle" ∧ (parseMethodDescriptor yX7_atStake.desc).map (fun d => d.parameters.length) = some 1 := by decide +kernel
set_option maxRecDepth 100000 in
theorem kX7_atStake (l : Launch) (hst : l.stackTraces = false) (w : Wd) (P : Shp) (n : Nat) {s : St} {a0 : Int} {a1 : Int} {res : (Int × St) ⊕ Nat} (h : fX7_atStake P s a0 a1 = some res) : CtX l w yX7_atStake cX7_atStake 2 (some FieldType.int) rX7_atStake 1 6 P n [A w a0, I a1] s (XQI w P n res) res :=
  CtX.of hst h (by decide) (Nat.le_of_ble_eq_true rfl) (lv := [(0, A w a0), (1, I a1)]) rfl fun X hl hRm C T hn hO => by
  subst hl
  unfold fX7_atStake
  refine v_aload_n C dX7_atStake_0 rfl (j := 0) rfl ?_
  refine v_iload_n C dX7_atStake_1 rfl (j := 1) rfl ?_
  refine v_callXV C T hO [I a1] [] (fun x h => kX7_requireDevice X.2.1 T.2 w P n h) tw_777 tw_1 hX7_requireDevice rfl rfl hRm (Nat.le_of_ble_eq_true rfl) (Nat.le_of_ble_eq_true rfl) tw_774 tw_776 ts_25 rfl (ci := 7) rfl (by decide) rfl rfl (Nat.le_of_ble_eq_true rfl) ⟨Nat.le_of_ble_eq_true rfl, Nat.le_of_ble_eq_true rfl⟩ ⟨Nat.le_of_ble_eq_true rfl, Nat.le_of_ble_eq_true rfl⟩ dX7_atStake_2 ?_
  refine v_aload_n C dX7_atStake_5 rfl (j := 0) rfl ?_
  refine v_getR C 1 rfl (T := TX7) rfl inB7 (by decide) (by decide) rfl tw_336 dX7_atStake_6 (fun x1 => ?_)
  refine v_iload_n C dX7_atStake_9 rfl (j := 1) rfl ?_
  refine v_callV_rI C [I a1] [] (Cee.of (rm := rX2_unitsAtStake) tw_888 tw_4 hX2_unitsAtStake rfl rfl hRm (Nat.le_of_ble_eq_true rfl) (Nat.le_of_ble_eq_true rfl)) (fun x h => kX2_unitsAtStake X.2.1 w P n h) tw_885 tw_886 tw_887 rfl (ci := 2) rfl (by decide) rfl rfl (Nat.le_of_ble_eq_true rfl) (by rw [hRm]; exact ⟨Nat.le_of_ble_eq_true rfl, Nat.le_of_ble_eq_true rfl⟩) dX7_atStake_10 (fun x2 => ?_)
  refine v_wid 1 6 (Nat.le_of_ble_eq_true rfl) (Nat.le_of_ble_eq_true rfl) ?_
  exact v_xiret C rfl hO dX7_atStake_13
-- ForesightHub.whyNotRunning
theorem hX7_whyNotRunning : yX7_whyNotRunning.cls ≠ "java/lang/invoke/MethodHandle" ∧ yX7_whyNotRunning.cls ≠ "java/lang/invoke/VarHandle" ∧ (parseMethodDescriptor yX7_whyNotRunning.desc).map (fun d => d.parameters.length) = some 1 := by decide +kernel
set_option maxRecDepth 100000 in
theorem kX7_whyNotRunning (l : Launch) (hst : l.stackTraces = false) (w : Wd) (P : Shp) (n : Nat) {s : St} {a0 : Int} {a1 : Int} {res : (Int × St) ⊕ Nat} (h : fX7_whyNotRunning P s a0 a1 = some res) : CtX l w yX7_whyNotRunning cX7_whyNotRunning 2 (some FieldType.int) rX7_whyNotRunning 1 6 P n [A w a0, I a1] s (XQI w P n res) res :=
  CtX.of hst h (by decide) (Nat.le_of_ble_eq_true rfl) (lv := [(0, A w a0), (1, I a1)]) rfl fun X hl hRm C T hn hO => by
  subst hl
  unfold fX7_whyNotRunning
  refine v_aload_n C dX7_whyNotRunning_0 rfl (j := 0) rfl ?_
  refine v_iload_n C dX7_whyNotRunning_1 rfl (j := 1) rfl ?_
  refine v_callXV C T hO [I a1] [] (fun x h => kX7_requireStream X.2.1 T.2 w P n h) tw_805 tw_1 hX7_requireStream rfl rfl hRm (Nat.le_of_ble_eq_true rfl) (Nat.le_of_ble_eq_true rfl) tw_802 tw_804 ts_26 rfl (ci := 7) rfl (by decide) rfl rfl (Nat.le_of_ble_eq_true rfl) ⟨Nat.le_of_ble_eq_true rfl, Nat.le_of_ble_eq_true rfl⟩ ⟨Nat.le_of_ble_eq_true rfl, Nat.le_of_ble_eq_true rfl⟩ dX7_whyNotRunning_2 ?_
  refine v_aload_n C dX7_whyNotRunning_5 rfl (j := 0) rfl ?_
  refine v_getR C 1 rfl (T := TX7) rfl inB7 (by decide) (by decide) rfl tw_336 dX7_whyNotRunning_6 (fun x1 => ?_)
  refine v_iload_n C dX7_whyNotRunning_9 rfl (j := 1) rfl ?_
  refine v_callV_rI C [I a1] [] (Cee.of (rm := rX2_reasonNotToRun) tw_899 tw_4 hX2_reasonNotToRun rfl rfl hRm (Nat.le_of_ble_eq_true rfl) (Nat.le_of_ble_eq_true rfl)) (fun x h => kX2_reasonNotToRun X.2.1 w P n h) tw_896 tw_897 tw_898 rfl (ci := 2) rfl (by decide) rfl rfl (Nat.le_of_ble_eq_true rfl) (by rw [hRm]; exact ⟨Nat.le_of_ble_eq_true rfl, Nat.le_of_ble_eq_true rfl⟩) dX7_whyNotRunning_10 (fun x2 => ?_)
  refine v_wid 1 6 (Nat.le_of_ble_eq_true rfl) (Nat.le_of_ble_eq_true rfl) ?_
  exact v_xiret C rfl hO dX7_whyNotRunning_13
-- ForesightHub.event
theorem hX7_event : yX7_event.cls ≠ "java/lang/invoke/MethodHandle" ∧ yX7_event.cls ≠ "java/lang/invoke/VarHandle" ∧ (parseMethodDescriptor yX7_event.desc).map (fun d => d.parameters.length) = some 2 := by decide +kernel
set_option maxRecDepth 100000 in
theorem kX7_event (l : Launch) (hst : l.stackTraces = false) (w : Wd) (P : Shp) (n : Nat) {s : St} {a0 : Int} {a1 : Int} {a2 : Int} {res : (Int × St) ⊕ Nat} (h : fX7_event P s a0 a1 a2 = some res) : CtX l w yX7_event cX7_event 3 (some FieldType.int) rX7_event 1 6 P n [A w a0, I a1, I a2] s (XQI w P n res) res :=
  CtX.of hst h (by decide) (Nat.le_of_ble_eq_true rfl) (lv := [(0, A w a0), (1, I a1), (2, I a2)]) rfl fun X hl hRm C T hn hO => by
  subst hl
  unfold fX7_event
  refine v_iload_n C dX7_event_0 rfl (j := 2) rfl ?_
  refine v_jnt (fun (k9 : Option ((Int × St) ⊕ Nat)) => V X w 3 P n 0 0 res (k9) s 9 [] []) ?_ ?_
  · skip
    exact v_throw C T hO (e := 0) (ik := 53) (is := 227) (ic := 57) (i := 20) (tx := "no such part of an event") tw_468 tw_13 (by decide +kernel) (by decide) tw0_57 tg0_53_57 dX7_event_9 dX7_event_12 dX7_event_13 dX7_event_15 dX7_event_18 (by rw [hRm]; exact Nat.le_of_ble_eq_true rfl) (by rw [hRm]; exact Nat.le_of_ble_eq_true rfl) (Nat.le_of_ble_eq_true rfl) (by rw [hRm]; exact Nat.le_of_ble_eq_true rfl) (by rw [hRm]; exact Nat.le_of_ble_eq_true rfl) (Nat.le_of_ble_eq_true rfl) (Nat.le_of_ble_eq_true rfl)
  intro k9 hk9
  refine v_if_lt (tgt := 9) C dX7_event_1 rfl ?_ ?_
  · skip
    refine v_sub [] [] rfl ?_
    exact hk9
  · skip
    refine v_iload_n C dX7_event_4 rfl (j := 2) rfl ?_
    refine v_iconst C dX7_event_5 ?_
    refine v_icmp_le (tgt := 19) C dX7_event_6 rfl ?_ ?_
    · skip
      refine v_aload_n C dX7_event_19 rfl (j := 0) rfl ?_
      refine v_getR C 1 rfl (T := TX7) rfl inB7 (by decide) (by decide) rfl tw_336 dX7_event_20 (fun x1 => ?_)
      refine v_getR C 1 rfl (T := TX2) rfl inB2 (by decide) (by decide) rfl tw_307 dX7_event_23 (fun x2 => ?_)
      refine v_getR C 9 rfl (T := TX6) rfl inB6 (by decide) (by decide) rfl tw_281 dX7_event_26 (fun x3 => ?_)
      refine v_iload_n C dX7_event_29 rfl (j := 1) rfl ?_
      refine v_iload_n C dX7_event_30 rfl (j := 2) rfl ?_
      refine v_callV_rI C [I a1, I a2] [] (Cee.of (rm := rX3_partOf) tw_911 tw_7 hX3_partOf rfl rfl hRm (Nat.le_of_ble_eq_true rfl) (Nat.le_of_ble_eq_true rfl)) (fun x h => kX3_partOf X.2.1 w P n h) tw_908 tw_909 tw_910 rfl (ci := 3) rfl (by decide) rfl rfl (Nat.le_of_ble_eq_true rfl) (by rw [hRm]; exact ⟨Nat.le_of_ble_eq_true rfl, Nat.le_of_ble_eq_true rfl⟩) dX7_event_31 (fun x4 => ?_)
      refine v_wid 1 6 (Nat.le_of_ble_eq_true rfl) (Nat.le_of_ble_eq_true rfl) ?_
      exact v_xiret C rfl hO dX7_event_34
    · skip
      refine v_sub [] [] rfl ?_
      exact hk9
-- ForesightHub.account
theorem hX7_account : yX7_account.cls ≠ "java/lang/invoke/MethodHandle" ∧ yX7_account.cls ≠ "java/lang/invoke/VarHandle" ∧ (parseMethodDescriptor yX7_account.desc).map (fun d => d.parameters.length) = some 1 := by decide +kernel
set_option maxRecDepth 100000 in
theorem kX7_account (l : Launch) (hst : l.stackTraces = false) (w : Wd) (P : Shp) (n : Nat) {s : St} {a0 : Int} {a1 : Int} {res : (Int × St) ⊕ Nat} (h : fX7_account P s a0 a1 = some res) : CtX l w yX7_account cX7_account 2 (some FieldType.int) rX7_account 1 6 P n [A w a0, I a1] s (XQI w P n res) res :=
  CtX.of hst h (by decide) (Nat.le_of_ble_eq_true rfl) (lv := [(0, A w a0), (1, I a1)]) rfl fun X hl hRm C T hn hO => by
  subst hl
  unfold fX7_account
  refine v_iload_n C dX7_account_0 rfl (j := 1) rfl ?_
  refine v_jnt (fun (k10 : Option ((Int × St) ⊕ Nat)) => V X w 2 P n 0 0 res (k10) s 10 [] []) ?_ ?_
  · skip
    exact v_throw C T hO (e := 0) (ik := 53) (is := 238) (ic := 57) (i := 21) (tx := "no such account") tw_468 tw_13 (by decide +kernel) (by decide) tw0_57 tg0_53_57 dX7_account_10 dX7_account_13 dX7_account_14 dX7_account_16 dX7_account_19 (by rw [hRm]; exact Nat.le_of_ble_eq_true rfl) (by rw [hRm]; exact Nat.le_of_ble_eq_true rfl) (Nat.le_of_ble_eq_true rfl) (by rw [hRm]; exact Nat.le_of_ble_eq_true rfl) (by rw [hRm]; exact Nat.le_of_ble_eq_true rfl) (Nat.le_of_ble_eq_true rfl) (Nat.le_of_ble_eq_true rfl)
  intro k10 hk10
  refine v_if_lt (tgt := 10) C dX7_account_1 rfl ?_ ?_
  · skip
    refine v_sub [] [] rfl ?_
    exact hk10
  · skip
    refine v_iload_n C dX7_account_4 rfl (j := 1) rfl ?_
    refine v_bipush C dX7_account_5 (by decide) ?_
    refine v_icmp_lt (tgt := 20) C dX7_account_7 rfl ?_ ?_
    · skip
      refine v_aload_n C dX7_account_20 rfl (j := 0) rfl ?_
      refine v_getR C 1 rfl (T := TX7) rfl inB7 (by decide) (by decide) rfl tw_336 dX7_account_21 (fun x1 => ?_)
      refine v_getR C 1 rfl (T := TX2) rfl inB2 (by decide) (by decide) rfl tw_307 dX7_account_24 (fun x2 => ?_)
      refine v_getR C 9 rfl (T := TX6) rfl inB6 (by decide) (by decide) rfl tw_281 dX7_account_27 (fun x3 => ?_)
      refine v_getR C 5 rfl (T := TX3) rfl inB3 (by decide) (by decide) rfl tw_239 dX7_account_30 (fun x4 => ?_)
      refine v_iload_n C dX7_account_33 rfl (j := 1) rfl ?_
      refine v_iald C dX7_account_34 (fun x5 => ?_)
      refine v_wid 1 6 (Nat.le_of_ble_eq_true rfl) (Nat.le_of_ble_eq_true rfl) ?_
      exact v_xiret C rfl hO dX7_account_35
    · skip
      refine v_sub [] [] rfl ?_
      exact hk10
-- ForesightHub.frames
set_option maxRecDepth 100000 in
theorem vX7_frames_L38 {X : Cxt} {w : Wd} {P : Shp} {n : Nat} (res : (Int × St) ⊕ Nat) (hRm : X.2.2.2.1 = rX7_frames) (C : Cok X w cX7_frames 3 RX7 (some FieldType.int)) {s00 : St} (T : noT X) (hO : OwnX X w 1 6 (XQI w P n res) (XXC w P n s00 res))  (c0 : Int) (c1 : Int) (kE56 : St → Option ((Int × St) ⊕ Nat)) (hE56 : ∀ (se : St), V X w 3 P n 0 0 res (kE56 se) se 56 [(0, A w c0)] []) : ∀ (fuel : Nat) (p2 : Int) (s : St), V X w 3 P n 0 0 res (fX7_frames_L38 P c0 c1 kE56 fuel p2 s) s 38 [(0, A w c0), (1, I c1), (2, I p2)] [] := by
  intro fuel
  induction fuel with
  | zero => intro p2 s; exact v_none
  | succ m ih =>
    intro p2 s
    rw [fX7_frames_L38]
    refine v_iload_n C dX7_frames_38 rfl (j := 2) rfl ?_
    refine v_iload_n C dX7_frames_39 rfl (j := 1) rfl ?_
    refine v_icmp_ge (tgt := 56) C dX7_frames_40 rfl ?_ ?_
    · skip
      refine v_sub [(0, A w c0)] [0] rfl ?_
      exact hE56 s
    · skip
      refine v_aload_n C dX7_frames_43 rfl (j := 0) rfl ?_
      refine v_getR C 1 rfl (T := TX7) rfl inB7 (by decide) (by decide) rfl tw_336 dX7_frames_44 (fun x5 => ?_)
      refine v_callV_wV C [] [] (Cee.of (rm := rX2_passFrame) tw_937 tw_4 hX2_passFrame rfl rfl hRm (Nat.le_of_ble_eq_true rfl) (Nat.le_of_ble_eq_true rfl)) (fun x h => kX2_passFrame X.2.1 w P n h) tw_934 tw_935 tw_936 rfl (ci := 2) rfl (by decide) rfl rfl (Nat.le_of_ble_eq_true rfl) (by rw [hRm]; exact ⟨Nat.le_of_ble_eq_true rfl, Nat.le_of_ble_eq_true rfl⟩) dX7_frames_47 (fun s6 => ?_)
      refine v_iinc C (j := 2) [(0, A w c0), (1, I c1)] dX7_frames_50 (by decide) rfl (fun _ => rfl) (fun x7 => ?_)
      refine v_goto (tgt := 38) C dX7_frames_53 rfl ?_
      refine v_sub [(0, A w c0), (1, I c1), (2, I x7)] [1, 2, 0] rfl ?_
      exact ih x7 s6
theorem hX7_frames : yX7_frames.cls ≠ "java/lang/invoke/MethodHandle" ∧ yX7_frames.cls ≠ "java/lang/invoke/VarHandle" ∧ (parseMethodDescriptor yX7_frames.desc).map (fun d => d.parameters.length) = some 1 := by decide +kernel
set_option maxRecDepth 100000 in
theorem kX7_frames (l : Launch) (hst : l.stackTraces = false) (w : Wd) (P : Shp) (n : Nat) {s : St} {a0 : Int} {a1 : Int} {res : (Int × St) ⊕ Nat} (h : fX7_frames P s a0 a1 = some res) : CtX l w yX7_frames cX7_frames 3 (some FieldType.int) rX7_frames 1 6 P n [A w a0, I a1] s (XQI w P n res) res :=
  CtX.of hst h (by decide) (Nat.le_of_ble_eq_true rfl) (lv := [(0, A w a0), (1, I a1)]) rfl fun X hl hRm C T hn hO => by
  subst hl
  unfold fX7_frames
  refine v_iload_n C dX7_frames_0 rfl (j := 1) rfl ?_
  refine v_iconst C dX7_frames_1 ?_
  refine v_jnt (fun (k12 : Option ((Int × St) ⊕ Nat)) => V X w 3 P n 0 0 res (k12) s 12 [] []) ?_ ?_
  · skip
    exact v_throw C T hO (e := 0) (ik := 53) (is := 243) (ic := 57) (i := 22) (tx := "no such number of frames") tw_468 tw_13 (by decide +kernel) (by decide) tw0_57 tg0_53_57 dX7_frames_12 dX7_frames_15 dX7_frames_16 dX7_frames_18 dX7_frames_21 (by rw [hRm]; exact Nat.le_of_ble_eq_true rfl) (by rw [hRm]; exact Nat.le_of_ble_eq_true rfl) (Nat.le_of_ble_eq_true rfl) (by rw [hRm]; exact Nat.le_of_ble_eq_true rfl) (by rw [hRm]; exact Nat.le_of_ble_eq_true rfl) (Nat.le_of_ble_eq_true rfl) (Nat.le_of_ble_eq_true rfl)
  intro k12 hk12
  refine v_icmp_lt (tgt := 12) C dX7_frames_2 rfl ?_ ?_
  · skip
    refine v_sub [] [] rfl ?_
    exact hk12
  · skip
    refine v_iload_n C dX7_frames_5 rfl (j := 1) rfl ?_
    refine v_sipush C dX7_frames_6 (by decide) ?_
    refine v_icmp_le (tgt := 22) C dX7_frames_9 rfl ?_ ?_
    · skip
      refine v_aload_n C dX7_frames_22 rfl (j := 0) rfl ?_
      refine v_getR C 2 rfl (T := TX7) rfl inB7 (by decide) (by decide) rfl tw_337 dX7_frames_23 (fun x1 => ?_)
      refine v_aload_n C dX7_frames_26 rfl (j := 0) rfl ?_
      refine v_getR C 1 rfl (T := TX7) rfl inB7 (by decide) (by decide) rfl tw_336 dX7_frames_27 (fun x2 => ?_)
      refine v_getR C 1 rfl (T := TX2) rfl inB2 (by decide) (by decide) rfl tw_307 dX7_frames_30 (fun x3 => ?_)
      refine v_callV_wV C [A w x3] [] (Cee.of (rm := rX1_remember) tw_932 tw_8 hX1_remember rfl rfl hRm (Nat.le_of_ble_eq_true rfl) (Nat.le_of_ble_eq_true rfl)) (fun x h => kX1_remember X.2.1 w P n h) tw_929 tw_930 tw_931 rfl (ci := 1) rfl (by decide) rfl rfl (Nat.le_of_ble_eq_true rfl) (by rw [hRm]; exact ⟨Nat.le_of_ble_eq_true rfl, Nat.le_of_ble_eq_true rfl⟩) dX7_frames_33 (fun s4 => ?_)
      refine v_iconst C dX7_frames_36 ?_
      refine v_istore_n C [(2, I 0), (0, A w a0), (1, I a1)] dX7_frames_37 rfl (by decide) rfl ?_
      refine v_sub [(0, A w a0), (1, I a1), (2, I 0)] [1, 2, 0] rfl ?_
      refine vX7_frames_L38 res hRm C T hO a0 a1 _ ?_ 1000 0 s4
      · intro s8
        refine v_aload_n C dX7_frames_56 rfl (j := 0) rfl ?_
        refine v_getR C 1 rfl (T := TX7) rfl inB7 (by decide) (by decide) rfl tw_336 dX7_frames_57 (fun x9 => ?_)
        refine v_callV_rI C [] [] (Cee.of (rm := rX2_reserved) tw_725 tw_4 hX2_reserved rfl rfl hRm (Nat.le_of_ble_eq_true rfl) (Nat.le_of_ble_eq_true rfl)) (fun x h => kX2_reserved X.2.1 w P n h) tw_733 tw_723 tw_724 rfl (ci := 2) rfl (by decide) rfl rfl (Nat.le_of_ble_eq_true rfl) (by rw [hRm]; exact ⟨Nat.le_of_ble_eq_true rfl, Nat.le_of_ble_eq_true rfl⟩) dX7_frames_60 (fun x10 => ?_)
        refine v_wid 1 6 (Nat.le_of_ble_eq_true rfl) (Nat.le_of_ble_eq_true rfl) ?_
        exact v_xiret C rfl hO dX7_frames_63
    · skip
      refine v_sub [] [] rfl ?_
      exact hk12
-- ForesightHub.requirePluggedIn
theorem hX7_requirePluggedIn : yX7_requirePluggedIn.cls ≠ "java/lang/invoke/MethodHandle" ∧ yX7_requirePluggedIn.cls ≠ "java/lang/invoke/VarHandle" ∧ (parseMethodDescriptor yX7_requirePluggedIn.desc).map (fun d => d.parameters.length) = some 1 := by decide +kernel
set_option maxRecDepth 100000 in
theorem kX7_requirePluggedIn (l : Launch) (hst : l.stackTraces = false) (w : Wd) (P : Shp) (n : Nat) {s : St} {a0 : Int} {a1 : Int} {res : Int ⊕ Nat} (h : fX7_requirePluggedIn P s a0 a1 = some res) : CtX l w yX7_requirePluggedIn cX7_requirePluggedIn 2 (Option.none : Option FieldType) rX7_requirePluggedIn 1 6 P n [A w a0, I a1] s (XRV w P n s res) res :=
  CtX.of hst h (by decide) (Nat.le_of_ble_eq_true rfl) (lv := [(0, A w a0), (1, I a1)]) rfl fun X hl hRm C T hn hO => by
  subst hl
  unfold fX7_requirePluggedIn
  refine v_aload_n C dX7_requirePluggedIn_0 rfl (j := 0) rfl ?_
  refine v_getR C 1 rfl (T := TX7) rfl inB7 (by decide) (by decide) rfl tw_336 dX7_requirePluggedIn_1 (fun x1 => ?_)
  refine v_iload_n C dX7_requirePluggedIn_4 rfl (j := 1) rfl ?_
  refine v_callV_rI C [I a1] [] (Cee.of (rm := rX2_isPluggedIn) tw_375 tw_4 hX2_isPluggedIn rfl rfl hRm (Nat.le_of_ble_eq_true rfl) (Nat.le_of_ble_eq_true rfl)) (fun x h => kX2_isPluggedIn X.2.1 w P n h) tw_850 tw_373 tw_374 rfl (ci := 2) rfl (by decide) rfl rfl (Nat.le_of_ble_eq_true rfl) (by rw [hRm]; exact ⟨Nat.le_of_ble_eq_true rfl, Nat.le_of_ble_eq_true rfl⟩) dX7_requirePluggedIn_5 (fun x2 => ?_)
  refine v_if_ne (tgt := 22) C dX7_requirePluggedIn_8 rfl ?_ ?_
  · skip
    refine v_wid 1 6 (Nat.le_of_ble_eq_true rfl) (Nat.le_of_ble_eq_true rfl) ?_
    exact v_rvret C rfl hO dX7_requirePluggedIn_22
  · skip
    exact v_throwW C T hO (e := 1) (ik := 259) (is := 313) (ic := 263) (i := 23) (tx := "the device is not plugged in") tw_971 tw_21 (by decide +kernel) (by decide) tw1_263 tg1_259_263 dX7_requirePluggedIn_11 dX7_requirePluggedIn_14 dX7_requirePluggedIn_15 dX7_requirePluggedIn_18 dX7_requirePluggedIn_21 (by rw [hRm]; exact Nat.le_of_ble_eq_true rfl) (by rw [hRm]; exact Nat.le_of_ble_eq_true rfl) (Nat.le_of_ble_eq_true rfl) (by rw [hRm]; exact Nat.le_of_ble_eq_true rfl) (by rw [hRm]; exact Nat.le_of_ble_eq_true rfl) (Nat.le_of_ble_eq_true rfl) (Nat.le_of_ble_eq_true rfl)
-- ForesightHub.fail
theorem hX7_fail : yX7_fail.cls ≠ "java/lang/invoke/MethodHandle" ∧ yX7_fail.cls ≠ "java/lang/invoke/VarHandle" ∧ (parseMethodDescriptor yX7_fail.desc).map (fun d => d.parameters.length) = some 2 := by decide +kernel
set_option maxRecDepth 100000 in
theorem kX7_fail (l : Launch) (hst : l.stackTraces = false) (w : Wd) (P : Shp) (n : Nat) {s : St} {a0 : Int} {a1 : Int} {a2 : Int} {res : (Int × St) ⊕ Nat} (h : fX7_fail P s a0 a1 a2 = some res) : CtX l w yX7_fail cX7_fail 3 (some FieldType.int) rX7_fail 3 18 P n [A w a0, I a1, I a2] s (XQI w P n res) res :=
  CtX.of hst h (by decide) (Nat.le_of_ble_eq_true rfl) (lv := [(0, A w a0), (1, I a1), (2, I a2)]) rfl fun X hl hRm C T hn hO => by
  subst hl
  unfold fX7_fail
  refine v_aload_n C dX7_fail_0 rfl (j := 0) rfl ?_
  refine v_iload_n C dX7_fail_1 rfl (j := 1) rfl ?_
  refine v_callXV C T hO [I a1] [] (fun x h => kX7_requireDevice X.2.1 T.2 w P n h) tw_777 tw_1 hX7_requireDevice rfl rfl hRm (Nat.le_of_ble_eq_true rfl) (Nat.le_of_ble_eq_true rfl) tw_774 tw_776 ts_25 rfl (ci := 7) rfl (by decide) rfl rfl (Nat.le_of_ble_eq_true rfl) ⟨Nat.le_of_ble_eq_true rfl, Nat.le_of_ble_eq_true rfl⟩ ⟨Nat.le_of_ble_eq_true rfl, Nat.le_of_ble_eq_true rfl⟩ dX7_fail_2 ?_
  refine v_aload_n C dX7_fail_5 rfl (j := 0) rfl ?_
  refine v_iload_n C dX7_fail_6 rfl (j := 2) rfl ?_
  refine v_callXV C T hO [I a2] [] (fun x h => kX7_requireKind X.2.1 T.2 w P n h) tw_848 tw_1 hX7_requireKind rfl rfl hRm (Nat.le_of_ble_eq_true rfl) (Nat.le_of_ble_eq_true rfl) tw_845 tw_847 ts_27 rfl (ci := 7) rfl (by decide) rfl rfl (Nat.le_of_ble_eq_true rfl) ⟨Nat.le_of_ble_eq_true rfl, Nat.le_of_ble_eq_true rfl⟩ ⟨Nat.le_of_ble_eq_true rfl, Nat.le_of_ble_eq_true rfl⟩ dX7_fail_7 ?_
  refine v_aload_n C dX7_fail_10 rfl (j := 0) rfl ?_
  refine v_iload_n C dX7_fail_11 rfl (j := 1) rfl ?_
  refine v_callXV C T hO [I a1] [] (fun x h => kX7_requirePluggedIn X.2.1 T.2 w P n h) tw_970 tw_1 hX7_requirePluggedIn rfl rfl hRm (Nat.le_of_ble_eq_true rfl) (Nat.le_of_ble_eq_true rfl) tw_967 tw_969 ts_32 rfl (ci := 7) rfl (by decide) rfl rfl (Nat.le_of_ble_eq_true rfl) ⟨Nat.le_of_ble_eq_true rfl, Nat.le_of_ble_eq_true rfl⟩ ⟨Nat.le_of_ble_eq_true rfl, Nat.le_of_ble_eq_true rfl⟩ dX7_fail_12 ?_
  refine v_aload_n C dX7_fail_15 rfl (j := 0) rfl ?_
  refine v_getR C 2 rfl (T := TX7) rfl inB7 (by decide) (by decide) rfl tw_337 dX7_fail_16 (fun x1 => ?_)
  refine v_aload_n C dX7_fail_19 rfl (j := 0) rfl ?_
  refine v_getR C 1 rfl (T := TX7) rfl inB7 (by decide) (by decide) rfl tw_336 dX7_fail_20 (fun x2 => ?_)
  refine v_getR C 1 rfl (T := TX2) rfl inB2 (by decide) (by decide) rfl tw_307 dX7_fail_23 (fun x3 => ?_)
  refine v_callV_wV C [A w x3] [] (Cee.of (rm := rX1_remember) tw_932 tw_8 hX1_remember rfl rfl hRm (Nat.le_of_ble_eq_true rfl) (Nat.le_of_ble_eq_true rfl)) (fun x h => kX1_remember X.2.1 w P n h) tw_929 tw_930 tw_931 rfl (ci := 1) rfl (by decide) rfl rfl (Nat.le_of_ble_eq_true rfl) (by rw [hRm]; exact ⟨Nat.le_of_ble_eq_true rfl, Nat.le_of_ble_eq_true rfl⟩) dX7_fail_26 (fun s4 => ?_)
  refine v_aload_n C dX7_fail_29 rfl (j := 0) rfl ?_
  refine v_getR C 1 rfl (T := TX7) rfl inB7 (by decide) (by decide) rfl tw_336 dX7_fail_30 (fun x5 => ?_)
  refine v_iload_n C dX7_fail_33 rfl (j := 1) rfl ?_
  refine v_iload_n C dX7_fail_34 rfl (j := 2) rfl ?_
  refine v_callV_wV C [I a1, I a2] [] (Cee.of (rm := rX2_takeError) tw_990 tw_4 hX2_takeError rfl rfl hRm (Nat.le_of_ble_eq_true rfl) (Nat.le_of_ble_eq_true rfl)) (fun x h => kX2_takeError X.2.1 w P n h) tw_987 tw_988 tw_989 rfl (ci := 2) rfl (by decide) rfl rfl (Nat.le_of_ble_eq_true rfl) (by rw [hRm]; exact ⟨Nat.le_of_ble_eq_true rfl, Nat.le_of_ble_eq_true rfl⟩) dX7_fail_35 (fun s6 => ?_)
  refine v_aload_n C dX7_fail_38 rfl (j := 0) rfl ?_
  refine v_getR C 1 rfl (T := TX7) rfl inB7 (by decide) (by decide) rfl tw_336 dX7_fail_39 (fun x7 => ?_)
  refine v_iload_n C dX7_fail_42 rfl (j := 1) rfl ?_
  refine v_iconst C dX7_fail_43 ?_
  refine v_callV_rI C [I a1, I ((-1))] [] (Cee.of (rm := rX2_scoreOf) tw_383 tw_4 hX2_scoreOf rfl rfl hRm (Nat.le_of_ble_eq_true rfl) (Nat.le_of_ble_eq_true rfl)) (fun x h => kX2_scoreOf X.2.1 w P n h) tw_784 tw_381 tw_382 rfl (ci := 2) rfl (by decide) rfl rfl (Nat.le_of_ble_eq_true rfl) (by rw [hRm]; exact ⟨Nat.le_of_ble_eq_true rfl, Nat.le_of_ble_eq_true rfl⟩) dX7_fail_44 (fun x8 => ?_)
  refine v_wid 3 18 (Nat.le_of_ble_eq_true rfl) (Nat.le_of_ble_eq_true rfl) ?_
  exact v_xiret C rfl hO dX7_fail_47
-- ForesightHub.warn
theorem hX7_warn : yX7_warn.cls ≠ "java/lang/invoke/MethodHandle" ∧ yX7_warn.cls ≠ "java/lang/invoke/VarHandle" ∧ (parseMethodDescriptor yX7_warn.desc).map (fun d => d.parameters.length) = some 1 := by decide +kernel
set_option maxRecDepth 100000 in
theorem kX7_warn (l : Launch) (hst : l.stackTraces = false) (w : Wd) (P : Shp) (n : Nat) {s : St} {a0 : Int} {a1 : Int} {res : (Int × St) ⊕ Nat} (h : fX7_warn P s a0 a1 = some res) : CtX l w yX7_warn cX7_warn 3 (some FieldType.int) rX7_warn 3 18 P n [A w a0, I a1] s (XQI w P n res) res :=
  CtX.of hst h (by decide) (Nat.le_of_ble_eq_true rfl) (lv := [(0, A w a0), (1, I a1)]) rfl fun X hl hRm C T hn hO => by
  subst hl
  unfold fX7_warn
  refine v_aload_n C dX7_warn_0 rfl (j := 0) rfl ?_
  refine v_iload_n C dX7_warn_1 rfl (j := 1) rfl ?_
  refine v_callXV C T hO [I a1] [] (fun x h => kX7_requireDevice X.2.1 T.2 w P n h) tw_777 tw_1 hX7_requireDevice rfl rfl hRm (Nat.le_of_ble_eq_true rfl) (Nat.le_of_ble_eq_true rfl) tw_774 tw_776 ts_25 rfl (ci := 7) rfl (by decide) rfl rfl (Nat.le_of_ble_eq_true rfl) ⟨Nat.le_of_ble_eq_true rfl, Nat.le_of_ble_eq_true rfl⟩ ⟨Nat.le_of_ble_eq_true rfl, Nat.le_of_ble_eq_true rfl⟩ dX7_warn_2 ?_
  refine v_aload_n C dX7_warn_5 rfl (j := 0) rfl ?_
  refine v_iload_n C dX7_warn_6 rfl (j := 1) rfl ?_
  refine v_callXV C T hO [I a1] [] (fun x h => kX7_requirePluggedIn X.2.1 T.2 w P n h) tw_970 tw_1 hX7_requirePluggedIn rfl rfl hRm (Nat.le_of_ble_eq_true rfl) (Nat.le_of_ble_eq_true rfl) tw_967 tw_969 ts_32 rfl (ci := 7) rfl (by decide) rfl rfl (Nat.le_of_ble_eq_true rfl) ⟨Nat.le_of_ble_eq_true rfl, Nat.le_of_ble_eq_true rfl⟩ ⟨Nat.le_of_ble_eq_true rfl, Nat.le_of_ble_eq_true rfl⟩ dX7_warn_7 ?_
  refine v_aload_n C dX7_warn_10 rfl (j := 0) rfl ?_
  refine v_getR C 1 rfl (T := TX7) rfl inB7 (by decide) (by decide) rfl tw_336 dX7_warn_11 (fun x1 => ?_)
  refine v_iload_n C dX7_warn_14 rfl (j := 1) rfl ?_
  refine v_callV_rI C [I a1] [] (Cee.of (rm := rX2_inAlarm) tw_783 tw_4 hX2_inAlarm rfl rfl hRm (Nat.le_of_ble_eq_true rfl) (Nat.le_of_ble_eq_true rfl)) (fun x h => kX2_inAlarm X.2.1 w P n h) tw_780 tw_781 tw_782 rfl (ci := 2) rfl (by decide) rfl rfl (Nat.le_of_ble_eq_true rfl) (by rw [hRm]; exact ⟨Nat.le_of_ble_eq_true rfl, Nat.le_of_ble_eq_true rfl⟩) dX7_warn_15 (fun x2 => ?_)
  refine v_if_eq (tgt := 32) C dX7_warn_18 rfl ?_ ?_
  · skip
    refine v_aload_n C dX7_warn_32 rfl (j := 0) rfl ?_
    refine v_getR C 2 rfl (T := TX7) rfl inB7 (by decide) (by decide) rfl tw_337 dX7_warn_33 (fun x3 => ?_)
    refine v_aload_n C dX7_warn_36 rfl (j := 0) rfl ?_
    refine v_getR C 1 rfl (T := TX7) rfl inB7 (by decide) (by decide) rfl tw_336 dX7_warn_37 (fun x4 => ?_)
    refine v_getR C 1 rfl (T := TX2) rfl inB2 (by decide) (by decide) rfl tw_307 dX7_warn_40 (fun x5 => ?_)
    refine v_callV_wV C [A w x5] [] (Cee.of (rm := rX1_remember) tw_932 tw_8 hX1_remember rfl rfl hRm (Nat.le_of_ble_eq_true rfl) (Nat.le_of_ble_eq_true rfl)) (fun x h => kX1_remember X.2.1 w P n h) tw_929 tw_930 tw_931 rfl (ci := 1) rfl (by decide) rfl rfl (Nat.le_of_ble_eq_true rfl) (by rw [hRm]; exact ⟨Nat.le_of_ble_eq_true rfl, Nat.le_of_ble_eq_true rfl⟩) dX7_warn_43 (fun s6 => ?_)
    refine v_aload_n C dX7_warn_46 rfl (j := 0) rfl ?_
    refine v_getR C 1 rfl (T := TX7) rfl inB7 (by decide) (by decide) rfl tw_336 dX7_warn_47 (fun x7 => ?_)
    refine v_iload_n C dX7_warn_50 rfl (j := 1) rfl ?_
    refine v_callV_rI C [I a1] [] (Cee.of (rm := rX2_clearingFrames) tw_872 tw_4 hX2_clearingFrames rfl rfl hRm (Nat.le_of_ble_eq_true rfl) (Nat.le_of_ble_eq_true rfl)) (fun x h => kX2_clearingFrames X.2.1 w P n h) tw_869 tw_870 tw_871 rfl (ci := 2) rfl (by decide) rfl rfl (Nat.le_of_ble_eq_true rfl) (by rw [hRm]; exact ⟨Nat.le_of_ble_eq_true rfl, Nat.le_of_ble_eq_true rfl⟩) dX7_warn_51 (fun x8 => ?_)
    refine v_istore_n C [(2, I x8), (0, A w a0), (1, I a1)] dX7_warn_54 rfl (by decide) rfl ?_
    refine v_aload_n C dX7_warn_55 rfl (j := 1) rfl ?_
    refine v_getR C 1 rfl (T := TX7) rfl inB7 (by decide) (by decide) rfl tw_336 dX7_warn_56 (fun x9 => ?_)
    refine v_iload_n C dX7_warn_59 rfl (j := 2) rfl ?_
    refine v_callV_wV C [I a1] [] (Cee.of (rm := rX2_beginAlarm) tw_1006 tw_4 hX2_beginAlarm rfl rfl hRm (Nat.le_of_ble_eq_true rfl) (Nat.le_of_ble_eq_true rfl)) (fun x h => kX2_beginAlarm X.2.1 w P n h) tw_1015 tw_1004 tw_1005 rfl (ci := 2) rfl (by decide) rfl rfl (Nat.le_of_ble_eq_true rfl) (by rw [hRm]; exact ⟨Nat.le_of_ble_eq_true rfl, Nat.le_of_ble_eq_true rfl⟩) dX7_warn_60 (fun s10 => ?_)
    refine v_aload_n C dX7_warn_63 rfl (j := 1) rfl ?_
    refine v_getR C 1 rfl (T := TX7) rfl inB7 (by decide) (by decide) rfl tw_336 dX7_warn_64 (fun x11 => ?_)
    refine v_callV_wV C [] [] (Cee.of (rm := rX2_settle) tw_700 tw_4 hX2_settle rfl rfl hRm (Nat.le_of_ble_eq_true rfl) (Nat.le_of_ble_eq_true rfl)) (fun x h => kX2_settle X.2.1 w P n h) tw_1016 tw_698 tw_699 rfl (ci := 2) rfl (by decide) rfl rfl (Nat.le_of_ble_eq_true rfl) (by rw [hRm]; exact ⟨Nat.le_of_ble_eq_true rfl, Nat.le_of_ble_eq_true rfl⟩) dX7_warn_67 (fun s12 => ?_)
    refine v_iload_n C dX7_warn_70 rfl (j := 0) rfl ?_
    refine v_wid 3 18 (Nat.le_of_ble_eq_true rfl) (Nat.le_of_ble_eq_true rfl) ?_
    exact v_xiret C rfl hO dX7_warn_71
  · skip
    exact v_throwW C T hO (e := 1) (ik := 259) (is := 261) (ic := 263) (i := 24) (tx := "the device is in alarm already") tw_971 tw_21 (by decide +kernel) (by decide) tw1_263 tg1_259_263 dX7_warn_21 dX7_warn_24 dX7_warn_25 dX7_warn_28 dX7_warn_31 (by rw [hRm]; exact Nat.le_of_ble_eq_true rfl) (by rw [hRm]; exact Nat.le_of_ble_eq_true rfl) (Nat.le_of_ble_eq_true rfl) (by rw [hRm]; exact Nat.le_of_ble_eq_true rfl) (by rw [hRm]; exact Nat.le_of_ble_eq_true rfl) (Nat.le_of_ble_eq_true rfl) (Nat.le_of_ble_eq_true rfl)
-- ForesightHub.callOff
theorem hX7_callOff : yX7_callOff.cls ≠ "java/lang/invoke/MethodHandle" ∧ yX7_callOff.cls ≠ "java/lang/invoke/VarHandle" ∧ (parseMethodDescriptor yX7_callOff.desc).map (fun d => d.parameters.length) = some 1 := by decide +kernel
set_option maxRecDepth 100000 in
theorem kX7_callOff (l : Launch) (hst : l.stackTraces = false) (w : Wd) (P : Shp) (n : Nat) {s : St} {a0 : Int} {a1 : Int} {res : (Int × St) ⊕ Nat} (h : fX7_callOff P s a0 a1 = some res) : CtX l w yX7_callOff cX7_callOff 2 (some FieldType.int) rX7_callOff 2 12 P n [A w a0, I a1] s (XQI w P n res) res :=
  CtX.of hst h (by decide) (Nat.le_of_ble_eq_true rfl) (lv := [(0, A w a0), (1, I a1)]) rfl fun X hl hRm C T hn hO => by
  subst hl
  unfold fX7_callOff
  refine v_aload_n C dX7_callOff_0 rfl (j := 0) rfl ?_
  refine v_iload_n C dX7_callOff_1 rfl (j := 1) rfl ?_
  refine v_callXV C T hO [I a1] [] (fun x h => kX7_requireDevice X.2.1 T.2 w P n h) tw_777 tw_1 hX7_requireDevice rfl rfl hRm (Nat.le_of_ble_eq_true rfl) (Nat.le_of_ble_eq_true rfl) tw_774 tw_776 ts_25 rfl (ci := 7) rfl (by decide) rfl rfl (Nat.le_of_ble_eq_true rfl) ⟨Nat.le_of_ble_eq_true rfl, Nat.le_of_ble_eq_true rfl⟩ ⟨Nat.le_of_ble_eq_true rfl, Nat.le_of_ble_eq_true rfl⟩ dX7_callOff_2 ?_
  refine v_aload_n C dX7_callOff_5 rfl (j := 0) rfl ?_
  refine v_getR C 1 rfl (T := TX7) rfl inB7 (by decide) (by decide) rfl tw_336 dX7_callOff_6 (fun x1 => ?_)
  refine v_iload_n C dX7_callOff_9 rfl (j := 1) rfl ?_
  refine v_callV_rI C [I a1] [] (Cee.of (rm := rX2_inAlarm) tw_783 tw_4 hX2_inAlarm rfl rfl hRm (Nat.le_of_ble_eq_true rfl) (Nat.le_of_ble_eq_true rfl)) (fun x h => kX2_inAlarm X.2.1 w P n h) tw_780 tw_781 tw_782 rfl (ci := 2) rfl (by decide) rfl rfl (Nat.le_of_ble_eq_true rfl) (by rw [hRm]; exact ⟨Nat.le_of_ble_eq_true rfl, Nat.le_of_ble_eq_true rfl⟩) dX7_callOff_10 (fun x2 => ?_)
  refine v_if_ne (tgt := 27) C dX7_callOff_13 rfl ?_ ?_
  · skip
    refine v_aload_n C dX7_callOff_27 rfl (j := 0) rfl ?_
    refine v_getR C 2 rfl (T := TX7) rfl inB7 (by decide) (by decide) rfl tw_337 dX7_callOff_28 (fun x3 => ?_)
    refine v_aload_n C dX7_callOff_31 rfl (j := 0) rfl ?_
    refine v_getR C 1 rfl (T := TX7) rfl inB7 (by decide) (by decide) rfl tw_336 dX7_callOff_32 (fun x4 => ?_)
    refine v_getR C 1 rfl (T := TX2) rfl inB2 (by decide) (by decide) rfl tw_307 dX7_callOff_35 (fun x5 => ?_)
    refine v_callV_wV C [A w x5] [] (Cee.of (rm := rX1_remember) tw_932 tw_8 hX1_remember rfl rfl hRm (Nat.le_of_ble_eq_true rfl) (Nat.le_of_ble_eq_true rfl)) (fun x h => kX1_remember X.2.1 w P n h) tw_929 tw_930 tw_931 rfl (ci := 1) rfl (by decide) rfl rfl (Nat.le_of_ble_eq_true rfl) (by rw [hRm]; exact ⟨Nat.le_of_ble_eq_true rfl, Nat.le_of_ble_eq_true rfl⟩) dX7_callOff_38 (fun s6 => ?_)
    refine v_aload_n C dX7_callOff_41 rfl (j := 0) rfl ?_
    refine v_getR C 1 rfl (T := TX7) rfl inB7 (by decide) (by decide) rfl tw_336 dX7_callOff_42 (fun x7 => ?_)
    refine v_iload_n C dX7_callOff_45 rfl (j := 1) rfl ?_
    refine v_callV_wV C [I a1] [] (Cee.of (rm := rX2_endWrongAlarm) tw_954 tw_4 hX2_endWrongAlarm rfl rfl hRm (Nat.le_of_ble_eq_true rfl) (Nat.le_of_ble_eq_true rfl)) (fun x h => kX2_endWrongAlarm X.2.1 w P n h) tw_1025 tw_952 tw_953 rfl (ci := 2) rfl (by decide) rfl rfl (Nat.le_of_ble_eq_true rfl) (by rw [hRm]; exact ⟨Nat.le_of_ble_eq_true rfl, Nat.le_of_ble_eq_true rfl⟩) dX7_callOff_46 (fun s8 => ?_)
    refine v_aload_n C dX7_callOff_49 rfl (j := 0) rfl ?_
    refine v_getR C 1 rfl (T := TX7) rfl inB7 (by decide) (by decide) rfl tw_336 dX7_callOff_50 (fun x9 => ?_)
    refine v_callV_wV C [] [] (Cee.of (rm := rX2_settle) tw_700 tw_4 hX2_settle rfl rfl hRm (Nat.le_of_ble_eq_true rfl) (Nat.le_of_ble_eq_true rfl)) (fun x h => kX2_settle X.2.1 w P n h) tw_1016 tw_698 tw_699 rfl (ci := 2) rfl (by decide) rfl rfl (Nat.le_of_ble_eq_true rfl) (by rw [hRm]; exact ⟨Nat.le_of_ble_eq_true rfl, Nat.le_of_ble_eq_true rfl⟩) dX7_callOff_53 (fun s10 => ?_)
    refine v_aload_n C dX7_callOff_56 rfl (j := 0) rfl ?_
    refine v_getR C 1 rfl (T := TX7) rfl inB7 (by decide) (by decide) rfl tw_336 dX7_callOff_57 (fun x11 => ?_)
    refine v_iload_n C dX7_callOff_60 rfl (j := 1) rfl ?_
    refine v_callV_rI C [I a1] [] (Cee.of (rm := rX2_heldBits) tw_789 tw_4 hX2_heldBits rfl rfl hRm (Nat.le_of_ble_eq_true rfl) (Nat.le_of_ble_eq_true rfl)) (fun x h => kX2_heldBits X.2.1 w P n h) tw_786 tw_787 tw_788 rfl (ci := 2) rfl (by decide) rfl rfl (Nat.le_of_ble_eq_true rfl) (by rw [hRm]; exact ⟨Nat.le_of_ble_eq_true rfl, Nat.le_of_ble_eq_true rfl⟩) dX7_callOff_61 (fun x12 => ?_)
    refine v_callS_rI C [I x12] [] (Cee.of (rm := rJ6_bitCount_0f7a4) tw_1028 tw_22 hJ6_bitCount_0f7a4 rfl rfl hRm (Nat.le_of_ble_eq_true rfl) (Nat.le_of_ble_eq_true rfl)) (fun x h => kJ6_bitCount_0f7a4 X.2.1 w P n h) tw_1026 tw_1027 rfl rfl (Nat.le_of_ble_eq_true rfl) (by rw [hRm]; exact ⟨Nat.le_of_ble_eq_true rfl, Nat.le_of_ble_eq_true rfl⟩) dX7_callOff_64 (fun x13 => ?_)
    refine v_wid 2 12 (Nat.le_of_ble_eq_true rfl) (Nat.le_of_ble_eq_true rfl) ?_
    exact v_xiret C rfl hO dX7_callOff_67
  · skip
    exact v_throwW C T hO (e := 1) (ik := 259) (is := 270) (ic := 263) (i := 25) (tx := "the device is not in alarm") tw_971 tw_21 (by decide +kernel) (by decide) tw1_263 tg1_259_263 dX7_callOff_16 dX7_callOff_19 dX7_callOff_20 dX7_callOff_23 dX7_callOff_26 (by rw [hRm]; exact Nat.le_of_ble_eq_true rfl) (by rw [hRm]; exact Nat.le_of_ble_eq_true rfl) (Nat.le_of_ble_eq_true rfl) (by rw [hRm]; exact Nat.le_of_ble_eq_true rfl) (by rw [hRm]; exact Nat.le_of_ble_eq_true rfl) (Nat.le_of_ble_eq_true rfl) (Nat.le_of_ble_eq_true rfl)
-- ForesightHub.unplug
theorem hX7_unplug : yX7_unplug.cls ≠ "java/lang/invoke/MethodHandle" ∧ yX7_unplug.cls ≠ "java/lang/invoke/VarHandle" ∧ (parseMethodDescriptor yX7_unplug.desc).map (fun d => d.parameters.length) = some 1 := by decide +kernel
set_option maxRecDepth 100000 in
theorem kX7_unplug (l : Launch) (hst : l.stackTraces = false) (w : Wd) (P : Shp) (n : Nat) {s : St} {a0 : Int} {a1 : Int} {res : (Int × St) ⊕ Nat} (h : fX7_unplug P s a0 a1 = some res) : CtX l w yX7_unplug cX7_unplug 2 (some FieldType.int) rX7_unplug 2 12 P n [A w a0, I a1] s (XQI w P n res) res :=
  CtX.of hst h (by decide) (Nat.le_of_ble_eq_true rfl) (lv := [(0, A w a0), (1, I a1)]) rfl fun X hl hRm C T hn hO => by
  subst hl
  unfold fX7_unplug
  refine v_aload_n C dX7_unplug_0 rfl (j := 0) rfl ?_
  refine v_iload_n C dX7_unplug_1 rfl (j := 1) rfl ?_
  refine v_callXV C T hO [I a1] [] (fun x h => kX7_requireDevice X.2.1 T.2 w P n h) tw_777 tw_1 hX7_requireDevice rfl rfl hRm (Nat.le_of_ble_eq_true rfl) (Nat.le_of_ble_eq_true rfl) tw_774 tw_776 ts_25 rfl (ci := 7) rfl (by decide) rfl rfl (Nat.le_of_ble_eq_true rfl) ⟨Nat.le_of_ble_eq_true rfl, Nat.le_of_ble_eq_true rfl⟩ ⟨Nat.le_of_ble_eq_true rfl, Nat.le_of_ble_eq_true rfl⟩ dX7_unplug_2 ?_
  refine v_aload_n C dX7_unplug_5 rfl (j := 0) rfl ?_
  refine v_iload_n C dX7_unplug_6 rfl (j := 1) rfl ?_
  refine v_callXV C T hO [I a1] [] (fun x h => kX7_requirePluggedIn X.2.1 T.2 w P n h) tw_970 tw_1 hX7_requirePluggedIn rfl rfl hRm (Nat.le_of_ble_eq_true rfl) (Nat.le_of_ble_eq_true rfl) tw_967 tw_969 ts_32 rfl (ci := 7) rfl (by decide) rfl rfl (Nat.le_of_ble_eq_true rfl) ⟨Nat.le_of_ble_eq_true rfl, Nat.le_of_ble_eq_true rfl⟩ ⟨Nat.le_of_ble_eq_true rfl, Nat.le_of_ble_eq_true rfl⟩ dX7_unplug_7 ?_
  refine v_aload_n C dX7_unplug_10 rfl (j := 0) rfl ?_
  refine v_getR C 2 rfl (T := TX7) rfl inB7 (by decide) (by decide) rfl tw_337 dX7_unplug_11 (fun x1 => ?_)
  refine v_aload_n C dX7_unplug_14 rfl (j := 0) rfl ?_
  refine v_getR C 1 rfl (T := TX7) rfl inB7 (by decide) (by decide) rfl tw_336 dX7_unplug_15 (fun x2 => ?_)
  refine v_getR C 1 rfl (T := TX2) rfl inB2 (by decide) (by decide) rfl tw_307 dX7_unplug_18 (fun x3 => ?_)
  refine v_callV_wV C [A w x3] [] (Cee.of (rm := rX1_remember) tw_932 tw_8 hX1_remember rfl rfl hRm (Nat.le_of_ble_eq_true rfl) (Nat.le_of_ble_eq_true rfl)) (fun x h => kX1_remember X.2.1 w P n h) tw_929 tw_930 tw_931 rfl (ci := 1) rfl (by decide) rfl rfl (Nat.le_of_ble_eq_true rfl) (by rw [hRm]; exact ⟨Nat.le_of_ble_eq_true rfl, Nat.le_of_ble_eq_true rfl⟩) dX7_unplug_21 (fun s4 => ?_)
  refine v_aload_n C dX7_unplug_24 rfl (j := 0) rfl ?_
  refine v_getR C 1 rfl (T := TX7) rfl inB7 (by decide) (by decide) rfl tw_336 dX7_unplug_25 (fun x5 => ?_)
  refine v_iload_n C dX7_unplug_28 rfl (j := 1) rfl ?_
  refine v_callV_wI C [I a1] [] (Cee.of (rm := rX2_pullOut) tw_1042 tw_4 hX2_pullOut rfl rfl hRm (Nat.le_of_ble_eq_true rfl) (Nat.le_of_ble_eq_true rfl)) (fun x h => kX2_pullOut X.2.1 w P n h) tw_1039 tw_1040 tw_1041 rfl (ci := 2) rfl (by decide) rfl rfl (Nat.le_of_ble_eq_true rfl) (by rw [hRm]; exact ⟨Nat.le_of_ble_eq_true rfl, Nat.le_of_ble_eq_true rfl⟩) dX7_unplug_29 (fun q6 => ?_)
  obtain ⟨x7, s8⟩ := q6
  refine v_wid 2 12 (Nat.le_of_ble_eq_true rfl) (Nat.le_of_ble_eq_true rfl) ?_
  exact v_xiret C rfl hO dX7_unplug_32
-- ForesightHub.plug
theorem hX7_plug : yX7_plug.cls ≠ "java/lang/invoke/MethodHandle" ∧ yX7_plug.cls ≠ "java/lang/invoke/VarHandle" ∧ (parseMethodDescriptor yX7_plug.desc).map (fun d => d.parameters.length) = some 2 := by decide +kernel
set_option maxRecDepth 100000 in
theorem kX7_plug (l : Launch) (hst : l.stackTraces = false) (w : Wd) (P : Shp) (n : Nat) {s : St} {a0 : Int} {a1 : Int} {a2 : Int} {res : (Int × St) ⊕ Nat} (h : fX7_plug P s a0 a1 a2 = some res) : CtX l w yX7_plug cX7_plug 3 (some FieldType.int) rX7_plug 3 18 P n [A w a0, I a1, I a2] s (XQI w P n res) res :=
  CtX.of hst h (by decide) (Nat.le_of_ble_eq_true rfl) (lv := [(0, A w a0), (1, I a1), (2, I a2)]) rfl fun X hl hRm C T hn hO => by
  subst hl
  unfold fX7_plug
  refine v_aload_n C dX7_plug_0 rfl (j := 0) rfl ?_
  refine v_iload_n C dX7_plug_1 rfl (j := 1) rfl ?_
  refine v_callXV C T hO [I a1] [] (fun x h => kX7_requireDevice X.2.1 T.2 w P n h) tw_777 tw_1 hX7_requireDevice rfl rfl hRm (Nat.le_of_ble_eq_true rfl) (Nat.le_of_ble_eq_true rfl) tw_774 tw_776 ts_25 rfl (ci := 7) rfl (by decide) rfl rfl (Nat.le_of_ble_eq_true rfl) ⟨Nat.le_of_ble_eq_true rfl, Nat.le_of_ble_eq_true rfl⟩ ⟨Nat.le_of_ble_eq_true rfl, Nat.le_of_ble_eq_true rfl⟩ dX7_plug_2 ?_
  refine v_aload_n C dX7_plug_5 rfl (j := 0) rfl ?_
  refine v_iload_n C dX7_plug_6 rfl (j := 2) rfl ?_
  refine v_callXV C T hO [I a2] [] (fun x h => kX7_requirePort X.2.1 T.2 w P n h) tw_746 tw_1 hX7_requirePort rfl rfl hRm (Nat.le_of_ble_eq_true rfl) (Nat.le_of_ble_eq_true rfl) tw_743 tw_745 ts_24 rfl (ci := 7) rfl (by decide) rfl rfl (Nat.le_of_ble_eq_true rfl) ⟨Nat.le_of_ble_eq_true rfl, Nat.le_of_ble_eq_true rfl⟩ ⟨Nat.le_of_ble_eq_true rfl, Nat.le_of_ble_eq_true rfl⟩ dX7_plug_7 ?_
  refine v_aload_n C dX7_plug_10 rfl (j := 0) rfl ?_
  refine v_getR C 1 rfl (T := TX7) rfl inB7 (by decide) (by decide) rfl tw_336 dX7_plug_11 (fun x1 => ?_)
  refine v_iload_n C dX7_plug_14 rfl (j := 1) rfl ?_
  refine v_callV_rI C [I a1] [] (Cee.of (rm := rX2_isPluggedIn) tw_375 tw_4 hX2_isPluggedIn rfl rfl hRm (Nat.le_of_ble_eq_true rfl) (Nat.le_of_ble_eq_true rfl)) (fun x h => kX2_isPluggedIn X.2.1 w P n h) tw_850 tw_373 tw_374 rfl (ci := 2) rfl (by decide) rfl rfl (Nat.le_of_ble_eq_true rfl) (by rw [hRm]; exact ⟨Nat.le_of_ble_eq_true rfl, Nat.le_of_ble_eq_true rfl⟩) dX7_plug_15 (fun x2 => ?_)
  refine v_if_eq (tgt := 32) C dX7_plug_18 rfl ?_ ?_
  · skip
    refine v_aload_n C dX7_plug_32 rfl (j := 0) rfl ?_
    refine v_getR C 1 rfl (T := TX7) rfl inB7 (by decide) (by decide) rfl tw_336 dX7_plug_33 (fun x3 => ?_)
    refine v_iload_n C dX7_plug_36 rfl (j := 2) rfl ?_
    refine v_callV_rI C [I a2] [] (Cee.of (rm := rX2_pluggedInAt) tw_766 tw_4 hX2_pluggedInAt rfl rfl hRm (Nat.le_of_ble_eq_true rfl) (Nat.le_of_ble_eq_true rfl)) (fun x h => kX2_pluggedInAt X.2.1 w P n h) tw_763 tw_764 tw_765 rfl (ci := 2) rfl (by decide) rfl rfl (Nat.le_of_ble_eq_true rfl) (by rw [hRm]; exact ⟨Nat.le_of_ble_eq_true rfl, Nat.le_of_ble_eq_true rfl⟩) dX7_plug_37 (fun x4 => ?_)
    refine v_iconst C dX7_plug_40 ?_
    refine v_icmp_eq (tgt := 55) C dX7_plug_41 rfl ?_ ?_
    · skip
      refine v_aload_n C dX7_plug_55 rfl (j := 0) rfl ?_
      refine v_getR C 2 rfl (T := TX7) rfl inB7 (by decide) (by decide) rfl tw_337 dX7_plug_56 (fun x5 => ?_)
      refine v_aload_n C dX7_plug_59 rfl (j := 0) rfl ?_
      refine v_getR C 1 rfl (T := TX7) rfl inB7 (by decide) (by decide) rfl tw_336 dX7_plug_60 (fun x6 => ?_)
      refine v_getR C 1 rfl (T := TX2) rfl inB2 (by decide) (by decide) rfl tw_307 dX7_plug_63 (fun x7 => ?_)
      refine v_callV_wV C [A w x7] [] (Cee.of (rm := rX1_remember) tw_932 tw_8 hX1_remember rfl rfl hRm (Nat.le_of_ble_eq_true rfl) (Nat.le_of_ble_eq_true rfl)) (fun x h => kX1_remember X.2.1 w P n h) tw_929 tw_930 tw_931 rfl (ci := 1) rfl (by decide) rfl rfl (Nat.le_of_ble_eq_true rfl) (by rw [hRm]; exact ⟨Nat.le_of_ble_eq_true rfl, Nat.le_of_ble_eq_true rfl⟩) dX7_plug_66 (fun s8 => ?_)
      refine v_aload_n C dX7_plug_69 rfl (j := 0) rfl ?_
      refine v_getR C 1 rfl (T := TX7) rfl inB7 (by decide) (by decide) rfl tw_336 dX7_plug_70 (fun x9 => ?_)
      refine v_iload_n C dX7_plug_73 rfl (j := 1) rfl ?_
      refine v_iload_n C dX7_plug_74 rfl (j := 2) rfl ?_
      refine v_callV_wV C [I a1, I a2] [] (Cee.of (rm := rX2_putIn) tw_1059 tw_4 hX2_putIn rfl rfl hRm (Nat.le_of_ble_eq_true rfl) (Nat.le_of_ble_eq_true rfl)) (fun x h => kX2_putIn X.2.1 w P n h) tw_1056 tw_1057 tw_1058 rfl (ci := 2) rfl (by decide) rfl rfl (Nat.le_of_ble_eq_true rfl) (by rw [hRm]; exact ⟨Nat.le_of_ble_eq_true rfl, Nat.le_of_ble_eq_true rfl⟩) dX7_plug_75 (fun s10 => ?_)
      refine v_aload_n C dX7_plug_78 rfl (j := 0) rfl ?_
      refine v_getR C 1 rfl (T := TX7) rfl inB7 (by decide) (by decide) rfl tw_336 dX7_plug_79 (fun x11 => ?_)
      refine v_iload_n C dX7_plug_82 rfl (j := 1) rfl ?_
      refine v_callV_rI C [I a1] [] (Cee.of (rm := rX2_heldBits) tw_789 tw_4 hX2_heldBits rfl rfl hRm (Nat.le_of_ble_eq_true rfl) (Nat.le_of_ble_eq_true rfl)) (fun x h => kX2_heldBits X.2.1 w P n h) tw_786 tw_787 tw_788 rfl (ci := 2) rfl (by decide) rfl rfl (Nat.le_of_ble_eq_true rfl) (by rw [hRm]; exact ⟨Nat.le_of_ble_eq_true rfl, Nat.le_of_ble_eq_true rfl⟩) dX7_plug_83 (fun x12 => ?_)
      refine v_callS_rI C [I x12] [] (Cee.of (rm := rJ6_bitCount_0f7a4) tw_1028 tw_22 hJ6_bitCount_0f7a4 rfl rfl hRm (Nat.le_of_ble_eq_true rfl) (Nat.le_of_ble_eq_true rfl)) (fun x h => kJ6_bitCount_0f7a4 X.2.1 w P n h) tw_1026 tw_1027 rfl rfl (Nat.le_of_ble_eq_true rfl) (by rw [hRm]; exact ⟨Nat.le_of_ble_eq_true rfl, Nat.le_of_ble_eq_true rfl⟩) dX7_plug_86 (fun x13 => ?_)
      refine v_wid 3 18 (Nat.le_of_ble_eq_true rfl) (Nat.le_of_ble_eq_true rfl) ?_
      exact v_xiret C rfl hO dX7_plug_89
    · skip
      exact v_throwW C T hO (e := 1) (ik := 259) (is := 285) (ic := 263) (i := 27) (tx := "another device is at the port") tw_971 tw_21 (by decide +kernel) (by decide) tw1_263 tg1_259_263 dX7_plug_44 dX7_plug_47 dX7_plug_48 dX7_plug_51 dX7_plug_54 (by rw [hRm]; exact Nat.le_of_ble_eq_true rfl) (by rw [hRm]; exact Nat.le_of_ble_eq_true rfl) (Nat.le_of_ble_eq_true rfl) (by rw [hRm]; exact Nat.le_of_ble_eq_true rfl) (by rw [hRm]; exact Nat.le_of_ble_eq_true rfl) (Nat.le_of_ble_eq_true rfl) (Nat.le_of_ble_eq_true rfl)
  · skip
    exact v_throwW C T hO (e := 1) (ik := 259) (is := 283) (ic := 263) (i := 26) (tx := "the device is plugged in already") tw_971 tw_21 (by decide +kernel) (by decide) tw1_263 tg1_259_263 dX7_plug_21 dX7_plug_24 dX7_plug_25 dX7_plug_28 dX7_plug_31 (by rw [hRm]; exact Nat.le_of_ble_eq_true rfl) (by rw [hRm]; exact Nat.le_of_ble_eq_true rfl) (Nat.le_of_ble_eq_true rfl) (by rw [hRm]; exact Nat.le_of_ble_eq_true rfl) (by rw [hRm]; exact Nat.le_of_ble_eq_true rfl) (Nat.le_of_ble_eq_true rfl) (Nat.le_of_ble_eq_true rfl)
-- ForesightHub.setScore
theorem hX7_setScore : yX7_setScore.cls ≠ "java/lang/invoke/MethodHandle" ∧ yX7_setScore.cls ≠ "java/lang/invoke/VarHandle" ∧ (parseMethodDescriptor yX7_setScore.desc).map (fun d => d.parameters.length) = some 1 := by decide +kernel
set_option maxRecDepth 100000 in
theorem kX7_setScore (l : Launch) (hst : l.stackTraces = false) (w : Wd) (P : Shp) (n : Nat) {s : St} {a0 : Int} {a1 : Int} {res : (Int × St) ⊕ Nat} (h : fX7_setScore P s a0 a1 = some res) : CtX l w yX7_setScore cX7_setScore 3 (some FieldType.int) rX7_setScore 1 6 P n [A w a0, I a1] s (XQI w P n res) res :=
  CtX.of hst h (by decide) (Nat.le_of_ble_eq_true rfl) (lv := [(0, A w a0), (1, I a1)]) rfl fun X hl hRm C T hn hO => by
  subst hl
  unfold fX7_setScore
  refine v_iload_n C dX7_setScore_0 rfl (j := 1) rfl ?_
  refine v_iconst C dX7_setScore_1 ?_
  refine v_jnt (fun (k12 : Option ((Int × St) ⊕ Nat)) => V X w 3 P n 0 0 res (k12) s 12 [] []) ?_ ?_
  · skip
    exact v_throwW C T hO (e := 0) (ik := 53) (is := 290) (ic := 57) (i := 28) (tx := "no such score") tw_468 tw_13 (by decide +kernel) (by decide) tw0_57 tg0_53_57 dX7_setScore_12 dX7_setScore_15 dX7_setScore_16 dX7_setScore_19 dX7_setScore_22 (by rw [hRm]; exact Nat.le_of_ble_eq_true rfl) (by rw [hRm]; exact Nat.le_of_ble_eq_true rfl) (Nat.le_of_ble_eq_true rfl) (by rw [hRm]; exact Nat.le_of_ble_eq_true rfl) (by rw [hRm]; exact Nat.le_of_ble_eq_true rfl) (Nat.le_of_ble_eq_true rfl) (Nat.le_of_ble_eq_true rfl)
  intro k12 hk12
  refine v_icmp_lt (tgt := 12) C dX7_setScore_2 rfl ?_ ?_
  · skip
    refine v_sub [] [] rfl ?_
    exact hk12
  · skip
    refine v_iload_n C dX7_setScore_5 rfl (j := 1) rfl ?_
    refine v_sipush C dX7_setScore_6 (by decide) ?_
    refine v_icmp_le (tgt := 23) C dX7_setScore_9 rfl ?_ ?_
    · skip
      refine v_aload_n C dX7_setScore_23 rfl (j := 0) rfl ?_
      refine v_getR C 2 rfl (T := TX7) rfl inB7 (by decide) (by decide) rfl tw_337 dX7_setScore_24 (fun x1 => ?_)
      refine v_aload_n C dX7_setScore_27 rfl (j := 0) rfl ?_
      refine v_getR C 1 rfl (T := TX7) rfl inB7 (by decide) (by decide) rfl tw_336 dX7_setScore_28 (fun x2 => ?_)
      refine v_getR C 1 rfl (T := TX2) rfl inB2 (by decide) (by decide) rfl tw_307 dX7_setScore_31 (fun x3 => ?_)
      refine v_callV_wV C [A w x3] [] (Cee.of (rm := rX1_remember) tw_932 tw_8 hX1_remember rfl rfl hRm (Nat.le_of_ble_eq_true rfl) (Nat.le_of_ble_eq_true rfl)) (fun x h => kX1_remember X.2.1 w P n h) tw_929 tw_930 tw_931 rfl (ci := 1) rfl (by decide) rfl rfl (Nat.le_of_ble_eq_true rfl) (by rw [hRm]; exact ⟨Nat.le_of_ble_eq_true rfl, Nat.le_of_ble_eq_true rfl⟩) dX7_setScore_34 (fun s4 => ?_)
      refine v_aload_n C dX7_setScore_37 rfl (j := 0) rfl ?_
      refine v_getR C 1 rfl (T := TX7) rfl inB7 (by decide) (by decide) rfl tw_336 dX7_setScore_38 (fun x5 => ?_)
      refine v_getR C 1 rfl (T := TX2) rfl inB2 (by decide) (by decide) rfl tw_307 dX7_setScore_41 (fun x6 => ?_)
      refine v_getI C 1 rfl (T := TX6) rfl inB6 (by decide) (by decide) rfl tw_259 dX7_setScore_44 (fun x7 => ?_)
      refine v_istore_n C [(2, I x7), (0, A w a0), (1, I a1)] dX7_setScore_47 rfl (by decide) rfl ?_
      refine v_aload_n C dX7_setScore_48 rfl (j := 1) rfl ?_
      refine v_getR C 1 rfl (T := TX7) rfl inB7 (by decide) (by decide) rfl tw_336 dX7_setScore_49 (fun x8 => ?_)
      refine v_getR C 1 rfl (T := TX2) rfl inB2 (by decide) (by decide) rfl tw_307 dX7_setScore_52 (fun x9 => ?_)
      refine v_iload_n C dX7_setScore_55 rfl (j := 2) rfl ?_
      refine v_putI C 1 rfl (T := TX6) rfl inB6 (by decide) tyX6_ok nmX6 (by decide) rfl rfl tw_259 dX7_setScore_56 rfl (fun s10 => ?_)
      refine v_iload_n C dX7_setScore_59 rfl (j := 0) rfl ?_
      refine v_wid 1 6 (Nat.le_of_ble_eq_true rfl) (Nat.le_of_ble_eq_true rfl) ?_
      exact v_xiret C rfl hO dX7_setScore_60
    · skip
      refine v_sub [] [] rfl ?_
      exact hk12
