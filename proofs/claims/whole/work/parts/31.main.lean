/-! THE LAW: its loop, its body. -/
noncomputable def fLoop (P : Shp) (L : Nat) (xs : Nat → Int32) (x m o : Int) : Nat → Int → St → Option Unit
  | 0, _, _ => none
  | f + 1, i, s => jgt i ((L : Int) - 6) (some ()) (aS L xs i fun x1 => jsw (iand x1 31) [(0, fc_0 P L xs s x m o i (fLoop P L xs x m o f (i + 6))), (1, fc_1 P L xs s x m o i (fLoop P L xs x m o f (i + 6))), (2, fc_2 P L xs s x m o i (fLoop P L xs x m o f (i + 6))), (3, fc_3 P L xs s x m o i (fLoop P L xs x m o f (i + 6))), (4, fc_4 P L xs s x m o i (fLoop P L xs x m o f (i + 6))), (5, fc_5 P L xs s x m o i (fLoop P L xs x m o f (i + 6))), (6, fc_6 P L xs s x m o i (fLoop P L xs x m o f (i + 6))), (7, fc_7 P L xs s x m o i (fLoop P L xs x m o f (i + 6))), (8, fc_8 P L xs s x m o i (fLoop P L xs x m o f (i + 6))), (9, fc_9 P L xs s x m o i (fLoop P L xs x m o f (i + 6))), (10, fc_10 P L xs s x m o i (fLoop P L xs x m o f (i + 6))), (11, fc_11 P L xs s x m o i (fLoop P L xs x m o f (i + 6))), (12, fc_12 P L xs s x m o i (fLoop P L xs x m o f (i + 6))), (13, fc_13 P L xs s x m o i (fLoop P L xs x m o f (i + 6))), (14, fc_14 P L xs s x m o i (fLoop P L xs x m o f (i + 6))), (15, fc_15 P L xs s x m o i (fLoop P L xs x m o f (i + 6))), (16, fc_16 P L xs s x m o i (fLoop P L xs x m o f (i + 6))), (17, fc_17 P L xs s x m o i (fLoop P L xs x m o f (i + 6))), (18, fc_18 P L xs s x m o i (fLoop P L xs x m o f (i + 6))), (19, fc_19 P L xs s x m o i (fLoop P L xs x m o f (i + 6))), (20, fc_20 P L xs s x m o i (fLoop P L xs x m o f (i + 6))), (21, fc_21 P L xs s x m o i (fLoop P L xs x m o f (i + 6))), (22, fc_22 P L xs s x m o i (fLoop P L xs x m o f (i + 6))), (23, fc_23 P L xs s x m o i (fLoop P L xs x m o f (i + 6))), (24, fc_24 P L xs s x m o i (fLoop P L xs x m o f (i + 6))), (25, fc_25 P L xs s x m o i (fLoop P L xs x m o f (i + 6))), (26, fc_26 P L xs s x m o i (fLoop P L xs x m o f (i + 6))), (27, fc_27 P L xs s x m o i (fLoop P L xs x m o f (i + 6)))] (fLoop P L xs x m o f (i + 6) s))
theorem v_loop {X : Cxt} {w : Wd} {ret : Option FieldType} {P : Shp} {b L : Nat} {xs : Nat → Int32} {x m o : Int} (hst : X.2.1.stackTraces = false) (C : Cok X w cL_law 9 RL ret) (S : LX X w b L xs) (hRm : X.2.2.2.1 = room_1)
    (hE : ∀ (n cells slots : Nat) (s : St) (i : Int), cells ≤ 601024 → slots ≤ 7293034 → V X w 9 P n cells slots () (some ()) s 1703 [(0, A w (-101)), (1, A w x), (2, A w m), (3, A w o), (4, I i)] []) :
    ∀ (f n cells slots : Nat) (s : St) (i : Int), cells + 3 * f ≤ 601024 → slots + 18 * f ≤ 7293034 → V X w 9 P n cells slots () (fLoop P L xs x m o f i s) s 23 [(0, A w (-101)), (1, A w x), (2, A w m), (3, A w o), (4, I i)] [] := by
  intro f
  induction f with
  | zero => intro n cells slots s i _ _; exact v_none
  | succ f ih =>
    intro n cells slots s i h1 h2
    have hB : cells + 3 ≤ 601024 ∧ slots + 18 ≤ 7293034 := ⟨by omega, by omega⟩
    unfold fLoop
    refine v_iload C dL_law_23 (j := 4) rfl ?_
    refine v_aload_n C dL_law_25 rfl (j := 0) rfl ?_
    refine v_scl C S dL_law_26 ?_
    refine v_bipush C dL_law_27 (by decide) ?_
    refine v_isub C dL_law_29 ?_
    refine v_icmp_gt (tgt := 1703) C dL_law_30 rfl (hE n cells slots s i (by omega) (by omega)) ?_
    refine v_aload_n C dL_law_33 rfl (j := 0) rfl ?_
    refine v_iload C dL_law_34 (j := 4) rfl ?_
    refine v_sc C S dL_law_36 (fun x1 => ?_)
    refine v_bipush C dL_law_37 (by decide) ?_
    refine v_iand C dL_law_39 ?_
    have hback : ∀ (n' c' s' : Nat) (σ' : St), c' + 3 * f ≤ 601024 → s' + 18 * f ≤ 7293034 → V X w 9 P n' c' s' () (fLoop P L xs x m o f (i + 6) σ') σ' 1697 [(0, A w (-101)), (1, A w x), (2, A w m), (3, A w o), (4, I i)] [] := by
      intro n' c' s' σ' g1 g2
      refine v_iincE C [(0, A w (-101)), (1, A w x), (2, A w m), (3, A w o)] (K := fun z => fLoop P L xs x m o f z σ') dL_law_1697 (by decide) (j := 4) rfl (fun _ => rfl) ?_
      refine v_goto (tgt := 23) C dL_law_1700 rfl ?_
      refine v_sub [(0, A w (-101)), (1, A w x), (2, A w m), (3, A w o), (4, I (i + 6))] [1, 2, 3, 4, 0] rfl ?_
      exact ih n' c' s' σ' (i + 6) g1 g2
    have hk : ∀ (n' : Nat) (σ' : St), n ≤ n' → V X w 9 P n' (cells + 3) (slots + 18) () (fLoop P L xs x m o f (i + 6) σ') σ' 1697 [(0, A w (-101)), (1, A w x), (2, A w m), (3, A w o), (4, I i)] [] := fun n' σ' _ => hback n' _ _ σ' (by omega) (by omega)
    refine v_tsw (vals := [0, 1, 2, 3, 4, 5, 6, 7, 8, 9, 10, 11, 12, 13, 14, 15, 16, 17, 18, 19, 20, 21, 22, 23, 24, 25, 26, 27]) (tgts := [168, 241, 297, 353, 409, 477, 545, 600, 680, 748, 816, 872, 928, 984, 997, 1053, 1121, 1177, 1218, 1274, 1342, 1398, 1454, 1510, 1578, 1634, 1647, 1672]) (dt := 1697) C dL_law_40 rfl rfl (by decide +kernel) ?_ (hback n cells slots s (by omega) (by omega))
    exact v_sw_cons (vc_0 hst C S hRm hB hk) (
      v_sw_cons (vc_1 hst C S hRm hB hk) (
      v_sw_cons (vc_2 hst C S hRm hB hk) (
      v_sw_cons (vc_3 hst C S hRm hB hk) (
      v_sw_cons (vc_4 hst C S hRm hB hk) (
      v_sw_cons (vc_5 hst C S hRm hB hk) (
      v_sw_cons (vc_6 hst C S hRm hB hk) (
      v_sw_cons (vc_7 hst C S hRm hB hk) (
      v_sw_cons (vc_8 hst C S hRm hB hk) (
      v_sw_cons (vc_9 hst C S hRm hB hk) (
      v_sw_cons (vc_10 hst C S hRm hB hk) (
      v_sw_cons (vc_11 hst C S hRm hB hk) (
      v_sw_cons (vc_12 hst C S hRm hB hk) (
      v_sw_cons (vc_13 hst C S hRm hB hk) (
      v_sw_cons (vc_14 hst C S hRm hB hk) (
      v_sw_cons (vc_15 hst C S hRm hB hk) (
      v_sw_cons (vc_16 hst C S hRm hB hk) (
      v_sw_cons (vc_17 hst C S hRm hB hk) (
      v_sw_cons (vc_18 hst C S hRm hB hk) (
      v_sw_cons (vc_19 hst C S hRm hB hk) (
      v_sw_cons (vc_20 hst C S hRm hB hk) (
      v_sw_cons (vc_21 hst C S hRm hB hk) (
      v_sw_cons (vc_22 hst C S hRm hB hk) (
      v_sw_cons (vc_23 hst C S hRm hB hk) (
      v_sw_cons (vc_24 hst C S hRm hB hk) (
      v_sw_cons (vc_25 hst C S hRm hB hk) (
      v_sw_cons (vc_26 hst C S hRm hB hk) (
      v_sw_cons (vc_27 hst C S hRm hB hk) (
      v_sw_nil))))))))))))))))))))))))))))
noncomputable def fLaw (L : Nat) (xs : Nat → Int32) (P : Shp) (n : Nat) (s : St) : Option Unit :=
  mkO P n s 7 fun P n x s => cl (fX7_init P n s x) fun (P, n, s) => mkO P n s 8 fun P n m s => cl (fX8_init P n s m) fun (P, n, s) => mkA P n s 11 1 fun P n o s => fLoop P L xs x m o 513 0 s
theorem v_law {X : Cxt} {w : Wd} {ret : Option FieldType} {b L : Nat} {xs : Nat → Int32} (hst : X.2.1.stackTraces = false) (C : Cok X w cL_law 9 RL ret) (S : LX X w b L xs) (hRm : X.2.2.2.1 = room_1)
    (hE : ∀ (P : Shp) (n cells slots : Nat) (s : St) (lv : List (Nat × Value)), cells ≤ 601024 → slots ≤ 7293034 → V X w 9 P n cells slots () (some ()) s 1703 lv []) (P : Shp) (n : Nat) (s : St) : V X w 9 P n 0 0 () (fLaw L xs P n s) s 0 [(0, A w (-101))] [] := by
  unfold fLaw
  refine v_new C (ci := 7) rfl inB7 (by decide) tyX7_ok dfX7 tw_23 tw_24 tw_1 (by rw [hRm]; exact (Nat.le_of_ble_eq_true rfl)) (by rw [hRm]; exact (Nat.le_of_ble_eq_true rfl)) dL_law_0 (fun P n x s1 => ?_)
  refine v_dup C dL_law_3 rfl ?_
  refine v_callN C (rm := rX7_init) [] [A w x] (fun x h => kX7_init X.2.1 w _ _ h) rfl tw_27 tw_1 hX7_init rfl rfl hRm (Nat.le_of_ble_eq_true rfl) (Nat.le_of_ble_eq_true rfl) tw_25 tw_26 rfl rfl (Nat.le_of_ble_eq_true rfl) ⟨(Nat.le_of_ble_eq_true rfl), (Nat.le_of_ble_eq_true rfl)⟩ dL_law_4 (fun P n s2 => ?_)
  refine v_astore_n C [(1, A w x), (0, A w (-101))] dL_law_7 rfl (by decide) rfl ?_
  refine v_new C (ci := 8) rfl inB8 (by decide) tyX8_ok dfX8 tw_1068 tw_1069 tw_9 (by rw [hRm]; exact (Nat.le_of_ble_eq_true rfl)) (by rw [hRm]; exact (Nat.le_of_ble_eq_true rfl)) dL_law_8 (fun P n m s3 => ?_)
  refine v_dup C dL_law_11 rfl ?_
  refine v_callN C (rm := rX8_init) [] [A w m] (fun x h => kX8_init X.2.1 w _ _ h) rfl tw_1072 tw_9 hX8_init rfl rfl hRm (Nat.le_of_ble_eq_true rfl) (Nat.le_of_ble_eq_true rfl) tw_1070 tw_1071 rfl rfl (Nat.le_of_ble_eq_true rfl) ⟨(Nat.le_of_ble_eq_true rfl), (Nat.le_of_ble_eq_true rfl)⟩ dL_law_12 (fun P n s4 => ?_)
  refine v_astore_n C [(2, A w m), (1, A w x), (0, A w (-101))] dL_law_15 rfl (by decide) rfl ?_
  refine v_iconst C dL_law_16 ?_
  refine v_newa11 C tw_185 (by decide) (by rw [hRm]; exact (Nat.le_of_ble_eq_true rfl)) (by rw [hRm]; exact (Nat.le_of_ble_eq_true rfl)) dL_law_17 (fun P n o s5 => ?_)
  refine v_astore_n C [(3, A w o), (2, A w m), (1, A w x), (0, A w (-101))] dL_law_19 rfl (by decide) rfl ?_
  refine v_iconst C dL_law_20 ?_
  refine v_istore C [(4, I 0), (3, A w o), (2, A w m), (1, A w x), (0, A w (-101))] dL_law_21 (by decide) rfl ?_
  refine v_sub [(0, A w (-101)), (1, A w x), (2, A w m), (3, A w o), (4, I 0)] [4, 3, 2, 1, 0] rfl ?_
  exact v_loop hst C S hRm (fun n cells slots s i h1 h2 => hE P n cells slots s _ h1 h2) 513 n _ _ s5 0 (Nat.le_of_ble_eq_true rfl) (Nat.le_of_ble_eq_true rfl)
