/-! THE DEVICES' LINES. -/
noncomputable def dvE (L : Nat) (xs : Nat → Int32) (c0 c2 c3 c4 c5 : Int) (kE279 : Shp → Nat → Nat → St → Option (Hr)) (m : Nat) (p6 : Int) (P48 : Shp) (n48 c48 : Nat) (s48 : St) : Option Hr :=
  bud (c48 + 1) <|
  onO P48 8 c5 <| cl (fJ4_append_15ec4 P48 n48 s48 c5 ((-20))) fun (x50, P49, n49, s49) =>
  bd (p6 + 1) fun x51 =>
  fL_begins_L188 L xs c0 c2 c3 c4 c5 kE279 m x51 P49 n49 (c48 + 1) s49
noncomputable def dvG (L : Nat) (xs : Nat → Int32) (c0 c2 c3 c4 c5 : Int) (kE279 : Shp → Nat → Nat → St → Option (Hr)) (m : Nat) (p6 : Int) (P46 : Shp) (n46 c : Nat) (s46 : St) : Option Hr :=
  bud (c + 1) <|
  onO P46 8 c5 <| cl (fJ4_append_15ec4 P46 n46 s46 c5 ((-22))) fun (x54, P53, n53, s53) =>
  bud (c + 1) <|
  cl (fL_pick L xs P53 s53 (26 + p6) p6) fun x55 =>
  bud (c + 2) <|
  onO P53 8 x54 <| cl (fJ4_append_cf468 P53 n53 s53 x54 (i2c (97 + x55))) fun (x57, P56, n56, s56) =>
  dvE L xs c0 c2 c3 c4 c5 kE279 m p6 P56 n56 (c + 2) s56
noncomputable def dvH (L : Nat) (xs : Nat → Int32) (c0 c2 c3 c4 c5 : Int) (kE279 : Shp → Nat → Nat → St → Option (Hr)) (m : Nat) (p6 : Int) (P46 : Shp) (n46 c : Nat) (s46 : St) : Option Hr :=
  jle p6 0
    (dvE L xs c0 c2 c3 c4 c5 kE279 m p6 P46 n46 c s46)
    (
      bud c <|
      cl (fL_pick L xs P46 s46 (22 + p6) 3) fun x52 =>
      jle x52 0
        (dvE L xs c0 c2 c3 c4 c5 kE279 m p6 P46 n46 c s46)
        (dvG L xs c0 c2 c3 c4 c5 kE279 m p6 P46 n46 c s46))
theorem L188_eq {L : Nat} {xs : Nat → Int32} {c0 c2 c3 c4 c5 : Int} {kE279 : Shp → Nat → Nat → St → Option (Hr)} {m : Nat} {p6 : Int} {P : Shp} {n c : Nat} {s : St} : fL_begins_L188 L xs c0 c2 c3 c4 c5 kE279 (m + 1) p6 P n c s =
    jge p6 c2
      (kE279 P n c s)
      (
        bud (c + 1) <|
        onO P 8 c5 <| cl (fJ4_append_15ec4 P n s c5 ((-21))) fun (x41, P40, n40, s40) =>
        bud (c + 2) <|
        onO P40 8 x41 <| cl (fJ4_append_cf468 P40 n40 s40 x41 (i2c (97 + p6))) fun (x43, P42, n42, s42) =>
        bud (c + 3) <|
        onO P42 8 x43 <| cl (fJ4_append_15ec4 P42 n42 s42 x43 ((-15))) fun (x45, P44, n44, s44) =>
        bud (c + 4) <|
        onO P44 8 x45 <| cl (fJ4_append_bf812 P44 n44 s44 x45 p6) fun (x47, P46, n46, s46) =>
        dvH L xs c0 c2 c3 c4 c5 kE279 m p6 P46 n46 (c + 4) s46) := rfl
section ZQ5b
variable {P P' P1 P2 : Shp} {n n' n1 n2 c r k : Nat} {σ σ' σ1 σ2 s : St} {z m v a i x b c0 c2 c3 c4 : Int} {T A : List Int} {cap l L : Nat} {xs : Nat → Int32}
theorem bg188 (hL : L ≤ 260) (h2 : c2 ≤ 4) : ∀ (r : Nat) (k : Nat) (m : Nat) (P : Shp) (n c : Nat) (σ : St) (T : List Int), SBP P n σ z T (T.length : Int) → (k : Int) + (r : Int) = c2 → r < m → (T.length : Int) + 20 * (r : Int) ≤ 280 → c + 7 * r ≤ 990 →
    ∃ P' n' c' σ', (∀ kE, fL_begins_L188 L xs c0 c2 c3 c4 z kE m (k : Int) P n c σ = kE P' n' c' σ') ∧ SBP P' n' σ' z (T ++ segL (devT L xs) k r) ((T ++ segL (devT L xs) k r).length : Int) ∧ BFr P n σ P' n' σ' ∧ ((T ++ segL (devT L xs) k r).length : Int) ≤ (T.length : Int) + 20 * (r : Int) ∧ c' ≤ c + 7 * r := by
  intro r
  induction r with
  | zero =>
    intro k m P n c σ T S hp hm hl hc
    obtain ⟨m, rfl⟩ : ∃ q, m = q + 1 := ⟨m - 1, by omega⟩
    have c1 : c2 ≤ (k : Int) := by push_cast at hp; omega
    refine ⟨P, n, c, σ, fun kE => ?_, ?_, BFr.rf, ?_, by omega⟩
    · rw [L188_eq]
      simp (disch := first | omega | assumption | with_reducible rfl | fail) only [↓z_lt, ↓z_ge, ↓z_gt, ↓z_le, ↓z_eq, ↓z_ne, ↓z_mx, ↓z_mn, ↓z_dv, ↓z_rm, ↓z_i2l, ↓z_lc, ↓z_sw, ↓z_sf, ↓z_sn, ↓z_bd, ↓z_nt, z_b0, z_b1, z_bi, z_bj, ↓z_gF, ↓z_gR, ↓z_pF, ↓z_pZ, ↓z_pR, ↓z_aI, ↓z_aR, ↓z_sI, ↓z_sZ, ↓z_on, z_cl, ↓reduceIte, Int.reduceEq, Int.reduceNeg, Int.reduceLT, Int.reduceLE, Int.reduceAdd, Int.reduceSub, Int.reduceMul, true_and, and_true, or_true, true_or, eq_self, c1, iR_t]
    · simp only [segL, List.append_nil]; exact S
    · simp only [segL, List.append_nil]; push_cast; omega
  | succ r ih =>
    intro k m P n c σ T S hp hm hl hc
    obtain ⟨m, rfl⟩ : ∃ q, m = q + 1 := ⟨m - 1, by omega⟩
    push_cast at hp hl
    have li := ltAll
    obtain ⟨P1, n1, σ1, e1, S1, F1⟩ := sb_str S li.2.2.2.2.2.1 (by omega)
    have l1 := app_len (A := T) (B := litT (-21))
    rw [ll21] at l1
    obtain ⟨P2, n2, σ2, e2, S2, F2⟩ := sb_chr (c := 97 + (k : Int)) S1 (by omega) (by omega) (by omega)
    have l2 := app_len (A := T ++ litT (-21)) (B := [97 + (k : Int)])
    simp only [List.length_singleton] at l2
    obtain ⟨P3, n3, σ3, e3, S3, F3⟩ := sb_str S2 li.2.2.2.1 (by omega)
    have l3 := app_len (A := T ++ litT (-21) ++ [97 + (k : Int)]) (B := litT (-15))
    rw [ll15] at l3
    obtain ⟨P4, n4, σ4, e4, S4, F4⟩ := sb_num (v := (k : Int)) S3 (by omega) (by omega) (by omega)
    have l4 := app_len (A := T ++ litT (-21) ++ [97 + (k : Int)] ++ litT (-15)) (B := numT (k : Int))
    have q4 : ((numT (k : Int)).length : Int) ≤ 1 := by unfold numT; rw [if_pos (by omega)]; exact Int.le_refl _
    generalize hT4 : T ++ litT (-21) ++ [97 + (k : Int)] ++ litT (-15) ++ numT (k : Int) = T4 at S4 l4
    have hz4 : (T4.length : Int) ≤ (T.length : Int) + 11 := by push_cast at l1 l2 l3 l4; omega
    have ic := i2c_i (x := 97 + (k : Int)) (by omega) (by omega)
    have c1 : ¬ (c2 ≤ (k : Int)) := by omega
    have o0 := S.oz
    have o1 := S1.oz
    have o2 := S2.oz
    have o3 := S3.oz
    have o4 := S4.oz
    have h0 : ∀ kE, fL_begins_L188 L xs c0 c2 c3 c4 z kE (m + 1) (k : Int) P n c σ = dvH L xs c0 c2 c3 c4 z kE m (k : Int) P4 n4 (c + 4) σ4 := fun kE => by
      rw [L188_eq]
      simp (disch := first | omega | assumption | with_reducible rfl | fail) only [↓z_lt, ↓z_ge, ↓z_gt, ↓z_le, ↓z_eq, ↓z_ne, ↓z_mx, ↓z_mn, ↓z_dv, ↓z_rm, ↓z_i2l, ↓z_lc, ↓z_sw, ↓z_sf, ↓z_sn, ↓z_bd, ↓z_nt, z_b0, z_b1, z_bi, z_bj, ↓z_gF, ↓z_gR, ↓z_pF, ↓z_pZ, ↓z_pR, ↓z_aI, ↓z_aR, ↓z_sI, ↓z_sZ, ↓z_on, z_cl, ↓reduceIte, Int.reduceEq, Int.reduceNeg, Int.reduceLT, Int.reduceLE, Int.reduceAdd, Int.reduceSub, Int.reduceMul, true_and, and_true, or_true, true_or, eq_self, ↓bud_t, c1, iR_t, ↓e_g e1, ic, ↓e_g e2, ↓e_g e3, ↓e_g e4, o0, o1, o2, o3]
    have fin : ∀ (P5 : Shp) (n5 c5 : Nat) (σ5 : St) (T5 : List Int), T5 = T4 ++ heiT L xs k → SBP P5 n5 σ5 z T5 (T5.length : Int) → BFr P4 n4 σ4 P5 n5 σ5 → (T5.length : Int) ≤ (T.length : Int) + 19 → c5 ≤ c + 6 → (∀ kE, fL_begins_L188 L xs c0 c2 c3 c4 z kE (m + 1) (k : Int) P n c σ = dvE L xs c0 c2 c3 c4 z kE m (k : Int) P5 n5 c5 σ5) → ∃ P' n' c' σ', (∀ kE, fL_begins_L188 L xs c0 c2 c3 c4 z kE (m + 1) (k : Int) P n c σ = kE P' n' c' σ') ∧ SBP P' n' σ' z (T ++ segL (devT L xs) k (r + 1)) ((T ++ segL (devT L xs) k (r + 1)).length : Int) ∧ BFr P n σ P' n' σ' ∧ ((T ++ segL (devT L xs) k (r + 1)).length : Int) ≤ (T.length : Int) + 20 * ((r + 1 : Nat) : Int) ∧ c' ≤ c + 7 * (r + 1) := by
      intro P5 n5 c5 σ5 T5 hT5 S5 F5 z5 k5 hx
      obtain ⟨P8, n8, σ8, e8, S8, F8⟩ := sb_str S5 li.2.2.2.2.1 (by omega)
      have l8 := app_len (A := T5) (B := litT (-20))
      rw [ll20] at l8
      obtain ⟨P9, n9, c9, σ9, e9, S9, F9, l9, k9⟩ := ih (k + 1) m P8 n8 (c5 + 1) σ8 (T5 ++ litT (-20)) S8 (by push_cast; omega) (by omega) (by push_cast at l8; omega) (by omega)
      have es : T ++ segL (devT L xs) k (r + 1) = T5 ++ litT (-20) ++ segL (devT L xs) (k + 1) r := by
        rw [hT5, ← hT4, segL]
        unfold devT
        simp only [List.append_assoc]
      have o5 := S5.oz
      refine ⟨P9, n9, c9, σ9, fun kE => ?_, by rw [es]; exact S9, (((((F1.tr F2).tr F3).tr F4).tr F5).tr F8).tr F9, by rw [es]; push_cast at l8 ⊢; omega, by omega⟩
      rw [hx kE, ← e9 kE]
      simp (disch := first | omega | assumption | with_reducible rfl | fail) only [dvE, ↓z_lt, ↓z_ge, ↓z_gt, ↓z_le, ↓z_eq, ↓z_ne, ↓z_mx, ↓z_mn, ↓z_dv, ↓z_rm, ↓z_i2l, ↓z_lc, ↓z_sw, ↓z_sf, ↓z_sn, ↓z_bd, ↓z_nt, z_b0, z_b1, z_bi, z_bj, ↓z_gF, ↓z_gR, ↓z_pF, ↓z_pZ, ↓z_pR, ↓z_aI, ↓z_aR, ↓z_sI, ↓z_sZ, ↓z_on, z_cl, ↓reduceIte, Int.reduceEq, Int.reduceNeg, Int.reduceLT, Int.reduceLE, Int.reduceAdd, Int.reduceSub, Int.reduceMul, true_and, and_true, or_true, true_or, eq_self, ↓bud_t, ↓e_g e8, o5]
      rfl
    by_cases ck : (k : Int) ≤ 0
    · refine fin P4 n4 (c + 4) σ4 T4 ?_ S4 BFr.rf (by omega) (by omega) fun kE => ?_
      · unfold heiT; rw [if_neg (by omega), List.append_nil]
      · rw [h0 kE]
        simp (disch := first | omega | assumption | with_reducible rfl | fail) only [dvH, ↓z_lt, ↓z_ge, ↓z_gt, ↓z_le, ↓z_eq, ↓z_ne, ↓z_mx, ↓z_mn, ↓z_dv, ↓z_rm, ↓z_i2l, ↓z_lc, ↓z_sw, ↓z_sf, ↓z_sn, ↓z_bd, ↓z_nt, z_b0, z_b1, z_bi, z_bj, ↓z_gF, ↓z_gR, ↓z_pF, ↓z_pZ, ↓z_pR, ↓z_aI, ↓z_aR, ↓z_sI, ↓z_sZ, ↓z_on, z_cl, ↓reduceIte, Int.reduceEq, Int.reduceNeg, Int.reduceLT, Int.reduceLE, Int.reduceAdd, Int.reduceSub, Int.reduceMul, true_and, and_true, or_true, true_or, eq_self, iR_t, ck]
    · have ea := pick_v (P := P4) (σ := σ4) (xs := xs) hL (show 0 ≤ 22 + (k : Int) by omega) (show 22 + (k : Int) < 1000 by omega) (x := 3) (by omega) (by omega)
      have va := pkV_in (L := L) (xs := xs) (a := 22 + (k : Int)) (x := 3) (by omega)
      have vaR : iR (pkV L xs (22 + (k : Int)) 3) = true := iR_t (by omega) (by omega)
      by_cases ch : pkV L xs (22 + (k : Int)) 3 ≤ 0
      · refine fin P4 n4 (c + 4) σ4 T4 ?_ S4 BFr.rf (by omega) (by omega) fun kE => ?_
        · unfold heiT; rw [if_neg (by omega), List.append_nil]
        · rw [h0 kE]
          simp (disch := first | omega | assumption | with_reducible rfl | fail) only [dvH, ↓z_lt, ↓z_ge, ↓z_gt, ↓z_le, ↓z_eq, ↓z_ne, ↓z_mx, ↓z_mn, ↓z_dv, ↓z_rm, ↓z_i2l, ↓z_lc, ↓z_sw, ↓z_sf, ↓z_sn, ↓z_bd, ↓z_nt, z_b0, z_b1, z_bi, z_bj, ↓z_gF, ↓z_gR, ↓z_pF, ↓z_pZ, ↓z_pR, ↓z_aI, ↓z_aR, ↓z_sI, ↓z_sZ, ↓z_on, z_cl, ↓reduceIte, Int.reduceEq, Int.reduceNeg, Int.reduceLT, Int.reduceLE, Int.reduceAdd, Int.reduceSub, Int.reduceMul, true_and, and_true, or_true, true_or, eq_self, ↓bud_t, iR_t, ck, ↓e_g ea, vaR, ch]
      · obtain ⟨P5, n5, σ5, e5, S5, F5⟩ := sb_str S4 li.2.2.2.2.2.2.1 (by omega)
        have l5 := app_len (A := T4) (B := litT (-22))
        rw [ll22] at l5
        have vb := pkV_in (L := L) (xs := xs) (a := 26 + (k : Int)) (x := (k : Int)) (by omega)
        have eb := pick_v (P := P5) (σ := σ5) (xs := xs) hL (show 0 ≤ 26 + (k : Int) by omega) (show 26 + (k : Int) < 1000 by omega) (x := (k : Int)) (by omega) (by omega)
        have id := i2c_i (x := 97 + pkV L xs (26 + (k : Int)) (k : Int)) (by omega) (by omega)
        obtain ⟨P6, n6, σ6, e6, S6, F6⟩ := sb_chr (c := 97 + pkV L xs (26 + (k : Int)) (k : Int)) S5 (by omega) (by omega) (by push_cast at l5; omega)
        have l6 := app_len (A := T4 ++ litT (-22)) (B := [97 + pkV L xs (26 + (k : Int)) (k : Int)])
        simp only [List.length_singleton] at l6
        have o5 := S5.oz
        refine fin P6 n6 (c + 6) σ6 _ ?_ S6 (F5.tr F6) (by push_cast at l5 l6; omega) (by omega) fun kE => ?_
        · unfold heiT; rw [if_pos (by omega), List.append_assoc]
        · rw [h0 kE]
          simp (disch := first | omega | assumption | with_reducible rfl | fail) only [dvH, dvG, ↓z_lt, ↓z_ge, ↓z_gt, ↓z_le, ↓z_eq, ↓z_ne, ↓z_mx, ↓z_mn, ↓z_dv, ↓z_rm, ↓z_i2l, ↓z_lc, ↓z_sw, ↓z_sf, ↓z_sn, ↓z_bd, ↓z_nt, z_b0, z_b1, z_bi, z_bj, ↓z_gF, ↓z_gR, ↓z_pF, ↓z_pZ, ↓z_pR, ↓z_aI, ↓z_aR, ↓z_sI, ↓z_sZ, ↓z_on, z_cl, ↓reduceIte, Int.reduceEq, Int.reduceNeg, Int.reduceLT, Int.reduceLE, Int.reduceAdd, Int.reduceSub, Int.reduceMul, true_and, and_true, or_true, true_or, eq_self, ↓bud_t, iR_t, ck, ↓e_g ea, vaR, ch, ↓e_g e5, ↓e_g eb, id, ↓e_g e6, o4, o5]
end ZQ5b
