/-! THE STREAMS' LINES. -/
section ZQ6
variable {P P' P1 P2 : Shp} {n n' n1 n2 c r k : Nat} {σ σ' σ1 σ2 s : St} {z m v a i x b c0 c2 c3 c4 : Int} {T A : List Int} {cap l L : Nat} {xs : Nat → Int32}
set_option maxHeartbeats 4000000 in
theorem bg282 (hL : L ≤ 260) (h2 : 1 ≤ c2 ∧ c2 ≤ 4) (h4 : 10 ≤ c4 ∧ c4 ≤ 39) : ∀ (r : Nat) (k : Nat) (m : Nat) (P : Shp) (n c : Nat) (σ : St) (T : List Int), SBP P n σ z T (T.length : Int) → (k : Int) + (r : Int) = c3 → c3 ≤ 5 → r < m → (T.length : Int) + 19 * (r : Int) ≤ 300 → c + 9 * r ≤ 990 →
    ∃ P' n' σ', (∀ kE, fL_begins_L282 L xs c0 c2 c3 c4 z kE m (k : Int) P n c σ = kE P' n' (c + 9 * r) σ') ∧ SBP P' n' σ' z (T ++ segL (strT L xs c2 c4) k r) ((T ++ segL (strT L xs c2 c4) k r).length : Int) ∧ BFr P n σ P' n' σ' ∧ ((T ++ segL (strT L xs c2 c4) k r).length : Int) ≤ (T.length : Int) + 19 * (r : Int) := by
  intro r
  induction r with
  | zero =>
    intro k m P n c σ T S hp h5 hm hl hc
    obtain ⟨m, rfl⟩ : ∃ q, m = q + 1 := ⟨m - 1, by omega⟩
    have c1 : c3 ≤ (k : Int) := by push_cast at hp; omega
    refine ⟨P, n, σ, fun kE => ?_, ?_, BFr.rf, ?_⟩
    · simp (disch := first | omega | assumption | with_reducible rfl | fail) only [fL_begins_L282, ↓z_lt, ↓z_ge, ↓z_gt, ↓z_le, ↓z_eq, ↓z_ne, ↓z_mx, ↓z_mn, ↓z_dv, ↓z_rm, ↓z_i2l, ↓z_lc, ↓z_sw, ↓z_sf, ↓z_sn, ↓z_bd, ↓z_nt, z_b0, z_b1, z_bi, z_bj, ↓z_gF, ↓z_gR, ↓z_pF, ↓z_pZ, ↓z_pR, ↓z_aI, ↓z_aR, ↓z_sI, ↓z_sZ, ↓z_on, z_cl, ↓reduceIte, Int.reduceEq, Int.reduceNeg, Int.reduceLT, Int.reduceLE, Int.reduceAdd, Int.reduceSub, Int.reduceMul, true_and, and_true, or_true, true_or, eq_self, c1, iR_t, Nat.mul_zero, Nat.add_zero]
    · simp only [segL, List.append_nil]; exact S
    · simp only [segL, List.append_nil]; push_cast; omega
  | succ r ih =>
    intro k m P n c σ T S hp h5 hm hl hc
    obtain ⟨m, rfl⟩ : ∃ q, m = q + 1 := ⟨m - 1, by omega⟩
    push_cast at hp hl
    have li := ltAll
    have va := pkV_in (L := L) (xs := xs) (a := 30 + (k : Int)) (x := c2) (by omega)
    have vb := pkV_in (L := L) (xs := xs) (a := 35 + (k : Int)) (x := c4 - 1) (by omega)
    have vc := pkV_in (L := L) (xs := xs) (a := 40 + (k : Int)) (x := 60) (by omega)
    obtain ⟨P1, n1, σ1, e1, S1, F1⟩ := sb_str S li.2.2.2.2.2.2.2.1 (by omega)
    have l1 := app_len (A := T) (B := litT (-23))
    rw [ll23] at l1
    obtain ⟨P2, n2, σ2, e2, S2, F2⟩ := sb_chr (c := 97 + (k : Int)) S1 (by omega) (by omega) (by omega)
    have l2 := app_len (A := T ++ litT (-23)) (B := [97 + (k : Int)])
    simp only [List.length_singleton] at l2
    generalize hT2 : T ++ litT (-23) ++ [97 + (k : Int)] = T2 at S2 l2
    have z2 : (T2.length : Int) = (T.length : Int) + 9 := by push_cast at l1 l2; omega
    obtain ⟨P3, n3, σ3, e3, S3, F3⟩ := sb_str S2 li.2.2.2.2.2.2.2.2.1 (by omega)
    have l3 := app_len (A := T2) (B := litT (-24))
    rw [ll24] at l3
    have ea := pick_v (P := P3) (σ := σ3) (xs := xs) hL (show 0 ≤ 30 + (k : Int) by omega) (show 30 + (k : Int) < 1000 by omega) (x := c2) (by omega) (by omega)
    obtain ⟨P4, n4, σ4, e4, S4, F4⟩ := sb_chr (c := 97 + pkV L xs (30 + (k : Int)) c2) S3 (by omega) (by omega) (by push_cast at l3; omega)
    have l4 := app_len (A := T2 ++ litT (-24)) (B := [97 + pkV L xs (30 + (k : Int)) c2])
    simp only [List.length_singleton] at l4
    generalize hT4 : T2 ++ litT (-24) ++ [97 + pkV L xs (30 + (k : Int)) c2] = T4 at S4 l4
    have z4 : (T4.length : Int) = (T.length : Int) + 12 := by push_cast at l3 l4; omega
    obtain ⟨P5, n5, σ5, e5, S5, F5⟩ := sb_str S4 li.2.2.2.1 (by omega)
    have l5 := app_len (A := T4) (B := litT (-15))
    rw [ll15] at l5
    have eb := pick_v (P := P5) (σ := σ5) (xs := xs) hL (show 0 ≤ 35 + (k : Int) by omega) (show 35 + (k : Int) < 1000 by omega) (x := c4 - 1) (by omega) (by omega)
    obtain ⟨P6, n6, σ6, e6, S6, F6⟩ := sb_num (v := 2 + pkV L xs (35 + (k : Int)) (c4 - 1)) S5 (by omega) (by omega) (by push_cast at l5; omega)
    have l6 := app_len (A := T4 ++ litT (-15)) (B := numT (2 + pkV L xs (35 + (k : Int)) (c4 - 1)))
    have q6 := num_len (v := 2 + pkV L xs (35 + (k : Int)) (c4 - 1)) (by omega) (by omega)
    generalize hT6 : T4 ++ litT (-15) ++ numT (2 + pkV L xs (35 + (k : Int)) (c4 - 1)) = T6 at S6 l6
    have z6 : (T6.length : Int) ≤ (T.length : Int) + 15 := by push_cast at l5 l6; omega
    obtain ⟨P7, n7, σ7, e7, S7, F7⟩ := sb_str S6 li.2.2.2.1 (by omega)
    have l7 := app_len (A := T6) (B := litT (-15))
    rw [ll15] at l7
    have ec := pick_v (P := P7) (σ := σ7) (xs := xs) hL (show 0 ≤ 40 + (k : Int) by omega) (show 40 + (k : Int) < 1000 by omega) (x := 60) (by omega) (by omega)
    obtain ⟨P8, n8, σ8, e8, S8, F8⟩ := sb_num (v := 1 + pkV L xs (40 + (k : Int)) 60) S7 (by omega) (by omega) (by push_cast at l7; omega)
    have l8 := app_len (A := T6 ++ litT (-15)) (B := numT (1 + pkV L xs (40 + (k : Int)) 60))
    have q8 := num_len (v := 1 + pkV L xs (40 + (k : Int)) 60) (by omega) (by omega)
    generalize hT8 : T6 ++ litT (-15) ++ numT (1 + pkV L xs (40 + (k : Int)) 60) = T8 at S8 l8
    have z8 : (T8.length : Int) ≤ (T.length : Int) + 18 := by push_cast at l7 l8; omega
    obtain ⟨P9, n9, σ9, e9, S9, F9⟩ := sb_str S8 li.2.2.2.2.1 (by omega)
    have l9 := app_len (A := T8) (B := litT (-20))
    rw [ll20] at l9
    generalize hT9 : T8 ++ litT (-20) = T9 at S9 l9
    have z9 : (T9.length : Int) ≤ (T.length : Int) + 19 := by push_cast at l9; omega
    obtain ⟨PA, nA', σA, eA, SA, FA, lA⟩ := ih (k + 1) m P9 n9 (c + 9) σ9 T9 S9 (by push_cast; omega) h5 (by omega) (by omega) (by omega)
    have es : T ++ segL (strT L xs c2 c4) k (r + 1) = T9 ++ segL (strT L xs c2 c4) (k + 1) r := by
      rw [← hT9, ← hT8, ← hT6, ← hT4, ← hT2, segL]
      unfold strT
      simp only [List.append_assoc]
    have ic := i2c_i (x := 97 + (k : Int)) (by omega) (by omega)
    have id := i2c_i (x := 97 + pkV L xs (30 + (k : Int)) c2) (by omega) (by omega)
    have c1 : ¬ (c3 ≤ (k : Int)) := by omega
    have o0 := S.oz
    have o1 := S1.oz
    have o2 := S2.oz
    have o3 := S3.oz
    have o4 := S4.oz
    have o5 := S5.oz
    have o6 := S6.oz
    have o7 := S7.oz
    have o8 := S8.oz
    refine ⟨PA, nA', σA, fun kE => ?_, by rw [es]; exact SA, (((((((((F1.tr F2).tr F3).tr F4).tr F5).tr F6).tr F7).tr F8).tr F9).tr FA), by rw [es]; push_cast; omega⟩
    rw [show c + 9 * (r + 1) = c + 9 + 9 * r by omega, ← eA kE]
    simp (disch := first | with_reducible rfl | assumption | omega | fail) only [fL_begins_L282, ↓z_lt, ↓z_ge, ↓z_gt, ↓z_le, ↓z_eq, ↓z_ne, ↓z_mx, ↓z_mn, ↓z_dv, ↓z_rm, ↓z_i2l, ↓z_lc, ↓z_sw, ↓z_sf, ↓z_sn, ↓z_bd, ↓z_nt, z_b0, z_b1, z_bi, z_bj, ↓z_gF, ↓z_gR, ↓z_pF, ↓z_pZ, ↓z_pR, ↓z_aI, ↓z_aR, ↓z_sI, ↓z_sZ, ↓z_on, z_cl, ↓reduceIte, Int.reduceEq, Int.reduceNeg, Int.reduceLT, Int.reduceLE, Int.reduceAdd, Int.reduceSub, Int.reduceMul, true_and, and_true, or_true, true_or, eq_self, ↓bud_t, c1, iR_t, ↓e_g e1, ic, ↓e_g e2, ↓e_g e3, ↓e_g ea, id, ↓e_g e4, ↓e_g e5, ↓e_g eb, ↓e_g e6, ↓e_g e7, ↓e_g ec, ↓e_g e8, ↓e_g e9, o0, o1, o2, o3, o4, o5, o6, o7, o8]
    rfl
end ZQ6
