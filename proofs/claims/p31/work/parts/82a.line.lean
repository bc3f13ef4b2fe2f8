/-! THE LINES, each written. -/
section ZQ5
variable {P P' P1 P2 : Shp} {n n' n1 n2 c r k : Nat} {σ σ' σ1 σ2 s : St} {z m v a i x b c0 c2 c3 c4 : Int} {T A : List Int} {cap l L : Nat} {xs : Nat → Int32}
theorem app_len {A B : List Int} : (((A ++ B).length : Nat) : Int) = (A.length : Int) + (B.length : Int) := by rw [List.length_append]; push_cast; rfl
theorem num_len (h0 : 0 ≤ v) (h1 : v < 100) : ((numT v).length : Int) ≤ 2 := by have := num_in h0 h1; omega
theorem ltAll : isLit (-12) ∧ isLit (-13) ∧ isLit (-14) ∧ isLit (-15) ∧ isLit (-20) ∧ isLit (-21) ∧ isLit (-22) ∧ isLit (-23) ∧ isLit (-24) ∧ isLit (-25) ∧ isLit (-26) := by decide
theorem bg54 (hL : L ≤ 260) : ∀ (r : Nat) (k : Nat) (m : Nat) (P : Shp) (n c : Nat) (σ : St) (T : List Int), SBP P n σ z T (T.length : Int) → (k : Int) + (r : Int) = pkV L xs 3 3 + 1 → r < m → (T.length : Int) + 37 * (r : Int) ≤ 280 → c + 10 * r ≤ 990 →
    ∃ P' n' c' σ', (∀ kE, fL_begins_L54 L xs c0 c2 c3 c4 z kE m (k : Int) P n c σ = kE P' n' c' σ') ∧ SBP P' n' σ' z (T ++ segL (patT L xs) k r) ((T ++ segL (patT L xs) k r).length : Int) ∧ BFr P n σ P' n' σ' ∧ ((T ++ segL (patT L xs) k r).length : Int) ≤ (T.length : Int) + 37 * (r : Int) ∧ c' ≤ c + 10 * r := by
  intro r
  induction r with
  | zero =>
    intro k m P n c σ T S hp hm hl hc
    obtain ⟨m, rfl⟩ : ∃ q, m = q + 1 := ⟨m - 1, by omega⟩
    have v3 := pkV_in (L := L) (xs := xs) (a := 3) (x := 3) (by omega)
    have e := pick_v (P := P) (σ := σ) (xs := xs) hL (show (0 : Int) ≤ 3 by omega) (show (3 : Int) < 1000 by omega) (x := 3) (by omega) (by omega)
    have c1 : pkV L xs 3 3 < (k : Int) := by push_cast at hp; omega
    refine ⟨P, n, c, σ, fun kE => ?_, ?_, BFr.rf, ?_, by omega⟩
    · simp (disch := first | omega | assumption | with_reducible rfl | fail) only [fL_begins_L54, ↓z_lt, ↓z_ge, ↓z_gt, ↓z_le, ↓z_eq, ↓z_ne, ↓z_mx, ↓z_mn, ↓z_dv, ↓z_rm, ↓z_i2l, ↓z_lc, ↓z_sw, ↓z_sf, ↓z_sn, ↓z_bd, ↓z_nt, z_b0, z_b1, z_bi, z_bj, ↓z_gF, ↓z_gR, ↓z_pF, ↓z_pZ, ↓z_pR, ↓z_aI, ↓z_aR, ↓z_sI, ↓z_sZ, ↓z_on, z_cl, ↓reduceIte, Int.reduceEq, Int.reduceNeg, Int.reduceLT, Int.reduceLE, Int.reduceAdd, Int.reduceSub, Int.reduceMul, true_and, and_true, or_true, true_or, eq_self, ↓bud_t, ↓e_g e, c1, iR_t]
    · simp only [segL, List.append_nil]; exact S
    · simp only [segL, List.append_nil]; push_cast; omega
  | succ r ih =>
    intro k m P n c σ T S hp hm hl hc
    obtain ⟨m, rfl⟩ : ∃ q, m = q + 1 := ⟨m - 1, by omega⟩
    push_cast at hp hl
    have li := ltAll
    have v3 := pkV_in (L := L) (xs := xs) (a := 3) (x := 3) (by omega)
    have va := pkV_in (L := L) (xs := xs) (a := 4 + (k : Int)) (x := 9) (by omega)
    have vb := pkV_in (L := L) (xs := xs) (a := 7 + (k : Int)) (x := 20) (by omega)
    have vc := pkV_in (L := L) (xs := xs) (a := 10 + (k : Int)) (x := 3) (by omega)
    have e := pick_v (P := P) (σ := σ) (xs := xs) hL (show (0 : Int) ≤ 3 by omega) (show (3 : Int) < 1000 by omega) (x := 3) (by omega) (by omega)
    obtain ⟨P1, n1, σ1, e1, S1, F1⟩ := sb_str S li.2.2.1 (by omega)
    have l1 : (((T ++ litT (-14)).length : Nat) : Int) = (T.length : Int) + 9 := by rw [app_len, ll14]; rfl
    obtain ⟨P2, n2, σ2, e2, S2, F2⟩ := sb_chr (c := 97 + (k : Int)) S1 (by omega) (by omega) (by omega)
    have l2 : (((T ++ litT (-14) ++ [97 + (k : Int)]).length : Nat) : Int) = (T.length : Int) + 10 := by rw [app_len, l1]; simp only [List.length_singleton]; push_cast; omega
    obtain ⟨P3, n3, σ3, e3, S3, F3⟩ := sb_str S2 li.2.2.2.1 (by omega)
    have l3 := app_len (A := T ++ litT (-14) ++ [97 + (k : Int)]) (B := litT (-15))
    rw [l2, ll15] at l3
    have ea := pick_v (P := P3) (σ := σ3) (xs := xs) hL (show 0 ≤ 4 + (k : Int) by omega) (show 4 + (k : Int) < 1000 by omega) (x := 9) (by omega) (by omega)
    obtain ⟨P4, n4, σ4, e4, S4, F4⟩ := sb_num (v := 1 + pkV L xs (4 + (k : Int)) 9) S3 (by omega) (by omega) (by omega)
    have l4 := app_len (A := T ++ litT (-14) ++ [97 + (k : Int)] ++ litT (-15)) (B := numT (1 + pkV L xs (4 + (k : Int)) 9))
    have q4 : ((numT (1 + pkV L xs (4 + (k : Int)) 9)).length : Int) ≤ 1 := by unfold numT; rw [if_pos (by omega)]; exact Int.le_refl _
    obtain ⟨P5, n5, σ5, e5, S5, F5⟩ := sb_str S4 li.2.2.2.1 (by omega)
    have l5 := app_len (A := T ++ litT (-14) ++ [97 + (k : Int)] ++ litT (-15) ++ numT (1 + pkV L xs (4 + (k : Int)) 9)) (B := litT (-15))
    rw [ll15] at l5
    have eb := pick_v (P := P5) (σ := σ5) (xs := xs) hL (show 0 ≤ 7 + (k : Int) by omega) (show 7 + (k : Int) < 1000 by omega) (x := 20) (by omega) (by omega)
    obtain ⟨P6, n6, σ6, e6, S6, F6⟩ := sb_num (v := 5 + pkV L xs (7 + (k : Int)) 20) S5 (by omega) (by omega) (by omega)
    have l6 := app_len (A := T ++ litT (-14) ++ [97 + (k : Int)] ++ litT (-15) ++ numT (1 + pkV L xs (4 + (k : Int)) 9) ++ litT (-15)) (B := numT (5 + pkV L xs (7 + (k : Int)) 20))
    have q6 := num_len (v := 5 + pkV L xs (7 + (k : Int)) 20) (by omega) (by omega)
    generalize hT6 : T ++ litT (-14) ++ [97 + (k : Int)] ++ litT (-15) ++ numT (1 + pkV L xs (4 + (k : Int)) 9) ++ litT (-15) ++ numT (5 + pkV L xs (7 + (k : Int)) 20) = T6 at S6 l6
    have hz6 : (T6.length : Int) ≤ (T.length : Int) + 15 := by push_cast at l3 l4 l5 l6; omega
    have j0 : (0 : Int).toNat = 0 := rfl
    obtain ⟨P7, n7, σ7, e7, S7, F7, l7⟩ := bg126 (c0 := c0) (c2 := c2) (c3 := c3) (c4 := c4) (z := z) (xs := xs) hL (show k < 3 by omega) (pkV L xs (10 + (k : Int)) 3 + 1).toNat 0 1000 P6 n6 (c + 6) σ6 T6 S6 (Int.le_refl _) (by omega) (by omega) (by omega) (by omega)
    rw [j0] at S7 l7
    obtain ⟨P8, n8, σ8, e8, S8, F8⟩ := sb_str S7 li.2.2.2.2.1 (by omega)
    have l8 := app_len (A := T6 ++ segL (kdL L xs k) 0 (pkV L xs (10 + (k : Int)) 3 + 1).toNat) (B := litT (-20))
    rw [ll20] at l8
    generalize hT8 : T6 ++ segL (kdL L xs k) 0 (pkV L xs (10 + (k : Int)) 3 + 1).toNat ++ litT (-20) = T8 at S8 l8
    have hz8 : (T8.length : Int) ≤ (T.length : Int) + 37 := by push_cast at l7 l8; omega
    obtain ⟨P9, n9, c9, σ9, e9, S9, F9, l9, k9⟩ := ih (k + 1) m P8 n8 (c + 6 + (pkV L xs (10 + (k : Int)) 3 + 1).toNat + 1) σ8 T8 S8 (by push_cast; omega) (by omega) (by push_cast at hl ⊢; omega) (by omega)
    have es : T ++ segL (patT L xs) k (r + 1) = T8 ++ segL (patT L xs) (k + 1) r := by
      rw [← hT8, ← hT6, segL]
      unfold patT
      simp only [List.append_assoc]
    have ic := i2c_i (x := 97 + (k : Int)) (by omega) (by omega)
    have c1 : ¬ (pkV L xs 3 3 < (k : Int)) := by omega
    have o0 := S.oz
    have o1 := S1.oz
    have o2 := S2.oz
    have o3 := S3.oz
    have o4 := S4.oz
    have o5 := S5.oz
    have o7 := S7.oz
    refine ⟨P9, n9, c9, σ9, fun kE => ?_, by rw [es]; exact S9, ((((((((F1.tr F2).tr F3).tr F4).tr F5).tr F6).tr F7).tr F8).tr F9), by rw [es]; push_cast; omega, by omega⟩
    rw [← e9 kE]
    simp (disch := first | omega | assumption | with_reducible rfl | fail) only [fL_begins_L54, ↓z_lt, ↓z_ge, ↓z_gt, ↓z_le, ↓z_eq, ↓z_ne, ↓z_mx, ↓z_mn, ↓z_dv, ↓z_rm, ↓z_i2l, ↓z_lc, ↓z_sw, ↓z_sf, ↓z_sn, ↓z_bd, ↓z_nt, z_b0, z_b1, z_bi, z_bj, ↓z_gF, ↓z_gR, ↓z_pF, ↓z_pZ, ↓z_pR, ↓z_aI, ↓z_aR, ↓z_sI, ↓z_sZ, ↓z_on, z_cl, ↓reduceIte, Int.reduceEq, Int.reduceNeg, Int.reduceLT, Int.reduceLE, Int.reduceAdd, Int.reduceSub, Int.reduceMul, true_and, and_true, or_true, true_or, eq_self, ↓bud_t, ↓e_g e, c1, iR_t, ↓e_g e1, ic, ↓e_g e2, ↓e_g e3, ↓e_g ea, ↓e_g e4, ↓e_g e5, ↓e_g eb, ↓e_g e6, ↓e7, ↓e_g e8, o0, o1, o2, o3, o4, o5, o7]
    rfl
end ZQ5
