/-! NUMBERS and semicolons on both sides. -/
section ZZI
variable {P : Shp} {σ σ' s τ τ' : St} {f g : Int → Int} {a b c d e k h i j x y z v w N tk ts q : Int} {n r : Nat}
theorem mlt_8 : mlt τ k 265 8 = k := by unfold mlt; rw [wr_i (by omega), wr_s]
theorem mlt_9 : mlt τ k 265 9 = τ 265 4 := by unfold mlt; rw [wr_s]
theorem mlt_o (h : d ≠ 265) : mlt τ k d = τ d := by unfold mlt; rw [wr_o h, wr_o h]
theorem mlt_j (h8 : j ≠ 8) (h9 : j ≠ 9) : mlt τ k 265 j = τ 265 j := by unfold mlt; rw [wr_i h9, wr_i h8]
theorem clt_8 : clt σ k 1 8 = k := by unfold clt; rw [wr_s]
theorem clt_7 : clt σ k 1 7 = σ 1 5 := by unfold clt; rw [wr_i (by omega), wr_s]
theorem clt_o (h : d ≠ 1) : clt σ k d = σ d := by unfold clt; rw [wr_o h, wr_o h]
theorem clt_j (h8 : j ≠ 8) (h7 : j ≠ 7) : clt σ k 1 j = σ 1 j := by unfold clt; rw [wr_i h8, wr_i h7]
theorem c_num1 (C : CT P σ f N e) (h : tT f N e = 2) (ha : iR a = true) (hb : iR b = true) (h1 : a ≤ tV f N e) (h2 : tV f N e ≤ b) : fX5_isNumberWithin P σ 1 a b = some (1, σ) := by
  have hv := tV_in C.e0 C.e1 h
  have v6 : σ 1 6 = tV f N e := C.vv (Or.inr h)
  have hl : iL (tV f N e) = true := iL_t (by omega) (by omega)
  have aR := iR_of ha
  have bR := iR_of hb
  have la : iL a = true := iL_t (by omega) (by omega)
  have lb : iL b = true := iL_t (by omega) (by omega)
  have k1 : ¬ (tV f N e < a) := by omega
  by_cases k2 : a < tV f N e
  · by_cases k3 : tV f N e < b
    · have k4 : ¬ (b < tV f N e) := by omega
      have k5 : ¬ (tV f N e = b) := by omega
      simp (disch := first | omega | assumption) only [fX5_isNumberWithin, ↓z_lt, ↓z_ge, ↓z_gt, ↓z_le, ↓z_eq, ↓z_ne, ↓z_mx, ↓z_mn, ↓z_dv, ↓z_rm, ↓z_i2l, ↓z_lc, ↓z_sw, ↓z_sf, ↓z_sn, ↓z_bd, ↓z_nt, z_b0, z_b1, z_bi, z_bj, ↓z_gF, ↓z_gR, ↓z_pF, ↓z_pZ, ↓z_pR, ↓z_aI, ↓z_aR, ↓z_sI, ↓z_sZ, ↓z_on, z_cl, ↓reduceIte, Int.reduceEq, Int.reduceNeg, Int.reduceLT, Int.reduceLE, Int.reduceAdd, Int.reduceSub, Int.reduceMul, true_and, and_true, or_true, true_or, eq_self, iR_t, sO1 C.rb.sh, C.tt, h, v6, ha, hb, hl, la, lb, k1, k2, k3, k4, k5]
    · have k4 : ¬ (b < tV f N e) := by omega
      have k5 : tV f N e = b := by omega
      simp (disch := first | omega | assumption) only [fX5_isNumberWithin, ↓z_lt, ↓z_ge, ↓z_gt, ↓z_le, ↓z_eq, ↓z_ne, ↓z_mx, ↓z_mn, ↓z_dv, ↓z_rm, ↓z_i2l, ↓z_lc, ↓z_sw, ↓z_sf, ↓z_sn, ↓z_bd, ↓z_nt, z_b0, z_b1, z_bi, z_bj, ↓z_gF, ↓z_gR, ↓z_pF, ↓z_pZ, ↓z_pR, ↓z_aI, ↓z_aR, ↓z_sI, ↓z_sZ, ↓z_on, z_cl, ↓reduceIte, Int.reduceEq, Int.reduceNeg, Int.reduceLT, Int.reduceLE, Int.reduceAdd, Int.reduceSub, Int.reduceMul, true_and, and_true, or_true, true_or, eq_self, iR_t, sO1 C.rb.sh, C.tt, h, v6, ha, hb, hl, la, lb, k1, k2, k3, k4, ↓reduceIte]
      simp (disch := first | omega | assumption) only [k5, ↓z_lt, ↓z_ge, ↓z_gt, ↓z_le, ↓z_eq, ↓z_ne, ↓z_mx, ↓z_mn, ↓z_dv, ↓z_rm, ↓z_i2l, ↓z_lc, ↓z_sw, ↓z_sf, ↓z_sn, ↓z_bd, ↓z_nt, z_b0, z_b1, z_bi, z_bj, ↓z_gF, ↓z_gR, ↓z_pF, ↓z_pZ, ↓z_pR, ↓z_aI, ↓z_aR, ↓z_sI, ↓z_sZ, ↓z_on, z_cl, ↓reduceIte, Int.reduceEq, Int.reduceNeg, Int.reduceLT, Int.reduceLE, Int.reduceAdd, Int.reduceSub, Int.reduceMul, true_and, and_true, or_true, true_or, eq_self, iR_t]
  · have k6 : tV f N e = a := by omega
    by_cases k3 : tV f N e < b
    · have k4 : ¬ (b < tV f N e) := by omega
      have k5 : ¬ (tV f N e = b) := by omega
      simp (disch := first | omega | assumption) only [fX5_isNumberWithin, ↓z_lt, ↓z_ge, ↓z_gt, ↓z_le, ↓z_eq, ↓z_ne, ↓z_mx, ↓z_mn, ↓z_dv, ↓z_rm, ↓z_i2l, ↓z_lc, ↓z_sw, ↓z_sf, ↓z_sn, ↓z_bd, ↓z_nt, z_b0, z_b1, z_bi, z_bj, ↓z_gF, ↓z_gR, ↓z_pF, ↓z_pZ, ↓z_pR, ↓z_aI, ↓z_aR, ↓z_sI, ↓z_sZ, ↓z_on, z_cl, ↓reduceIte, Int.reduceEq, Int.reduceNeg, Int.reduceLT, Int.reduceLE, Int.reduceAdd, Int.reduceSub, Int.reduceMul, true_and, and_true, or_true, true_or, eq_self, iR_t, sO1 C.rb.sh, C.tt, h, v6, ha, hb, hl, la, lb, k1, k2, k3, k4, k5]
      try simp (disch := first | omega | assumption) only [k6, ↓z_lt, ↓z_ge, ↓z_gt, ↓z_le, ↓z_eq, ↓z_ne, ↓z_mx, ↓z_mn, ↓z_dv, ↓z_rm, ↓z_i2l, ↓z_lc, ↓z_sw, ↓z_sf, ↓z_sn, ↓z_bd, ↓z_nt, z_b0, z_b1, z_bi, z_bj, ↓z_gF, ↓z_gR, ↓z_pF, ↓z_pZ, ↓z_pR, ↓z_aI, ↓z_aR, ↓z_sI, ↓z_sZ, ↓z_on, z_cl, ↓reduceIte, Int.reduceEq, Int.reduceNeg, Int.reduceLT, Int.reduceLE, Int.reduceAdd, Int.reduceSub, Int.reduceMul, true_and, and_true, or_true, true_or, eq_self, iR_t]
    · have k4 : ¬ (b < tV f N e) := by omega
      have k5 : tV f N e = b := by omega
      simp (disch := first | omega | assumption) only [fX5_isNumberWithin, ↓z_lt, ↓z_ge, ↓z_gt, ↓z_le, ↓z_eq, ↓z_ne, ↓z_mx, ↓z_mn, ↓z_dv, ↓z_rm, ↓z_i2l, ↓z_lc, ↓z_sw, ↓z_sf, ↓z_sn, ↓z_bd, ↓z_nt, z_b0, z_b1, z_bi, z_bj, ↓z_gF, ↓z_gR, ↓z_pF, ↓z_pZ, ↓z_pR, ↓z_aI, ↓z_aR, ↓z_sI, ↓z_sZ, ↓z_on, z_cl, ↓reduceIte, Int.reduceEq, Int.reduceNeg, Int.reduceLT, Int.reduceLE, Int.reduceAdd, Int.reduceSub, Int.reduceMul, true_and, and_true, or_true, true_or, eq_self, iR_t, sO1 C.rb.sh, C.tt, h, v6, ha, hb, hl, la, lb, k1, k2, k3, k4]
      try simp (disch := first | omega | assumption) only [k5, ↓z_lt, ↓z_ge, ↓z_gt, ↓z_le, ↓z_eq, ↓z_ne, ↓z_mx, ↓z_mn, ↓z_dv, ↓z_rm, ↓z_i2l, ↓z_lc, ↓z_sw, ↓z_sf, ↓z_sn, ↓z_bd, ↓z_nt, z_b0, z_b1, z_bi, z_bj, ↓z_gF, ↓z_gR, ↓z_pF, ↓z_pZ, ↓z_pR, ↓z_aI, ↓z_aR, ↓z_sI, ↓z_sZ, ↓z_on, z_cl, ↓reduceIte, Int.reduceEq, Int.reduceNeg, Int.reduceLT, Int.reduceLE, Int.reduceAdd, Int.reduceSub, Int.reduceMul, true_and, and_true, or_true, true_or, eq_self, iR_t]
      try simp (disch := first | omega | assumption) only [k6, ↓z_lt, ↓z_ge, ↓z_gt, ↓z_le, ↓z_eq, ↓z_ne, ↓z_mx, ↓z_mn, ↓z_dv, ↓z_rm, ↓z_i2l, ↓z_lc, ↓z_sw, ↓z_sf, ↓z_sn, ↓z_bd, ↓z_nt, z_b0, z_b1, z_bi, z_bj, ↓z_gF, ↓z_gR, ↓z_pF, ↓z_pZ, ↓z_pR, ↓z_aI, ↓z_aR, ↓z_sI, ↓z_sZ, ↓z_on, z_cl, ↓reduceIte, Int.reduceEq, Int.reduceNeg, Int.reduceLT, Int.reduceLE, Int.reduceAdd, Int.reduceSub, Int.reduceMul, true_and, and_true, or_true, true_or, eq_self, iR_t]
      rw [if_pos (show b = a by omega), if_neg (by omega)]
theorem c_num1' {ω : Type} {K : _ → Option ω} (C : CT P σ f N e) (h : tT f N e = 2) (ha : iR a = true) (hb : iR b = true) (h1 : a ≤ tV f N e) (h2 : tV f N e ≤ b) : cl (fX5_isNumberWithin P σ 1 a b) K = K ((1, σ)) := e_cl (c_num1 C h ha hb h1 h2)
theorem c_num4 (C : CT P σ f N e) (h : tT f N e = 2) (ha : iR a = true) (hb : iR b = true) (h1 : ¬ (a ≤ tV f N e ∧ tV f N e ≤ b)) : fX5_isNumberWithin P σ 1 a b = some (0, clt σ 4) := by
  have hv := tV_in C.e0 C.e1 h
  have v6 : σ 1 6 = tV f N e := C.vv (Or.inr h)
  have hl : iL (tV f N e) = true := iL_t (by omega) (by omega)
  have aR := iR_of ha
  have bR := iR_of hb
  have la : iL a = true := iL_t (by omega) (by omega)
  have lb : iL b = true := iL_t (by omega) (by omega)
  by_cases k1 : tV f N e < a
  · have k2 : ¬ (a < tV f N e) := by omega
    have k3 : ¬ (tV f N e = a) := by omega
    simp (disch := first | omega | assumption) only [fX5_isNumberWithin, ↓z_lt, ↓z_ge, ↓z_gt, ↓z_le, ↓z_eq, ↓z_ne, ↓z_mx, ↓z_mn, ↓z_dv, ↓z_rm, ↓z_i2l, ↓z_lc, ↓z_sw, ↓z_sf, ↓z_sn, ↓z_bd, ↓z_nt, z_b0, z_b1, z_bi, z_bj, ↓z_gF, ↓z_gR, ↓z_pF, ↓z_pZ, ↓z_pR, ↓z_aI, ↓z_aR, ↓z_sI, ↓z_sZ, ↓z_on, z_cl, ↓reduceIte, Int.reduceEq, Int.reduceNeg, Int.reduceLT, Int.reduceLE, Int.reduceAdd, Int.reduceSub, Int.reduceMul, true_and, and_true, or_true, true_or, eq_self, iR_t, sO1 C.rb.sh, C.tt, h, v6, ha, hb, hl, la, lb, k1, k2, k3, ↓c_fault' C]
  · have k4 : b < tV f N e := by omega
    by_cases k2 : a < tV f N e
    · simp (disch := first | omega | assumption) only [fX5_isNumberWithin, ↓z_lt, ↓z_ge, ↓z_gt, ↓z_le, ↓z_eq, ↓z_ne, ↓z_mx, ↓z_mn, ↓z_dv, ↓z_rm, ↓z_i2l, ↓z_lc, ↓z_sw, ↓z_sf, ↓z_sn, ↓z_bd, ↓z_nt, z_b0, z_b1, z_bi, z_bj, ↓z_gF, ↓z_gR, ↓z_pF, ↓z_pZ, ↓z_pR, ↓z_aI, ↓z_aR, ↓z_sI, ↓z_sZ, ↓z_on, z_cl, ↓reduceIte, Int.reduceEq, Int.reduceNeg, Int.reduceLT, Int.reduceLE, Int.reduceAdd, Int.reduceSub, Int.reduceMul, true_and, and_true, or_true, true_or, eq_self, iR_t, sO1 C.rb.sh, C.tt, h, v6, ha, hb, hl, la, lb, k1, k2, k4, ↓c_fault' C]
    · have k3 : tV f N e = a := by omega
      have k5 : ¬ (tV f N e = b) := by omega
      have k6 : b < a := by omega
      have k7 : ¬ (a < a) := by omega
      have v7 : σ 1 6 = a := v6.trans k3
      simp (disch := first | omega | assumption) only [fX5_isNumberWithin, ↓z_lt, ↓z_ge, ↓z_gt, ↓z_le, ↓z_eq, ↓z_ne, ↓z_mx, ↓z_mn, ↓z_dv, ↓z_rm, ↓z_i2l, ↓z_lc, ↓z_sw, ↓z_sf, ↓z_sn, ↓z_bd, ↓z_nt, z_b0, z_b1, z_bi, z_bj, ↓z_gF, ↓z_gR, ↓z_pF, ↓z_pZ, ↓z_pR, ↓z_aI, ↓z_aR, ↓z_sI, ↓z_sZ, ↓z_on, z_cl, ↓reduceIte, Int.reduceEq, Int.reduceNeg, Int.reduceLT, Int.reduceLE, Int.reduceAdd, Int.reduceSub, Int.reduceMul, true_and, and_true, or_true, true_or, eq_self, iR_t, sO1 C.rb.sh, C.tt, h, v7, ha, hb, la, lb, k6, k7, ↓c_fault' C]
theorem c_num4' {ω : Type} {K : _ → Option ω} (C : CT P σ f N e) (h : tT f N e = 2) (ha : iR a = true) (hb : iR b = true) (h1 : ¬ (a ≤ tV f N e ∧ tV f N e ≤ b)) : cl (fX5_isNumberWithin P σ 1 a b) K = K ((0, clt σ 4)) := e_cl (c_num4 C h ha hb h1)
theorem c_numS (C : CT P σ f N e) (h : ¬ (tT f N e = 2)) : fX5_isNumberWithin P σ 1 a b = some (0, clt σ 1) := by
  have ht := tT_in (f := f) (N := N) (e := e)
  simp (disch := first | omega | assumption) only [fX5_isNumberWithin, ↓z_lt, ↓z_ge, ↓z_gt, ↓z_le, ↓z_eq, ↓z_ne, ↓z_mx, ↓z_mn, ↓z_dv, ↓z_rm, ↓z_i2l, ↓z_lc, ↓z_sw, ↓z_sf, ↓z_sn, ↓z_bd, ↓z_nt, z_b0, z_b1, z_bi, z_bj, ↓z_gF, ↓z_gR, ↓z_pF, ↓z_pZ, ↓z_pR, ↓z_aI, ↓z_aR, ↓z_sI, ↓z_sZ, ↓z_on, z_cl, ↓reduceIte, Int.reduceEq, Int.reduceNeg, Int.reduceLT, Int.reduceLE, Int.reduceAdd, Int.reduceSub, Int.reduceMul, true_and, and_true, or_true, true_or, eq_self, iR_t, sO1 C.rb.sh, C.tt, h, ↓c_fault' C]
theorem c_numS' {ω : Type} {K : _ → Option ω} (C : CT P σ f N e) (h : ¬ (tT f N e = 2)) : cl (fX5_isNumberWithin P σ 1 a b) K = K ((0, clt σ 1)) := e_cl (c_numS C h)
theorem c_semi (C : CT P σ f N e) (h : tT f N e = 3) : ∃ σ', fX5_takeSemicolon P σ 1 = some (1, σ') ∧ CT P σ' f N (tE f N e) ∧ (∀ o, o ≠ 1 → σ' o = σ o) ∧ (∀ j, (j < 3 ∨ 6 < j) → σ' 1 j = σ 1 j) := by
  obtain ⟨σ', r, q⟩ := c_adv C
  refine ⟨σ', ?_, q⟩
  simp (disch := first | omega | assumption) only [fX5_takeSemicolon, ↓z_lt, ↓z_ge, ↓z_gt, ↓z_le, ↓z_eq, ↓z_ne, ↓z_mx, ↓z_mn, ↓z_dv, ↓z_rm, ↓z_i2l, ↓z_lc, ↓z_sw, ↓z_sf, ↓z_sn, ↓z_bd, ↓z_nt, z_b0, z_b1, z_bi, z_bj, ↓z_gF, ↓z_gR, ↓z_pF, ↓z_pZ, ↓z_pR, ↓z_aI, ↓z_aR, ↓z_sI, ↓z_sZ, ↓z_on, z_cl, ↓reduceIte, Int.reduceEq, Int.reduceNeg, Int.reduceLT, Int.reduceLE, Int.reduceAdd, Int.reduceSub, Int.reduceMul, true_and, and_true, or_true, true_or, eq_self, iR_t, sO1 C.rb.sh, C.tt, h, ↓e_cl r]
theorem c_semiS (C : CT P σ f N e) (h : ¬ (tT f N e = 3)) : fX5_takeSemicolon P σ 1 = some (0, clt σ 1) := by
  have ht := tT_in (f := f) (N := N) (e := e)
  simp (disch := first | omega | assumption) only [fX5_takeSemicolon, ↓z_lt, ↓z_ge, ↓z_gt, ↓z_le, ↓z_eq, ↓z_ne, ↓z_mx, ↓z_mn, ↓z_dv, ↓z_rm, ↓z_i2l, ↓z_lc, ↓z_sw, ↓z_sf, ↓z_sn, ↓z_bd, ↓z_nt, z_b0, z_b1, z_bi, z_bj, ↓z_gF, ↓z_gR, ↓z_pF, ↓z_pZ, ↓z_pR, ↓z_aI, ↓z_aR, ↓z_sI, ↓z_sZ, ↓z_on, z_cl, ↓reduceIte, Int.reduceEq, Int.reduceNeg, Int.reduceLT, Int.reduceLE, Int.reduceAdd, Int.reduceSub, Int.reduceMul, true_and, and_true, or_true, true_or, eq_self, iR_t, sO1 C.rb.sh, C.tt, h, ↓c_fault' C]
theorem c_semiS' {ω : Type} {K : _ → Option ω} (C : CT P σ f N e) (h : ¬ (tT f N e = 3)) : cl (fX5_takeSemicolon P σ 1) K = K ((0, clt σ 1)) := e_cl (c_semiS C h)
theorem m_read1 (M : MT P τ f N e) (h : tT f N e = 2) (ha : iR a = true) (hb : iR b = true) (h1 : a ≤ tV f N e ∧ tV f N e ≤ b) : ∃ τ', fX8_read P τ 265 a b = some (tV f N e, τ') ∧ MT P τ' f N (tE f N e) ∧ (∀ o, o ≠ 265 → τ' o = τ o) ∧ (∀ j, (j < 4 ∨ 7 < j) → τ' 265 j = τ 265 j) := by
  obtain ⟨τ', r, q⟩ := m_goOn M
  have hv := tV_in M.e0 M.e1 h
  have v7 : τ 265 7 = tV f N e := M.vv h
  have hl : iR (tV f N e) = true := iR_t (by omega) (by omega)
  refine ⟨τ', ?_, q⟩
  simp (disch := first | omega | assumption) only [fX8_read, ↓z_lt, ↓z_ge, ↓z_gt, ↓z_le, ↓z_eq, ↓z_ne, ↓z_mx, ↓z_mn, ↓z_dv, ↓z_rm, ↓z_i2l, ↓z_lc, ↓z_sw, ↓z_sf, ↓z_sn, ↓z_bd, ↓z_nt, z_b0, z_b1, z_bi, z_bj, ↓z_gF, ↓z_gR, ↓z_pF, ↓z_pZ, ↓z_pR, ↓z_aI, ↓z_aR, ↓z_sI, ↓z_sZ, ↓z_on, z_cl, ↓reduceIte, Int.reduceEq, Int.reduceNeg, Int.reduceLT, Int.reduceLE, Int.reduceAdd, Int.reduceSub, Int.reduceMul, true_and, and_true, or_true, true_or, eq_self, iR_t, sO265 M.mb.sh, M.tt, h, ↓m_must1' M, v7, ↓m_within', ha, hb, hl, h1, ↓e_cl r, and_self]
theorem f_read (sh : ShpIs P 279 PL) (h : ¬ (τ 265 8 = 0)) (hr : iR (τ 265 8) = true) (hr6 : 0 ≤ τ 265 6 ∧ τ 265 6 ≤ 4) : fX8_read P τ 265 a b = some (a, τ) := by
  simp (disch := first | omega | assumption) only [fX8_read, ↓z_lt, ↓z_ge, ↓z_gt, ↓z_le, ↓z_eq, ↓z_ne, ↓z_mx, ↓z_mn, ↓z_dv, ↓z_rm, ↓z_i2l, ↓z_lc, ↓z_sw, ↓z_sf, ↓z_sn, ↓z_bd, ↓z_nt, z_b0, z_b1, z_bi, z_bj, ↓z_gF, ↓z_gR, ↓z_pF, ↓z_pZ, ↓z_pR, ↓z_aI, ↓z_aR, ↓z_sI, ↓z_sZ, ↓z_on, z_cl, ↓reduceIte, Int.reduceEq, Int.reduceNeg, Int.reduceLT, Int.reduceLE, Int.reduceAdd, Int.reduceSub, Int.reduceMul, true_and, and_true, or_true, true_or, eq_self, iR_t, sO265 sh, ↓f_must' sh h hr, ↓f_goOn' sh h hr, ite_self]
theorem f_read' {ω : Type} {K : _ → Option ω} (sh : ShpIs P 279 PL) (h : ¬ (τ 265 8 = 0)) (hr : iR (τ 265 8) = true) (hr6 : 0 ≤ τ 265 6 ∧ τ 265 6 ≤ 4) : cl (fX8_read P τ 265 a b) K = K ((a, τ)) := e_cl (f_read sh h hr hr6)
theorem f_deviceHere (sh : ShpIs P 279 PL) (h : ¬ (τ 265 8 = 0)) (hr : iR (τ 265 8) = true) (hr6 : 0 ≤ τ 265 6 ∧ τ 265 6 ≤ 4) : fX8_deviceHere P τ 265 = some (0, τ) := by
  simp (disch := first | omega | assumption) only [fX8_deviceHere, ↓z_lt, ↓z_ge, ↓z_gt, ↓z_le, ↓z_eq, ↓z_ne, ↓z_mx, ↓z_mn, ↓z_dv, ↓z_rm, ↓z_i2l, ↓z_lc, ↓z_sw, ↓z_sf, ↓z_sn, ↓z_bd, ↓z_nt, z_b0, z_b1, z_bi, z_bj, ↓z_gF, ↓z_gR, ↓z_pF, ↓z_pZ, ↓z_pR, ↓z_aI, ↓z_aR, ↓z_sI, ↓z_sZ, ↓z_on, z_cl, ↓reduceIte, Int.reduceEq, Int.reduceNeg, Int.reduceLT, Int.reduceLE, Int.reduceAdd, Int.reduceSub, Int.reduceMul, true_and, and_true, or_true, true_or, eq_self, iR_t, sO265 sh, ↓f_must' sh h hr, ↓f_goOn' sh h hr, ite_self]
theorem f_deviceHere' {ω : Type} {K : _ → Option ω} (sh : ShpIs P 279 PL) (h : ¬ (τ 265 8 = 0)) (hr : iR (τ 265 8) = true) (hr6 : 0 ≤ τ 265 6 ∧ τ 265 6 ≤ 4) : cl (fX8_deviceHere P τ 265) K = K ((0, τ)) := e_cl (f_deviceHere sh h hr hr6)
theorem m_read4 (M : MT P τ f N e) (h : tT f N e = 2) (ha : iR a = true) (hb : iR b = true) (h1 : ¬ (a ≤ tV f N e ∧ tV f N e ≤ b)) : fX8_read P τ 265 a b = some (a, mlt τ 4) := by
  have hv := tV_in M.e0 M.e1 h
  have v7 : τ 265 7 = tV f N e := M.vv h
  have hl : iR (tV f N e) = true := iR_t (by omega) (by omega)
  have n4 : ¬ (mlt τ 4 265 8 = 0) := by rw [mlt_8]; omega
  have r4 : iR (mlt τ 4 265 8) = true := by rw [mlt_8]; rfl
  simp (disch := first | omega | assumption) only [fX8_read, ↓z_lt, ↓z_ge, ↓z_gt, ↓z_le, ↓z_eq, ↓z_ne, ↓z_mx, ↓z_mn, ↓z_dv, ↓z_rm, ↓z_i2l, ↓z_lc, ↓z_sw, ↓z_sf, ↓z_sn, ↓z_bd, ↓z_nt, z_b0, z_b1, z_bi, z_bj, ↓z_gF, ↓z_gR, ↓z_pF, ↓z_pZ, ↓z_pR, ↓z_aI, ↓z_aR, ↓z_sI, ↓z_sZ, ↓z_on, z_cl, ↓reduceIte, Int.reduceEq, Int.reduceNeg, Int.reduceLT, Int.reduceLE, Int.reduceAdd, Int.reduceSub, Int.reduceMul, true_and, and_true, or_true, true_or, eq_self, iR_t, sO265 M.mb.sh, M.tt, h, ↓m_must1' M, ↓m_must0' M, v7, ↓m_within', ha, hb, hl, h1, ↓f_goOn' M.mb.sh n4 r4]
theorem m_read4' {ω : Type} {K : _ → Option ω} (M : MT P τ f N e) (h : tT f N e = 2) (ha : iR a = true) (hb : iR b = true) (h1 : ¬ (a ≤ tV f N e ∧ tV f N e ≤ b)) : cl (fX8_read P τ 265 a b) K = K ((a, mlt τ 4)) := e_cl (m_read4 M h ha hb h1)
theorem m_readS (M : MT P τ f N e) (h : ¬ (tT f N e = 2)) : fX8_read P τ 265 a b = some (a, mlt τ 1) := by
  have ht := tT_in (f := f) (N := N) (e := e)
  have n4 : ¬ (mlt τ 1 265 8 = 0) := by rw [mlt_8]; omega
  have r4 : iR (mlt τ 1 265 8) = true := by rw [mlt_8]; rfl
  simp (disch := first | omega | assumption) only [fX8_read, ↓z_lt, ↓z_ge, ↓z_gt, ↓z_le, ↓z_eq, ↓z_ne, ↓z_mx, ↓z_mn, ↓z_dv, ↓z_rm, ↓z_i2l, ↓z_lc, ↓z_sw, ↓z_sf, ↓z_sn, ↓z_bd, ↓z_nt, z_b0, z_b1, z_bi, z_bj, ↓z_gF, ↓z_gR, ↓z_pF, ↓z_pZ, ↓z_pR, ↓z_aI, ↓z_aR, ↓z_sI, ↓z_sZ, ↓z_on, z_cl, ↓reduceIte, Int.reduceEq, Int.reduceNeg, Int.reduceLT, Int.reduceLE, Int.reduceAdd, Int.reduceSub, Int.reduceMul, true_and, and_true, or_true, true_or, eq_self, iR_t, sO265 M.mb.sh, M.tt, h, ↓m_must0' M, ↓f_goOn' M.mb.sh n4 r4]
theorem m_readS' {ω : Type} {K : _ → Option ω} (M : MT P τ f N e) (h : ¬ (tT f N e = 2)) : cl (fX8_read P τ 265 a b) K = K ((a, mlt τ 1)) := e_cl (m_readS M h)
end ZZI
