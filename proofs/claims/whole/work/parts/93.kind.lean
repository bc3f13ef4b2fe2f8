/-! THE KIND of an error, by its word, on both sides. -/
section ZZU
variable {P : Shp} {σ σ' s τ τ' : St} {f : Int → Int} {e N : Int}
def kwF (f : Int → Int) (N e : Int) : Int := if wdB f N e (-8) = true then 0 else if wdB f N e (-9) = true then 1 else if wdB f N e (-10) = true then 2 else if wdB f N e (-11) = true then 3 else -1
theorem kwF_in : -1 ≤ kwF f N e ∧ kwF f N e ≤ 3 := by
  unfold kwF
  repeat' split
  all_goals omega
theorem c_kindOfWord (C : CT P σ f N e) : fX5_kindOfWord P σ 1 = some (kwF f N e) := by
  have w8 := c_isWord C (z := -8) (by omega)
  have w9 := c_isWord C (z := -9) (by omega)
  have w10 := c_isWord C (z := -10) (by omega)
  have w11 := c_isWord C (z := -11) (by omega)
  unfold kwF
  by_cases c8 : wdB f N e (-8) = true
  · rw [if_pos c8] at w8 ⊢
    simp (disch := first | omega | assumption) only [fX5_kindOfWord, ↓z_lt, ↓z_ge, ↓z_gt, ↓z_le, ↓z_eq, ↓z_ne, ↓z_mx, ↓z_mn, ↓z_dv, ↓z_rm, ↓z_i2l, ↓z_lc, ↓z_sw, ↓z_sf, ↓z_sn, ↓z_bd, ↓z_nt, z_b0, z_b1, z_bi, z_bj, ↓z_gF, ↓z_gR, ↓z_pF, ↓z_pZ, ↓z_pR, ↓z_aI, ↓z_aR, ↓z_sI, ↓z_sZ, ↓z_on, z_cl, ↓reduceIte, Int.reduceEq, Int.reduceNeg, Int.reduceLT, Int.reduceLE, Int.reduceAdd, Int.reduceSub, Int.reduceMul, true_and, and_true, or_true, true_or, eq_self, iR_t, sO1 C.rb.sh, ↓e_cl w8]
  · rw [if_neg c8] at w8 ⊢
    by_cases c9 : wdB f N e (-9) = true
    · rw [if_pos c9] at w9 ⊢
      simp (disch := first | omega | assumption) only [fX5_kindOfWord, ↓z_lt, ↓z_ge, ↓z_gt, ↓z_le, ↓z_eq, ↓z_ne, ↓z_mx, ↓z_mn, ↓z_dv, ↓z_rm, ↓z_i2l, ↓z_lc, ↓z_sw, ↓z_sf, ↓z_sn, ↓z_bd, ↓z_nt, z_b0, z_b1, z_bi, z_bj, ↓z_gF, ↓z_gR, ↓z_pF, ↓z_pZ, ↓z_pR, ↓z_aI, ↓z_aR, ↓z_sI, ↓z_sZ, ↓z_on, z_cl, ↓reduceIte, Int.reduceEq, Int.reduceNeg, Int.reduceLT, Int.reduceLE, Int.reduceAdd, Int.reduceSub, Int.reduceMul, true_and, and_true, or_true, true_or, eq_self, iR_t, sO1 C.rb.sh, ↓e_cl w8, ↓e_cl w9]
    · rw [if_neg c9] at w9 ⊢
      by_cases c10 : wdB f N e (-10) = true
      · rw [if_pos c10] at w10 ⊢
        simp (disch := first | omega | assumption) only [fX5_kindOfWord, ↓z_lt, ↓z_ge, ↓z_gt, ↓z_le, ↓z_eq, ↓z_ne, ↓z_mx, ↓z_mn, ↓z_dv, ↓z_rm, ↓z_i2l, ↓z_lc, ↓z_sw, ↓z_sf, ↓z_sn, ↓z_bd, ↓z_nt, z_b0, z_b1, z_bi, z_bj, ↓z_gF, ↓z_gR, ↓z_pF, ↓z_pZ, ↓z_pR, ↓z_aI, ↓z_aR, ↓z_sI, ↓z_sZ, ↓z_on, z_cl, ↓reduceIte, Int.reduceEq, Int.reduceNeg, Int.reduceLT, Int.reduceLE, Int.reduceAdd, Int.reduceSub, Int.reduceMul, true_and, and_true, or_true, true_or, eq_self, iR_t, sO1 C.rb.sh, ↓e_cl w8, ↓e_cl w9, ↓e_cl w10]
      · rw [if_neg c10] at w10 ⊢
        by_cases c11 : wdB f N e (-11) = true
        · rw [if_pos c11] at w11 ⊢
          simp (disch := first | omega | assumption) only [fX5_kindOfWord, ↓z_lt, ↓z_ge, ↓z_gt, ↓z_le, ↓z_eq, ↓z_ne, ↓z_mx, ↓z_mn, ↓z_dv, ↓z_rm, ↓z_i2l, ↓z_lc, ↓z_sw, ↓z_sf, ↓z_sn, ↓z_bd, ↓z_nt, z_b0, z_b1, z_bi, z_bj, ↓z_gF, ↓z_gR, ↓z_pF, ↓z_pZ, ↓z_pR, ↓z_aI, ↓z_aR, ↓z_sI, ↓z_sZ, ↓z_on, z_cl, ↓reduceIte, Int.reduceEq, Int.reduceNeg, Int.reduceLT, Int.reduceLE, Int.reduceAdd, Int.reduceSub, Int.reduceMul, true_and, and_true, or_true, true_or, eq_self, iR_t, sO1 C.rb.sh, ↓e_cl w8, ↓e_cl w9, ↓e_cl w10, ↓e_cl w11]
        · rw [if_neg c11] at w11 ⊢
          simp (disch := first | omega | assumption) only [fX5_kindOfWord, ↓z_lt, ↓z_ge, ↓z_gt, ↓z_le, ↓z_eq, ↓z_ne, ↓z_mx, ↓z_mn, ↓z_dv, ↓z_rm, ↓z_i2l, ↓z_lc, ↓z_sw, ↓z_sf, ↓z_sn, ↓z_bd, ↓z_nt, z_b0, z_b1, z_bi, z_bj, ↓z_gF, ↓z_gR, ↓z_pF, ↓z_pZ, ↓z_pR, ↓z_aI, ↓z_aR, ↓z_sI, ↓z_sZ, ↓z_on, z_cl, ↓reduceIte, Int.reduceEq, Int.reduceNeg, Int.reduceLT, Int.reduceLE, Int.reduceAdd, Int.reduceSub, Int.reduceMul, true_and, and_true, or_true, true_or, eq_self, iR_t, sO1 C.rb.sh, ↓e_cl w8, ↓e_cl w9, ↓e_cl w10, ↓e_cl w11]
theorem c_kindOfWord' {ω : Type} {K : _ → Option ω} (C : CT P σ f N e) : cl (fX5_kindOfWord P σ 1) K = K ((kwF f N e)) := e_cl (c_kindOfWord C)
theorem m_kindHere (M : MT P τ f N e) : fX8_kindHere P τ 265 = some (kwF f N e) := by
  have w8 := m_isWord M (z := -8) (by omega)
  have w9 := m_isWord M (z := -9) (by omega)
  have w10 := m_isWord M (z := -10) (by omega)
  have w11 := m_isWord M (z := -11) (by omega)
  unfold kwF
  by_cases c8 : wdB f N e (-8) = true
  · rw [if_pos c8] at w8 ⊢
    simp (disch := first | omega | assumption) only [fX8_kindHere, ↓z_lt, ↓z_ge, ↓z_gt, ↓z_le, ↓z_eq, ↓z_ne, ↓z_mx, ↓z_mn, ↓z_dv, ↓z_rm, ↓z_i2l, ↓z_lc, ↓z_sw, ↓z_sf, ↓z_sn, ↓z_bd, ↓z_nt, z_b0, z_b1, z_bi, z_bj, ↓z_gF, ↓z_gR, ↓z_pF, ↓z_pZ, ↓z_pR, ↓z_aI, ↓z_aR, ↓z_sI, ↓z_sZ, ↓z_on, z_cl, ↓reduceIte, Int.reduceEq, Int.reduceNeg, Int.reduceLT, Int.reduceLE, Int.reduceAdd, Int.reduceSub, Int.reduceMul, true_and, and_true, or_true, true_or, eq_self, iR_t, sO265 M.mb.sh, ↓e_cl w8]
  · rw [if_neg c8] at w8 ⊢
    by_cases c9 : wdB f N e (-9) = true
    · rw [if_pos c9] at w9 ⊢
      simp (disch := first | omega | assumption) only [fX8_kindHere, ↓z_lt, ↓z_ge, ↓z_gt, ↓z_le, ↓z_eq, ↓z_ne, ↓z_mx, ↓z_mn, ↓z_dv, ↓z_rm, ↓z_i2l, ↓z_lc, ↓z_sw, ↓z_sf, ↓z_sn, ↓z_bd, ↓z_nt, z_b0, z_b1, z_bi, z_bj, ↓z_gF, ↓z_gR, ↓z_pF, ↓z_pZ, ↓z_pR, ↓z_aI, ↓z_aR, ↓z_sI, ↓z_sZ, ↓z_on, z_cl, ↓reduceIte, Int.reduceEq, Int.reduceNeg, Int.reduceLT, Int.reduceLE, Int.reduceAdd, Int.reduceSub, Int.reduceMul, true_and, and_true, or_true, true_or, eq_self, iR_t, sO265 M.mb.sh, ↓e_cl w8, ↓e_cl w9]
    · rw [if_neg c9] at w9 ⊢
      by_cases c10 : wdB f N e (-10) = true
      · rw [if_pos c10] at w10 ⊢
        simp (disch := first | omega | assumption) only [fX8_kindHere, ↓z_lt, ↓z_ge, ↓z_gt, ↓z_le, ↓z_eq, ↓z_ne, ↓z_mx, ↓z_mn, ↓z_dv, ↓z_rm, ↓z_i2l, ↓z_lc, ↓z_sw, ↓z_sf, ↓z_sn, ↓z_bd, ↓z_nt, z_b0, z_b1, z_bi, z_bj, ↓z_gF, ↓z_gR, ↓z_pF, ↓z_pZ, ↓z_pR, ↓z_aI, ↓z_aR, ↓z_sI, ↓z_sZ, ↓z_on, z_cl, ↓reduceIte, Int.reduceEq, Int.reduceNeg, Int.reduceLT, Int.reduceLE, Int.reduceAdd, Int.reduceSub, Int.reduceMul, true_and, and_true, or_true, true_or, eq_self, iR_t, sO265 M.mb.sh, ↓e_cl w8, ↓e_cl w9, ↓e_cl w10]
      · rw [if_neg c10] at w10 ⊢
        by_cases c11 : wdB f N e (-11) = true
        · rw [if_pos c11] at w11 ⊢
          simp (disch := first | omega | assumption) only [fX8_kindHere, ↓z_lt, ↓z_ge, ↓z_gt, ↓z_le, ↓z_eq, ↓z_ne, ↓z_mx, ↓z_mn, ↓z_dv, ↓z_rm, ↓z_i2l, ↓z_lc, ↓z_sw, ↓z_sf, ↓z_sn, ↓z_bd, ↓z_nt, z_b0, z_b1, z_bi, z_bj, ↓z_gF, ↓z_gR, ↓z_pF, ↓z_pZ, ↓z_pR, ↓z_aI, ↓z_aR, ↓z_sI, ↓z_sZ, ↓z_on, z_cl, ↓reduceIte, Int.reduceEq, Int.reduceNeg, Int.reduceLT, Int.reduceLE, Int.reduceAdd, Int.reduceSub, Int.reduceMul, true_and, and_true, or_true, true_or, eq_self, iR_t, sO265 M.mb.sh, ↓e_cl w8, ↓e_cl w9, ↓e_cl w10, ↓e_cl w11]
        · rw [if_neg c11] at w11 ⊢
          simp (disch := first | omega | assumption) only [fX8_kindHere, ↓z_lt, ↓z_ge, ↓z_gt, ↓z_le, ↓z_eq, ↓z_ne, ↓z_mx, ↓z_mn, ↓z_dv, ↓z_rm, ↓z_i2l, ↓z_lc, ↓z_sw, ↓z_sf, ↓z_sn, ↓z_bd, ↓z_nt, z_b0, z_b1, z_bi, z_bj, ↓z_gF, ↓z_gR, ↓z_pF, ↓z_pZ, ↓z_pR, ↓z_aI, ↓z_aR, ↓z_sI, ↓z_sZ, ↓z_on, z_cl, ↓reduceIte, Int.reduceEq, Int.reduceNeg, Int.reduceLT, Int.reduceLE, Int.reduceAdd, Int.reduceSub, Int.reduceMul, true_and, and_true, or_true, true_or, eq_self, iR_t, sO265 M.mb.sh, ↓e_cl w8, ↓e_cl w9, ↓e_cl w10, ↓e_cl w11]
theorem m_kindHere' {ω : Type} {K : _ → Option ω} (M : MT P τ f N e) : cl (fX8_kindHere P τ 265) K = K ((kwF f N e)) := e_cl (m_kindHere M)
end ZZU
