/-! THE REFERENCE'S SCORES AND ERRORS. -/
section ZG
variable {P : Shp} {σ : St} {t f g : Int → Int} {B : Int} {d k p kind who m h j c : Int}
theorem mstep_in {nx : Int} (T : TV t) (p0 : 0 ≤ p) (p1 : p < t 0) (h0 : 0 ≤ nx) (h1 : nx ≤ t (7 + 8 * p + 2)) : 0 ≤ mstep t f d p k nx ∧ mstep t f d p k nx ≤ t (7 + 8 * p + 2) := by
  unfold mstep
  repeat' split
  all_goals omega
theorem m_matches (M : MP P σ t) (T : TV t) (F : FV B t f g) (h0 : 0 ≤ d) (h1 : d < t 1) (p0 : 0 ≤ p) (p1 : p < t 0) : fX8_matches P (st2 σ f g) 265 d p = some (if matF t f d p = true then 1 else 0) := by
  have n0 := T.n0
  have n1 := T.n1
  have mn := F.mn d h0 h1
  have pe := T.pe p p0 p1
  have b0 := F.b0
  have q0 := F.bl 0
  have qw := T.b (7 + 8 * p + 1)
  have hN : ((f (14 + 28 * d + 3)).toNat : Int) = f (14 + 28 * d + 3) := by omega
  have l1 := loop_v (fun m k a => fX8_matches_L14 P (st2 σ f g) 265 d (7 + 8 * p) (fun x23 =>
      gR P 8 (st2 σ f g) 265 11 fun x24 =>
      aI P 10 (st2 σ f g) x24 (7 + 8 * p + 2) fun x25 =>
      jne x23 x25
        (bz 0 (some (0 : Int)))
        (bz 1 (some (1 : Int)))) m a k) (fun a => some (if decide (a = t (7 + 8 * p + 2)) = true then (1 : Int) else 0)) (f (14 + 28 * d + 3)).toNat (mstep t f d p) (fun _ nx => 0 ≤ nx ∧ nx ≤ t (7 + 8 * p + 2))
    (fun k m nx hk hI => by
      refine ⟨?_, mstep_in T p0 p1 hI.1 hI.2⟩
      have hk2 : ¬ (f (14 + 28 * d + 3) ≤ (k : Int)) := by omega
      by_cases c1 : t (7 + 8 * p + 2) ≤ nx
      · simp (disch := first | omega | assumption) only [fX8_matches_L14, mstep, ↓z_lt, ↓z_ge, ↓z_gt, ↓z_le, ↓z_eq, ↓z_ne, ↓z_mx, ↓z_mn, ↓z_dv, ↓z_rm, ↓z_i2l, ↓z_lc, ↓z_sw, ↓z_sf, ↓z_sn, ↓z_bd, ↓z_nt, z_b0, z_b1, z_bi, z_bj, ↓z_gF, ↓z_gR, ↓z_pF, ↓z_pZ, ↓z_pR, ↓z_aI, ↓z_aR, ↓z_sI, ↓z_sZ, ↓z_on, z_cl, ↓reduceIte, Int.reduceEq, Int.reduceNeg, Int.reduceLT, Int.reduceLE, Int.reduceAdd, Int.reduceSub, Int.reduceMul, true_and, and_true, or_true, true_or, eq_self, st2_f, st2_g, st2_o, M.q1, M.q10, M.q11, M.q12, M.q14, M.q15, M.q16, M.q17, M.q19, M.q20, M.q21, M.q22, M.tl, sO265 M.sh, sA266 M.sh, sA267 M.sh, sA268 M.sh, sA269 M.sh, sA270 M.sh, sA271 M.sh, sA272 M.sh, sA273 M.sh, sA274 M.sh, sA275 M.sh, sA276 M.sh, sA277 M.sh, iR_t, ↓m_at', hk2, c1, T.vr, F.vr]
      · by_cases c2 : f (14 + 28 * d + 4 + 2 * (k : Int) + 1) ≤ f 0 - t (7 + 8 * p + 1)
        · simp (disch := first | omega | assumption) only [fX8_matches_L14, mstep, ↓z_lt, ↓z_ge, ↓z_gt, ↓z_le, ↓z_eq, ↓z_ne, ↓z_mx, ↓z_mn, ↓z_dv, ↓z_rm, ↓z_i2l, ↓z_lc, ↓z_sw, ↓z_sf, ↓z_sn, ↓z_bd, ↓z_nt, z_b0, z_b1, z_bi, z_bj, ↓z_gF, ↓z_gR, ↓z_pF, ↓z_pZ, ↓z_pR, ↓z_aI, ↓z_aR, ↓z_sI, ↓z_sZ, ↓z_on, z_cl, ↓reduceIte, Int.reduceEq, Int.reduceNeg, Int.reduceLT, Int.reduceLE, Int.reduceAdd, Int.reduceSub, Int.reduceMul, true_and, and_true, or_true, true_or, eq_self, st2_f, st2_g, st2_o, M.q1, M.q10, M.q11, M.q12, M.q14, M.q15, M.q16, M.q17, M.q19, M.q20, M.q21, M.q22, M.tl, sO265 M.sh, sA266 M.sh, sA267 M.sh, sA268 M.sh, sA269 M.sh, sA270 M.sh, sA271 M.sh, sA272 M.sh, sA273 M.sh, sA274 M.sh, sA275 M.sh, sA276 M.sh, sA277 M.sh, iR_t, ↓m_at', hk2, c1, c2, T.vr, F.vr]
        · by_cases c3 : f (14 + 28 * d + 4 + 2 * (k : Int)) = t (7 + 8 * p + 3 + nx)
          · simp (disch := first | omega | assumption) only [fX8_matches_L14, mstep, ↓z_lt, ↓z_ge, ↓z_gt, ↓z_le, ↓z_eq, ↓z_ne, ↓z_mx, ↓z_mn, ↓z_dv, ↓z_rm, ↓z_i2l, ↓z_lc, ↓z_sw, ↓z_sf, ↓z_sn, ↓z_bd, ↓z_nt, z_b0, z_b1, z_bi, z_bj, ↓z_gF, ↓z_gR, ↓z_pF, ↓z_pZ, ↓z_pR, ↓z_aI, ↓z_aR, ↓z_sI, ↓z_sZ, ↓z_on, z_cl, ↓reduceIte, Int.reduceEq, Int.reduceNeg, Int.reduceLT, Int.reduceLE, Int.reduceAdd, Int.reduceSub, Int.reduceMul, true_and, and_true, or_true, true_or, eq_self, st2_f, st2_g, st2_o, M.q1, M.q10, M.q11, M.q12, M.q14, M.q15, M.q16, M.q17, M.q19, M.q20, M.q21, M.q22, M.tl, sO265 M.sh, sA266 M.sh, sA267 M.sh, sA268 M.sh, sA269 M.sh, sA270 M.sh, sA271 M.sh, sA272 M.sh, sA273 M.sh, sA274 M.sh, sA275 M.sh, sA276 M.sh, sA277 M.sh, iR_t, ↓m_at', hk2, c1, c2, c3, T.vr, F.vr]
          · simp (disch := first | omega | assumption) only [fX8_matches_L14, mstep, ↓z_lt, ↓z_ge, ↓z_gt, ↓z_le, ↓z_eq, ↓z_ne, ↓z_mx, ↓z_mn, ↓z_dv, ↓z_rm, ↓z_i2l, ↓z_lc, ↓z_sw, ↓z_sf, ↓z_sn, ↓z_bd, ↓z_nt, z_b0, z_b1, z_bi, z_bj, ↓z_gF, ↓z_gR, ↓z_pF, ↓z_pZ, ↓z_pR, ↓z_aI, ↓z_aR, ↓z_sI, ↓z_sZ, ↓z_on, z_cl, ↓reduceIte, Int.reduceEq, Int.reduceNeg, Int.reduceLT, Int.reduceLE, Int.reduceAdd, Int.reduceSub, Int.reduceMul, true_and, and_true, or_true, true_or, eq_self, st2_f, st2_g, st2_o, M.q1, M.q10, M.q11, M.q12, M.q14, M.q15, M.q16, M.q17, M.q19, M.q20, M.q21, M.q22, M.tl, sO265 M.sh, sA266 M.sh, sA267 M.sh, sA268 M.sh, sA269 M.sh, sA270 M.sh, sA271 M.sh, sA272 M.sh, sA273 M.sh, sA274 M.sh, sA275 M.sh, sA276 M.sh, sA277 M.sh, iR_t, ↓m_at', hk2, c1, c2, c3, T.vr, F.vr])
    (fun m a hI => by
      by_cases c1 : a = t (7 + 8 * p + 2)
      · simp (disch := first | omega | assumption) only [fX8_matches_L14, ↓z_lt, ↓z_ge, ↓z_gt, ↓z_le, ↓z_eq, ↓z_ne, ↓z_mx, ↓z_mn, ↓z_dv, ↓z_rm, ↓z_i2l, ↓z_lc, ↓z_sw, ↓z_sf, ↓z_sn, ↓z_bd, ↓z_nt, z_b0, z_b1, z_bi, z_bj, ↓z_gF, ↓z_gR, ↓z_pF, ↓z_pZ, ↓z_pR, ↓z_aI, ↓z_aR, ↓z_sI, ↓z_sZ, ↓z_on, z_cl, ↓reduceIte, Int.reduceEq, Int.reduceNeg, Int.reduceLT, Int.reduceLE, Int.reduceAdd, Int.reduceSub, Int.reduceMul, true_and, and_true, or_true, true_or, eq_self, st2_f, st2_g, st2_o, M.q1, M.q10, M.q11, M.q12, M.q14, M.q15, M.q16, M.q17, M.q19, M.q20, M.q21, M.q22, M.tl, sO265 M.sh, sA266 M.sh, sA267 M.sh, sA268 M.sh, sA269 M.sh, sA270 M.sh, sA271 M.sh, sA272 M.sh, sA273 M.sh, sA274 M.sh, sA275 M.sh, sA276 M.sh, sA277 M.sh, iR_t, ↓m_at', hN, c1, T.vr, F.vr, Int.le_refl, decide_true]
      · simp (disch := first | omega | assumption) only [fX8_matches_L14, ↓z_lt, ↓z_ge, ↓z_gt, ↓z_le, ↓z_eq, ↓z_ne, ↓z_mx, ↓z_mn, ↓z_dv, ↓z_rm, ↓z_i2l, ↓z_lc, ↓z_sw, ↓z_sf, ↓z_sn, ↓z_bd, ↓z_nt, z_b0, z_b1, z_bi, z_bj, ↓z_gF, ↓z_gR, ↓z_pF, ↓z_pZ, ↓z_pR, ↓z_aI, ↓z_aR, ↓z_sI, ↓z_sZ, ↓z_on, z_cl, ↓reduceIte, Int.reduceEq, Int.reduceNeg, Int.reduceLT, Int.reduceLE, Int.reduceAdd, Int.reduceSub, Int.reduceMul, true_and, and_true, or_true, true_or, eq_self, st2_f, st2_g, st2_o, M.q1, M.q10, M.q11, M.q12, M.q14, M.q15, M.q16, M.q17, M.q19, M.q20, M.q21, M.q22, M.tl, sO265 M.sh, sA266 M.sh, sA267 M.sh, sA268 M.sh, sA269 M.sh, sA270 M.sh, sA271 M.sh, sA272 M.sh, sA273 M.sh, sA274 M.sh, sA275 M.sh, sA276 M.sh, sA277 M.sh, iR_t, ↓m_at', hN, c1, T.vr, F.vr, Int.le_refl, decide_false, Bool.false_eq_true]) (m := 1000) (a := 0) (by omega) ⟨Int.le_refl _, by omega⟩
  exact l1.1
theorem m_matches' {ω : Type} {K : _ → Option ω} (M : MP P σ t) (T : TV t) (F : FV B t f g) (h0 : 0 ≤ d) (h1 : d < t 1) (p0 : 0 ≤ p) (p1 : p < t 0) : cl (fX8_matches P (st2 σ f g) 265 d p) K = K ((if matF t f d p = true then 1 else 0)) := e_cl (m_matches M T F h0 h1 p0 p1)
theorem m_matching (M : MP P σ t) (T : TV t) (F : FV B t f g) (h0 : 0 ≤ d) (h1 : d < t 1) : fX8_matching P (st2 σ f g) 265 d = some (mtsF t f d) := by
  have n0 := T.n0
  have hN := T.n0N
  unfold fX8_matching mtsF
  refine (loop_v (fun m k a => fX8_matching_L4 P (st2 σ f g) 265 d (fun x9 => some x9) m a k) (fun a => some a) (t 0).toNat _ (fun _ _ => True) (fun k m a hk _ => ⟨?_, trivial⟩) (fun m a _ => ?_) (by omega) trivial).1
  · have hk2 : ¬ (t 0 ≤ (k : Int)) := by omega
    by_cases c : matF t f d (k : Int) = true
    · simp (disch := first | omega | assumption) only [fX8_matching_L4, ↓z_lt, ↓z_ge, ↓z_gt, ↓z_le, ↓z_eq, ↓z_ne, ↓z_mx, ↓z_mn, ↓z_dv, ↓z_rm, ↓z_i2l, ↓z_lc, ↓z_sw, ↓z_sf, ↓z_sn, ↓z_bd, ↓z_nt, z_b0, z_b1, z_bi, z_bj, ↓z_gF, ↓z_gR, ↓z_pF, ↓z_pZ, ↓z_pR, ↓z_aI, ↓z_aR, ↓z_sI, ↓z_sZ, ↓z_on, z_cl, ↓reduceIte, Int.reduceEq, Int.reduceNeg, Int.reduceLT, Int.reduceLE, Int.reduceAdd, Int.reduceSub, Int.reduceMul, true_and, and_true, or_true, true_or, eq_self, st2_f, st2_g, st2_o, M.q1, M.q10, M.q11, M.q12, M.q14, M.q15, M.q16, M.q17, M.q19, M.q20, M.q21, M.q22, M.tl, sO265 M.sh, sA266 M.sh, sA267 M.sh, sA268 M.sh, sA269 M.sh, sA270 M.sh, sA271 M.sh, sA272 M.sh, sA273 M.sh, sA274 M.sh, sA275 M.sh, sA276 M.sh, sA277 M.sh, iR_t, ↓m_matches' M T F, hk2, c, T.vr]
    · simp (disch := first | omega | assumption) only [fX8_matching_L4, ↓z_lt, ↓z_ge, ↓z_gt, ↓z_le, ↓z_eq, ↓z_ne, ↓z_mx, ↓z_mn, ↓z_dv, ↓z_rm, ↓z_i2l, ↓z_lc, ↓z_sw, ↓z_sf, ↓z_sn, ↓z_bd, ↓z_nt, z_b0, z_b1, z_bi, z_bj, ↓z_gF, ↓z_gR, ↓z_pF, ↓z_pZ, ↓z_pR, ↓z_aI, ↓z_aR, ↓z_sI, ↓z_sZ, ↓z_on, z_cl, ↓reduceIte, Int.reduceEq, Int.reduceNeg, Int.reduceLT, Int.reduceLE, Int.reduceAdd, Int.reduceSub, Int.reduceMul, true_and, and_true, or_true, true_or, eq_self, st2_f, st2_g, st2_o, M.q1, M.q10, M.q11, M.q12, M.q14, M.q15, M.q16, M.q17, M.q19, M.q20, M.q21, M.q22, M.tl, sO265 M.sh, sA266 M.sh, sA267 M.sh, sA268 M.sh, sA269 M.sh, sA270 M.sh, sA271 M.sh, sA272 M.sh, sA273 M.sh, sA274 M.sh, sA275 M.sh, sA276 M.sh, sA277 M.sh, iR_t, ↓m_matches' M T F, hk2, c, T.vr, Bool.false_eq_true]
  · simp (disch := first | omega | assumption) only [fX8_matching_L4, ↓z_lt, ↓z_ge, ↓z_gt, ↓z_le, ↓z_eq, ↓z_ne, ↓z_mx, ↓z_mn, ↓z_dv, ↓z_rm, ↓z_i2l, ↓z_lc, ↓z_sw, ↓z_sf, ↓z_sn, ↓z_bd, ↓z_nt, z_b0, z_b1, z_bi, z_bj, ↓z_gF, ↓z_gR, ↓z_pF, ↓z_pZ, ↓z_pR, ↓z_aI, ↓z_aR, ↓z_sI, ↓z_sZ, ↓z_on, z_cl, ↓reduceIte, Int.reduceEq, Int.reduceNeg, Int.reduceLT, Int.reduceLE, Int.reduceAdd, Int.reduceSub, Int.reduceMul, true_and, and_true, or_true, true_or, eq_self, st2_f, st2_g, st2_o, M.q1, M.q10, M.q11, M.q12, M.q14, M.q15, M.q16, M.q17, M.q19, M.q20, M.q21, M.q22, M.tl, sO265 M.sh, sA266 M.sh, sA267 M.sh, sA268 M.sh, sA269 M.sh, sA270 M.sh, sA271 M.sh, sA272 M.sh, sA273 M.sh, sA274 M.sh, sA275 M.sh, sA276 M.sh, sA277 M.sh, iR_t, hN, Int.le_refl, T.vr]
theorem m_matching' {ω : Type} {K : _ → Option ω} (M : MP P σ t) (T : TV t) (F : FV B t f g) (h0 : 0 ≤ d) (h1 : d < t 1) : cl (fX8_matching P (st2 σ f g) 265 d) K = K ((mtsF t f d)) := e_cl (m_matching M T F h0 h1)
theorem m_scoreOf (M : MP P σ t) (T : TV t) (F : FV B t f g) (h0 : 0 ≤ d) (h1 : d < t 1) : fX8_scoreOf P (st2 σ f g) 265 d = some (scoF t f d) := by
  have n0 := T.n0
  have hN := T.n0N
  unfold fX8_scoreOf scoF
  refine (loop_v (fun m k a => fX8_scoreOf_L4 P (st2 σ f g) 265 d (fun x9 => some x9) m a k) (fun a => some a) (t 0).toNat _ (fun _ _ => True) (fun k m a hk _ => ⟨?_, trivial⟩) (fun m a _ => ?_) (by omega) trivial).1
  · have hk2 : ¬ (t 0 ≤ (k : Int)) := by omega
    by_cases c : matF t f d (k : Int) = true
    · simp (disch := first | omega | assumption) only [fX8_scoreOf_L4, ↓z_lt, ↓z_ge, ↓z_gt, ↓z_le, ↓z_eq, ↓z_ne, ↓z_mx, ↓z_mn, ↓z_dv, ↓z_rm, ↓z_i2l, ↓z_lc, ↓z_sw, ↓z_sf, ↓z_sn, ↓z_bd, ↓z_nt, z_b0, z_b1, z_bi, z_bj, ↓z_gF, ↓z_gR, ↓z_pF, ↓z_pZ, ↓z_pR, ↓z_aI, ↓z_aR, ↓z_sI, ↓z_sZ, ↓z_on, z_cl, ↓reduceIte, Int.reduceEq, Int.reduceNeg, Int.reduceLT, Int.reduceLE, Int.reduceAdd, Int.reduceSub, Int.reduceMul, true_and, and_true, or_true, true_or, eq_self, st2_f, st2_g, st2_o, M.q1, M.q10, M.q11, M.q12, M.q14, M.q15, M.q16, M.q17, M.q19, M.q20, M.q21, M.q22, M.tl, sO265 M.sh, sA266 M.sh, sA267 M.sh, sA268 M.sh, sA269 M.sh, sA270 M.sh, sA271 M.sh, sA272 M.sh, sA273 M.sh, sA274 M.sh, sA275 M.sh, sA276 M.sh, sA277 M.sh, iR_t, ↓m_matches' M T F, hk2, c, T.vr]
    · simp (disch := first | omega | assumption) only [fX8_scoreOf_L4, ↓z_lt, ↓z_ge, ↓z_gt, ↓z_le, ↓z_eq, ↓z_ne, ↓z_mx, ↓z_mn, ↓z_dv, ↓z_rm, ↓z_i2l, ↓z_lc, ↓z_sw, ↓z_sf, ↓z_sn, ↓z_bd, ↓z_nt, z_b0, z_b1, z_bi, z_bj, ↓z_gF, ↓z_gR, ↓z_pF, ↓z_pZ, ↓z_pR, ↓z_aI, ↓z_aR, ↓z_sI, ↓z_sZ, ↓z_on, z_cl, ↓reduceIte, Int.reduceEq, Int.reduceNeg, Int.reduceLT, Int.reduceLE, Int.reduceAdd, Int.reduceSub, Int.reduceMul, true_and, and_true, or_true, true_or, eq_self, st2_f, st2_g, st2_o, M.q1, M.q10, M.q11, M.q12, M.q14, M.q15, M.q16, M.q17, M.q19, M.q20, M.q21, M.q22, M.tl, sO265 M.sh, sA266 M.sh, sA267 M.sh, sA268 M.sh, sA269 M.sh, sA270 M.sh, sA271 M.sh, sA272 M.sh, sA273 M.sh, sA274 M.sh, sA275 M.sh, sA276 M.sh, sA277 M.sh, iR_t, ↓m_matches' M T F, hk2, c, T.vr, Bool.false_eq_true]
  · simp (disch := first | omega | assumption) only [fX8_scoreOf_L4, ↓z_lt, ↓z_ge, ↓z_gt, ↓z_le, ↓z_eq, ↓z_ne, ↓z_mx, ↓z_mn, ↓z_dv, ↓z_rm, ↓z_i2l, ↓z_lc, ↓z_sw, ↓z_sf, ↓z_sn, ↓z_bd, ↓z_nt, z_b0, z_b1, z_bi, z_bj, ↓z_gF, ↓z_gR, ↓z_pF, ↓z_pZ, ↓z_pR, ↓z_aI, ↓z_aR, ↓z_sI, ↓z_sZ, ↓z_on, z_cl, ↓reduceIte, Int.reduceEq, Int.reduceNeg, Int.reduceLT, Int.reduceLE, Int.reduceAdd, Int.reduceSub, Int.reduceMul, true_and, and_true, or_true, true_or, eq_self, st2_f, st2_g, st2_o, M.q1, M.q10, M.q11, M.q12, M.q14, M.q15, M.q16, M.q17, M.q19, M.q20, M.q21, M.q22, M.tl, sO265 M.sh, sA266 M.sh, sA267 M.sh, sA268 M.sh, sA269 M.sh, sA270 M.sh, sA271 M.sh, sA272 M.sh, sA273 M.sh, sA274 M.sh, sA275 M.sh, sA276 M.sh, sA277 M.sh, iR_t, hN, Int.le_refl, T.vr]
theorem m_scoreOf' {ω : Type} {K : _ → Option ω} (M : MP P σ t) (T : TV t) (F : FV B t f g) (h0 : 0 ≤ d) (h1 : d < t 1) : cl (fX8_scoreOf P (st2 σ f g) 265 d) K = K ((scoF t f d)) := e_cl (m_scoreOf M T F h0 h1)
theorem scoF_in (T : TV t) : 0 ≤ scoF t f d ∧ scoF t f d ≤ 59994 := by
  have n0 := T.n0
  unfold scoF
  have key : ∀ n : Nat, (n : Int) ≤ t 0 → 0 ≤ forI (fun p a => a + (if matF t f d p = true then t (7 + 8 * p) else 0)) n 0 ∧ forI (fun p a => a + (if matF t f d p = true then t (7 + 8 * p) else 0)) n 0 ≤ 9999 * (n : Int) := by
    intro n
    induction n with
    | zero => intro _; exact ⟨Int.le_refl _, Int.le_refl _⟩
    | succ n ih =>
      intro hn
      have i1 := ih (by omega)
      have r := T.b (7 + 8 * (n : Int))
      have r2 := T.we (n : Int) (by omega) (by omega)
      show _ ≤ _ + _ ∧ _ + _ ≤ _
      split <;> constructor <;> push_cast <;> omega
  have := key (t 0).toNat (by omega)
  omega
theorem shi_loop (f : Int → Int) (d : Int) : ∀ n : Nat, forI (fun k a => zu a (14 + 28 * d + 4 + (k + 2) - 2) (a (14 + 28 * d + 4 + (k + 2)))) n f = fun j => if 14 + 28 * d + 4 ≤ j ∧ j < 14 + 28 * d + 4 + (n : Int) then f (j + 2) else f j := by
  intro n
  induction n with
  | zero => funext j; show f j = _; rw [if_neg (by omega)]
  | succ n ih =>
    show zu (forI _ n f) _ (forI _ n f _) = _
    rw [ih]
    funext j
    unfold zu
    by_cases h : j = 14 + 28 * d + 4 + ((n : Int) + 2) - 2
    · rw [if_pos h, if_pos (by push_cast; omega)]
      show (if _ then _ else _) = _
      rw [if_neg (by omega)]
      congr 1
      omega
    · rw [if_neg h]
      show (if _ then _ else _) = _
      by_cases h2 : 14 + 28 * d + 4 ≤ j ∧ j < 14 + 28 * d + 4 + (n : Int)
      · rw [if_pos h2, if_pos (by push_cast; omega)]
      · rw [if_neg h2, if_neg (by push_cast; omega)]
theorem shi_22 (f : Int → Int) (d : Int) : forI (fun k a => zu a (14 + 28 * d + 4 + (k + 2) - 2) (a (14 + 28 * d + 4 + (k + 2)))) 22 f = shiF f d := by
  rw [shi_loop]
  funext j
  unfold shiF
  by_cases h : 14 + 28 * d + 4 ≤ j ∧ j < 14 + 28 * d + 26
  · rw [if_pos h, if_pos (by push_cast; omega)]
  · rw [if_neg h, if_neg (by push_cast; omega)]
theorem shiF_o (h : j < 14 + 28 * d + 4 ∨ 14 + 28 * d + 26 ≤ j) : shiF f d j = f j := if_neg (by omega)
theorem m_keepsError (M : MP P σ t) (T : TV t) (F : FV B t f g) (h0 : 0 ≤ d) (h1 : d < t 1) : fX8_keepsError P (st2 σ f g) 265 d kind = some (st2 σ (keeF f d kind) g) := by
  have n1 := T.n1
  have mn := F.mn d h0 h1
  by_cases c : f (14 + 28 * d + 3) = 12
  · have l1 : ∀ (kE : St → Option St), fX8_keepsError_L21 P 265 kind (14 + 28 * d) kE 1000 2 (st2 σ f g) = kE (st2 σ (shiF f d) g) := by
      intro kE
      have l2 := loop_v (fun m k a => fX8_keepsError_L21 P 265 kind (14 + 28 * d) kE m (k + 2) (st2 σ a g)) (fun a => kE (st2 σ a g)) 22 (fun k a => zu a (14 + 28 * d + 4 + (k + 2) - 2) (a (14 + 28 * d + 4 + (k + 2)))) (fun _ _ => True)
        (fun k m a hk _ => by
          refine ⟨?_, trivial⟩
          have hk2 : ¬ ((24 : Int) ≤ (k : Int) + 2) := by omega
          have e : (k : Int) + 1 + 2 = (k : Int) + 2 + 1 := by omega
          simp (disch := first | omega | assumption) only [fX8_keepsError_L21, ↓z_lt, ↓z_ge, ↓z_gt, ↓z_le, ↓z_eq, ↓z_ne, ↓z_mx, ↓z_mn, ↓z_dv, ↓z_rm, ↓z_i2l, ↓z_lc, ↓z_sw, ↓z_sf, ↓z_sn, ↓z_bd, ↓z_nt, z_b0, z_b1, z_bi, z_bj, ↓z_gF, ↓z_gR, ↓z_pF, ↓z_pZ, ↓z_pR, ↓z_aI, ↓z_aR, ↓z_sI, ↓z_sZ, ↓z_on, z_cl, ↓reduceIte, Int.reduceEq, Int.reduceNeg, Int.reduceLT, Int.reduceLE, Int.reduceAdd, Int.reduceSub, Int.reduceMul, true_and, and_true, or_true, true_or, eq_self, st2_f, st2_g, st2_o, M.q1, M.q10, M.q11, M.q12, M.q14, M.q15, M.q16, M.q17, M.q19, M.q20, M.q21, M.q22, M.tl, sO265 M.sh, sA266 M.sh, sA267 M.sh, sA268 M.sh, sA269 M.sh, sA270 M.sh, sA271 M.sh, sA272 M.sh, sA273 M.sh, sA274 M.sh, sA275 M.sh, sA276 M.sh, sA277 M.sh, iR_t, ↓m_at', hk2, st2_wf, e])
        (fun m a _ => by
          show fX8_keepsError_L21 P 265 kind (14 + 28 * d) kE (m + 1) 24 (st2 σ a g) = _
          simp (disch := first | omega | assumption) only [fX8_keepsError_L21, ↓z_lt, ↓z_ge, ↓z_gt, ↓z_le, ↓z_eq, ↓z_ne, ↓z_mx, ↓z_mn, ↓z_dv, ↓z_rm, ↓z_i2l, ↓z_lc, ↓z_sw, ↓z_sf, ↓z_sn, ↓z_bd, ↓z_nt, z_b0, z_b1, z_bi, z_bj, ↓z_gF, ↓z_gR, ↓z_pF, ↓z_pZ, ↓z_pR, ↓z_aI, ↓z_aR, ↓z_sI, ↓z_sZ, ↓z_on, z_cl, ↓reduceIte, Int.reduceEq, Int.reduceNeg, Int.reduceLT, Int.reduceLE, Int.reduceAdd, Int.reduceSub, Int.reduceMul, true_and, and_true, or_true, true_or, eq_self, st2_f, st2_g, st2_o, M.q1, M.q10, M.q11, M.q12, M.q14, M.q15, M.q16, M.q17, M.q19, M.q20, M.q21, M.q22, M.tl, sO265 M.sh, sA266 M.sh, sA267 M.sh, sA268 M.sh, sA269 M.sh, sA270 M.sh, sA271 M.sh, sA272 M.sh, sA273 M.sh, sA274 M.sh, sA275 M.sh, sA276 M.sh, sA277 M.sh, iR_t, ↓m_at', Int.le_refl]) (m := 1000) (a := f) (by omega) trivial
      rw [shi_22] at l2
      exact l2.1
    simp (disch := first | omega | assumption) only [fX8_keepsError, keeF, putF, ↓z_lt, ↓z_ge, ↓z_gt, ↓z_le, ↓z_eq, ↓z_ne, ↓z_mx, ↓z_mn, ↓z_dv, ↓z_rm, ↓z_i2l, ↓z_lc, ↓z_sw, ↓z_sf, ↓z_sn, ↓z_bd, ↓z_nt, z_b0, z_b1, z_bi, z_bj, ↓z_gF, ↓z_gR, ↓z_pF, ↓z_pZ, ↓z_pR, ↓z_aI, ↓z_aR, ↓z_sI, ↓z_sZ, ↓z_on, z_cl, ↓reduceIte, Int.reduceEq, Int.reduceNeg, Int.reduceLT, Int.reduceLE, Int.reduceAdd, Int.reduceSub, Int.reduceMul, true_and, and_true, or_true, true_or, eq_self, st2_f, st2_g, st2_o, M.q1, M.q10, M.q11, M.q12, M.q14, M.q15, M.q16, M.q17, M.q19, M.q20, M.q21, M.q22, M.tl, sO265 M.sh, sA266 M.sh, sA267 M.sh, sA268 M.sh, sA269 M.sh, sA270 M.sh, sA271 M.sh, sA272 M.sh, sA273 M.sh, sA274 M.sh, sA275 M.sh, sA276 M.sh, sA277 M.sh, iR_t, ↓m_at', ↓l1, c, st2_wf, F.vr, zu_s, zu_n, shiF_o]
  · simp (disch := first | omega | assumption) only [fX8_keepsError, keeF, putF, ↓z_lt, ↓z_ge, ↓z_gt, ↓z_le, ↓z_eq, ↓z_ne, ↓z_mx, ↓z_mn, ↓z_dv, ↓z_rm, ↓z_i2l, ↓z_lc, ↓z_sw, ↓z_sf, ↓z_sn, ↓z_bd, ↓z_nt, z_b0, z_b1, z_bi, z_bj, ↓z_gF, ↓z_gR, ↓z_pF, ↓z_pZ, ↓z_pR, ↓z_aI, ↓z_aR, ↓z_sI, ↓z_sZ, ↓z_on, z_cl, ↓reduceIte, Int.reduceEq, Int.reduceNeg, Int.reduceLT, Int.reduceLE, Int.reduceAdd, Int.reduceSub, Int.reduceMul, true_and, and_true, or_true, true_or, eq_self, st2_f, st2_g, st2_o, M.q1, M.q10, M.q11, M.q12, M.q14, M.q15, M.q16, M.q17, M.q19, M.q20, M.q21, M.q22, M.tl, sO265 M.sh, sA266 M.sh, sA267 M.sh, sA268 M.sh, sA269 M.sh, sA270 M.sh, sA271 M.sh, sA272 M.sh, sA273 M.sh, sA274 M.sh, sA275 M.sh, sA276 M.sh, sA277 M.sh, iR_t, ↓m_at', c, st2_wf, F.vr, zu_s, zu_n]
theorem m_keepsError' {ω : Type} {K : _ → Option ω} (M : MP P σ t) (T : TV t) (F : FV B t f g) (h0 : 0 ≤ d) (h1 : d < t 1) : cl (fX8_keepsError P (st2 σ f g) 265 d kind) K = K ((st2 σ (keeF f d kind) g)) := e_cl (m_keepsError M T F h0 h1)
theorem keeF_o (h0 : 0 ≤ d) (hm : 0 ≤ f (14 + 28 * d + 3)) (hm2 : f (14 + 28 * d + 3) ≤ 12) (h : j < 14 + 28 * d + 3 ∨ 14 + 28 * d + 28 ≤ j) : keeF f d kind j = f j := by
  unfold keeF
  by_cases c : f (14 + 28 * d + 3) = 12
  · rw [if_pos c]
    unfold putF
    simp (disch := omega) only [zu_s, zu_n, shiF_o]
  · rw [if_neg c]
    unfold putF
    simp (disch := omega) only [zu_s, zu_n]
theorem keeF_m (h0 : 0 ≤ d) (hm : 0 ≤ f (14 + 28 * d + 3)) (hm2 : f (14 + 28 * d + 3) ≤ 12) : keeF f d kind (14 + 28 * d + 3) = if f (14 + 28 * d + 3) = 12 then 12 else f (14 + 28 * d + 3) + 1 := by
  unfold keeF
  by_cases c : f (14 + 28 * d + 3) = 12
  · rw [if_pos c, if_pos c]
    unfold putF
    simp (disch := omega) only [zu_s, zu_n, shiF_o]
    rfl
  · rw [if_neg c, if_neg c]
    unfold putF
    simp (disch := omega) only [zu_s, zu_n]
theorem FV.kee (F : FV B t f g) (T : TV t) (h0 : 0 ≤ d) (h1 : d < t 1) (hp : f (14 + 28 * d + 0) ≠ -1) (k0 : 0 ≤ kind) (k1 : kind < 4) (h4 : 12 ≤ B) : FV B t (keeF f d kind) g := by
  have n1 := T.n1
  have n2 := T.n2
  have b0 := F.b0
  have mn := F.mn d h0 h1
  refine ⟨by omega, fun j => ?_, F.bg, ?_, ?_, ?_, ?_, ?_, ?_, ?_, ?_, ?_⟩
  · unfold keeF putF zu shiF
    have q0 := F.bl 0
    have q1 := F.bl j
    have q2 := F.bl (j + 2)
    have q3 := F.bl (14 + 28 * d + 3)
    by_cases c : f (14 + 28 * d + 3) = 12
    · simp only [c, if_true]
      repeat' split
      all_goals first | omega | (have := F.bl (14 + 28 * d + 3 + 2); omega) | (have := F.bl 2; omega) | skip
    · simp only [c, if_false]
      repeat' split
      all_goals omega
  · rw [keeF_o (j := 0) h0 mn.1 mn.2 (by omega), keeF_o (j := 3) h0 mn.1 mn.2 (by omega), keeF_o (j := 4) h0 mn.1 mn.2 (by omega)]; exact F.tq
  · rw [keeF_o h0 mn.1 mn.2 (by omega)]; exact F.ev
  · intro e e0 e1; have := F.al e e0 e1; rw [keeF_o h0 mn.1 mn.2 (by omega)]; exact this
  · intro e e0 e1
    have := F.un e e0 e1
    rw [keeF_o (j := 14 + 28 * e + 0) h0 mn.1 mn.2 (by omega), keeF_o (j := 14 + 28 * e + 1) h0 mn.1 mn.2 (by omega)]
    by_cases c : e = d
    · subst c; intro hh; exact absurd hh hp
    · rw [keeF_o (j := 14 + 28 * e + 3) h0 mn.1 mn.2 (by omega)]; exact this
  · intro e e0 e1; have := F.si e e0 e1; rw [keeF_o h0 mn.1 mn.2 (by omega)]; exact this
  · intro e e0 e1
    have := F.mn e e0 e1
    by_cases c : e = d
    · subst c; rw [keeF_m h0 mn.1 mn.2]; split <;> omega
    · rw [keeF_o (j := 14 + 28 * e + 3) h0 mn.1 mn.2 (by omega)]; exact this
  · intro e e0 e1; have := F.mo e e0 e1; rw [keeF_o h0 mn.1 mn.2 (by omega)]; exact this
  · intro e e0 e1; have := F.ho e e0 e1; rw [keeF_o (j := 238 + 3 * e) h0 mn.1 mn.2 (by omega), keeF_o (j := 238 + 3 * e + 1) h0 mn.1 mn.2 (by omega)]; exact this
  · intro e e0 e1; have := F.dn e e0 e1; rw [keeF_o h0 mn.1 mn.2 (by omega)]; exact this
end ZG
