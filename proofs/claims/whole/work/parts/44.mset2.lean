/-! THE REFERENCE SETTLES, the loops. -/
section ZF
variable {P : Shp} {σ : St} {t f g : Int → Int} {B : Int} {d k kind who m h j : Int}
theorem m_settlesHeld (M : MP P σ t) (T : TV t) (F : FV B t f g) (h0 : 0 ≤ k) (h1 : k < t 2) (hh : f (238 + 3 * k) ≠ 0) (h4 : 12 ≤ B) : fX8_settlesHeld P (st2 σ f g) 265 k = some (st2 σ (seHF t f k) g) := by
  have n2 := T.n2
  have n1 := T.n1
  have w := wantF_in (f := f) T h0 h1
  have F1 := F.mod T h0 h1 hh (Or.inr rfl) h4
  by_cases c1 : f (238 + 3 * k + 1) = wantF t f k
  · simp (disch := first | omega | assumption) only [fX8_settlesHeld, seHF, ↓z_lt, ↓z_ge, ↓z_gt, ↓z_le, ↓z_eq, ↓z_ne, ↓z_mx, ↓z_mn, ↓z_dv, ↓z_rm, ↓z_i2l, ↓z_lc, ↓z_sw, ↓z_sf, ↓z_sn, ↓z_bd, ↓z_nt, z_b0, z_b1, z_bi, z_bj, ↓z_gF, ↓z_gR, ↓z_pF, ↓z_pZ, ↓z_pR, ↓z_aI, ↓z_aR, ↓z_sI, ↓z_sZ, ↓z_on, z_cl, ↓reduceIte, Int.reduceEq, Int.reduceNeg, Int.reduceLT, Int.reduceLE, Int.reduceAdd, Int.reduceSub, Int.reduceMul, true_and, and_true, or_true, true_or, eq_self, st2_f, st2_g, st2_o, M.q1, M.q10, M.q11, M.q12, M.q14, M.q15, M.q16, M.q17, M.q19, M.q20, M.q21, M.q22, M.tl, sO265 M.sh, sA266 M.sh, sA267 M.sh, sA268 M.sh, sA269 M.sh, sA270 M.sh, sA271 M.sh, sA272 M.sh, sA273 M.sh, sA274 M.sh, sA275 M.sh, sA276 M.sh, sA277 M.sh, iR_t, ↓m_wanted' M T F, ↓m_in', c1, F.vr, st2_wf]
  · by_cases c2 : f (238 + 3 * k + 2) ≤ 0
    · by_cases c3 : wantF t f k = -1
      · have F2 := F1.bec T h0 h1 (m := 0) (h := -1) (Or.inl ⟨rfl, rfl⟩) h4
        rw [c3] at c1
        simp (disch := first | omega | assumption) only [fX8_settlesHeld, seHF, ↓z_lt, ↓z_ge, ↓z_gt, ↓z_le, ↓z_eq, ↓z_ne, ↓z_mx, ↓z_mn, ↓z_dv, ↓z_rm, ↓z_i2l, ↓z_lc, ↓z_sw, ↓z_sf, ↓z_sn, ↓z_bd, ↓z_nt, z_b0, z_b1, z_bi, z_bj, ↓z_gF, ↓z_gR, ↓z_pF, ↓z_pZ, ↓z_pR, ↓z_aI, ↓z_aR, ↓z_sI, ↓z_sZ, ↓z_on, z_cl, ↓reduceIte, Int.reduceEq, Int.reduceNeg, Int.reduceLT, Int.reduceLE, Int.reduceAdd, Int.reduceSub, Int.reduceMul, true_and, and_true, or_true, true_or, eq_self, st2_f, st2_g, st2_o, M.q1, M.q10, M.q11, M.q12, M.q14, M.q15, M.q16, M.q17, M.q19, M.q20, M.q21, M.q22, M.tl, sO265 M.sh, sA266 M.sh, sA267 M.sh, sA268 M.sh, sA269 M.sh, sA270 M.sh, sA271 M.sh, sA272 M.sh, sA273 M.sh, sA274 M.sh, sA275 M.sh, sA276 M.sh, sA277 M.sh, iR_t, ↓m_wanted' M T F, ↓m_in', c1, c2, c3, F.vr, st2_wf, zu_n, ↓m_becomes' M, ↓m_happens' M (F2.vr 12) F2.ev]
      · have F2 := F1.bec T h0 h1 (m := 1) (h := wantF t f k) (Or.inr ⟨Or.inl rfl, by omega, by omega⟩) h4
        simp (disch := first | omega | assumption) only [fX8_settlesHeld, seHF, ↓z_lt, ↓z_ge, ↓z_gt, ↓z_le, ↓z_eq, ↓z_ne, ↓z_mx, ↓z_mn, ↓z_dv, ↓z_rm, ↓z_i2l, ↓z_lc, ↓z_sw, ↓z_sf, ↓z_sn, ↓z_bd, ↓z_nt, z_b0, z_b1, z_bi, z_bj, ↓z_gF, ↓z_gR, ↓z_pF, ↓z_pZ, ↓z_pR, ↓z_aI, ↓z_aR, ↓z_sI, ↓z_sZ, ↓z_on, z_cl, ↓reduceIte, Int.reduceEq, Int.reduceNeg, Int.reduceLT, Int.reduceLE, Int.reduceAdd, Int.reduceSub, Int.reduceMul, true_and, and_true, or_true, true_or, eq_self, st2_f, st2_g, st2_o, M.q1, M.q10, M.q11, M.q12, M.q14, M.q15, M.q16, M.q17, M.q19, M.q20, M.q21, M.q22, M.tl, sO265 M.sh, sA266 M.sh, sA267 M.sh, sA268 M.sh, sA269 M.sh, sA270 M.sh, sA271 M.sh, sA272 M.sh, sA273 M.sh, sA274 M.sh, sA275 M.sh, sA276 M.sh, sA277 M.sh, iR_t, ↓m_wanted' M T F, ↓m_in', c1, c2, c3, F.vr, st2_wf, zu_n, ↓m_becomes' M, ↓m_happens' M (F2.vr 12) F2.ev]
    · simp (disch := first | omega | assumption) only [fX8_settlesHeld, seHF, ↓z_lt, ↓z_ge, ↓z_gt, ↓z_le, ↓z_eq, ↓z_ne, ↓z_mx, ↓z_mn, ↓z_dv, ↓z_rm, ↓z_i2l, ↓z_lc, ↓z_sw, ↓z_sf, ↓z_sn, ↓z_bd, ↓z_nt, z_b0, z_b1, z_bi, z_bj, ↓z_gF, ↓z_gR, ↓z_pF, ↓z_pZ, ↓z_pR, ↓z_aI, ↓z_aR, ↓z_sI, ↓z_sZ, ↓z_on, z_cl, ↓reduceIte, Int.reduceEq, Int.reduceNeg, Int.reduceLT, Int.reduceLE, Int.reduceAdd, Int.reduceSub, Int.reduceMul, true_and, and_true, or_true, true_or, eq_self, st2_f, st2_g, st2_o, M.q1, M.q10, M.q11, M.q12, M.q14, M.q15, M.q16, M.q17, M.q19, M.q20, M.q21, M.q22, M.tl, sO265 M.sh, sA266 M.sh, sA267 M.sh, sA268 M.sh, sA269 M.sh, sA270 M.sh, sA271 M.sh, sA272 M.sh, sA273 M.sh, sA274 M.sh, sA275 M.sh, sA276 M.sh, sA277 M.sh, iR_t, ↓m_wanted' M T F, ↓m_in', c1, c2, F.vr, st2_wf, zu_n]
theorem m_settlesHeld' {ω : Type} {K : _ → Option ω} (M : MP P σ t) (T : TV t) (F : FV B t f g) (h0 : 0 ≤ k) (h1 : k < t 2) (hh : f (238 + 3 * k) ≠ 0) (h4 : 12 ≤ B) : cl (fX8_settlesHeld P (st2 σ f g) 265 k) K = K ((st2 σ (seHF t f k) g)) := e_cl (m_settlesHeld M T F h0 h1 hh h4)
theorem FV.seH (F : FV B t f g) (T : TV t) (h0 : 0 ≤ k) (h1 : k < t 2) (hh : f (238 + 3 * k) ≠ 0) (h4 : 12 ≤ B) (hB : B < 2000000000) : FV (B + 1) t (seHF t f k) g := by
  have n2 := T.n2
  have n1 := T.n1
  have w := wantF_in (f := f) T h0 h1
  have F1 := F.mod T h0 h1 hh (Or.inr rfl) h4
  unfold seHF
  by_cases c1 : f (238 + 3 * k + 1) = wantF t f k
  · rw [if_pos c1]
    exact (F.mod T h0 h1 hh (Or.inl rfl) h4).mono (by omega) (by omega)
  · rw [if_neg c1]
    by_cases c2 : f (238 + 3 * k + 2) ≤ 0
    · rw [if_pos c2]
      by_cases c3 : wantF t f k = -1
      · rw [if_pos c3, if_pos c3, c3]
        exact (F1.bec T h0 h1 (Or.inl ⟨rfl, rfl⟩) h4).hap T hB (by omega) (by omega) (by omega) (by omega) h4
      · rw [if_neg c3, if_neg c3]
        exact (F1.bec T h0 h1 (Or.inr ⟨Or.inl rfl, by omega, by omega⟩) h4).hap T hB (by omega) (by omega) (by omega) (by omega) h4
    · rw [if_neg c2]
      exact F1.mono (by omega) (by omega)
theorem m_reserved (M : MP P σ t) (T : TV t) (F : FV B t f g) : fX8_reserved P (st2 σ f g) 265 = some (resvF t f) := by
  have n2 := T.n2
  have hN := T.n2N
  unfold fX8_reserved resvF
  refine (loop_v (fun m k a => fX8_reserved_L4 P (st2 σ f g) 265 (fun x9 => some x9) m a k) (fun a => some a) (t 2).toNat _ (fun _ _ => True) (fun k m a hk _ => ⟨?_, trivial⟩) (fun m a _ => ?_) (by omega) trivial).1
  · have hk2 : ¬ (t 2 ≤ (k : Int)) := by omega
    by_cases c : f (238 + 3 * (k : Int)) = 0
    · simp (disch := first | omega | assumption) only [fX8_reserved_L4, ↓z_lt, ↓z_ge, ↓z_gt, ↓z_le, ↓z_eq, ↓z_ne, ↓z_mx, ↓z_mn, ↓z_dv, ↓z_rm, ↓z_i2l, ↓z_lc, ↓z_sw, ↓z_sf, ↓z_sn, ↓z_bd, ↓z_nt, z_b0, z_b1, z_bi, z_bj, ↓z_gF, ↓z_gR, ↓z_pF, ↓z_pZ, ↓z_pR, ↓z_aI, ↓z_aR, ↓z_sI, ↓z_sZ, ↓z_on, z_cl, ↓reduceIte, Int.reduceEq, Int.reduceNeg, Int.reduceLT, Int.reduceLE, Int.reduceAdd, Int.reduceSub, Int.reduceMul, true_and, and_true, or_true, true_or, eq_self, st2_f, st2_g, st2_o, M.q1, M.q10, M.q11, M.q12, M.q14, M.q15, M.q16, M.q17, M.q19, M.q20, M.q21, M.q22, M.tl, sO265 M.sh, sA266 M.sh, sA267 M.sh, sA268 M.sh, sA269 M.sh, sA270 M.sh, sA271 M.sh, sA272 M.sh, sA273 M.sh, sA274 M.sh, sA275 M.sh, sA276 M.sh, sA277 M.sh, iR_t, ↓m_streams' M, ↓m_in', ↓m_rateOf' M, hk2, c, T.vr, F.vr]
    · simp (disch := first | omega | assumption) only [fX8_reserved_L4, ↓z_lt, ↓z_ge, ↓z_gt, ↓z_le, ↓z_eq, ↓z_ne, ↓z_mx, ↓z_mn, ↓z_dv, ↓z_rm, ↓z_i2l, ↓z_lc, ↓z_sw, ↓z_sf, ↓z_sn, ↓z_bd, ↓z_nt, z_b0, z_b1, z_bi, z_bj, ↓z_gF, ↓z_gR, ↓z_pF, ↓z_pZ, ↓z_pR, ↓z_aI, ↓z_aR, ↓z_sI, ↓z_sZ, ↓z_on, z_cl, ↓reduceIte, Int.reduceEq, Int.reduceNeg, Int.reduceLT, Int.reduceLE, Int.reduceAdd, Int.reduceSub, Int.reduceMul, true_and, and_true, or_true, true_or, eq_self, st2_f, st2_g, st2_o, M.q1, M.q10, M.q11, M.q12, M.q14, M.q15, M.q16, M.q17, M.q19, M.q20, M.q21, M.q22, M.tl, sO265 M.sh, sA266 M.sh, sA267 M.sh, sA268 M.sh, sA269 M.sh, sA270 M.sh, sA271 M.sh, sA272 M.sh, sA273 M.sh, sA274 M.sh, sA275 M.sh, sA276 M.sh, sA277 M.sh, iR_t, ↓m_streams' M, ↓m_in', ↓m_rateOf' M, hk2, c, T.vr, F.vr]
  · simp (disch := first | omega | assumption) only [fX8_reserved_L4, ↓z_lt, ↓z_ge, ↓z_gt, ↓z_le, ↓z_eq, ↓z_ne, ↓z_mx, ↓z_mn, ↓z_dv, ↓z_rm, ↓z_i2l, ↓z_lc, ↓z_sw, ↓z_sf, ↓z_sn, ↓z_bd, ↓z_nt, z_b0, z_b1, z_bi, z_bj, ↓z_gF, ↓z_gR, ↓z_pF, ↓z_pZ, ↓z_pR, ↓z_aI, ↓z_aR, ↓z_sI, ↓z_sZ, ↓z_on, z_cl, ↓reduceIte, Int.reduceEq, Int.reduceNeg, Int.reduceLT, Int.reduceLE, Int.reduceAdd, Int.reduceSub, Int.reduceMul, true_and, and_true, or_true, true_or, eq_self, st2_f, st2_g, st2_o, M.q1, M.q10, M.q11, M.q12, M.q14, M.q15, M.q16, M.q17, M.q19, M.q20, M.q21, M.q22, M.tl, sO265 M.sh, sA266 M.sh, sA267 M.sh, sA268 M.sh, sA269 M.sh, sA270 M.sh, sA271 M.sh, sA272 M.sh, sA273 M.sh, sA274 M.sh, sA275 M.sh, sA276 M.sh, sA277 M.sh, iR_t, ↓m_streams' M, hN, Int.le_refl, T.vr]
theorem m_reserved' {ω : Type} {K : _ → Option ω} (M : MP P σ t) (T : TV t) (F : FV B t f g) : cl (fX8_reserved P (st2 σ f g) 265) K = K ((resvF t f)) := e_cl (m_reserved M T F)
theorem resvF_in (T : TV t) : 0 ≤ resvF t f ∧ resvF t f ≤ 11988 := by
  have n2 := T.n2
  have hN := T.n2N
  unfold resvF
  have key : ∀ n : Nat, (n : Int) ≤ t 2 → 0 ≤ forI (fun k a => a + (if f (238 + 3 * k) = 0 then 0 else t (71 + 3 * k + 1))) n 0 ∧ forI (fun k a => a + (if f (238 + 3 * k) = 0 then 0 else t (71 + 3 * k + 1))) n 0 ≤ 999 * (n : Int) := by
    intro n
    induction n with
    | zero => intro _; exact ⟨Int.le_refl _, Int.le_refl _⟩
    | succ n ih =>
      intro hn
      have i1 := ih (by omega)
      have r := T.ra (n : Int) (by omega) (by omega)
      show 0 ≤ _ + _ ∧ _ + _ ≤ _
      split <;> constructor <;> push_cast <;> omega
  have := key (t 2).toNat (by omega)
  omega
theorem FV.seW (F : FV B t f g) (T : TV t) (h0 : 0 ≤ k) (h1 : k < t 2) (h4 : 12 ≤ B) (hB : B < 2000000000) : FV (B + 1) t (seWF t f k) g := by
  have n2 := T.n2
  have n1 := T.n1
  have w := wantF_in (f := f) T h0 h1
  unfold seWF
  by_cases c1 : f (238 + 3 * k) = 0
  · rw [if_pos c1]
    by_cases c2 : wantF t f k = -1
    · rw [if_pos c2]; exact F.mono (by omega) (by omega)
    · rw [if_neg c2]
      by_cases c3 : t (71 + 3 * k + 1) ≤ t 3 - resvF t f
      · rw [if_pos c3]
        exact (F.bec T h0 h1 (Or.inr ⟨Or.inl rfl, by omega, by omega⟩) h4).hap T hB (by omega) (by omega) (by omega) (by omega) h4
      · rw [if_neg c3]; exact F.mono (by omega) (by omega)
  · rw [if_neg c1]; exact F.mono (by omega) (by omega)
theorem m_settles_ (M : MP P σ t) (T : TV t) (F : FV B t f g) (h4 : 12 ≤ B) (hB : B ≤ 1999999900) : fX8_settles P (st2 σ f g) 265 = some (st2 σ (setF t f) g) ∧ FV (B + 24) t (setF t f) g := by
  have n2 := T.n2
  have hN := T.n2N
  unfold fX8_settles setF se1F
  have l1 := loop_v (fun m k a => fX8_settles_L2 P 265 (fun s8 => fX8_settles_L35 P 265 (fun s23 => some s23) 1000 0 s8) m k (st2 σ a g)) (fun a => fX8_settles_L35 P 265 (fun s23 => some s23) 1000 0 (st2 σ a g)) (t 2).toNat (fun k a => if a (238 + 3 * k) = 0 then a else seHF t a k) (fun k a => FV (B + (k : Int)) t a g)
    (fun k m a hk G => by
      have hk2 : ¬ (t 2 ≤ (k : Int)) := by omega
      by_cases c : a (238 + 3 * (k : Int)) = 0
      · refine ⟨?_, ?_⟩
        · simp (disch := first | omega | assumption) only [fX8_settles_L2, ↓z_lt, ↓z_ge, ↓z_gt, ↓z_le, ↓z_eq, ↓z_ne, ↓z_mx, ↓z_mn, ↓z_dv, ↓z_rm, ↓z_i2l, ↓z_lc, ↓z_sw, ↓z_sf, ↓z_sn, ↓z_bd, ↓z_nt, z_b0, z_b1, z_bi, z_bj, ↓z_gF, ↓z_gR, ↓z_pF, ↓z_pZ, ↓z_pR, ↓z_aI, ↓z_aR, ↓z_sI, ↓z_sZ, ↓z_on, z_cl, ↓reduceIte, Int.reduceEq, Int.reduceNeg, Int.reduceLT, Int.reduceLE, Int.reduceAdd, Int.reduceSub, Int.reduceMul, true_and, and_true, or_true, true_or, eq_self, st2_f, st2_g, st2_o, M.q1, M.q10, M.q11, M.q12, M.q14, M.q15, M.q16, M.q17, M.q19, M.q20, M.q21, M.q22, M.tl, sO265 M.sh, sA266 M.sh, sA267 M.sh, sA268 M.sh, sA269 M.sh, sA270 M.sh, sA271 M.sh, sA272 M.sh, sA273 M.sh, sA274 M.sh, sA275 M.sh, sA276 M.sh, sA277 M.sh, iR_t, ↓m_streams' M, ↓m_in', hk2, c, T.vr, G.vr]
        · rw [if_pos c]; exact G.mono (by push_cast; omega) (by push_cast; omega)
      · refine ⟨?_, ?_⟩
        · simp (disch := first | omega | assumption) only [fX8_settles_L2, ↓z_lt, ↓z_ge, ↓z_gt, ↓z_le, ↓z_eq, ↓z_ne, ↓z_mx, ↓z_mn, ↓z_dv, ↓z_rm, ↓z_i2l, ↓z_lc, ↓z_sw, ↓z_sf, ↓z_sn, ↓z_bd, ↓z_nt, z_b0, z_b1, z_bi, z_bj, ↓z_gF, ↓z_gR, ↓z_pF, ↓z_pZ, ↓z_pR, ↓z_aI, ↓z_aR, ↓z_sI, ↓z_sZ, ↓z_on, z_cl, ↓reduceIte, Int.reduceEq, Int.reduceNeg, Int.reduceLT, Int.reduceLE, Int.reduceAdd, Int.reduceSub, Int.reduceMul, true_and, and_true, or_true, true_or, eq_self, st2_f, st2_g, st2_o, M.q1, M.q10, M.q11, M.q12, M.q14, M.q15, M.q16, M.q17, M.q19, M.q20, M.q21, M.q22, M.tl, sO265 M.sh, sA266 M.sh, sA267 M.sh, sA268 M.sh, sA269 M.sh, sA270 M.sh, sA271 M.sh, sA272 M.sh, sA273 M.sh, sA274 M.sh, sA275 M.sh, sA276 M.sh, sA277 M.sh, iR_t, ↓m_streams' M, ↓m_in', ↓m_settlesHeld' M T G, hk2, c, T.vr, G.vr]
        · rw [if_neg c]; have := G.seH T (k := (k : Int)) (by omega) (by omega) c (by omega) (by omega); rw [show B + ((k + 1 : Nat) : Int) = B + (k : Int) + 1 by push_cast; omega]; exact this)
    (fun m a G => by simp (disch := first | omega | assumption) only [fX8_settles_L2, ↓z_lt, ↓z_ge, ↓z_gt, ↓z_le, ↓z_eq, ↓z_ne, ↓z_mx, ↓z_mn, ↓z_dv, ↓z_rm, ↓z_i2l, ↓z_lc, ↓z_sw, ↓z_sf, ↓z_sn, ↓z_bd, ↓z_nt, z_b0, z_b1, z_bi, z_bj, ↓z_gF, ↓z_gR, ↓z_pF, ↓z_pZ, ↓z_pR, ↓z_aI, ↓z_aR, ↓z_sI, ↓z_sZ, ↓z_on, z_cl, ↓reduceIte, Int.reduceEq, Int.reduceNeg, Int.reduceLT, Int.reduceLE, Int.reduceAdd, Int.reduceSub, Int.reduceMul, true_and, and_true, or_true, true_or, eq_self, st2_f, st2_g, st2_o, M.q1, M.q10, M.q11, M.q12, M.q14, M.q15, M.q16, M.q17, M.q19, M.q20, M.q21, M.q22, M.tl, sO265 M.sh, sA266 M.sh, sA267 M.sh, sA268 M.sh, sA269 M.sh, sA270 M.sh, sA271 M.sh, sA272 M.sh, sA273 M.sh, sA274 M.sh, sA275 M.sh, sA276 M.sh, sA277 M.sh, iR_t, ↓m_streams' M, hN, Int.le_refl, T.vr]) (m := 1000) (a := f) (by omega) (by simpa using F)
  rw [l1.1]
  have G0 := l1.2
  generalize forI (fun k a => if a (238 + 3 * k) = 0 then a else seHF t a k) (t 2).toNat f = f1 at G0
  have l2 := loop_v (fun m k a => fX8_settles_L35 P 265 (fun s23 => some s23) m k (st2 σ a g)) (fun a => some (st2 σ a g)) (t 2).toNat (fun k a => seWF t a k) (fun k a => FV (B + 12 + (k : Int)) t a g)
    (fun k m a hk G => by
      have hk2 : ¬ (t 2 ≤ (k : Int)) := by omega
      have w := wantF_in (f := a) (k := (k : Int)) T (by omega) (by omega)
      have rv := resvF_in (f := a) T
      have n1 := T.n1
      have tb := T.b 3
      refine ⟨?_, ?_⟩
      · by_cases c : a (238 + 3 * (k : Int)) = 0
        · by_cases c2 : wantF t a k = -1
          · simp (disch := first | omega | assumption) only [fX8_settles_L35, seWF, ↓z_lt, ↓z_ge, ↓z_gt, ↓z_le, ↓z_eq, ↓z_ne, ↓z_mx, ↓z_mn, ↓z_dv, ↓z_rm, ↓z_i2l, ↓z_lc, ↓z_sw, ↓z_sf, ↓z_sn, ↓z_bd, ↓z_nt, z_b0, z_b1, z_bi, z_bj, ↓z_gF, ↓z_gR, ↓z_pF, ↓z_pZ, ↓z_pR, ↓z_aI, ↓z_aR, ↓z_sI, ↓z_sZ, ↓z_on, z_cl, ↓reduceIte, Int.reduceEq, Int.reduceNeg, Int.reduceLT, Int.reduceLE, Int.reduceAdd, Int.reduceSub, Int.reduceMul, true_and, and_true, or_true, true_or, eq_self, st2_f, st2_g, st2_o, M.q1, M.q10, M.q11, M.q12, M.q14, M.q15, M.q16, M.q17, M.q19, M.q20, M.q21, M.q22, M.tl, sO265 M.sh, sA266 M.sh, sA267 M.sh, sA268 M.sh, sA269 M.sh, sA270 M.sh, sA271 M.sh, sA272 M.sh, sA273 M.sh, sA274 M.sh, sA275 M.sh, sA276 M.sh, sA277 M.sh, iR_t, ↓m_streams' M, ↓m_in', ↓m_wanted' M T G, hk2, c, c2, T.vr, G.vr]
          · by_cases c3 : t (71 + 3 * (k : Int) + 1) ≤ t 3 - resvF t a
            · have G2 := G.bec T (k := (k : Int)) (m := 1) (h := wantF t a k) (by omega) (by omega) (Or.inr ⟨Or.inl rfl, by omega, by omega⟩) (by omega)
              simp (disch := first | omega | assumption) only [fX8_settles_L35, seWF, ↓z_lt, ↓z_ge, ↓z_gt, ↓z_le, ↓z_eq, ↓z_ne, ↓z_mx, ↓z_mn, ↓z_dv, ↓z_rm, ↓z_i2l, ↓z_lc, ↓z_sw, ↓z_sf, ↓z_sn, ↓z_bd, ↓z_nt, z_b0, z_b1, z_bi, z_bj, ↓z_gF, ↓z_gR, ↓z_pF, ↓z_pZ, ↓z_pR, ↓z_aI, ↓z_aR, ↓z_sI, ↓z_sZ, ↓z_on, z_cl, ↓reduceIte, Int.reduceEq, Int.reduceNeg, Int.reduceLT, Int.reduceLE, Int.reduceAdd, Int.reduceSub, Int.reduceMul, true_and, and_true, or_true, true_or, eq_self, st2_f, st2_g, st2_o, M.q1, M.q10, M.q11, M.q12, M.q14, M.q15, M.q16, M.q17, M.q19, M.q20, M.q21, M.q22, M.tl, sO265 M.sh, sA266 M.sh, sA267 M.sh, sA268 M.sh, sA269 M.sh, sA270 M.sh, sA271 M.sh, sA272 M.sh, sA273 M.sh, sA274 M.sh, sA275 M.sh, sA276 M.sh, sA277 M.sh, iR_t, ↓m_streams' M, ↓m_in', ↓m_wanted' M T G, ↓m_rateOf' M, ↓m_reserved' M T G, ↓m_becomes' M, ↓m_happens' M (G2.vr 12) G2.ev, hk2, c, c2, c3, T.vr, G.vr]
            · simp (disch := first | omega | assumption) only [fX8_settles_L35, seWF, ↓z_lt, ↓z_ge, ↓z_gt, ↓z_le, ↓z_eq, ↓z_ne, ↓z_mx, ↓z_mn, ↓z_dv, ↓z_rm, ↓z_i2l, ↓z_lc, ↓z_sw, ↓z_sf, ↓z_sn, ↓z_bd, ↓z_nt, z_b0, z_b1, z_bi, z_bj, ↓z_gF, ↓z_gR, ↓z_pF, ↓z_pZ, ↓z_pR, ↓z_aI, ↓z_aR, ↓z_sI, ↓z_sZ, ↓z_on, z_cl, ↓reduceIte, Int.reduceEq, Int.reduceNeg, Int.reduceLT, Int.reduceLE, Int.reduceAdd, Int.reduceSub, Int.reduceMul, true_and, and_true, or_true, true_or, eq_self, st2_f, st2_g, st2_o, M.q1, M.q10, M.q11, M.q12, M.q14, M.q15, M.q16, M.q17, M.q19, M.q20, M.q21, M.q22, M.tl, sO265 M.sh, sA266 M.sh, sA267 M.sh, sA268 M.sh, sA269 M.sh, sA270 M.sh, sA271 M.sh, sA272 M.sh, sA273 M.sh, sA274 M.sh, sA275 M.sh, sA276 M.sh, sA277 M.sh, iR_t, ↓m_streams' M, ↓m_in', ↓m_wanted' M T G, ↓m_rateOf' M, ↓m_reserved' M T G, hk2, c, c2, c3, T.vr, G.vr]
        · simp (disch := first | omega | assumption) only [fX8_settles_L35, seWF, ↓z_lt, ↓z_ge, ↓z_gt, ↓z_le, ↓z_eq, ↓z_ne, ↓z_mx, ↓z_mn, ↓z_dv, ↓z_rm, ↓z_i2l, ↓z_lc, ↓z_sw, ↓z_sf, ↓z_sn, ↓z_bd, ↓z_nt, z_b0, z_b1, z_bi, z_bj, ↓z_gF, ↓z_gR, ↓z_pF, ↓z_pZ, ↓z_pR, ↓z_aI, ↓z_aR, ↓z_sI, ↓z_sZ, ↓z_on, z_cl, ↓reduceIte, Int.reduceEq, Int.reduceNeg, Int.reduceLT, Int.reduceLE, Int.reduceAdd, Int.reduceSub, Int.reduceMul, true_and, and_true, or_true, true_or, eq_self, st2_f, st2_g, st2_o, M.q1, M.q10, M.q11, M.q12, M.q14, M.q15, M.q16, M.q17, M.q19, M.q20, M.q21, M.q22, M.tl, sO265 M.sh, sA266 M.sh, sA267 M.sh, sA268 M.sh, sA269 M.sh, sA270 M.sh, sA271 M.sh, sA272 M.sh, sA273 M.sh, sA274 M.sh, sA275 M.sh, sA276 M.sh, sA277 M.sh, iR_t, ↓m_streams' M, ↓m_in', hk2, c, T.vr, G.vr]
      · have := G.seW T (k := (k : Int)) (by omega) (by omega) (by omega) (by omega); rw [show B + 12 + ((k + 1 : Nat) : Int) = B + 12 + (k : Int) + 1 by push_cast; omega]; exact this)
    (fun m a G => by simp (disch := first | omega | assumption) only [fX8_settles_L35, ↓z_lt, ↓z_ge, ↓z_gt, ↓z_le, ↓z_eq, ↓z_ne, ↓z_mx, ↓z_mn, ↓z_dv, ↓z_rm, ↓z_i2l, ↓z_lc, ↓z_sw, ↓z_sf, ↓z_sn, ↓z_bd, ↓z_nt, z_b0, z_b1, z_bi, z_bj, ↓z_gF, ↓z_gR, ↓z_pF, ↓z_pZ, ↓z_pR, ↓z_aI, ↓z_aR, ↓z_sI, ↓z_sZ, ↓z_on, z_cl, ↓reduceIte, Int.reduceEq, Int.reduceNeg, Int.reduceLT, Int.reduceLE, Int.reduceAdd, Int.reduceSub, Int.reduceMul, true_and, and_true, or_true, true_or, eq_self, st2_f, st2_g, st2_o, M.q1, M.q10, M.q11, M.q12, M.q14, M.q15, M.q16, M.q17, M.q19, M.q20, M.q21, M.q22, M.tl, sO265 M.sh, sA266 M.sh, sA267 M.sh, sA268 M.sh, sA269 M.sh, sA270 M.sh, sA271 M.sh, sA272 M.sh, sA273 M.sh, sA274 M.sh, sA275 M.sh, sA276 M.sh, sA277 M.sh, iR_t, ↓m_streams' M, hN, Int.le_refl, T.vr]) (m := 1000) (a := f1) (by omega) (G0.mono (by push_cast; omega) (by push_cast; omega))
  exact ⟨l2.1, l2.2.mono (by push_cast; omega) (by omega)⟩
theorem m_settles (M : MP P σ t) (T : TV t) (F : FV B t f g) (h4 : 12 ≤ B) (hB : B ≤ 1999999900) : fX8_settles P (st2 σ f g) 265 = some (st2 σ (setF t f) g) := (m_settles_ M T F h4 hB).1
theorem m_settles' {ω : Type} {K : _ → Option ω} (M : MP P σ t) (T : TV t) (F : FV B t f g) (h4 : 12 ≤ B) (hB : B ≤ 1999999900) : cl (fX8_settles P (st2 σ f g) 265) K = K ((st2 σ (setF t f) g)) := e_cl (m_settles M T F h4 hB)
theorem FV.set (F : FV B t f g) (T : TV t) (h4 : 12 ≤ B) (hB : B ≤ 1999999900) : FV (B + 24) t (setF t f) g := by
  have n2 := T.n2
  have hN := T.n2N
  unfold setF se1F
  have G0 : FV (B + ((t 2).toNat : Int)) t (forI (fun k a => if a (238 + 3 * k) = 0 then a else seHF t a k) (t 2).toNat f) g :=
    forI_inv (I := fun k a => FV (B + (k : Int)) t a g) (fun k a hk G => by
      by_cases c : a (238 + 3 * (k : Int)) = 0
      · rw [if_pos c]; exact G.mono (by push_cast; omega) (by push_cast; omega)
      · rw [if_neg c]; have := G.seH T (k := (k : Int)) (by omega) (by omega) c (by omega) (by omega); rw [show B + ((k + 1 : Nat) : Int) = B + (k : Int) + 1 by push_cast; omega]; exact this) (by simpa using F)
  generalize forI (fun k a => if a (238 + 3 * k) = 0 then a else seHF t a k) (t 2).toNat f = f1 at G0
  have G1 : FV (B + 12 + ((t 2).toNat : Int)) t (forI (fun k a => seWF t a k) (t 2).toNat f1) g :=
    forI_inv (I := fun k a => FV (B + 12 + (k : Int)) t a g) (fun k a hk G => by
      have := G.seW T (k := (k : Int)) (by omega) (by omega) (by omega) (by omega); rw [show B + 12 + ((k + 1 : Nat) : Int) = B + 12 + (k : Int) + 1 by push_cast; omega]; exact this) (G0.mono (by push_cast; omega) (by push_cast; omega))
  exact G1.mono (by omega) (by omega)
end ZF
