/-! THE REFERENCE'S FRAMES AND ALARMS. -/
section ZJ
variable {P : Shp} {σ σ' : St} {t f f' g : Int → Int} {B : Int} {d k p kind who m h j c x y : Int}
theorem m_flows (M : MP P σ t) (T : TV t) (F : FV B t f g) (h0 : 0 ≤ k) (h1 : k < t 2) : fX8_flows P (st2 σ f g) 265 k = some (st2 σ (floF t f k) (floG t f g k)) := by
  have n2 := T.n2
  have ra := T.ra k h0 h1
  have pa := T.pa k h0 h1
  have dn := F.dn k h0 h1
  have b1 := T.b (71 + 3 * k + 2)
  have di := div_in (x := f (238 + 3 * k + 2) + t (71 + 3 * k + 1)) (y := t (71 + 3 * k + 2)) (by omega) pa
  have ne0 : ¬ (t (71 + 3 * k + 2) = 0) := by omega
  by_cases c1 : f (238 + 3 * k) = 1
  · simp (disch := first | omega | assumption) only [fX8_flows, floF, floG, ↓z_lt, ↓z_ge, ↓z_gt, ↓z_le, ↓z_eq, ↓z_ne, ↓z_mx, ↓z_mn, ↓z_dv, ↓z_rm, ↓z_i2l, ↓z_lc, ↓z_sw, ↓z_sf, ↓z_sn, ↓z_bd, ↓z_nt, z_b0, z_b1, z_bi, z_bj, ↓z_gF, ↓z_gR, ↓z_pF, ↓z_pZ, ↓z_pR, ↓z_aI, ↓z_aR, ↓z_sI, ↓z_sZ, ↓z_on, z_cl, ↓reduceIte, Int.reduceEq, Int.reduceNeg, Int.reduceLT, Int.reduceLE, Int.reduceAdd, Int.reduceSub, Int.reduceMul, true_and, and_true, or_true, true_or, eq_self, st2_f, st2_g, st2_o, M.q1, M.q10, M.q11, M.q12, M.q14, M.q15, M.q16, M.q17, M.q19, M.q20, M.q21, M.q22, M.tl, sO265 M.sh, sA266 M.sh, sA267 M.sh, sA268 M.sh, sA269 M.sh, sA270 M.sh, sA271 M.sh, sA272 M.sh, sA273 M.sh, sA274 M.sh, sA275 M.sh, sA276 M.sh, sA277 M.sh, iR_t, ↓m_in', ↓m_rateOf' M, ↓m_packetOf' M, c1, F.vr, T.vr, st2_wf, st2_wg, ne0, tdiv_nn, tmod_nn]
  · by_cases c2 : f (238 + 3 * k) = 2
    · by_cases c3 : f (238 + 3 * k + 2) + t (71 + 3 * k + 1) < t (71 + 3 * k + 2)
      · have c4 : t (71 + 3 * k + 1) ≤ t (71 + 3 * k + 2) - f (238 + 3 * k + 2) := by omega
        have c5 : ¬ (t (71 + 3 * k + 2) ≤ f (238 + 3 * k + 2) + t (71 + 3 * k + 1)) := by omega
        simp (disch := first | omega | assumption) only [fX8_flows, floF, floG, ↓z_lt, ↓z_ge, ↓z_gt, ↓z_le, ↓z_eq, ↓z_ne, ↓z_mx, ↓z_mn, ↓z_dv, ↓z_rm, ↓z_i2l, ↓z_lc, ↓z_sw, ↓z_sf, ↓z_sn, ↓z_bd, ↓z_nt, z_b0, z_b1, z_bi, z_bj, ↓z_gF, ↓z_gR, ↓z_pF, ↓z_pZ, ↓z_pR, ↓z_aI, ↓z_aR, ↓z_sI, ↓z_sZ, ↓z_on, z_cl, ↓reduceIte, Int.reduceEq, Int.reduceNeg, Int.reduceLT, Int.reduceLE, Int.reduceAdd, Int.reduceSub, Int.reduceMul, true_and, and_true, or_true, true_or, eq_self, st2_f, st2_g, st2_o, M.q1, M.q10, M.q11, M.q12, M.q14, M.q15, M.q16, M.q17, M.q19, M.q20, M.q21, M.q22, M.tl, sO265 M.sh, sA266 M.sh, sA267 M.sh, sA268 M.sh, sA269 M.sh, sA270 M.sh, sA271 M.sh, sA272 M.sh, sA273 M.sh, sA274 M.sh, sA275 M.sh, sA276 M.sh, sA277 M.sh, iR_t, ↓m_in', ↓m_rateOf' M, ↓m_packetOf' M, c1, c2, c3, c4, c5, F.vr, T.vr, st2_wf, st2_wg, zu_s]
      · by_cases c4 : t (71 + 3 * k + 1) ≤ t (71 + 3 * k + 2) - f (238 + 3 * k + 2)
        · have c5 : t (71 + 3 * k + 2) ≤ f (238 + 3 * k + 2) + t (71 + 3 * k + 1) := by omega
          simp (disch := first | omega | assumption) only [fX8_flows, floF, floG, ↓z_lt, ↓z_ge, ↓z_gt, ↓z_le, ↓z_eq, ↓z_ne, ↓z_mx, ↓z_mn, ↓z_dv, ↓z_rm, ↓z_i2l, ↓z_lc, ↓z_sw, ↓z_sf, ↓z_sn, ↓z_bd, ↓z_nt, z_b0, z_b1, z_bi, z_bj, ↓z_gF, ↓z_gR, ↓z_pF, ↓z_pZ, ↓z_pR, ↓z_aI, ↓z_aR, ↓z_sI, ↓z_sZ, ↓z_on, z_cl, ↓reduceIte, Int.reduceEq, Int.reduceNeg, Int.reduceLT, Int.reduceLE, Int.reduceAdd, Int.reduceSub, Int.reduceMul, true_and, and_true, or_true, true_or, eq_self, st2_f, st2_g, st2_o, M.q1, M.q10, M.q11, M.q12, M.q14, M.q15, M.q16, M.q17, M.q19, M.q20, M.q21, M.q22, M.tl, sO265 M.sh, sA266 M.sh, sA267 M.sh, sA268 M.sh, sA269 M.sh, sA270 M.sh, sA271 M.sh, sA272 M.sh, sA273 M.sh, sA274 M.sh, sA275 M.sh, sA276 M.sh, sA277 M.sh, iR_t, ↓m_in', ↓m_rateOf' M, ↓m_packetOf' M, c1, c2, c3, c4, c5, F.vr, T.vr, st2_wf, st2_wg, zu_s, zu_zu]
        · have c5 : f (238 + 3 * k + 2) + (t (71 + 3 * k + 2) - f (238 + 3 * k + 2)) = t (71 + 3 * k + 2) := by omega
          simp (disch := first | omega | assumption) only [fX8_flows, floF, floG, ↓z_lt, ↓z_ge, ↓z_gt, ↓z_le, ↓z_eq, ↓z_ne, ↓z_mx, ↓z_mn, ↓z_dv, ↓z_rm, ↓z_i2l, ↓z_lc, ↓z_sw, ↓z_sf, ↓z_sn, ↓z_bd, ↓z_nt, z_b0, z_b1, z_bi, z_bj, ↓z_gF, ↓z_gR, ↓z_pF, ↓z_pZ, ↓z_pR, ↓z_aI, ↓z_aR, ↓z_sI, ↓z_sZ, ↓z_on, z_cl, ↓reduceIte, Int.reduceEq, Int.reduceNeg, Int.reduceLT, Int.reduceLE, Int.reduceAdd, Int.reduceSub, Int.reduceMul, true_and, and_true, or_true, true_or, eq_self, st2_f, st2_g, st2_o, M.q1, M.q10, M.q11, M.q12, M.q14, M.q15, M.q16, M.q17, M.q19, M.q20, M.q21, M.q22, M.tl, sO265 M.sh, sA266 M.sh, sA267 M.sh, sA268 M.sh, sA269 M.sh, sA270 M.sh, sA271 M.sh, sA272 M.sh, sA273 M.sh, sA274 M.sh, sA275 M.sh, sA276 M.sh, sA277 M.sh, iR_t, ↓m_in', ↓m_rateOf' M, ↓m_packetOf' M, c1, c2, c3, c4, c5, F.vr, T.vr, st2_wf, st2_wg, zu_s, zu_zu, Int.le_refl]
    · simp (disch := first | omega | assumption) only [fX8_flows, floF, floG, ↓z_lt, ↓z_ge, ↓z_gt, ↓z_le, ↓z_eq, ↓z_ne, ↓z_mx, ↓z_mn, ↓z_dv, ↓z_rm, ↓z_i2l, ↓z_lc, ↓z_sw, ↓z_sf, ↓z_sn, ↓z_bd, ↓z_nt, z_b0, z_b1, z_bi, z_bj, ↓z_gF, ↓z_gR, ↓z_pF, ↓z_pZ, ↓z_pR, ↓z_aI, ↓z_aR, ↓z_sI, ↓z_sZ, ↓z_on, z_cl, ↓reduceIte, Int.reduceEq, Int.reduceNeg, Int.reduceLT, Int.reduceLE, Int.reduceAdd, Int.reduceSub, Int.reduceMul, true_and, and_true, or_true, true_or, eq_self, st2_f, st2_g, st2_o, M.q1, M.q10, M.q11, M.q12, M.q14, M.q15, M.q16, M.q17, M.q19, M.q20, M.q21, M.q22, M.tl, sO265 M.sh, sA266 M.sh, sA267 M.sh, sA268 M.sh, sA269 M.sh, sA270 M.sh, sA271 M.sh, sA272 M.sh, sA273 M.sh, sA274 M.sh, sA275 M.sh, sA276 M.sh, sA277 M.sh, iR_t, ↓m_in', ↓m_rateOf' M, ↓m_packetOf' M, c1, c2, F.vr, T.vr, st2_wf, st2_wg]
theorem m_flows' {ω : Type} {K : _ → Option ω} (M : MP P σ t) (T : TV t) (F : FV B t f g) (h0 : 0 ≤ k) (h1 : k < t 2) : cl (fX8_flows P (st2 σ f g) 265 k) K = K ((st2 σ (floF t f k) (floG t f g k))) := e_cl (m_flows M T F h0 h1)
theorem floF_o (h : j ≠ 238 + 3 * k + 2) : floF t f k j = f j := by
  unfold floF
  repeat' split
  all_goals first | rfl | exact zu_n h
theorem floF_d (T : TV t) (F : FV B t f g) (h0 : 0 ≤ k) (h1 : k < t 2) : 0 ≤ floF t f k (238 + 3 * k + 2) ∧ floF t f k (238 + 3 * k + 2) < t (71 + 3 * k + 2) := by
  have ra := T.ra k h0 h1
  have pa := T.pa k h0 h1
  have dn := F.dn k h0 h1
  unfold floF
  split
  · rw [zu_s]; exact ⟨Int.emod_nonneg _ (by omega), Int.emod_lt_of_pos _ (by omega)⟩
  · split
    · rw [zu_s]; split <;> omega
    · exact dn
theorem bz_zu {i v a b : Int} (h : ∀ j, a ≤ f j ∧ f j ≤ b) (hv : a ≤ v ∧ v ≤ b) : ∀ j, a ≤ zu f i v j ∧ zu f i v j ≤ b := by
  intro j
  unfold zu
  split
  · exact hv
  · exact h j
theorem floG_in (T : TV t) (F : FV B t f g) (h0 : 0 ≤ k) (h1 : k < t 2) : 0 ≤ floG t f g k j ∧ floG t f g k j ≤ 10000 * B + 20000 := by
  have ra := T.ra k h0 h1
  have pa := T.pa k h0 h1
  have dn := F.dn k h0 h1
  have b1 := T.b (71 + 3 * k + 2)
  have di := div_in (x := f (238 + 3 * k + 2) + t (71 + 3 * k + 1)) (y := t (71 + 3 * k + 2)) (by omega) pa
  have g1 := F.bg j
  have g2 := F.bg k
  have w0 : ∀ j, 0 ≤ g j ∧ g j ≤ 10000 * B + 20000 := fun j => by have := F.bg j; omega
  unfold floG
  repeat' split
  all_goals first | exact w0 j | exact bz_zu w0 (by omega) j
theorem FV.flo (F : FV B t f g) (T : TV t) (h0 : 0 ≤ k) (h1 : k < t 2) (h4 : 10000 ≤ B) (hB : B < 1999999000) : FV (B + 2) t (floF t f k) (floG t f g k) := by
  have n1 := T.n1
  have n2 := T.n2
  have b0 := F.b0
  have fd := floF_d T F h0 h1
  have b1 := T.b (71 + 3 * k + 2)
  refine ⟨by omega, fun j => ?_, fun j => ?_, ?_, ?_, ?_, ?_, ?_, ?_, ?_, ?_, ?_⟩
  · by_cases e : j = 238 + 3 * k + 2
    · subst e; omega
    · rw [floF_o e]; have := F.bl j; omega
  · have := floG_in (j := j) T F h0 h1; omega
  · simp (disch := omega) only [floF_o]; exact F.tq
  · simp (disch := omega) only [floF_o]; exact F.ev
  · intro d d0 d1; have := F.al d d0 d1; simp (disch := omega) only [floF_o]; exact this
  · intro d d0 d1; have := F.un d d0 d1; simp (disch := omega) only [floF_o]; exact this
  · intro d d0 d1; have := F.si d d0 d1; simp (disch := omega) only [floF_o]; exact this
  · intro d d0 d1; have := F.mn d d0 d1; simp (disch := omega) only [floF_o]; exact this
  · intro d d0 d1; have := F.mo d d0 d1; simp (disch := omega) only [floF_o]; exact this
  · intro d d0 d1; have := F.ho d d0 d1; simp (disch := omega) only [floF_o]; exact this
  · intro d d0 d1; have := F.dn d d0 d1
    by_cases e : d = k
    · subst e; exact fd
    · simp (disch := omega) only [floF_o]; exact this
/-- a device becomes calm, or alarmed, or forgets: three of its numbers -/
theorem FV.dev {a b : Int} (F : FV B t f g) (T : TV t) (h0 : 0 ≤ d) (h1 : d < t 1) (ha : a = 0 ∨ a = 1) (hb : 0 ≤ b ∧ b ≤ B) (hp : a = 1 → f (14 + 28 * d + 0) ≠ -1) (h4 : 12 ≤ B) : FV B t (zu (zu f (14 + 28 * d + 1) a) (14 + 28 * d + 2) b) g ∧ FV B t (zu (zu f (14 + 28 * d + 1) 0) (14 + 28 * d + 3) 0) g := by
  have n1 := T.n1
  have n2 := T.n2
  have b0 := F.b0
  constructor
  · refine ⟨by omega, bl_zu (bl_zu F.bl (by omega)) (by omega), F.bg, ?_, ?_, ?_, ?_, ?_, ?_, ?_, ?_, ?_⟩
    · simp (disch := omega) only [zu_n]; exact F.tq
    · simp (disch := omega) only [zu_n]; exact F.ev
    · intro e e0 e1; have := F.al e e0 e1
      by_cases c : e = d
      · subst c; simp (disch := omega) only [zu_n, zu_s]; exact ha
      · simp (disch := omega) only [zu_n]; exact this
    · intro e e0 e1; have := F.un e e0 e1
      by_cases c : e = d
      · subst c; simp (disch := omega) only [zu_n, zu_s]; intro z; have := this z; rcases ha with r | r
        · exact ⟨r, this.2⟩
        · exact absurd z (hp r)
      · simp (disch := omega) only [zu_n]; exact this
    · intro e e0 e1; have := F.si e e0 e1
      by_cases c : e = d
      · subst c; simp (disch := omega) only [zu_n, zu_s]; omega
      · simp (disch := omega) only [zu_n]; exact this
    · intro e e0 e1; have := F.mn e e0 e1; simp (disch := omega) only [zu_n]; exact this
    · intro e e0 e1; have := F.mo e e0 e1; simp (disch := omega) only [zu_n]; exact this
    · intro e e0 e1; have := F.ho e e0 e1; simp (disch := omega) only [zu_n]; exact this
    · intro e e0 e1; have := F.dn e e0 e1; simp (disch := omega) only [zu_n]; exact this
  · refine ⟨by omega, bl_zu (bl_zu F.bl (by omega)) (by omega), F.bg, ?_, ?_, ?_, ?_, ?_, ?_, ?_, ?_, ?_⟩
    · simp (disch := omega) only [zu_n]; exact F.tq
    · simp (disch := omega) only [zu_n]; exact F.ev
    · intro e e0 e1; have := F.al e e0 e1
      by_cases c : e = d
      · subst c; simp (disch := omega) only [zu_n, zu_s, true_or]
      · simp (disch := omega) only [zu_n]; exact this
    · intro e e0 e1; have := F.un e e0 e1
      by_cases c : e = d
      · subst c; simp (disch := omega) only [zu_n, zu_s]; exact fun _ => ⟨trivial, trivial⟩
      · simp (disch := omega) only [zu_n]; exact this
    · intro e e0 e1; have := F.si e e0 e1; simp (disch := omega) only [zu_n]; exact this
    · intro e e0 e1; have := F.mn e e0 e1
      by_cases c : e = d
      · subst c; simp (disch := omega) only [zu_n, zu_s]; omega
      · simp (disch := omega) only [zu_n]; exact this
    · intro e e0 e1; have := F.mo e e0 e1; simp (disch := omega) only [zu_n]; exact this
    · intro e e0 e1; have := F.ho e e0 e1; simp (disch := omega) only [zu_n]; exact this
    · intro e e0 e1; have := F.dn e e0 e1; simp (disch := omega) only [zu_n]; exact this
theorem m_calms (M : MP P σ t) (T : TV t) (F : FV B t f g) (h0 : 0 ≤ d) (h1 : d < t 1) (h4 : 12 ≤ B) : fX8_calms P (st2 σ f g) 265 d = some (st2 σ (calF f d) g) := by
  have n1 := T.n1
  have F2 := (F.dev T h0 h1 (Or.inl rfl) ⟨Int.le_refl 0, by omega⟩ (fun h => by omega) h4).2
  simp (disch := first | omega | assumption) only [fX8_calms, calF, ↓z_lt, ↓z_ge, ↓z_gt, ↓z_le, ↓z_eq, ↓z_ne, ↓z_mx, ↓z_mn, ↓z_dv, ↓z_rm, ↓z_i2l, ↓z_lc, ↓z_sw, ↓z_sf, ↓z_sn, ↓z_bd, ↓z_nt, z_b0, z_b1, z_bi, z_bj, ↓z_gF, ↓z_gR, ↓z_pF, ↓z_pZ, ↓z_pR, ↓z_aI, ↓z_aR, ↓z_sI, ↓z_sZ, ↓z_on, z_cl, ↓reduceIte, Int.reduceEq, Int.reduceNeg, Int.reduceLT, Int.reduceLE, Int.reduceAdd, Int.reduceSub, Int.reduceMul, true_and, and_true, or_true, true_or, eq_self, st2_f, st2_g, st2_o, M.q1, M.q10, M.q11, M.q12, M.q14, M.q15, M.q16, M.q17, M.q19, M.q20, M.q21, M.q22, M.tl, sO265 M.sh, sA266 M.sh, sA267 M.sh, sA268 M.sh, sA269 M.sh, sA270 M.sh, sA271 M.sh, sA272 M.sh, sA273 M.sh, sA274 M.sh, sA275 M.sh, sA276 M.sh, sA277 M.sh, iR_t, ↓m_at', st2_wf, ↓m_happens' M (F2.vr 12) F2.ev]
theorem m_calms' {ω : Type} {K : _ → Option ω} (M : MP P σ t) (T : TV t) (F : FV B t f g) (h0 : 0 ≤ d) (h1 : d < t 1) (h4 : 12 ≤ B) : cl (fX8_calms P (st2 σ f g) 265 d) K = K ((st2 σ (calF f d) g)) := e_cl (m_calms M T F h0 h1 h4)
theorem FV.cal (F : FV B t f g) (T : TV t) (h0 : 0 ≤ d) (h1 : d < t 1) (h4 : 12 ≤ B) (hB : B < 2000000000) : FV (B + 1) t (calF f d) g := by
  have n1 := T.n1
  exact (F.dev T h0 h1 (Or.inl rfl) ⟨Int.le_refl 0, by omega⟩ (fun h => by omega) h4).2.hap T hB (by omega) (by omega) (by omega) (by omega) h4
theorem m_alarms (M : MP P σ t) (T : TV t) (F : FV B t f g) (h0 : 0 ≤ d) (h1 : d < t 1) (hp : f (14 + 28 * d + 0) ≠ -1) (h4 : 12 ≤ B) (hB : B ≤ 1999999000) : fX8_alarms P (st2 σ f g) 265 d = some (st2 σ (alaF t f d) g) := by
  have n1 := T.n1
  have F2 := (F.dev T h0 h1 (Or.inr rfl) ⟨F.tm, (F.bl 0).2⟩ (fun _ => hp) h4).1
  have F3 := F2.hap T (kind := 0) (who := d) (by omega) (by omega) (by omega) (by omega) (by omega) h4
  simp (disch := first | omega | assumption) only [fX8_alarms, alaF, ↓z_lt, ↓z_ge, ↓z_gt, ↓z_le, ↓z_eq, ↓z_ne, ↓z_mx, ↓z_mn, ↓z_dv, ↓z_rm, ↓z_i2l, ↓z_lc, ↓z_sw, ↓z_sf, ↓z_sn, ↓z_bd, ↓z_nt, z_b0, z_b1, z_bi, z_bj, ↓z_gF, ↓z_gR, ↓z_pF, ↓z_pZ, ↓z_pR, ↓z_aI, ↓z_aR, ↓z_sI, ↓z_sZ, ↓z_on, z_cl, ↓reduceIte, Int.reduceEq, Int.reduceNeg, Int.reduceLT, Int.reduceLE, Int.reduceAdd, Int.reduceSub, Int.reduceMul, true_and, and_true, or_true, true_or, eq_self, st2_f, st2_g, st2_o, M.q1, M.q10, M.q11, M.q12, M.q14, M.q15, M.q16, M.q17, M.q19, M.q20, M.q21, M.q22, M.tl, sO265 M.sh, sA266 M.sh, sA267 M.sh, sA268 M.sh, sA269 M.sh, sA270 M.sh, sA271 M.sh, sA272 M.sh, sA273 M.sh, sA274 M.sh, sA275 M.sh, sA276 M.sh, sA277 M.sh, iR_t, ↓m_at', st2_wf, zu_n, ↓m_happens' M (F2.vr 12) F2.ev, ↓m_settles' M T F3]
theorem m_alarms' {ω : Type} {K : _ → Option ω} (M : MP P σ t) (T : TV t) (F : FV B t f g) (h0 : 0 ≤ d) (h1 : d < t 1) (hp : f (14 + 28 * d + 0) ≠ -1) (h4 : 12 ≤ B) (hB : B ≤ 1999999000) : cl (fX8_alarms P (st2 σ f g) 265 d) K = K ((st2 σ (alaF t f d) g)) := e_cl (m_alarms M T F h0 h1 hp h4 hB)
theorem FV.ala (F : FV B t f g) (T : TV t) (h0 : 0 ≤ d) (h1 : d < t 1) (hp : f (14 + 28 * d + 0) ≠ -1) (h4 : 12 ≤ B) (hB : B ≤ 1999999000) : FV (B + 25) t (alaF t f d) g := by
  have n1 := T.n1
  have F2 := (F.dev T h0 h1 (Or.inr rfl) ⟨F.tm, (F.bl 0).2⟩ (fun _ => hp) h4).1
  have F3 := F2.hap T (kind := 0) (who := d) (by omega) (by omega) (by omega) (by omega) (by omega) h4
  exact (F3.set T (by omega) (by omega)).mono (by omega) (by omega)
theorem FV.tick (F : FV B t f g) (T : TV t) (hB : B < 2000000000) (h4 : 12 ≤ B) : FV (B + 1) t (zu f 0 (f 0 + 1)) g := by
  have n1 := T.n1
  have n2 := T.n2
  have b0 := F.b0
  have q := F.bl 0
  have tm := F.tm
  refine ⟨by omega, bl_zu (fun j => by have := F.bl j; omega) (by omega), fun j => by have := F.bg j; omega, ?_, ?_, ?_, ?_, ?_, ?_, ?_, ?_, ?_⟩
  · have tq := F.tq; rw [zu_s, zu_n (by omega), zu_n (by omega)]; exact ⟨by omega, tq.2⟩
  · simp (disch := omega) only [zu_n]; exact F.ev
  · intro d d0 d1; have := F.al d d0 d1; simp (disch := omega) only [zu_n]; exact this
  · intro d d0 d1; have := F.un d d0 d1; simp (disch := omega) only [zu_n]; exact this
  · intro d d0 d1; have := F.si d d0 d1; simp (disch := omega) only [zu_n]; exact this
  · intro d d0 d1; have := F.mn d d0 d1; simp (disch := omega) only [zu_n]; exact this
  · intro d d0 d1; have := F.mo d d0 d1; simp (disch := omega) only [zu_n]; exact this
  · intro d d0 d1; have := F.ho d d0 d1; simp (disch := omega) only [zu_n]; exact this
  · intro d d0 d1; have := F.dn d d0 d1; simp (disch := omega) only [zu_n]; exact this
theorem FV.flw {q : (Int → Int) × (Int → Int)} (F : FV B t q.1 q.2) (T : TV t) (h4 : 10000 ≤ B) (hB : B < 1999998000) : FV (B + 24) t (flow1 t q).1 (flow1 t q).2 := by
  have n2 := T.n2
  have hN := T.n2N
  unfold flow1
  have G1 := forI_inv (F := fun k (q : (Int → Int) × (Int → Int)) => (floF t q.1 k, floG t q.1 q.2 k)) (N := (t 2).toNat) (a := q) (I := fun k a => FV (B + 2 * (k : Int)) t a.1 a.2) (fun k a hk G => by
      have := G.flo T (k := (k : Int)) (by omega) (by omega) (by omega) (by omega); rw [show B + 2 * ((k + 1 : Nat) : Int) = B + 2 * (k : Int) + 2 by push_cast; omega]; exact this) (F.mono (by push_cast; omega) (by push_cast; omega))
  exact G1.mono (by omega) (by omega)
theorem FV.clw (F : FV B t f g) (T : TV t) (h4 : 12 ≤ B) (hB : B < 1999999000) : FV (B + 8) t (cal1 t f) g := by
  have n1 := T.n1
  have hN := T.n1N
  unfold cal1
  have G1 := forI_inv (F := fun d a => if ovF t a d = true then calF a d else a) (N := (t 1).toNat) (a := f) (I := fun k a => FV (B + (k : Int)) t a g) (fun k a hk G => by
      split
      · have := G.cal T (d := (k : Int)) (by omega) (by omega) (by omega) (by omega); rw [show B + ((k + 1 : Nat) : Int) = B + (k : Int) + 1 by push_cast; omega]; exact this
      · exact G.mono (by push_cast; omega) (by push_cast; omega)) (F.mono (by push_cast; omega) (by push_cast; omega))
  exact G1.mono (by omega) (by omega)
theorem FV.frm {q : (Int → Int) × (Int → Int)} (F : FV B t q.1 q.2) (T : TV t) (h4 : 10000 ≤ B) (hB : B < 1999990000) : FV (B + 60) t (frmF t q).1 (frmF t q).2 := by
  unfold frmF
  have F1 := F.tick T (by omega) (by omega)
  have F2 := FV.flw (q := (zu q.1 0 (q.1 0 + 1), q.2)) F1 T (by omega) (by omega)
  have F3 := F2.clw T (by omega) (by omega)
  exact (F3.set T (by omega) (by omega)).mono (by omega) (by omega)
theorem m_frame_ {q : (Int → Int) × (Int → Int)} (M : MP P σ t) (T : TV t) (F : FV B t q.1 q.2) (h4 : 10000 ≤ B) (hB : B < 1999990000) : fX8_frame P (st2 σ q.1 q.2) 265 = some (st2 σ (frmF t q).1 (frmF t q).2) := by
  have n2 := T.n2
  have hN := T.n2N
  have n1 := T.n1
  have hN1 := T.n1N
  have F1 := F.tick T (by omega) (by omega)
  have l1 : ∀ (kE : St → Option St) (q : (Int → Int) × (Int → Int)), FV (B + 1) t q.1 q.2 → fX8_frame_L12 P 265 kE 1000 0 (st2 σ q.1 q.2) = kE (st2 σ (flow1 t q).1 (flow1 t q).2) := by
    intro kE q F
    exact (loop_v (fun m k (a : (Int → Int) × (Int → Int)) => fX8_frame_L12 P 265 kE m k (st2 σ a.1 a.2)) (fun a => kE (st2 σ a.1 a.2)) (t 2).toNat (fun k q => (floF t q.1 k, floG t q.1 q.2 k)) (fun k a => FV (B + 1 + 2 * (k : Int)) t a.1 a.2) (fun k m a hk G => by
      have hk2 : ¬ (t 2 ≤ (k : Int)) := by omega
      refine ⟨?_, ?_⟩
      · simp (disch := first | omega | assumption) only [fX8_frame_L12, ↓z_lt, ↓z_ge, ↓z_gt, ↓z_le, ↓z_eq, ↓z_ne, ↓z_mx, ↓z_mn, ↓z_dv, ↓z_rm, ↓z_i2l, ↓z_lc, ↓z_sw, ↓z_sf, ↓z_sn, ↓z_bd, ↓z_nt, z_b0, z_b1, z_bi, z_bj, ↓z_gF, ↓z_gR, ↓z_pF, ↓z_pZ, ↓z_pR, ↓z_aI, ↓z_aR, ↓z_sI, ↓z_sZ, ↓z_on, z_cl, ↓reduceIte, Int.reduceEq, Int.reduceNeg, Int.reduceLT, Int.reduceLE, Int.reduceAdd, Int.reduceSub, Int.reduceMul, true_and, and_true, or_true, true_or, eq_self, st2_f, st2_g, st2_o, M.q1, M.q10, M.q11, M.q12, M.q14, M.q15, M.q16, M.q17, M.q19, M.q20, M.q21, M.q22, M.tl, sO265 M.sh, sA266 M.sh, sA267 M.sh, sA268 M.sh, sA269 M.sh, sA270 M.sh, sA271 M.sh, sA272 M.sh, sA273 M.sh, sA274 M.sh, sA275 M.sh, sA276 M.sh, sA277 M.sh, iR_t, ↓m_streams' M, ↓m_flows' M T G, hk2, T.vr]
      · have := G.flo T (k := (k : Int)) (by omega) (by omega) (by omega) (by omega); rw [show B + 1 + 2 * ((k + 1 : Nat) : Int) = B + 1 + 2 * (k : Int) + 2 by push_cast; omega]; exact this)
      (fun m a G => by simp (disch := first | omega | assumption) only [fX8_frame_L12, ↓z_lt, ↓z_ge, ↓z_gt, ↓z_le, ↓z_eq, ↓z_ne, ↓z_mx, ↓z_mn, ↓z_dv, ↓z_rm, ↓z_i2l, ↓z_lc, ↓z_sw, ↓z_sf, ↓z_sn, ↓z_bd, ↓z_nt, z_b0, z_b1, z_bi, z_bj, ↓z_gF, ↓z_gR, ↓z_pF, ↓z_pZ, ↓z_pR, ↓z_aI, ↓z_aR, ↓z_sI, ↓z_sZ, ↓z_on, z_cl, ↓reduceIte, Int.reduceEq, Int.reduceNeg, Int.reduceLT, Int.reduceLE, Int.reduceAdd, Int.reduceSub, Int.reduceMul, true_and, and_true, or_true, true_or, eq_self, st2_f, st2_g, st2_o, M.q1, M.q10, M.q11, M.q12, M.q14, M.q15, M.q16, M.q17, M.q19, M.q20, M.q21, M.q22, M.tl, sO265 M.sh, sA266 M.sh, sA267 M.sh, sA268 M.sh, sA269 M.sh, sA270 M.sh, sA271 M.sh, sA272 M.sh, sA273 M.sh, sA274 M.sh, sA275 M.sh, sA276 M.sh, sA277 M.sh, iR_t, ↓m_streams' M, hN, Int.le_refl, T.vr]) (by omega) (F.mono (by push_cast; omega) (by push_cast; omega))).1
  have F2 := FV.flw (q := (zu q.1 0 (q.1 0 + 1), q.2)) F1 T (by omega) (by omega)
  have l2 : ∀ (kE : St → Option St) (f g : Int → Int), FV (B + 1 + 24) t f g → fX8_frame_L33 P 265 kE 1000 0 (st2 σ f g) = kE (st2 σ (cal1 t f) g) := by
    intro kE f g F
    exact (loop_v (fun m k a => fX8_frame_L33 P 265 kE m k (st2 σ a g)) (fun a => kE (st2 σ a g)) (t 1).toNat (fun d a => if ovF t a d = true then calF a d else a) (fun k a => FV (B + 25 + (k : Int)) t a g) (fun k m a hk G => by
      have hk2 : ¬ (t 1 ≤ (k : Int)) := by omega
      by_cases c : ovF t a (k : Int) = true
      · refine ⟨?_, ?_⟩
        · simp (disch := first | omega | assumption) only [fX8_frame_L33, ↓z_lt, ↓z_ge, ↓z_gt, ↓z_le, ↓z_eq, ↓z_ne, ↓z_mx, ↓z_mn, ↓z_dv, ↓z_rm, ↓z_i2l, ↓z_lc, ↓z_sw, ↓z_sf, ↓z_sn, ↓z_bd, ↓z_nt, z_b0, z_b1, z_bi, z_bj, ↓z_gF, ↓z_gR, ↓z_pF, ↓z_pZ, ↓z_pR, ↓z_aI, ↓z_aR, ↓z_sI, ↓z_sZ, ↓z_on, z_cl, ↓reduceIte, Int.reduceEq, Int.reduceNeg, Int.reduceLT, Int.reduceLE, Int.reduceAdd, Int.reduceSub, Int.reduceMul, true_and, and_true, or_true, true_or, eq_self, st2_f, st2_g, st2_o, M.q1, M.q10, M.q11, M.q12, M.q14, M.q15, M.q16, M.q17, M.q19, M.q20, M.q21, M.q22, M.tl, sO265 M.sh, sA266 M.sh, sA267 M.sh, sA268 M.sh, sA269 M.sh, sA270 M.sh, sA271 M.sh, sA272 M.sh, sA273 M.sh, sA274 M.sh, sA275 M.sh, sA276 M.sh, sA277 M.sh, iR_t, ↓m_devices' M, ↓m_isOver' M T G, ↓m_calms' M T G, hk2, c, T.vr]
        · rw [if_pos c]; have := G.cal T (d := (k : Int)) (by omega) (by omega) (by omega) (by omega); rw [show B + 25 + ((k + 1 : Nat) : Int) = B + 25 + (k : Int) + 1 by push_cast; omega]; exact this
      · refine ⟨?_, ?_⟩
        · simp (disch := first | omega | assumption) only [fX8_frame_L33, ↓z_lt, ↓z_ge, ↓z_gt, ↓z_le, ↓z_eq, ↓z_ne, ↓z_mx, ↓z_mn, ↓z_dv, ↓z_rm, ↓z_i2l, ↓z_lc, ↓z_sw, ↓z_sf, ↓z_sn, ↓z_bd, ↓z_nt, z_b0, z_b1, z_bi, z_bj, ↓z_gF, ↓z_gR, ↓z_pF, ↓z_pZ, ↓z_pR, ↓z_aI, ↓z_aR, ↓z_sI, ↓z_sZ, ↓z_on, z_cl, ↓reduceIte, Int.reduceEq, Int.reduceNeg, Int.reduceLT, Int.reduceLE, Int.reduceAdd, Int.reduceSub, Int.reduceMul, true_and, and_true, or_true, true_or, eq_self, st2_f, st2_g, st2_o, M.q1, M.q10, M.q11, M.q12, M.q14, M.q15, M.q16, M.q17, M.q19, M.q20, M.q21, M.q22, M.tl, sO265 M.sh, sA266 M.sh, sA267 M.sh, sA268 M.sh, sA269 M.sh, sA270 M.sh, sA271 M.sh, sA272 M.sh, sA273 M.sh, sA274 M.sh, sA275 M.sh, sA276 M.sh, sA277 M.sh, iR_t, ↓m_devices' M, ↓m_isOver' M T G, ↓m_calms' M T G, hk2, c, T.vr, Bool.false_eq_true]
        · rw [if_neg c]; exact G.mono (by push_cast; omega) (by push_cast; omega))
      (fun m a G => by simp (disch := first | omega | assumption) only [fX8_frame_L33, ↓z_lt, ↓z_ge, ↓z_gt, ↓z_le, ↓z_eq, ↓z_ne, ↓z_mx, ↓z_mn, ↓z_dv, ↓z_rm, ↓z_i2l, ↓z_lc, ↓z_sw, ↓z_sf, ↓z_sn, ↓z_bd, ↓z_nt, z_b0, z_b1, z_bi, z_bj, ↓z_gF, ↓z_gR, ↓z_pF, ↓z_pZ, ↓z_pR, ↓z_aI, ↓z_aR, ↓z_sI, ↓z_sZ, ↓z_on, z_cl, ↓reduceIte, Int.reduceEq, Int.reduceNeg, Int.reduceLT, Int.reduceLE, Int.reduceAdd, Int.reduceSub, Int.reduceMul, true_and, and_true, or_true, true_or, eq_self, st2_f, st2_g, st2_o, M.q1, M.q10, M.q11, M.q12, M.q14, M.q15, M.q16, M.q17, M.q19, M.q20, M.q21, M.q22, M.tl, sO265 M.sh, sA266 M.sh, sA267 M.sh, sA268 M.sh, sA269 M.sh, sA270 M.sh, sA271 M.sh, sA272 M.sh, sA273 M.sh, sA274 M.sh, sA275 M.sh, sA276 M.sh, sA277 M.sh, iR_t, ↓m_devices' M, hN1, Int.le_refl, T.vr]) (by omega) (F.mono (by push_cast; omega) (by push_cast; omega))).1
  have F3 := F2.clw T (by omega) (by omega)
  simp (disch := first | omega | assumption) only [fX8_frame, frmF, ↓z_lt, ↓z_ge, ↓z_gt, ↓z_le, ↓z_eq, ↓z_ne, ↓z_mx, ↓z_mn, ↓z_dv, ↓z_rm, ↓z_i2l, ↓z_lc, ↓z_sw, ↓z_sf, ↓z_sn, ↓z_bd, ↓z_nt, z_b0, z_b1, z_bi, z_bj, ↓z_gF, ↓z_gR, ↓z_pF, ↓z_pZ, ↓z_pR, ↓z_aI, ↓z_aR, ↓z_sI, ↓z_sZ, ↓z_on, z_cl, ↓reduceIte, Int.reduceEq, Int.reduceNeg, Int.reduceLT, Int.reduceLE, Int.reduceAdd, Int.reduceSub, Int.reduceMul, true_and, and_true, or_true, true_or, eq_self, st2_f, st2_g, st2_o, M.q1, M.q10, M.q11, M.q12, M.q14, M.q15, M.q16, M.q17, M.q19, M.q20, M.q21, M.q22, M.tl, sO265 M.sh, sA266 M.sh, sA267 M.sh, sA268 M.sh, sA269 M.sh, sA270 M.sh, sA271 M.sh, sA272 M.sh, sA273 M.sh, sA274 M.sh, sA275 M.sh, sA276 M.sh, sA277 M.sh, iR_t, st2_wf]
  rw [l1 _ (zu q.1 0 (q.1 0 + 1), q.2) F1, l2 _ _ _ F2]
  simp (disch := first | omega | assumption) only [↓z_lt, ↓z_ge, ↓z_gt, ↓z_le, ↓z_eq, ↓z_ne, ↓z_mx, ↓z_mn, ↓z_dv, ↓z_rm, ↓z_i2l, ↓z_lc, ↓z_sw, ↓z_sf, ↓z_sn, ↓z_bd, ↓z_nt, z_b0, z_b1, z_bi, z_bj, ↓z_gF, ↓z_gR, ↓z_pF, ↓z_pZ, ↓z_pR, ↓z_aI, ↓z_aR, ↓z_sI, ↓z_sZ, ↓z_on, z_cl, ↓reduceIte, Int.reduceEq, Int.reduceNeg, Int.reduceLT, Int.reduceLE, Int.reduceAdd, Int.reduceSub, Int.reduceMul, true_and, and_true, or_true, true_or, eq_self, st2_f, st2_g, st2_o, M.q1, M.q10, M.q11, M.q12, M.q14, M.q15, M.q16, M.q17, M.q19, M.q20, M.q21, M.q22, M.tl, sO265 M.sh, sA266 M.sh, sA267 M.sh, sA268 M.sh, sA269 M.sh, sA270 M.sh, sA271 M.sh, sA272 M.sh, sA273 M.sh, sA274 M.sh, sA275 M.sh, sA276 M.sh, sA277 M.sh, iR_t, ↓m_settles' M T F3]
end ZJ
