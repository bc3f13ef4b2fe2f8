/-! THE ALARM's line on both sides. -/
def LN (P : Shp) (σ τ : St) (f : Int → Int) (N q : Int) (FC : Option (Int × St)) (FM : Option St) : Prop :=
  (∃ σ' τ' e' d', FC = some (1, σ') ∧ FM = some τ' ∧ QQ P σ' τ' f N e' q d' ∧ CFr q σ σ' ∧ MFr τ τ') ∨ (∃ σ' τ', FC = some (0, σ') ∧ FM = some τ' ∧ BAD q σ τ σ' τ')
section ZZL
variable {P : Shp} {σ σ' σ0 σ1 σ2 s τ τ' τ0 τ1 τ2 : St} {f g h B d d' : Int → Int} {a b c e k i j x y z v w N q L kd cnt : Int} {n m r : Nat}
theorem BAD.flt (hq : q = 3 ∨ q = 17) (C : CT P σ f N e) (M : MT P τ f N e) (h1 : CFr q σ0 σ) (h2 : MFr τ0 τ) (hk : 1 ≤ k ∧ k ≤ 5) : BAD q σ0 τ0 (clt σ k) (mlt τ k) := by
  have ti := tok_in (f := f) C.e0 C.e1
  have hN := C.rb.hN
  have e0 := C.e0
  refine ⟨h1.tr (CFr.flt hq), h2.tr MFr.flt, by rw [mlt_8]; exact hk, by rw [clt_8, mlt_8], by rw [clt_7, mlt_9, C.ss, M.ss], ?_, ?_⟩
  · rw [mlt_9, M.ss]; omega
  · rw [mlt_j (by omega) (by omega), M.tt]; exact tT_in
theorem BAD.wr7 (h : BAD q σ0 τ0 σ' τ') : BAD q σ0 τ0 σ' (wr τ' 267 i v) := by
  obtain ⟨a1, a2, a3, a4, a5, a6, a7⟩ := h
  refine ⟨a1, a2.tr (MFr.wo (by omega)), ?_, ?_, ?_, ?_, ?_⟩
  · rw [wr_n (by omega)]; exact a3
  · rw [wr_n (by omega)]; exact a4
  · rw [wr_n (by omega)]; exact a5
  · rw [wr_n (by omega)]; exact a6
  · rw [wr_n (by omega)]; exact a7
theorem sim_alarm (Q : QQ P σ τ f N e q d) : LN P σ τ f N q (fX5_readAlarm P σ 1) (fX8_alarmLine P τ 265) := by
  have hq := Q.pr.hp
  have hq1 : ¬ (q = -1) := by omega
  have sh := Q.ct.rb.sh
  rcases Q.al2 with c0 | c0
  · have c1 : σ 1 10 = 0 := Q.al.trans c0
    obtain ⟨σ2, r2, C2, o2, j2⟩ := c_adv (Q.ct.fr (s := wr σ 1 10 1) (fun j a b => wr_i (by omega)) (wr_o (by omega)))
    have MA : MT P (wr τ 265 13 1) f N e := Q.mt.fr (fun j a b => wr_i (by omega)) (wr_o (by omega))
    obtain ⟨τ2, u2, M2, p2, k2⟩ := m_goOn MA
    have F2 : CFr q σ σ2 := (CFr.w1 (by omega) hq).tr (CFr.ad o2 j2 hq (by rw [wr_i (by omega)]; exact Q.ct.le C2))
    have G2 : MFr τ τ2 := (MFr.wm (by omega)).tr (MFr.ad p2 k2)
    have q2 : τ2 265 10 = 267 := by rw [G2.jj 10 (by omega) (by omega)]; exact Q.m10
    have l2 : σ2 1 9 = q := by rw [F2.jj 9 (by omega) (by omega)]; exact Q.pl
    have hT2 := tT_in (f := f) (N := N) (e := tE f N e)
    generalize tE f N e = e1 at *
    have t2 : 0 ≤ τ2 265 6 ∧ τ2 265 6 ≤ 4 := by rw [M2.tt]; exact hT2
    have t6 : ∀ k, 0 ≤ wr (mlt τ2 k) 267 5 1 265 6 ∧ wr (mlt τ2 k) 267 5 1 265 6 ≤ 4 := fun k => by rw [wr_n (by omega), mlt_j (by omega) (by omega)]; exact t2
    by_cases c2 : tT f N e1 = 2
    · by_cases c3 : 1 ≤ tV f N e1 ∧ tV f N e1 ≤ 999
      · have hv1 := tV_in C2.e0 C2.e1 c2
        have v6 : σ2 1 6 = tV f N e1 := C2.vv (Or.inr c2)
        obtain ⟨σ3, r3, C3, o3, j3⟩ := c_adv (C2.fr (s := wr σ2 q 2 (tV f N e1)) (fun j a b => wr_n (by omega)) (wr_o (by omega)))
        obtain ⟨τ3, u3, M3, p3, k3⟩ := m_read1 M2 c2 (a := 1) (b := 999) rfl rfl c3
        have F3 : CFr q σ σ3 := F2.tr ((CFr.wq (by omega) hq).tr (CFr.ad o3 j3 hq (by rw [wr_n (by omega)]; exact C2.le C3)))
        have G3 : MFr τ τ3 := G2.tr (MFr.ad p3 k3)
        have q3 : τ3 265 10 = 267 := by rw [G3.jj 10 (by omega) (by omega)]; exact Q.m10
        have l3 : σ3 1 9 = q := by rw [F3.jj 9 (by omega) (by omega)]; exact Q.pl
        have M3' : MT P (wr τ3 267 5 (tV f N e1)) f N (tE f N e1) := M3.fr (fun j a b => wr_n (by omega)) (wr_o (by omega))
        have G3' : MFr τ (wr τ3 267 5 (tV f N e1)) := G3.tr (MFr.wo (by omega))
        have N2 : fX5_isNumberWithin P σ2 1 1 999 = some (1, σ2) := c_num1 C2 c2 rfl rfl c3.1 c3.2
        have hT3 := tT_in (f := f) (N := N) (e := tE f N e1)
        generalize hv : tV f N e1 = v1 at *
        generalize tE f N e1 = e2 at *
        by_cases c4 : tT f N e2 = 2
        · by_cases c5 : 1 ≤ tV f N e2 ∧ tV f N e2 ≤ 99
          · left
            have hv2 := tV_in C3.e0 C3.e1 c4
            have v6' : σ3 1 6 = tV f N e2 := C3.vv (Or.inr c4)
            obtain ⟨σ4, r4, C4, o4, j4⟩ := c_adv (C3.fr (s := wr σ3 q 3 (tV f N e2)) (fun j a b => wr_n (by omega)) (wr_o (by omega)))
            obtain ⟨τ4, u4, M4, p4, k4⟩ := m_read1 M3' c4 (a := 1) (b := 99) rfl rfl c5
            have F4 : CFr q σ σ4 := F3.tr ((CFr.wq (by omega) hq).tr (CFr.ad o4 j4 hq (by rw [wr_n (by omega)]; exact C3.le C4)))
            have G4 : MFr τ τ4 := G3'.tr (MFr.ad p4 k4)
            have N3 : fX5_isNumberWithin P σ3 1 1 99 = some (1, σ3) := c_num1 C3 c4 rfl rfl c5.1 c5.2
            generalize hv' : tV f N e2 = v2 at *
            generalize tE f N e2 = e3 at *
            have sq : ∀ j, σ4 q j = if j = 3 then v2 else if j = 2 then v1 else σ q j := fun j => by
              rw [o4 q (by omega)]
              by_cases z : j = 3
              · subst z; rw [wr_s, if_pos rfl]
              · rw [wr_i z, if_neg z, o3 q (by omega)]
                by_cases z2 : j = 2
                · subst z2; rw [wr_s, if_pos rfl]
                · rw [wr_i z2, if_neg z2, o2 q (by omega), wr_o (by omega)]
            have so : ∀ o, o ≠ 1 → o ≠ q → σ4 o = σ o := fun o h1 h2 => by
              rw [o4 o h1, wr_o h2, o3 o h1, wr_o h2, o2 o h1, wr_o h1]
            have to : ∀ o, o ≠ 265 → o ≠ 267 → wr τ4 267 6 v2 o = τ o := fun o h1 h2 => by
              rw [wr_o h2, p4 o h1, wr_o h2, p3 o h1, p2 o h1, wr_o h1]
            have td : ∀ j, wr τ4 267 6 v2 267 j = if j = 6 then v2 else if j = 5 then v1 else τ 267 j := fun j => by
              by_cases z : j = 6
              · subst z; rw [wr_s, if_pos rfl]
              · rw [wr_i z, if_neg z, p4 267 (by omega)]
                by_cases z2 : j = 5
                · subst z2; rw [wr_s, if_pos rfl]
                · rw [wr_i z2, if_neg z2, p3 267 (by omega), p2 267 (by omega), wr_o (by omega)]
            refine ⟨σ4, wr τ4 267 6 v2, e3, zu (zu d 5 v1) 6 v2, ?_, ?_, ⟨C4, M4.fr (fun j a b => wr_n (by omega)) (wr_o (by omega)), ?_, ?_, ?_, ?_, ?_, ?_, ?_, ?_, ?_, ?_, ?_, ?_, ?_, ?_, ?_, ?_⟩, F4, G4.tr (MFr.wo (by omega))⟩
            · simp (disch := first | omega | assumption) only [fX5_readAlarm, ↓z_lt, ↓z_ge, ↓z_gt, ↓z_le, ↓z_eq, ↓z_ne, ↓z_mx, ↓z_mn, ↓z_dv, ↓z_rm, ↓z_i2l, ↓z_lc, ↓z_sw, ↓z_sf, ↓z_sn, ↓z_bd, ↓z_nt, z_b0, z_b1, z_bi, z_bj, ↓z_gF, ↓z_gR, ↓z_pF, ↓z_pZ, ↓z_pR, ↓z_aI, ↓z_aR, ↓z_sI, ↓z_sZ, ↓z_on, z_cl, ↓reduceIte, Int.reduceEq, Int.reduceNeg, Int.reduceLT, Int.reduceLE, Int.reduceAdd, Int.reduceSub, Int.reduceMul, true_and, and_true, or_true, true_or, eq_self, iR_t, sO1 sh, c1, ↓e_cl r2, ↓e_cl N2, l2, pO sh hq, hq1, v6, ↓e_cl r3, ↓e_cl N3, l3, v6', ↓e_cl r4]
            · simp (disch := first | omega | assumption) only [fX8_alarmLine, ↓z_lt, ↓z_ge, ↓z_gt, ↓z_le, ↓z_eq, ↓z_ne, ↓z_mx, ↓z_mn, ↓z_dv, ↓z_rm, ↓z_i2l, ↓z_lc, ↓z_sw, ↓z_sf, ↓z_sn, ↓z_bd, ↓z_nt, z_b0, z_b1, z_bi, z_bj, ↓z_gF, ↓z_gR, ↓z_pF, ↓z_pZ, ↓z_pR, ↓z_aI, ↓z_aR, ↓z_sI, ↓z_sZ, ↓z_on, z_cl, ↓reduceIte, Int.reduceEq, Int.reduceNeg, Int.reduceLT, Int.reduceLE, Int.reduceAdd, Int.reduceSub, Int.reduceMul, true_and, and_true, or_true, true_or, eq_self, iR_t, sO265 sh, sA267 sh, c0, ↓m_must1' Q.mt, ↓e_cl u2, ↓e_cl u3, q2, wr_n, ↓e_cl u4, q3]
            · refine Q.pr.sca (fun j hj => ?_) (fun o h1 h2 => so o (by omega) (by omega)) ?_ ?_ ?_ ?_ ?_ ?_ ?_ (fun j hj => ?_)
              · rw [sq, if_neg (by omega), if_neg (by omega)]
              · rw [sq, if_neg (by omega), if_neg (by omega), zu_n (by omega), zu_n (by omega)]; exact Q.pr.v0
              · rw [sq, if_neg (by omega), if_neg (by omega), zu_n (by omega), zu_n (by omega)]; exact Q.pr.v1
              · rw [sq, if_neg (by omega), if_pos rfl, zu_n (by omega), zu_s]
              · rw [sq, if_pos rfl, zu_s]
              · rw [sq, if_neg (by omega), if_neg (by omega)]
              · rw [sq, if_neg (by omega), if_neg (by omega)]
              · rw [sq, if_neg (by omega), if_neg (by omega)]
              · rw [zu_n (by omega), zu_n (by omega)]
            · refine Q.tv.sca (fun j hj => by rw [zu_n (by omega), zu_n (by omega)]) ?_ ?_ ?_ ?_
              · rw [zu_n (by omega), zu_n (by omega)]; have := Q.tv.b 3; have := Q.nn3; omega
              · rw [zu_n (by omega), zu_n (by omega)]; exact Q.tv.n4
              · rw [zu_n (by omega), zu_s]; omega
              · rw [zu_s]; omega
            · rw [F4.jj 9 (by omega) (by omega)]; exact Q.pl
            · rw [F4.jj 11 (by omega) (by omega)]; exact Q.n11
            · rw [F4.jj 12 (by omega) (by omega)]; exact Q.n12
            · rw [F4.jj 13 (by omega) (by omega)]; exact Q.n13
            · rw [wr_n (by omega), k4 13 (by omega), wr_n (by omega), k3 13 (by omega), k2 13 (by omega), wr_s, j4 10 (by omega), wr_n (by omega), j3 10 (by omega), wr_n (by omega), j2 10 (by omega), wr_s]
            · rw [wr_n (by omega), k4 13 (by omega), wr_n (by omega), k3 13 (by omega), k2 13 (by omega), wr_s]; exact Or.inr rfl
            · rw [wr_n (by omega), G4.jj 10 (by omega) (by omega)]; exact Q.m10
            · rw [wr_n (by omega), G4.jj 12 (by omega) (by omega)]; exact Q.m12
            · intro j j0 j1
              rw [td]
              unfold zu
              rw [Q.dd j j0 j1]
            · rw [so 13 (by omega) (by omega), to 269 (by omega) (by omega), zu_n (by omega), zu_n (by omega)]; exact Q.na0
            · rw [so 14 (by omega) (by omega), to 269 (by omega) (by omega), zu_n (by omega), zu_n (by omega)]; exact Q.na1
            · rw [so 15 (by omega) (by omega), to 269 (by omega) (by omega), zu_n (by omega), zu_n (by omega)]; exact Q.na2
            · refine ⟨?_, ?_, ?_⟩
              · rw [zu_n (by omega), zu_n (by omega)]; exact Q.nn3.1
              · rw [zu_n (by omega), zu_s]; omega
              · rw [zu_s]; omega
            · refine ⟨by rw [zu_n (by omega), zu_n (by omega)]; exact Q.np.1, fun k k0 k1 => ?_⟩
              rw [zu_n (show (1 : Int) ≠ 6 by omega), zu_n (show (1 : Int) ≠ 5 by omega)] at k1
              rw [zu_n (show 55 + k ≠ 6 by omega), zu_n (show 55 + k ≠ 5 by omega), zu_n (show (4 : Int) ≠ 6 by omega), zu_n (show (4 : Int) ≠ 5 by omega)]
              exact Q.np.2 k k0 k1
          · right
            refine ⟨clt σ3 4, wr (mlt (wr τ3 267 5 v1) 4) 267 6 1, ?_, ?_, (BAD.flt hq C3 M3' F3 G3' (by omega)).wr7⟩
            · simp (disch := first | omega | assumption) only [fX5_readAlarm, ↓z_lt, ↓z_ge, ↓z_gt, ↓z_le, ↓z_eq, ↓z_ne, ↓z_mx, ↓z_mn, ↓z_dv, ↓z_rm, ↓z_i2l, ↓z_lc, ↓z_sw, ↓z_sf, ↓z_sn, ↓z_bd, ↓z_nt, z_b0, z_b1, z_bi, z_bj, ↓z_gF, ↓z_gR, ↓z_pF, ↓z_pZ, ↓z_pR, ↓z_aI, ↓z_aR, ↓z_sI, ↓z_sZ, ↓z_on, z_cl, ↓reduceIte, Int.reduceEq, Int.reduceNeg, Int.reduceLT, Int.reduceLE, Int.reduceAdd, Int.reduceSub, Int.reduceMul, true_and, and_true, or_true, true_or, eq_self, iR_t, sO1 sh, c1, ↓e_cl r2, ↓e_cl N2, l2, pO sh hq, hq1, v6, ↓e_cl r3, ↓c_num4' C3 c4 rfl rfl c5]
            · simp (disch := first | omega | assumption) only [fX8_alarmLine, ↓z_lt, ↓z_ge, ↓z_gt, ↓z_le, ↓z_eq, ↓z_ne, ↓z_mx, ↓z_mn, ↓z_dv, ↓z_rm, ↓z_i2l, ↓z_lc, ↓z_sw, ↓z_sf, ↓z_sn, ↓z_bd, ↓z_nt, z_b0, z_b1, z_bi, z_bj, ↓z_gF, ↓z_gR, ↓z_pF, ↓z_pZ, ↓z_pR, ↓z_aI, ↓z_aR, ↓z_sI, ↓z_sZ, ↓z_on, z_cl, ↓reduceIte, Int.reduceEq, Int.reduceNeg, Int.reduceLT, Int.reduceLE, Int.reduceAdd, Int.reduceSub, Int.reduceMul, true_and, and_true, or_true, true_or, eq_self, iR_t, sO265 sh, sA267 sh, c0, ↓m_must1' Q.mt, ↓e_cl u2, ↓e_cl u3, q2, wr_n, ↓m_read4' M3' c4 rfl rfl c5, q3]
        · right
          refine ⟨clt σ3 1, wr (mlt (wr τ3 267 5 v1) 1) 267 6 1, ?_, ?_, (BAD.flt hq C3 M3' F3 G3' (by omega)).wr7⟩
          · simp (disch := first | omega | assumption) only [fX5_readAlarm, ↓z_lt, ↓z_ge, ↓z_gt, ↓z_le, ↓z_eq, ↓z_ne, ↓z_mx, ↓z_mn, ↓z_dv, ↓z_rm, ↓z_i2l, ↓z_lc, ↓z_sw, ↓z_sf, ↓z_sn, ↓z_bd, ↓z_nt, z_b0, z_b1, z_bi, z_bj, ↓z_gF, ↓z_gR, ↓z_pF, ↓z_pZ, ↓z_pR, ↓z_aI, ↓z_aR, ↓z_sI, ↓z_sZ, ↓z_on, z_cl, ↓reduceIte, Int.reduceEq, Int.reduceNeg, Int.reduceLT, Int.reduceLE, Int.reduceAdd, Int.reduceSub, Int.reduceMul, true_and, and_true, or_true, true_or, eq_self, iR_t, sO1 sh, c1, ↓e_cl r2, ↓e_cl N2, l2, pO sh hq, hq1, v6, ↓e_cl r3, ↓c_numS' C3 c4]
          · simp (disch := first | omega | assumption) only [fX8_alarmLine, ↓z_lt, ↓z_ge, ↓z_gt, ↓z_le, ↓z_eq, ↓z_ne, ↓z_mx, ↓z_mn, ↓z_dv, ↓z_rm, ↓z_i2l, ↓z_lc, ↓z_sw, ↓z_sf, ↓z_sn, ↓z_bd, ↓z_nt, z_b0, z_b1, z_bi, z_bj, ↓z_gF, ↓z_gR, ↓z_pF, ↓z_pZ, ↓z_pR, ↓z_aI, ↓z_aR, ↓z_sI, ↓z_sZ, ↓z_on, z_cl, ↓reduceIte, Int.reduceEq, Int.reduceNeg, Int.reduceLT, Int.reduceLE, Int.reduceAdd, Int.reduceSub, Int.reduceMul, true_and, and_true, or_true, true_or, eq_self, iR_t, sO265 sh, sA267 sh, c0, ↓m_must1' Q.mt, ↓e_cl u2, ↓e_cl u3, q2, wr_n, ↓m_readS' M3' c4, q3]
      · right
        have n4 : ¬ (wr (mlt τ2 4) 267 5 1 265 8 = 0) := by rw [wr_n (by omega), mlt_8]; omega
        have r4 : iR (wr (mlt τ2 4) 267 5 1 265 8) = true := by rw [wr_n (by omega), mlt_8]; rfl
        refine ⟨clt σ2 4, wr (wr (mlt τ2 4) 267 5 1) 267 6 1, ?_, ?_, ((BAD.flt hq C2 M2 F2 G2 (by omega)).wr7).wr7⟩
        · simp (disch := first | omega | assumption) only [fX5_readAlarm, ↓z_lt, ↓z_ge, ↓z_gt, ↓z_le, ↓z_eq, ↓z_ne, ↓z_mx, ↓z_mn, ↓z_dv, ↓z_rm, ↓z_i2l, ↓z_lc, ↓z_sw, ↓z_sf, ↓z_sn, ↓z_bd, ↓z_nt, z_b0, z_b1, z_bi, z_bj, ↓z_gF, ↓z_gR, ↓z_pF, ↓z_pZ, ↓z_pR, ↓z_aI, ↓z_aR, ↓z_sI, ↓z_sZ, ↓z_on, z_cl, ↓reduceIte, Int.reduceEq, Int.reduceNeg, Int.reduceLT, Int.reduceLE, Int.reduceAdd, Int.reduceSub, Int.reduceMul, true_and, and_true, or_true, true_or, eq_self, iR_t, sO1 sh, c1, ↓e_cl r2, ↓c_num4' C2 c2 rfl rfl c3]
        · simp (disch := first | omega | assumption) only [fX8_alarmLine, ↓z_lt, ↓z_ge, ↓z_gt, ↓z_le, ↓z_eq, ↓z_ne, ↓z_mx, ↓z_mn, ↓z_dv, ↓z_rm, ↓z_i2l, ↓z_lc, ↓z_sw, ↓z_sf, ↓z_sn, ↓z_bd, ↓z_nt, z_b0, z_b1, z_bi, z_bj, ↓z_gF, ↓z_gR, ↓z_pF, ↓z_pZ, ↓z_pR, ↓z_aI, ↓z_aR, ↓z_sI, ↓z_sZ, ↓z_on, z_cl, ↓reduceIte, Int.reduceEq, Int.reduceNeg, Int.reduceLT, Int.reduceLE, Int.reduceAdd, Int.reduceSub, Int.reduceMul, true_and, and_true, or_true, true_or, eq_self, iR_t, sO265 sh, sA267 sh, c0, ↓m_must1' Q.mt, ↓e_cl u2, ↓m_read4' M2 c2 rfl rfl c3, q2, wr_n, mlt_j, ↓f_read' sh n4 r4 (t6 4)]
    · right
      have n4 : ¬ (wr (mlt τ2 1) 267 5 1 265 8 = 0) := by rw [wr_n (by omega), mlt_8]; omega
      have r4 : iR (wr (mlt τ2 1) 267 5 1 265 8) = true := by rw [wr_n (by omega), mlt_8]; rfl
      refine ⟨clt σ2 1, wr (wr (mlt τ2 1) 267 5 1) 267 6 1, ?_, ?_, ((BAD.flt hq C2 M2 F2 G2 (by omega)).wr7).wr7⟩
      · simp (disch := first | omega | assumption) only [fX5_readAlarm, ↓z_lt, ↓z_ge, ↓z_gt, ↓z_le, ↓z_eq, ↓z_ne, ↓z_mx, ↓z_mn, ↓z_dv, ↓z_rm, ↓z_i2l, ↓z_lc, ↓z_sw, ↓z_sf, ↓z_sn, ↓z_bd, ↓z_nt, z_b0, z_b1, z_bi, z_bj, ↓z_gF, ↓z_gR, ↓z_pF, ↓z_pZ, ↓z_pR, ↓z_aI, ↓z_aR, ↓z_sI, ↓z_sZ, ↓z_on, z_cl, ↓reduceIte, Int.reduceEq, Int.reduceNeg, Int.reduceLT, Int.reduceLE, Int.reduceAdd, Int.reduceSub, Int.reduceMul, true_and, and_true, or_true, true_or, eq_self, iR_t, sO1 sh, c1, ↓e_cl r2, ↓c_numS' C2 c2]
      · simp (disch := first | omega | assumption) only [fX8_alarmLine, ↓z_lt, ↓z_ge, ↓z_gt, ↓z_le, ↓z_eq, ↓z_ne, ↓z_mx, ↓z_mn, ↓z_dv, ↓z_rm, ↓z_i2l, ↓z_lc, ↓z_sw, ↓z_sf, ↓z_sn, ↓z_bd, ↓z_nt, z_b0, z_b1, z_bi, z_bj, ↓z_gF, ↓z_gR, ↓z_pF, ↓z_pZ, ↓z_pR, ↓z_aI, ↓z_aR, ↓z_sI, ↓z_sZ, ↓z_on, z_cl, ↓reduceIte, Int.reduceEq, Int.reduceNeg, Int.reduceLT, Int.reduceLE, Int.reduceAdd, Int.reduceSub, Int.reduceMul, true_and, and_true, or_true, true_or, eq_self, iR_t, sO265 sh, sA267 sh, c0, ↓m_must1' Q.mt, ↓e_cl u2, ↓m_readS' M2 c2, q2, wr_n, mlt_j, ↓f_read' sh n4 r4 (t6 1)]
  · have c1 : σ 1 10 = 1 := Q.al.trans c0
    right
    refine ⟨clt σ 3, mlt τ 3, ?_, ?_, BAD.flt hq Q.ct Q.mt CFr.rf MFr.rf (by omega)⟩
    · simp (disch := first | omega | assumption) only [fX5_readAlarm, ↓z_lt, ↓z_ge, ↓z_gt, ↓z_le, ↓z_eq, ↓z_ne, ↓z_mx, ↓z_mn, ↓z_dv, ↓z_rm, ↓z_i2l, ↓z_lc, ↓z_sw, ↓z_sf, ↓z_sn, ↓z_bd, ↓z_nt, z_b0, z_b1, z_bi, z_bj, ↓z_gF, ↓z_gR, ↓z_pF, ↓z_pZ, ↓z_pR, ↓z_aI, ↓z_aR, ↓z_sI, ↓z_sZ, ↓z_on, z_cl, ↓reduceIte, Int.reduceEq, Int.reduceNeg, Int.reduceLT, Int.reduceLE, Int.reduceAdd, Int.reduceSub, Int.reduceMul, true_and, and_true, or_true, true_or, eq_self, iR_t, sO1 sh, c1, ↓c_fault' Q.ct]
    · simp (disch := first | omega | assumption) only [fX8_alarmLine, ↓z_lt, ↓z_ge, ↓z_gt, ↓z_le, ↓z_eq, ↓z_ne, ↓z_mx, ↓z_mn, ↓z_dv, ↓z_rm, ↓z_i2l, ↓z_lc, ↓z_sw, ↓z_sf, ↓z_sn, ↓z_bd, ↓z_nt, z_b0, z_b1, z_bi, z_bj, ↓z_gF, ↓z_gR, ↓z_pF, ↓z_pZ, ↓z_pR, ↓z_aI, ↓z_aR, ↓z_sI, ↓z_sZ, ↓z_on, z_cl, ↓reduceIte, Int.reduceEq, Int.reduceNeg, Int.reduceLT, Int.reduceLE, Int.reduceAdd, Int.reduceSub, Int.reduceMul, true_and, and_true, or_true, true_or, eq_self, iR_t, sO265 sh, c0, ↓m_must0' Q.mt]
end ZZL
