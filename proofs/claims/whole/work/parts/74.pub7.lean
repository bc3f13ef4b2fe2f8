/-! UNDO AND SNAPSHOTS on both sides. -/
section ZZA
variable {P : Shp} {σ σ' σ1 σ2 σ3 σ4 σ5 s : St} {t f f' f2 g g' : Int → Int} {B B' : Int} {a b b' d k p q kind who m h j c x y z i v w part N K D : Int} {n : Nat}
theorem mx_cps {a0 : Int} (hne : a0 ≠ 270) : (fun j => cps s a0 (410 * k) 270 (410 * 0) 410 270 j) = mxF (s a0) k (s 270) := by
  funext j
  unfold mxF
  by_cases e : 0 ≤ j ∧ j < 410
  · rw [if_pos e, cps_at (by omega) (by omega)]; congr 1; omega
  · rw [if_neg e, cps_no (by omega)]
theorem mx_cpg {a0 : Int} (hne : a0 ≠ 271) : (fun j => cps s a0 (12 * k) 271 (12 * 0) 12 271 j) = mxG (s a0) k (s 271) := by
  funext j
  unfold mxG
  by_cases e : 0 ≤ j ∧ j < 12
  · rw [if_pos e, cps_at (by omega) (by omega)]; congr 1; omega
  · rw [if_neg e, cps_no (by omega)]
theorem rd_undo (G : GR P σ p t B) : ∃ v σ2 σ5, fX7_undo P σ 0 = some (v, σ2) ∧ fX8_undo P σ2 265 = some (v, σ5) ∧ iR v = true ∧ GR P σ5 p t B := by
  have C := G.cr; have T := G.tv; have F := G.fv; have V := G.cv; have M := G.mp; have n0 := T.n0; have n1 := T.n1; have n2 := T.n2; have b0 := F.b0
  have hn := G.hn
  have hk := G.hk
  have hd := G.hd
  by_cases c : σ 45 1 = 0
  · refine ⟨-1, σ, wr σ 265 0 0, ?_, ?_, rfl, G.to (fun o h1 h2 h3 => wr_o h1) (fun j j0 _ => wr_i (by omega))⟩
    · have et : fX1_takeBack P σ 45 27 = some (0, σ) := by
        simp (disch := first | omega | assumption | (simp (disch := omega) only [G.x1, G.x2, C.h1, C.p8, C.p9, C.e0, C.tm, st2_wo, C.h0]; done) | fail) only [fX1_takeBack, ↓z_lt, ↓z_ge, ↓z_gt, ↓z_le, ↓z_eq, ↓z_ne, ↓z_mx, ↓z_mn, ↓z_dv, ↓z_rm, ↓z_i2l, ↓z_lc, ↓z_sw, ↓z_sf, ↓z_sn, ↓z_bd, ↓z_nt, z_b0, z_b1, z_bi, z_bj, ↓z_gF, ↓z_gR, ↓z_pF, ↓z_pZ, ↓z_pR, ↓z_aI, ↓z_aR, ↓z_sI, ↓z_sZ, ↓z_on, z_cl, ↓reduceIte, Int.reduceEq, Int.reduceNeg, Int.reduceLT, Int.reduceLE, Int.reduceAdd, Int.reduceSub, Int.reduceMul, true_and, and_true, or_true, true_or, eq_self, C.h0, C.h1, C.p2, C.p3, C.p4, C.p5, C.p6, C.p7, C.p8, C.p9, C.e0, C.e1, C.e2, C.e4, C.e5, C.l2, C.l3, C.l4, C.l5, C.pr.r7, C.pr.r8, C.pr.r9, C.pr.r10, C.pr.r11, C.pr.r12, C.pr.r13, C.pr.r14, C.pr.r15, C.pr.v0, C.pr.v1, C.pr.v2, C.pr.v3, C.pr.v4, C.pr.v5, C.pr.v6, C.pr.we, C.pr.wi, C.pr.pe, C.pr.fp, C.pr.he, C.pr.ho, C.pr.ra, C.pr.pa, C.tm, C.sc, C.po, C.al, C.ho, C.mo, C.dn, C.se, C.ke, C.ca, C.co, sO16 C.sh, sO27 C.sh, sO34 C.sh, sO40 C.sh, sA28 C.sh, sA29 C.sh, sA30 C.sh, sA31 C.sh, sA32 C.sh, sA33 C.sh, sA35 C.sh, sA36 C.sh, sA37 C.sh, sA38 C.sh, sA39 C.sh, sA41 C.sh, sA42 C.sh, sA43 C.sh, sA44 C.sh, pO C.sh C.pr.hp, pA1 C.sh C.pr.hp, pA2 C.sh C.pr.hp, pA3 C.sh C.pr.hp, pA4 C.sh C.pr.hp, pA5 C.sh C.pr.hp, pA6 C.sh C.pr.hp, pA7 C.sh C.pr.hp, pA8 C.sh C.pr.hp, pA9 C.sh C.pr.hp, pN C.pr.hp, pN0 C.pr.hp, iR_t, Int.reduceAdd, n02, n12, n10, G.x0, G.x1, G.x2, G.x3, G.x4, G.h0, sO0 C.sh, sO1 C.sh, sO45 C.sh, sA278 C.sh, c]
      simp (disch := first | omega | assumption | (simp (disch := omega) only [G.x1, G.x2, C.h1, C.p8, C.p9, C.e0, C.tm, st2_wo, C.h0]; done) | fail) only [fX7_undo, ↓z_lt, ↓z_ge, ↓z_gt, ↓z_le, ↓z_eq, ↓z_ne, ↓z_mx, ↓z_mn, ↓z_dv, ↓z_rm, ↓z_i2l, ↓z_lc, ↓z_sw, ↓z_sf, ↓z_sn, ↓z_bd, ↓z_nt, z_b0, z_b1, z_bi, z_bj, ↓z_gF, ↓z_gR, ↓z_pF, ↓z_pZ, ↓z_pR, ↓z_aI, ↓z_aR, ↓z_sI, ↓z_sZ, ↓z_on, z_cl, ↓reduceIte, Int.reduceEq, Int.reduceNeg, Int.reduceLT, Int.reduceLE, Int.reduceAdd, Int.reduceSub, Int.reduceMul, true_and, and_true, or_true, true_or, eq_self, C.h0, C.h1, C.p2, C.p3, C.p4, C.p5, C.p6, C.p7, C.p8, C.p9, C.e0, C.e1, C.e2, C.e4, C.e5, C.l2, C.l3, C.l4, C.l5, C.pr.r7, C.pr.r8, C.pr.r9, C.pr.r10, C.pr.r11, C.pr.r12, C.pr.r13, C.pr.r14, C.pr.r15, C.pr.v0, C.pr.v1, C.pr.v2, C.pr.v3, C.pr.v4, C.pr.v5, C.pr.v6, C.pr.we, C.pr.wi, C.pr.pe, C.pr.fp, C.pr.he, C.pr.ho, C.pr.ra, C.pr.pa, C.tm, C.sc, C.po, C.al, C.ho, C.mo, C.dn, C.se, C.ke, C.ca, C.co, sO16 C.sh, sO27 C.sh, sO34 C.sh, sO40 C.sh, sA28 C.sh, sA29 C.sh, sA30 C.sh, sA31 C.sh, sA32 C.sh, sA33 C.sh, sA35 C.sh, sA36 C.sh, sA37 C.sh, sA38 C.sh, sA39 C.sh, sA41 C.sh, sA42 C.sh, sA43 C.sh, sA44 C.sh, pO C.sh C.pr.hp, pA1 C.sh C.pr.hp, pA2 C.sh C.pr.hp, pA3 C.sh C.pr.hp, pA4 C.sh C.pr.hp, pA5 C.sh C.pr.hp, pA6 C.sh C.pr.hp, pA7 C.sh C.pr.hp, pA8 C.sh C.pr.hp, pA9 C.sh C.pr.hp, pN C.pr.hp, pN0 C.pr.hp, iR_t, Int.reduceAdd, n02, n12, n10, G.x0, G.x1, G.x2, G.x3, G.x4, G.h0, sO0 C.sh, sO1 C.sh, sO45 C.sh, sA278 C.sh, ↓e_g et]
    · simp (disch := first | omega | assumption | (simp (disch := omega) only [G.x1, G.x2, C.h1, C.p8, C.p9, C.e0, C.tm, st2_wo, C.h0]; done) | fail) only [fX8_undo, ↓z_lt, ↓z_ge, ↓z_gt, ↓z_le, ↓z_eq, ↓z_ne, ↓z_mx, ↓z_mn, ↓z_dv, ↓z_rm, ↓z_i2l, ↓z_lc, ↓z_sw, ↓z_sf, ↓z_sn, ↓z_bd, ↓z_nt, z_b0, z_b1, z_bi, z_bj, ↓z_gF, ↓z_gR, ↓z_pF, ↓z_pZ, ↓z_pR, ↓z_aI, ↓z_aR, ↓z_sI, ↓z_sZ, ↓z_on, z_cl, ↓reduceIte, Int.reduceEq, Int.reduceNeg, Int.reduceLT, Int.reduceLE, Int.reduceAdd, Int.reduceSub, Int.reduceMul, true_and, and_true, or_true, true_or, eq_self, st2_f, st2_g, st2_o, M.q1, M.q10, M.q11, M.q12, M.q14, M.q15, M.q16, M.q17, M.q19, M.q20, M.q21, M.q22, M.tl, sO265 M.sh, sA266 M.sh, sA267 M.sh, sA268 M.sh, sA269 M.sh, sA270 M.sh, sA271 M.sh, sA272 M.sh, sA273 M.sh, sA274 M.sh, sA275 M.sh, sA276 M.sh, sA277 M.sh, iR_t, wr_i, wr_s, hd, c]
  · have hr := G.hr 0 (by omega) (by omega)
    rw [Int.sub_zero, Int.sub_zero] at hr
    have hN : 0 ≤ (σ 45 2 - 1) % 10 ∧ (σ 45 2 - 1) % 10 < 10 := by omega
    have hs := G.hs _ hN.1 hN.2
    generalize hNe : (σ 45 2 - 1) % 10 = N at hr hN hs
    have hb := isB_h hN.1 hN.2
    have hne : 47 + 18 * N ≠ (27 : Int) := by omega
    have mx := hr.mx T F
    have wo : ∀ o, o ≠ 45 → wr σ 45 2 N o = σ o := fun o ho => wr_o ho
    have S1 : SR (wr σ 45 2 N) (47 + 18 * N) t (mxF (σ 272) (σ 45 1 - 1) (σ 270)) (mxG (σ 273) (σ 45 1 - 1) (σ 271)) := mx.1.fr fun o _ _ => wo o (by omega)
    have S2 : SP (wr σ 45 2 N) 27 := C.s.sp.fr fun o _ _ => wo o (by omega)
    have ec := c_copyFrom C.sh hb isB_27 hne S1.sp S2
    have SR2 := cpB_SR hb isB_27 hne T mx.2.1 mx.2.2 S1 S2
    have co : ∀ o, (o < 27 ∨ 44 < o) → cpB (wr σ 45 2 N) (47 + 18 * N) 27 o = wr σ 45 2 N o := fun o ho => cpB_o (by omega)
    have k1 : cpB (wr σ 45 2 N) (47 + 18 * N) 27 45 1 = σ 45 1 := by rw [co 45 (by omega)]; exact wr_i (by omega)
    have k0 : cpB (wr σ 45 2 N) (47 + 18 * N) 27 45 0 = 46 := by rw [co 45 (by omega), wr_i (by omega)]; exact G.h0
    have k2 : cpB (wr σ 45 2 N) (47 + 18 * N) 27 45 2 = N := by rw [co 45 (by omega)]; exact wr_s
    have kx : cpB (wr σ 45 2 N) (47 + 18 * N) 27 0 2 = 45 := by rw [co 0 (by omega), wr_n (by omega)]; exact G.x2
    have r0 : 0 < σ 45 1 := by omega
    have nm1 : ¬ (47 + 18 * N = -1) := by omega
    have hf : σ 46 N = 47 + 18 * N := hs.1
    generalize hcp : cpB (wr σ 45 2 N) (47 + 18 * N) 27 = σc at ec SR2 co k1 k0 k2 kx
    have et : fX1_takeBack P σ 45 27 = some (1, wr σc 45 1 (σ 45 1 - 1)) := by
      simp (disch := first | omega | assumption | (simp (disch := omega) only [wr_n, wr_i, wr_s, G.h0, hf, hNe]; done) | fail) only [fX1_takeBack, ↓z_lt, ↓z_ge, ↓z_gt, ↓z_le, ↓z_eq, ↓z_ne, ↓z_mx, ↓z_mn, ↓z_dv, ↓z_rm, ↓z_i2l, ↓z_lc, ↓z_sw, ↓z_sf, ↓z_sn, ↓z_bd, ↓z_nt, z_b0, z_b1, z_bi, z_bj, ↓z_gF, ↓z_gR, ↓z_pF, ↓z_pZ, ↓z_pR, ↓z_aI, ↓z_aR, ↓z_sI, ↓z_sZ, ↓z_on, z_cl, ↓reduceIte, Int.reduceEq, Int.reduceNeg, Int.reduceLT, Int.reduceLE, Int.reduceAdd, Int.reduceSub, Int.reduceMul, true_and, and_true, or_true, true_or, eq_self, C.h0, C.h1, C.p2, C.p3, C.p4, C.p5, C.p6, C.p7, C.p8, C.p9, C.e0, C.e1, C.e2, C.e4, C.e5, C.l2, C.l3, C.l4, C.l5, C.pr.r7, C.pr.r8, C.pr.r9, C.pr.r10, C.pr.r11, C.pr.r12, C.pr.r13, C.pr.r14, C.pr.r15, C.pr.v0, C.pr.v1, C.pr.v2, C.pr.v3, C.pr.v4, C.pr.v5, C.pr.v6, C.pr.we, C.pr.wi, C.pr.pe, C.pr.fp, C.pr.he, C.pr.ho, C.pr.ra, C.pr.pa, C.tm, C.sc, C.po, C.al, C.ho, C.mo, C.dn, C.se, C.ke, C.ca, C.co, sO16 C.sh, sO27 C.sh, sO34 C.sh, sO40 C.sh, sA28 C.sh, sA29 C.sh, sA30 C.sh, sA31 C.sh, sA32 C.sh, sA33 C.sh, sA35 C.sh, sA36 C.sh, sA37 C.sh, sA38 C.sh, sA39 C.sh, sA41 C.sh, sA42 C.sh, sA43 C.sh, sA44 C.sh, pO C.sh C.pr.hp, pA1 C.sh C.pr.hp, pA2 C.sh C.pr.hp, pA3 C.sh C.pr.hp, pA4 C.sh C.pr.hp, pA5 C.sh C.pr.hp, pA6 C.sh C.pr.hp, pA7 C.sh C.pr.hp, pA8 C.sh C.pr.hp, pA9 C.sh C.pr.hp, pN C.pr.hp, pN0 C.pr.hp, iR_t, Int.reduceAdd, n02, n12, n10, G.x0, G.x1, G.x2, G.x3, G.x4, G.h0, sO0 C.sh, sO1 C.sh, sO45 C.sh, sA278 C.sh, r0, ↓c_floorMod10', hNe, wr_n, wr_i, wr_s, sA46 C.sh, hf, nm1, ↓e_g ec, k1]
    have kc1 : (wr σc 45 1 (σ 45 1 - 1)) 45 1 = σ 45 1 - 1 := wr_s
    have co2 : ∀ o, o ≠ 45 → (o < 27 ∨ 44 < o) → (wr σc 45 1 (σ 45 1 - 1)) o = σ o := fun o h1 h2 => by rw [wr_o h1, co o h2, wo o h1]
    have M2 : MP P (wr σc 45 1 (σ 45 1 - 1)) t := M.to2 (fun j _ _ => by rw [co2 265 (by omega) (by omega)]) (co2 268 (by omega) (by omega))
    have k265 : (wr σc 45 1 (σ 45 1 - 1)) 265 18 = σ 45 1 := by rw [co2 265 (by omega) (by omega)]; exact hd
    have ky : (wr σc 45 1 (σ 45 1 - 1)) 0 2 = 45 := by rw [wr_n (by omega)]; exact kx
    have kz : (wr σc 45 1 (σ 45 1 - 1)) 45 2 = N := by rw [wr_i (by omega)]; exact k2
    have kw : (wr σc 45 1 (σ 45 1 - 1)) 45 0 = 46 := by rw [wr_i (by omega)]; exact k0
    have S27 : SR (wr σc 45 1 (σ 45 1 - 1)) 27 t (mxF (σ 272) (σ 45 1 - 1) (σ 270)) (mxG (σ 273) (σ 45 1 - 1) (σ 271)) := SR2.fr fun o _ _ => wr_o (by omega)
    have eu : fX7_undo P σ 0 = some (σ 45 1 - 1, wr σc 45 1 (σ 45 1 - 1)) := by
      simp (disch := first | omega | assumption | (simp (disch := omega) only [G.x1, G.x2, C.h1, C.p8, C.p9, C.e0, C.tm, st2_wo, C.h0]; done) | fail) only [fX7_undo, ↓z_lt, ↓z_ge, ↓z_gt, ↓z_le, ↓z_eq, ↓z_ne, ↓z_mx, ↓z_mn, ↓z_dv, ↓z_rm, ↓z_i2l, ↓z_lc, ↓z_sw, ↓z_sf, ↓z_sn, ↓z_bd, ↓z_nt, z_b0, z_b1, z_bi, z_bj, ↓z_gF, ↓z_gR, ↓z_pF, ↓z_pZ, ↓z_pR, ↓z_aI, ↓z_aR, ↓z_sI, ↓z_sZ, ↓z_on, z_cl, ↓reduceIte, Int.reduceEq, Int.reduceNeg, Int.reduceLT, Int.reduceLE, Int.reduceAdd, Int.reduceSub, Int.reduceMul, true_and, and_true, or_true, true_or, eq_self, C.h0, C.h1, C.p2, C.p3, C.p4, C.p5, C.p6, C.p7, C.p8, C.p9, C.e0, C.e1, C.e2, C.e4, C.e5, C.l2, C.l3, C.l4, C.l5, C.pr.r7, C.pr.r8, C.pr.r9, C.pr.r10, C.pr.r11, C.pr.r12, C.pr.r13, C.pr.r14, C.pr.r15, C.pr.v0, C.pr.v1, C.pr.v2, C.pr.v3, C.pr.v4, C.pr.v5, C.pr.v6, C.pr.we, C.pr.wi, C.pr.pe, C.pr.fp, C.pr.he, C.pr.ho, C.pr.ra, C.pr.pa, C.tm, C.sc, C.po, C.al, C.ho, C.mo, C.dn, C.se, C.ke, C.ca, C.co, sO16 C.sh, sO27 C.sh, sO34 C.sh, sO40 C.sh, sA28 C.sh, sA29 C.sh, sA30 C.sh, sA31 C.sh, sA32 C.sh, sA33 C.sh, sA35 C.sh, sA36 C.sh, sA37 C.sh, sA38 C.sh, sA39 C.sh, sA41 C.sh, sA42 C.sh, sA43 C.sh, sA44 C.sh, pO C.sh C.pr.hp, pA1 C.sh C.pr.hp, pA2 C.sh C.pr.hp, pA3 C.sh C.pr.hp, pA4 C.sh C.pr.hp, pA5 C.sh C.pr.hp, pA6 C.sh C.pr.hp, pA7 C.sh C.pr.hp, pA8 C.sh C.pr.hp, pA9 C.sh C.pr.hp, pN C.pr.hp, pN0 C.pr.hp, iR_t, Int.reduceAdd, n02, n12, n10, G.x0, G.x1, G.x2, G.x3, G.x4, G.h0, sO0 C.sh, sO1 C.sh, sO45 C.sh, sA278 C.sh, ↓e_g et, ky, kc1]
    generalize wr σc 45 1 (σ 45 1 - 1) = σ2 at eu kc1 co2 M2 k265 ky kz kw S27
    have MT : MP P (wr (wr σ2 265 0 0) 265 18 (σ 45 1 - 1)) t := M2.to2 (fun j _ _ => by rw [wr_i (by omega), wr_i (by omega)]) (by rw [wr_o (by omega), wr_o (by omega)])
    have em := m_copy (P := P) (σ := wr (wr σ2 265 0 0) 265 18 (σ 45 1 - 1)) (k := σ 45 1 - 1) (m := 0) (a0 := 272) (a1 := 273) (a3 := 270) (a4 := 271) (fun i i0 i1 => sA272 M.sh (by omega) (by omega)) (fun i i0 i1 => sA270 M.sh (by omega) (by omega)) (fun i i0 i1 => sA273 M.sh (by omega) (by omega)) (fun i i0 i1 => sA271 M.sh (by omega) (by omega)) (Or.inl (by decide)) (Or.inl (by decide)) (by decide)
    have q18 : (cps (cps (wr (wr σ2 265 0 0) 265 18 (σ 45 1 - 1)) 272 (410 * (σ 45 1 - 1)) 270 (410 * 0) 410) 273 (12 * (σ 45 1 - 1)) 271 (12 * 0) 12) 265 18 = σ 45 1 - 1 := by rw [cps_n (by omega), cps_n (by omega)]; exact wr_s
    have q18z := q18
    rw [show (410 : Int) * 0 = 0 from rfl, show (12 : Int) * 0 = 0 from rfl] at q18z
    refine ⟨σ 45 1 - 1, σ2, cps (cps (wr (wr σ2 265 0 0) 265 18 (σ 45 1 - 1)) 272 (410 * (σ 45 1 - 1)) 270 (410 * 0) 410) 273 (12 * (σ 45 1 - 1)) 271 (12 * 0) 12, eu, ?_, iR_t (by omega) (by omega), ?_⟩
    · have M := M2
      simp (disch := first | omega | assumption | (simp (disch := omega) only [wr_i, wr_s, k265, M2.q14, M2.q15, M2.q16, M2.q17]; done) | fail) only [fX8_undo, ↓z_lt, ↓z_ge, ↓z_gt, ↓z_le, ↓z_eq, ↓z_ne, ↓z_mx, ↓z_mn, ↓z_dv, ↓z_rm, ↓z_i2l, ↓z_lc, ↓z_sw, ↓z_sf, ↓z_sn, ↓z_bd, ↓z_nt, z_b0, z_b1, z_bi, z_bj, ↓z_gF, ↓z_gR, ↓z_pF, ↓z_pZ, ↓z_pR, ↓z_aI, ↓z_aR, ↓z_sI, ↓z_sZ, ↓z_on, z_cl, ↓reduceIte, Int.reduceEq, Int.reduceNeg, Int.reduceLT, Int.reduceLE, Int.reduceAdd, Int.reduceSub, Int.reduceMul, true_and, and_true, or_true, true_or, eq_self, st2_f, st2_g, st2_o, M.q1, M.q10, M.q11, M.q12, M.q14, M.q15, M.q16, M.q17, M.q19, M.q20, M.q21, M.q22, M.tl, sO265 M.sh, sA266 M.sh, sA267 M.sh, sA268 M.sh, sA269 M.sh, sA270 M.sh, sA271 M.sh, sA272 M.sh, sA273 M.sh, sA274 M.sh, sA275 M.sh, sA276 M.sh, sA277 M.sh, iR_t, wr_i, wr_s, k265, c, ↓e_g em, q18z]
    · have f5 : (cps (cps (wr (wr σ2 265 0 0) 265 18 (σ 45 1 - 1)) 272 (410 * (σ 45 1 - 1)) 270 (410 * 0) 410) 273 (12 * (σ 45 1 - 1)) 271 (12 * 0) 12) 270 = mxF (σ 272) (σ 45 1 - 1) (σ 270) := by
        rw [cps_o (by omega)]
        refine (mx_cps (s := wr (wr σ2 265 0 0) 265 18 (σ 45 1 - 1)) (a0 := 272) (by omega)).trans ?_
        rw [wr_o (by omega), wr_o (by omega), wr_o (by omega), wr_o (by omega), co2 272 (by omega) (by omega), co2 270 (by omega) (by omega)]
      have g5 : (cps (cps (wr (wr σ2 265 0 0) 265 18 (σ 45 1 - 1)) 272 (410 * (σ 45 1 - 1)) 270 (410 * 0) 410) 273 (12 * (σ 45 1 - 1)) 271 (12 * 0) 12) 271 = mxG (σ 273) (σ 45 1 - 1) (σ 271) := by
        refine (mx_cpg (s := cps (wr (wr σ2 265 0 0) 265 18 (σ 45 1 - 1)) 272 (410 * (σ 45 1 - 1)) 270 (410 * 0) 410) (a0 := 273) (by omega)).trans ?_
        rw [cps_o (by omega), cps_o (by omega), wr_o (by omega), wr_o (by omega), wr_o (by omega), wr_o (by omega), co2 273 (by omega) (by omega), co2 271 (by omega) (by omega)]
      have eo : ∀ o, o ≠ 265 → o ≠ 270 → o ≠ 271 → (cps (cps (wr (wr σ2 265 0 0) 265 18 (σ 45 1 - 1)) 272 (410 * (σ 45 1 - 1)) 270 (410 * 0) 410) 273 (12 * (σ 45 1 - 1)) 271 (12 * 0) 12) o = σ2 o := fun o h1 h2 h3 => by
        rw [cps_o h3, cps_o h2, wr_o h1, wr_o h1]
      have ej : ∀ j, j ≠ 0 → j ≠ 18 → (cps (cps (wr (wr σ2 265 0 0) 265 18 (σ 45 1 - 1)) 272 (410 * (σ 45 1 - 1)) 270 (410 * 0) 410) 273 (12 * (σ 45 1 - 1)) 271 (12 * 0) 12) 265 j = σ 265 j := fun j h1 h2 => by
        rw [cps_n (by omega), cps_n (by omega), wr_i h2, wr_i h1, co2 265 (by omega) (by omega)]
      generalize cps (cps (wr (wr σ2 265 0 0) 265 18 (σ 45 1 - 1)) 272 (410 * (σ 45 1 - 1)) 270 (410 * 0) 410) 273 (12 * (σ 45 1 - 1)) 271 (12 * 0) 12 = σ5 at q18 f5 g5 eo ej
      have e45 : σ5 45 = σ2 45 := eo 45 (by omega) (by omega) (by omega)
      refine G.back hr (fun o h1 h2 h3 h4 h5 _ _ => (eo o h3 h4 h5).trans (co2 o h1 h2)) ?_ ?_ ?_ (fun j j0 _ j2 => ej j (by omega) j2) ?_ (S27.fr fun o _ _ => eo o (by omega) (by omega) (by omega)) f5 g5 ?_
      · rw [e45]; exact kw
      · rw [e45, kc1]; omega
      · rw [e45, kz]; exact hN
      · rw [e45, kc1]; exact q18
      · intro j j0 j1
        rw [e45, kc1] at j1
        rw [e45, kc1, kz, ← hNe, show ((σ 45 2 - 1) % 10 - 1 - j) % 10 = (σ 45 2 - 1 - (j + 1)) % 10 by omega, show σ 45 1 - 1 - 1 - j = σ 45 1 - 1 - (j + 1) by omega]
        exact G.hr (j + 1) (by omega) (by omega)
theorem rd_restore (G : GR P σ p t B) (ha : iR a = true) : ∃ v σ2 σ5, fX7_restoreSnapshot P σ 0 a = some (v, σ2) ∧ fX8_restoreSnapshot P σ2 265 a = some (v, σ5) ∧ iR v = true ∧ GR P σ5 p t B := by
  have C := G.cr; have T := G.tv; have F := G.fv; have V := G.cv; have M := G.mp; have n0 := T.n0; have n1 := T.n1; have n2 := T.n2; have b0 := F.b0
  have w0 : iR 0 = true := rfl
  have w1 : iR 1 = true := rfl
  have nochg : ∀ (hL : fX7_restoreSnapshot P σ 0 a = some (0, σ)) (hM : fX8_restoreSnapshot P σ 265 a = some (0, wr σ 265 0 0)), ∃ v σ2 σ5, fX7_restoreSnapshot P σ 0 a = some (v, σ2) ∧ fX8_restoreSnapshot P σ2 265 a = some (v, σ5) ∧ iR v = true ∧ GR P σ5 p t B := fun hL hM =>
    ⟨0, σ, wr σ 265 0 0, hL, hM, rfl, G.to (fun o h1 h2 h3 => wr_o h1) (fun j j0 _ => wr_i (by omega))⟩
  by_cases c1 : 0 ≤ a ∧ a ≤ 1
  · have r0 : ¬ (a < 0) := by omega
    have r2 : ¬ (2 ≤ a) := by omega
    have st := G.st a c1.1 (by omega)
    by_cases c : σ 228 a = 1
    · have ks := st.2.2 c
      have ss := G.ss a c1.1 (by omega)
      have hb := isB_s (i := a) c1.1 (by omega)
      have hne : 229 + 18 * a ≠ (27 : Int) := by omega
      have mx := ks.mx T F
      have ec := c_copyFrom C.sh hb isB_27 hne mx.1.sp C.s.sp
      have SR2 := cpB_SR hb isB_27 hne T mx.2.1 mx.2.2 mx.1 C.s.sp
      have co : ∀ o, (o < 27 ∨ 44 < o) → cpB σ (229 + 18 * a) 27 o = σ o := fun o ho => cpB_o (by omega)
      have nm1 : ¬ (229 + 18 * a = -1) := by omega
      have r1 : ¬ ((1 : Int) = 0) := by omega
      have kx : cpB σ (229 + 18 * a) 27 0 2 = 45 := by rw [co 0 (by omega)]; exact G.x2
      have sav : σ 276 a = 1 := st.2.1.trans c
      generalize hcp : cpB σ (229 + 18 * a) 27 = σc at ec SR2 co kx
      have eu : fX7_restoreSnapshot P σ 0 a = some (1, wr σc 45 1 0) := by
        simp (disch := first | omega | assumption | (simp (disch := omega) only [G.x1, G.x2, G.x3, C.h1, ss.1]; done) | fail) only [fX7_restoreSnapshot, fX1_clear, ↓z_lt, ↓z_ge, ↓z_gt, ↓z_le, ↓z_eq, ↓z_ne, ↓z_mx, ↓z_mn, ↓z_dv, ↓z_rm, ↓z_i2l, ↓z_lc, ↓z_sw, ↓z_sf, ↓z_sn, ↓z_bd, ↓z_nt, z_b0, z_b1, z_bi, z_bj, ↓z_gF, ↓z_gR, ↓z_pF, ↓z_pZ, ↓z_pR, ↓z_aI, ↓z_aR, ↓z_sI, ↓z_sZ, ↓z_on, z_cl, ↓reduceIte, Int.reduceEq, Int.reduceNeg, Int.reduceLT, Int.reduceLE, Int.reduceAdd, Int.reduceSub, Int.reduceMul, true_and, and_true, or_true, true_or, eq_self, C.h0, C.h1, C.p2, C.p3, C.p4, C.p5, C.p6, C.p7, C.p8, C.p9, C.e0, C.e1, C.e2, C.e4, C.e5, C.l2, C.l3, C.l4, C.l5, C.pr.r7, C.pr.r8, C.pr.r9, C.pr.r10, C.pr.r11, C.pr.r12, C.pr.r13, C.pr.r14, C.pr.r15, C.pr.v0, C.pr.v1, C.pr.v2, C.pr.v3, C.pr.v4, C.pr.v5, C.pr.v6, C.pr.we, C.pr.wi, C.pr.pe, C.pr.fp, C.pr.he, C.pr.ho, C.pr.ra, C.pr.pa, C.tm, C.sc, C.po, C.al, C.ho, C.mo, C.dn, C.se, C.ke, C.ca, C.co, sO16 C.sh, sO27 C.sh, sO34 C.sh, sO40 C.sh, sA28 C.sh, sA29 C.sh, sA30 C.sh, sA31 C.sh, sA32 C.sh, sA33 C.sh, sA35 C.sh, sA36 C.sh, sA37 C.sh, sA38 C.sh, sA39 C.sh, sA41 C.sh, sA42 C.sh, sA43 C.sh, sA44 C.sh, pO C.sh C.pr.hp, pA1 C.sh C.pr.hp, pA2 C.sh C.pr.hp, pA3 C.sh C.pr.hp, pA4 C.sh C.pr.hp, pA5 C.sh C.pr.hp, pA6 C.sh C.pr.hp, pA7 C.sh C.pr.hp, pA8 C.sh C.pr.hp, pA9 C.sh C.pr.hp, pN C.pr.hp, pN0 C.pr.hp, iR_t, Int.reduceAdd, n02, n12, n10, G.x0, G.x1, G.x2, G.x3, G.x4, G.h0, sO0 C.sh, sO1 C.sh, sO45 C.sh, sA278 C.sh, ha, r0, r2, sA228 C.sh, sA227 C.sh, c, r1, ss.1, nm1, hb.O0 C.sh, ↓e_g ec, kx]
      have co2 : ∀ o, o ≠ 45 → (o < 27 ∨ 44 < o) → (wr σc 45 1 0) o = σ o := fun o h1 h2 => by rw [wr_o h1, co o h2]
      have kz : ∀ j, j ≠ 1 → (wr σc 45 1 0) 45 j = σ 45 j := fun j hj => by rw [wr_i hj, co 45 (by omega)]
      have k1 : (wr σc 45 1 0) 45 1 = 0 := wr_s
      have S27 : SR (wr σc 45 1 0) 27 t (mxF (σ 274) a (σ 270)) (mxG (σ 275) a (σ 271)) := SR2.fr fun o _ _ => wr_o (by omega)
      generalize wr σc 45 1 0 = σ2 at eu co2 kz k1 S27
      have M2 : MP P σ2 t := M.to2 (fun j _ _ => by rw [co2 265 (by omega) (by omega)]) (co2 268 (by omega) (by omega))
      have MT : MP P (wr σ2 265 0 0) t := M2.w0
      have em := m_copy (P := P) (σ := wr σ2 265 0 0) (k := a) (m := 0) (a0 := 274) (a1 := 275) (a3 := 270) (a4 := 271) (fun i i0 i1 => sA274 M.sh (by omega) (by omega)) (fun i i0 i1 => sA270 M.sh (by omega) (by omega)) (fun i i0 i1 => sA275 M.sh (by omega) (by omega)) (fun i i0 i1 => sA271 M.sh (by omega) (by omega)) (Or.inl (by decide)) (Or.inl (by decide)) (by decide)
      have s276 : σ2 276 a = 1 := by rw [co2 276 (by omega) (by omega)]; exact sav
      refine ⟨1, σ2, wr (cps (cps (wr σ2 265 0 0) 274 (410 * a) 270 (410 * 0) 410) 275 (12 * a) 271 (12 * 0) 12) 265 18 0, eu, ?_, rfl, ?_⟩
      · have M := M2
        simp (disch := first | omega | assumption | (simp (disch := omega) only [wr_i, wr_s, M2.q14, M2.q15, M2.q19, M2.q20]; done) | fail) only [fX8_restoreSnapshot, ↓m_within', ↓z_lt, ↓z_ge, ↓z_gt, ↓z_le, ↓z_eq, ↓z_ne, ↓z_mx, ↓z_mn, ↓z_dv, ↓z_rm, ↓z_i2l, ↓z_lc, ↓z_sw, ↓z_sf, ↓z_sn, ↓z_bd, ↓z_nt, z_b0, z_b1, z_bi, z_bj, ↓z_gF, ↓z_gR, ↓z_pF, ↓z_pZ, ↓z_pR, ↓z_aI, ↓z_aR, ↓z_sI, ↓z_sZ, ↓z_on, z_cl, ↓reduceIte, Int.reduceEq, Int.reduceNeg, Int.reduceLT, Int.reduceLE, Int.reduceAdd, Int.reduceSub, Int.reduceMul, true_and, and_true, or_true, true_or, eq_self, st2_f, st2_g, st2_o, M.q1, M.q10, M.q11, M.q12, M.q14, M.q15, M.q16, M.q17, M.q19, M.q20, M.q21, M.q22, M.tl, sO265 M.sh, sA266 M.sh, sA267 M.sh, sA268 M.sh, sA269 M.sh, sA270 M.sh, sA271 M.sh, sA272 M.sh, sA273 M.sh, sA274 M.sh, sA275 M.sh, sA276 M.sh, sA277 M.sh, iR_t, wr_i, wr_s, wr_n, c1, and_self, if_true, s276, ↓e_g em]
      · have f5 : (wr (cps (cps (wr σ2 265 0 0) 274 (410 * a) 270 (410 * 0) 410) 275 (12 * a) 271 (12 * 0) 12) 265 18 0) 270 = mxF (σ 274) a (σ 270) := by
          rw [wr_o (by omega), cps_o (by omega)]
          refine (mx_cps (s := wr σ2 265 0 0) (a0 := 274) (by omega)).trans ?_
          rw [wr_o (by omega), wr_o (by omega), co2 274 (by omega) (by omega), co2 270 (by omega) (by omega)]
        have g5 : (wr (cps (cps (wr σ2 265 0 0) 274 (410 * a) 270 (410 * 0) 410) 275 (12 * a) 271 (12 * 0) 12) 265 18 0) 271 = mxG (σ 275) a (σ 271) := by
          rw [wr_o (by omega)]
          refine (mx_cpg (s := cps (wr σ2 265 0 0) 274 (410 * a) 270 (410 * 0) 410) (a0 := 275) (by omega)).trans ?_
          rw [cps_o (by omega), cps_o (by omega), wr_o (by omega), wr_o (by omega), co2 275 (by omega) (by omega), co2 271 (by omega) (by omega)]
        have eo : ∀ o, o ≠ 265 → o ≠ 270 → o ≠ 271 → (wr (cps (cps (wr σ2 265 0 0) 274 (410 * a) 270 (410 * 0) 410) 275 (12 * a) 271 (12 * 0) 12) 265 18 0) o = σ2 o := fun o h1 h2 h3 => by
          rw [wr_o h1, cps_o h3, cps_o h2, wr_o h1]
        have ej : ∀ j, j ≠ 0 → j ≠ 18 → (wr (cps (cps (wr σ2 265 0 0) 274 (410 * a) 270 (410 * 0) 410) 275 (12 * a) 271 (12 * 0) 12) 265 18 0) 265 j = σ 265 j := fun j h1 h2 => by
          rw [wr_i h2, cps_n (by omega), cps_n (by omega), wr_i h1, co2 265 (by omega) (by omega)]
        have q18 : (wr (cps (cps (wr σ2 265 0 0) 274 (410 * a) 270 (410 * 0) 410) 275 (12 * a) 271 (12 * 0) 12) 265 18 0) 265 18 = 0 := wr_s
        generalize wr (cps (cps (wr σ2 265 0 0) 274 (410 * a) 270 (410 * 0) 410) 275 (12 * a) 271 (12 * 0) 12) 265 18 0 = σ5 at q18 f5 g5 eo ej
        have hn := G.hn
        have e45 : σ5 45 = σ2 45 := eo 45 (by omega) (by omega) (by omega)
        refine G.back ks (fun o h1 h2 h3 h4 h5 _ _ => (eo o h3 h4 h5).trans (co2 o h1 h2)) ?_ ?_ ?_ (fun j j0 _ j2 => ej j (by omega) j2) ?_ (S27.fr fun o _ _ => eo o (by omega) (by omega) (by omega)) f5 g5 ?_
        · rw [e45, kz 0 (by omega)]; exact G.h0
        · rw [e45, k1]; omega
        · rw [e45, kz 2 (by omega)]; exact hn
        · rw [e45, k1]; exact q18
        · intro j j0 j1
          rw [e45, k1] at j1
          omega
    · have c0 : σ 228 a = 0 := by omega
      have sav : σ 276 a = 0 := st.2.1.trans c0
      refine nochg ?_ ?_
      · simp (disch := first | omega | assumption | (simp (disch := omega) only [G.x1, G.x2, C.h1, C.p8, C.p9, C.e0, C.tm, st2_wo, C.h0]; done) | fail) only [fX7_restoreSnapshot, ↓z_lt, ↓z_ge, ↓z_gt, ↓z_le, ↓z_eq, ↓z_ne, ↓z_mx, ↓z_mn, ↓z_dv, ↓z_rm, ↓z_i2l, ↓z_lc, ↓z_sw, ↓z_sf, ↓z_sn, ↓z_bd, ↓z_nt, z_b0, z_b1, z_bi, z_bj, ↓z_gF, ↓z_gR, ↓z_pF, ↓z_pZ, ↓z_pR, ↓z_aI, ↓z_aR, ↓z_sI, ↓z_sZ, ↓z_on, z_cl, ↓reduceIte, Int.reduceEq, Int.reduceNeg, Int.reduceLT, Int.reduceLE, Int.reduceAdd, Int.reduceSub, Int.reduceMul, true_and, and_true, or_true, true_or, eq_self, C.h0, C.h1, C.p2, C.p3, C.p4, C.p5, C.p6, C.p7, C.p8, C.p9, C.e0, C.e1, C.e2, C.e4, C.e5, C.l2, C.l3, C.l4, C.l5, C.pr.r7, C.pr.r8, C.pr.r9, C.pr.r10, C.pr.r11, C.pr.r12, C.pr.r13, C.pr.r14, C.pr.r15, C.pr.v0, C.pr.v1, C.pr.v2, C.pr.v3, C.pr.v4, C.pr.v5, C.pr.v6, C.pr.we, C.pr.wi, C.pr.pe, C.pr.fp, C.pr.he, C.pr.ho, C.pr.ra, C.pr.pa, C.tm, C.sc, C.po, C.al, C.ho, C.mo, C.dn, C.se, C.ke, C.ca, C.co, sO16 C.sh, sO27 C.sh, sO34 C.sh, sO40 C.sh, sA28 C.sh, sA29 C.sh, sA30 C.sh, sA31 C.sh, sA32 C.sh, sA33 C.sh, sA35 C.sh, sA36 C.sh, sA37 C.sh, sA38 C.sh, sA39 C.sh, sA41 C.sh, sA42 C.sh, sA43 C.sh, sA44 C.sh, pO C.sh C.pr.hp, pA1 C.sh C.pr.hp, pA2 C.sh C.pr.hp, pA3 C.sh C.pr.hp, pA4 C.sh C.pr.hp, pA5 C.sh C.pr.hp, pA6 C.sh C.pr.hp, pA7 C.sh C.pr.hp, pA8 C.sh C.pr.hp, pA9 C.sh C.pr.hp, pN C.pr.hp, pN0 C.pr.hp, iR_t, Int.reduceAdd, n02, n12, n10, G.x0, G.x1, G.x2, G.x3, G.x4, G.h0, sO0 C.sh, sO1 C.sh, sO45 C.sh, sA278 C.sh, ha, r0, r2, sA228 C.sh, c0]
      · simp (disch := first | omega | assumption | (simp (disch := omega) only [G.x1, G.x2, C.h1, C.p8, C.p9, C.e0, C.tm, st2_wo, C.h0]; done) | fail) only [fX8_restoreSnapshot, ↓m_within', ↓z_lt, ↓z_ge, ↓z_gt, ↓z_le, ↓z_eq, ↓z_ne, ↓z_mx, ↓z_mn, ↓z_dv, ↓z_rm, ↓z_i2l, ↓z_lc, ↓z_sw, ↓z_sf, ↓z_sn, ↓z_bd, ↓z_nt, z_b0, z_b1, z_bi, z_bj, ↓z_gF, ↓z_gR, ↓z_pF, ↓z_pZ, ↓z_pR, ↓z_aI, ↓z_aR, ↓z_sI, ↓z_sZ, ↓z_on, z_cl, ↓reduceIte, Int.reduceEq, Int.reduceNeg, Int.reduceLT, Int.reduceLE, Int.reduceAdd, Int.reduceSub, Int.reduceMul, true_and, and_true, or_true, true_or, eq_self, st2_f, st2_g, st2_o, M.q1, M.q10, M.q11, M.q12, M.q14, M.q15, M.q16, M.q17, M.q19, M.q20, M.q21, M.q22, M.tl, sO265 M.sh, sA266 M.sh, sA267 M.sh, sA268 M.sh, sA269 M.sh, sA270 M.sh, sA271 M.sh, sA272 M.sh, sA273 M.sh, sA274 M.sh, sA275 M.sh, sA276 M.sh, sA277 M.sh, iR_t, wr_i, wr_n, c1, and_self, if_true, sav]
  · refine nochg ?_ ?_
    · by_cases r0 : a < 0
      · simp (disch := first | omega | assumption | (simp (disch := omega) only [G.x1, G.x2, C.h1, C.p8, C.p9, C.e0, C.tm, st2_wo, C.h0]; done) | fail) only [fX7_restoreSnapshot, ↓z_lt, ↓z_ge, ↓z_gt, ↓z_le, ↓z_eq, ↓z_ne, ↓z_mx, ↓z_mn, ↓z_dv, ↓z_rm, ↓z_i2l, ↓z_lc, ↓z_sw, ↓z_sf, ↓z_sn, ↓z_bd, ↓z_nt, z_b0, z_b1, z_bi, z_bj, ↓z_gF, ↓z_gR, ↓z_pF, ↓z_pZ, ↓z_pR, ↓z_aI, ↓z_aR, ↓z_sI, ↓z_sZ, ↓z_on, z_cl, ↓reduceIte, Int.reduceEq, Int.reduceNeg, Int.reduceLT, Int.reduceLE, Int.reduceAdd, Int.reduceSub, Int.reduceMul, true_and, and_true, or_true, true_or, eq_self, C.h0, C.h1, C.p2, C.p3, C.p4, C.p5, C.p6, C.p7, C.p8, C.p9, C.e0, C.e1, C.e2, C.e4, C.e5, C.l2, C.l3, C.l4, C.l5, C.pr.r7, C.pr.r8, C.pr.r9, C.pr.r10, C.pr.r11, C.pr.r12, C.pr.r13, C.pr.r14, C.pr.r15, C.pr.v0, C.pr.v1, C.pr.v2, C.pr.v3, C.pr.v4, C.pr.v5, C.pr.v6, C.pr.we, C.pr.wi, C.pr.pe, C.pr.fp, C.pr.he, C.pr.ho, C.pr.ra, C.pr.pa, C.tm, C.sc, C.po, C.al, C.ho, C.mo, C.dn, C.se, C.ke, C.ca, C.co, sO16 C.sh, sO27 C.sh, sO34 C.sh, sO40 C.sh, sA28 C.sh, sA29 C.sh, sA30 C.sh, sA31 C.sh, sA32 C.sh, sA33 C.sh, sA35 C.sh, sA36 C.sh, sA37 C.sh, sA38 C.sh, sA39 C.sh, sA41 C.sh, sA42 C.sh, sA43 C.sh, sA44 C.sh, pO C.sh C.pr.hp, pA1 C.sh C.pr.hp, pA2 C.sh C.pr.hp, pA3 C.sh C.pr.hp, pA4 C.sh C.pr.hp, pA5 C.sh C.pr.hp, pA6 C.sh C.pr.hp, pA7 C.sh C.pr.hp, pA8 C.sh C.pr.hp, pA9 C.sh C.pr.hp, pN C.pr.hp, pN0 C.pr.hp, iR_t, Int.reduceAdd, n02, n12, n10, G.x0, G.x1, G.x2, G.x3, G.x4, G.h0, sO0 C.sh, sO1 C.sh, sO45 C.sh, sA278 C.sh, ha, r0]
      · have r2 : 2 ≤ a := by omega
        simp (disch := first | omega | assumption | (simp (disch := omega) only [G.x1, G.x2, C.h1, C.p8, C.p9, C.e0, C.tm, st2_wo, C.h0]; done) | fail) only [fX7_restoreSnapshot, ↓z_lt, ↓z_ge, ↓z_gt, ↓z_le, ↓z_eq, ↓z_ne, ↓z_mx, ↓z_mn, ↓z_dv, ↓z_rm, ↓z_i2l, ↓z_lc, ↓z_sw, ↓z_sf, ↓z_sn, ↓z_bd, ↓z_nt, z_b0, z_b1, z_bi, z_bj, ↓z_gF, ↓z_gR, ↓z_pF, ↓z_pZ, ↓z_pR, ↓z_aI, ↓z_aR, ↓z_sI, ↓z_sZ, ↓z_on, z_cl, ↓reduceIte, Int.reduceEq, Int.reduceNeg, Int.reduceLT, Int.reduceLE, Int.reduceAdd, Int.reduceSub, Int.reduceMul, true_and, and_true, or_true, true_or, eq_self, C.h0, C.h1, C.p2, C.p3, C.p4, C.p5, C.p6, C.p7, C.p8, C.p9, C.e0, C.e1, C.e2, C.e4, C.e5, C.l2, C.l3, C.l4, C.l5, C.pr.r7, C.pr.r8, C.pr.r9, C.pr.r10, C.pr.r11, C.pr.r12, C.pr.r13, C.pr.r14, C.pr.r15, C.pr.v0, C.pr.v1, C.pr.v2, C.pr.v3, C.pr.v4, C.pr.v5, C.pr.v6, C.pr.we, C.pr.wi, C.pr.pe, C.pr.fp, C.pr.he, C.pr.ho, C.pr.ra, C.pr.pa, C.tm, C.sc, C.po, C.al, C.ho, C.mo, C.dn, C.se, C.ke, C.ca, C.co, sO16 C.sh, sO27 C.sh, sO34 C.sh, sO40 C.sh, sA28 C.sh, sA29 C.sh, sA30 C.sh, sA31 C.sh, sA32 C.sh, sA33 C.sh, sA35 C.sh, sA36 C.sh, sA37 C.sh, sA38 C.sh, sA39 C.sh, sA41 C.sh, sA42 C.sh, sA43 C.sh, sA44 C.sh, pO C.sh C.pr.hp, pA1 C.sh C.pr.hp, pA2 C.sh C.pr.hp, pA3 C.sh C.pr.hp, pA4 C.sh C.pr.hp, pA5 C.sh C.pr.hp, pA6 C.sh C.pr.hp, pA7 C.sh C.pr.hp, pA8 C.sh C.pr.hp, pA9 C.sh C.pr.hp, pN C.pr.hp, pN0 C.pr.hp, iR_t, Int.reduceAdd, n02, n12, n10, G.x0, G.x1, G.x2, G.x3, G.x4, G.h0, sO0 C.sh, sO1 C.sh, sO45 C.sh, sA278 C.sh, ha, r0, r2]
    · simp (disch := first | omega | assumption | (simp (disch := omega) only [G.x1, G.x2, C.h1, C.p8, C.p9, C.e0, C.tm, st2_wo, C.h0]; done) | fail) only [fX8_restoreSnapshot, ↓m_within', ↓z_lt, ↓z_ge, ↓z_gt, ↓z_le, ↓z_eq, ↓z_ne, ↓z_mx, ↓z_mn, ↓z_dv, ↓z_rm, ↓z_i2l, ↓z_lc, ↓z_sw, ↓z_sf, ↓z_sn, ↓z_bd, ↓z_nt, z_b0, z_b1, z_bi, z_bj, ↓z_gF, ↓z_gR, ↓z_pF, ↓z_pZ, ↓z_pR, ↓z_aI, ↓z_aR, ↓z_sI, ↓z_sZ, ↓z_on, z_cl, ↓reduceIte, Int.reduceEq, Int.reduceNeg, Int.reduceLT, Int.reduceLE, Int.reduceAdd, Int.reduceSub, Int.reduceMul, true_and, and_true, or_true, true_or, eq_self, st2_f, st2_g, st2_o, M.q1, M.q10, M.q11, M.q12, M.q14, M.q15, M.q16, M.q17, M.q19, M.q20, M.q21, M.q22, M.tl, sO265 M.sh, sA266 M.sh, sA267 M.sh, sA268 M.sh, sA269 M.sh, sA270 M.sh, sA271 M.sh, sA272 M.sh, sA273 M.sh, sA274 M.sh, sA275 M.sh, sA276 M.sh, sA277 M.sh, iR_t, wr_i, wr_n, c1, if_false]
end ZZA
