/-! THE PUBLIC METHODS that change. -/
section ZZ6
variable {P : Shp} {σ σ' σ1 σ2 σ3 σ4 σ5 s : St} {t f f' f2 g g' : Int → Int} {B B' : Int} {a b b' d k p q kind who m h j c x y z i v w part N K D : Int} {n : Nat}
/-- a call is the same on both sides, and the relation holds behind it -/
def ChOk (P : Shp) (p : Int) (t : Int → Int) (B : Int) (σ : St) (FL : Option (Int × St)) (FM : St → Option (Int × St)) : Prop :=
  ∃ e v s3 v' s8, FL = some (e, s3) ∧ FM s3 = some (v', s8) ∧ s8 265 0 = e ∧ 0 ≤ e ∧ e ≤ 3 ∧ (e = 0 → s8 278 0 = v ∧ v' = v ∧ iR v = true) ∧ GR P s8 p t B
theorem GR.mono (G : GR P σ p t B) (h : B ≤ B') (h2 : B' ≤ 2000000000) : GR P σ p t B' := by
  obtain ⟨cr, mp, tv, fv, cv, x0, x1, x2, x3, x4, r0, r9, r11, r12, r13, rq, h0, hn, hk, hd, hs, hr, ss, st, bf, bb⟩ := G
  exact ⟨cr, mp, tv, fv.mono h h2, cv, x0, x1, x2, x3, x4, r0, r9, r11, r12, r13, rq, h0, hn, hk, hd, hs, fun j j0 j1 => (hr j j0 j1).mono h h2, ss, fun i i0 i1 => ⟨(st i i0 i1).1, (st i i0 i1).2.1, fun z => ((st i i0 i1).2.2 z).mono h h2⟩, bf, bb⟩
theorem RdOk.ch {FL : Option (Int × St)} {FM : St → Option (Int × St)} (R : RdOk σ FL FM) (G : GR P σ p t B) (h : B ≤ B') (h2 : B' ≤ 2000000000) : ChOk P p t B' σ FL FM := by
  obtain ⟨e, v, s3, v', s8, h1, h2', h3, h4, h5, h6, h7, h8⟩ := R
  exact ⟨e, v, s3, v', s8, h1, h2', h3, h4, h5, h6, (G.to h7 fun j j0 _ => h8 j j0).mono h h2⟩
theorem chg_m (G : GR P σ p t B) (kc : KC σ σ2 t (σ 270) (σ 271)) (v : Int) : ∃ σ4, fX8_keep P (st2 (wr (wr σ2 278 0 v) 265 0 0) (σ 270) (σ 271)) 265 = some (st2 σ4 (σ 270) (σ 271)) ∧ KM (wr (wr σ2 278 0 v) 265 0 0) σ4 (σ 270) (σ 271) ∧ MP P σ4 t ∧ MP P (wr σ2 278 0 v) t ∧ wr σ2 278 0 v = st2 (wr σ2 278 0 v) (σ 270) (σ 271) ∧ σ4 265 0 = 0 ∧ σ4 278 0 = v := by
  have hn := G.hn
  have hk := G.hk
  have hd := G.hd
  have e270 : σ2 270 = σ 270 := kc.o 270 (by omega) (by omega) (by omega)
  have e271 : σ2 271 = σ 271 := kc.o 271 (by omega) (by omega) (by omega)
  have e265 : σ2 265 = σ 265 := kc.o 265 (by omega) (by omega) (by omega)
  have e268 : σ2 268 = σ 268 := kc.o 268 (by omega) (by omega) (by omega)
  have M2 : MP P σ2 t := G.mp.to2 (fun j _ _ => by rw [e265]) e268
  have M8 : MP P (wr σ2 278 0 v) t := M2.w8
  have MT : MP P (wr (wr σ2 278 0 v) 265 0 0) t := M2.w8.w0
  have w18 : (wr (wr σ2 278 0 v) 265 0 0) 265 18 = σ 45 1 := by rw [wr_i (by omega), wr_n (by omega), e265]; exact hd
  obtain ⟨σ4, e4, km⟩ := m_keep MT (by omega) (by omega)
  have q0 : (wr (wr σ2 278 0 v) 265 0 0) 270 = σ 270 := by rw [wr_o (by omega), wr_o (by omega)]; exact e270
  have q1 : (wr (wr σ2 278 0 v) 265 0 0) 271 = σ 271 := by rw [wr_o (by omega), wr_o (by omega)]; exact e271
  rw [q0, q1] at km
  have id1 : st2 (wr (wr σ2 278 0 v) 265 0 0) (σ 270) (σ 271) = wr (wr σ2 278 0 v) 265 0 0 := by
    have := st2_id (σ := wr (wr σ2 278 0 v) 265 0 0); rw [q0, q1] at this; exact this
  have id2 : st2 σ4 (σ 270) (σ 271) = σ4 := by
    have := st2_id (σ := σ4); rw [km.o 270 (by omega) (by omega) (by omega), km.o 271 (by omega) (by omega) (by omega), q0, q1] at this; exact this
  have id3 : wr σ2 278 0 v = st2 (wr σ2 278 0 v) (σ 270) (σ 271) := by
    have := st2_w (σ := σ2) (a := 278) (i := 0) (v := v) (by omega) (by omega); rw [e270, e271] at this; exact this
  refine ⟨σ4, by rw [id1, id2]; exact e4, km, ?_, M8, id3, ?_, ?_⟩
  · exact MT.to2 (fun j _ _ => km.a j (by omega)) (km.o 268 (by omega) (by omega) (by omega))
  · rw [km.a 0 (by omega)]; exact wr_s
  · rw [km.o 278 (by omega) (by omega) (by omega), wr_n (by omega)]; exact wr_s
theorem ChOk.ok {FL : Option (Int × St)} {FM : St → Option (Int × St)} (G : GR P σ p t B) (kc : KC σ σ2 t (σ 270) (σ 271)) (C2 : CR P σ2 p t f' g') (F5 : FV B' t f' g') (V5 : CV f') (hB : B ≤ B') (hv : iR v = true) (hL : FL = some (0, wr σ2 278 0 v))
    (hM : ∀ σ4, fX8_keep P (st2 (wr (wr σ2 278 0 v) 265 0 0) (σ 270) (σ 271)) 265 = some (st2 σ4 (σ 270) (σ 271)) → MP P σ4 t → MP P (wr σ2 278 0 v) t → FM (st2 (wr σ2 278 0 v) (σ 270) (σ 271)) = some (v, st2 σ4 f' g')) : ChOk P p t B' σ FL FM := by
  obtain ⟨σ4, e4, km, M4, M8, id3, z0, z8⟩ := chg_m G kc v
  refine ⟨0, v, _, v, _, hL, (congrArg FM id3).trans (hM σ4 e4 M4 M8), ?_, by omega, by omega, fun _ => ⟨?_, rfl, hv⟩, G.chg kc C2 km F5 V5 hB⟩
  · rw [st2_o (by omega) (by omega)]; exact z0
  · rw [st2_o (by omega) (by omega)]; exact z8
theorem kc_01 (kc : KC σ σ1 t f g) (G : GR P σ p t B) : σ1 0 1 = 16 ∧ σ1 0 2 = 45 := by
  have hn := G.hn
  rw [kc.o 0 (by omega) (by omega) (by omega)]
  exact ⟨G.x1, G.x2⟩
theorem rd_setScore (G : GR P σ p t B) (h12 : 12 ≤ B) (hB : B ≤ 1900000000) (ha : iR a = true) : ChOk P p t (B + 200000) σ (fL_setScore P σ 0 a 278) (fun s => fX8_setScore P s 265 a) := by
  have C := G.cr; have T := G.tv; have F := G.fv; have V := G.cv; have M := G.mp; have n0 := T.n0; have n1 := T.n1; have n2 := T.n2; have b0 := F.b0
  have w1 : iR 1 = true := rfl
  have w999 : iR 999 = true := rfl
  by_cases c1 : 1 ≤ a ∧ a ≤ 999
  · obtain ⟨σ1, e1, kc, C1⟩ := c_remember G
    obtain ⟨y1, y2⟩ := kc_01 kc G
    have C2 := C1.zsc T F V (v := a)
    have kc2 : KC σ (wr σ1 27 1 a) t (σ 270) (σ 271) := kc.fr G.hn fun o ho => by simp (disch := omega) only [wr_o]
    have F2 : FV (B + 200000) t (zu (σ 270) 1 a) (σ 271) := by
      refine ⟨by omega, bl_zu (fun j => by have := F.bl j; omega) (by omega), fun j => by have := F.bg j; omega, ?_, ?_, ?_, ?_, ?_, ?_, ?_, ?_, ?_⟩
      · simp (disch := omega) only [zu_n]; exact F.tq
      · simp (disch := omega) only [zu_n]; exact F.ev
      · intro e e0 e1; have := F.al e e0 e1; simp (disch := omega) only [zu_n]; exact this
      · intro e e0 e1; have := F.un e e0 e1; simp (disch := omega) only [zu_n]; exact this
      · intro e e0 e1; have := F.si e e0 e1; simp (disch := omega) only [zu_n]; exact this
      · intro e e0 e1; have := F.mn e e0 e1; simp (disch := omega) only [zu_n]; exact this
      · intro e e0 e1; have := F.mo e e0 e1; simp (disch := omega) only [zu_n]; exact this
      · intro e e0 e1; have := F.ho e e0 e1; simp (disch := omega) only [zu_n]; exact this
      · intro e e0 e1; have := F.dn e e0 e1; simp (disch := omega) only [zu_n]; exact this
    have r1 : ¬ (a < 1) := by omega
    refine ChOk.ok (v := σ 270 1) G kc2 C2 F2 (V.zu (by omega)) (by omega) (F.vr 1) ?_ ?_
    · simp (disch := first | omega | assumption | (simp (disch := omega) only [G.x1, G.x2, C.h1, C.p8, C.p9, C.e0, C.tm, C.sc, st2_wo, C.h0, y1, C1.h1, y2]; done) | fail) only [fL_setScore, trc, fX7_setScore, ↓z_lt, ↓z_ge, ↓z_gt, ↓z_le, ↓z_eq, ↓z_ne, ↓z_mx, ↓z_mn, ↓z_dv, ↓z_rm, ↓z_i2l, ↓z_lc, ↓z_sw, ↓z_sf, ↓z_sn, ↓z_bd, ↓z_nt, z_b0, z_b1, z_bi, z_bj, ↓z_gF, ↓z_gR, ↓z_pF, ↓z_pZ, ↓z_pR, ↓z_aI, ↓z_aR, ↓z_sI, ↓z_sZ, ↓z_on, z_cl, ↓reduceIte, Int.reduceEq, Int.reduceNeg, Int.reduceLT, Int.reduceLE, Int.reduceAdd, Int.reduceSub, Int.reduceMul, true_and, and_true, or_true, true_or, eq_self, C.h0, C.h1, C.p2, C.p3, C.p4, C.p5, C.p6, C.p7, C.p8, C.p9, C.e0, C.e1, C.e2, C.e4, C.e5, C.l2, C.l3, C.l4, C.l5, C.pr.r7, C.pr.r8, C.pr.r9, C.pr.r10, C.pr.r11, C.pr.r12, C.pr.r13, C.pr.r14, C.pr.r15, C.pr.v0, C.pr.v1, C.pr.v2, C.pr.v3, C.pr.v4, C.pr.v5, C.pr.v6, C.pr.we, C.pr.wi, C.pr.pe, C.pr.fp, C.pr.he, C.pr.ho, C.pr.ra, C.pr.pa, C.tm, C.sc, C.po, C.al, C.ho, C.mo, C.dn, C.se, C.ke, C.ca, C.co, sO16 C.sh, sO27 C.sh, sO34 C.sh, sO40 C.sh, sA28 C.sh, sA29 C.sh, sA30 C.sh, sA31 C.sh, sA32 C.sh, sA33 C.sh, sA35 C.sh, sA36 C.sh, sA37 C.sh, sA38 C.sh, sA39 C.sh, sA41 C.sh, sA42 C.sh, sA43 C.sh, sA44 C.sh, pO C.sh C.pr.hp, pA1 C.sh C.pr.hp, pA2 C.sh C.pr.hp, pA3 C.sh C.pr.hp, pA4 C.sh C.pr.hp, pA5 C.sh C.pr.hp, pA6 C.sh C.pr.hp, pA7 C.sh C.pr.hp, pA8 C.sh C.pr.hp, pA9 C.sh C.pr.hp, pN C.pr.hp, pN0 C.pr.hp, iR_t, Int.reduceAdd, n02, n12, n10, G.x0, G.x1, G.x2, G.x3, G.x4, G.h0, sO0 C.sh, sO1 C.sh, sO45 C.sh, sA278 C.sh, r1, c1.2, ha, ↓e_g e1, y1, y2, C1.h1, C1.sc, F.vr]
    · intro σ4 e4 M4 M8
      simp (disch := first | omega | assumption | (simp (disch := omega) only [st2_wo, st2_wf, M4.q14, st2_o]; done) | fail) only [fX8_setScore, ↓m_within', ↓z_lt, ↓z_ge, ↓z_gt, ↓z_le, ↓z_eq, ↓z_ne, ↓z_mx, ↓z_mn, ↓z_dv, ↓z_rm, ↓z_i2l, ↓z_lc, ↓z_sw, ↓z_sf, ↓z_sn, ↓z_bd, ↓z_nt, z_b0, z_b1, z_bi, z_bj, ↓z_gF, ↓z_gR, ↓z_pF, ↓z_pZ, ↓z_pR, ↓z_aI, ↓z_aR, ↓z_sI, ↓z_sZ, ↓z_on, z_cl, ↓reduceIte, Int.reduceEq, Int.reduceNeg, Int.reduceLT, Int.reduceLE, Int.reduceAdd, Int.reduceSub, Int.reduceMul, true_and, and_true, or_true, true_or, eq_self, sO265 M.sh, sA268 M.sh, sA270 M.sh, sA271 M.sh, iR_t, st2_o, st2_wo, st2_f, st2_g, wr_s, wr_i, wr_n, ↓m_at', ↓m_in', M8.q11, M8.q14, M8.q15, M8.tl, c1, and_self, ↓e_g e4, M4.q14, st2_wf]
  · refine RdOk.ch (RdOk.ex (c := 1) (v := 0) ?_ ?_ (by omega) (by omega)) G (by omega) (by omega)
    · by_cases r1 : a < 1
      · simp (disch := first | omega | assumption | (simp (disch := omega) only [G.x1, G.x2, C.h1, C.p8, C.p9, C.e0, C.tm, st2_wo, C.h0]; done) | fail) only [fL_setScore, trc, fX7_setScore, ↓z_lt, ↓z_ge, ↓z_gt, ↓z_le, ↓z_eq, ↓z_ne, ↓z_mx, ↓z_mn, ↓z_dv, ↓z_rm, ↓z_i2l, ↓z_lc, ↓z_sw, ↓z_sf, ↓z_sn, ↓z_bd, ↓z_nt, z_b0, z_b1, z_bi, z_bj, ↓z_gF, ↓z_gR, ↓z_pF, ↓z_pZ, ↓z_pR, ↓z_aI, ↓z_aR, ↓z_sI, ↓z_sZ, ↓z_on, z_cl, ↓reduceIte, Int.reduceEq, Int.reduceNeg, Int.reduceLT, Int.reduceLE, Int.reduceAdd, Int.reduceSub, Int.reduceMul, true_and, and_true, or_true, true_or, eq_self, C.h0, C.h1, C.p2, C.p3, C.p4, C.p5, C.p6, C.p7, C.p8, C.p9, C.e0, C.e1, C.e2, C.e4, C.e5, C.l2, C.l3, C.l4, C.l5, C.pr.r7, C.pr.r8, C.pr.r9, C.pr.r10, C.pr.r11, C.pr.r12, C.pr.r13, C.pr.r14, C.pr.r15, C.pr.v0, C.pr.v1, C.pr.v2, C.pr.v3, C.pr.v4, C.pr.v5, C.pr.v6, C.pr.we, C.pr.wi, C.pr.pe, C.pr.fp, C.pr.he, C.pr.ho, C.pr.ra, C.pr.pa, C.tm, C.sc, C.po, C.al, C.ho, C.mo, C.dn, C.se, C.ke, C.ca, C.co, sO16 C.sh, sO27 C.sh, sO34 C.sh, sO40 C.sh, sA28 C.sh, sA29 C.sh, sA30 C.sh, sA31 C.sh, sA32 C.sh, sA33 C.sh, sA35 C.sh, sA36 C.sh, sA37 C.sh, sA38 C.sh, sA39 C.sh, sA41 C.sh, sA42 C.sh, sA43 C.sh, sA44 C.sh, pO C.sh C.pr.hp, pA1 C.sh C.pr.hp, pA2 C.sh C.pr.hp, pA3 C.sh C.pr.hp, pA4 C.sh C.pr.hp, pA5 C.sh C.pr.hp, pA6 C.sh C.pr.hp, pA7 C.sh C.pr.hp, pA8 C.sh C.pr.hp, pA9 C.sh C.pr.hp, pN C.pr.hp, pN0 C.pr.hp, iR_t, Int.reduceAdd, n02, n12, n10, G.x0, G.x1, G.x2, G.x3, G.x4, G.h0, sO0 C.sh, sO1 C.sh, sO45 C.sh, sA278 C.sh, r1, ha]
      · have r2 : ¬ (a ≤ 999) := by omega
        simp (disch := first | omega | assumption | (simp (disch := omega) only [G.x1, G.x2, C.h1, C.p8, C.p9, C.e0, C.tm, st2_wo, C.h0]; done) | fail) only [fL_setScore, trc, fX7_setScore, ↓z_lt, ↓z_ge, ↓z_gt, ↓z_le, ↓z_eq, ↓z_ne, ↓z_mx, ↓z_mn, ↓z_dv, ↓z_rm, ↓z_i2l, ↓z_lc, ↓z_sw, ↓z_sf, ↓z_sn, ↓z_bd, ↓z_nt, z_b0, z_b1, z_bi, z_bj, ↓z_gF, ↓z_gR, ↓z_pF, ↓z_pZ, ↓z_pR, ↓z_aI, ↓z_aR, ↓z_sI, ↓z_sZ, ↓z_on, z_cl, ↓reduceIte, Int.reduceEq, Int.reduceNeg, Int.reduceLT, Int.reduceLE, Int.reduceAdd, Int.reduceSub, Int.reduceMul, true_and, and_true, or_true, true_or, eq_self, C.h0, C.h1, C.p2, C.p3, C.p4, C.p5, C.p6, C.p7, C.p8, C.p9, C.e0, C.e1, C.e2, C.e4, C.e5, C.l2, C.l3, C.l4, C.l5, C.pr.r7, C.pr.r8, C.pr.r9, C.pr.r10, C.pr.r11, C.pr.r12, C.pr.r13, C.pr.r14, C.pr.r15, C.pr.v0, C.pr.v1, C.pr.v2, C.pr.v3, C.pr.v4, C.pr.v5, C.pr.v6, C.pr.we, C.pr.wi, C.pr.pe, C.pr.fp, C.pr.he, C.pr.ho, C.pr.ra, C.pr.pa, C.tm, C.sc, C.po, C.al, C.ho, C.mo, C.dn, C.se, C.ke, C.ca, C.co, sO16 C.sh, sO27 C.sh, sO34 C.sh, sO40 C.sh, sA28 C.sh, sA29 C.sh, sA30 C.sh, sA31 C.sh, sA32 C.sh, sA33 C.sh, sA35 C.sh, sA36 C.sh, sA37 C.sh, sA38 C.sh, sA39 C.sh, sA41 C.sh, sA42 C.sh, sA43 C.sh, sA44 C.sh, pO C.sh C.pr.hp, pA1 C.sh C.pr.hp, pA2 C.sh C.pr.hp, pA3 C.sh C.pr.hp, pA4 C.sh C.pr.hp, pA5 C.sh C.pr.hp, pA6 C.sh C.pr.hp, pA7 C.sh C.pr.hp, pA8 C.sh C.pr.hp, pA9 C.sh C.pr.hp, pN C.pr.hp, pN0 C.pr.hp, iR_t, Int.reduceAdd, n02, n12, n10, G.x0, G.x1, G.x2, G.x3, G.x4, G.h0, sO0 C.sh, sO1 C.sh, sO45 C.sh, sA278 C.sh, r1, r2, ha]
    · have M8 := M
      simp (disch := first | omega | assumption | (simp (disch := omega) only [G.x1, G.x2, C.h1, C.p8, C.p9, C.e0, C.tm, st2_wo, C.h0]; done) | fail) only [fX8_setScore, ↓m_within', ↓z_lt, ↓z_ge, ↓z_gt, ↓z_le, ↓z_eq, ↓z_ne, ↓z_mx, ↓z_mn, ↓z_dv, ↓z_rm, ↓z_i2l, ↓z_lc, ↓z_sw, ↓z_sf, ↓z_sn, ↓z_bd, ↓z_nt, z_b0, z_b1, z_bi, z_bj, ↓z_gF, ↓z_gR, ↓z_pF, ↓z_pZ, ↓z_pR, ↓z_aI, ↓z_aR, ↓z_sI, ↓z_sZ, ↓z_on, z_cl, ↓reduceIte, Int.reduceEq, Int.reduceNeg, Int.reduceLT, Int.reduceLE, Int.reduceAdd, Int.reduceSub, Int.reduceMul, true_and, and_true, or_true, true_or, eq_self, sO265 M.sh, sA268 M.sh, sA270 M.sh, sA271 M.sh, iR_t, st2_o, st2_wo, st2_f, st2_g, wr_s, wr_i, wr_n, ↓m_at', ↓m_in', M8.q11, M8.q14, M8.q15, M8.tl, c1]
end ZZ6
