/-! A SNAPSHOT IS SAVED on both sides. -/
section ZZB
variable {P : Shp} {σ σ' σ1 σ2 σ3 σ4 σ5 s : St} {t f f' f2 g g' : Int → Int} {B B' : Int} {a b b' d k p q kind who m h j c x y z i v w part N K D : Int} {n : Nat}
theorem rd_save (G : GR P σ p t B) (ha : iR a = true) : ∃ v σ2 σ5, fX7_saveSnapshot P σ 0 a = some (v, σ2) ∧ fX8_saveSnapshot P σ2 265 a = some (v, σ5) ∧ iR v = true ∧ GR P σ5 p t B := by
  have C := G.cr; have T := G.tv; have F := G.fv; have V := G.cv; have M := G.mp; have n0 := T.n0; have n1 := T.n1; have n2 := T.n2; have b0 := F.b0
  have w0 : iR 0 = true := rfl
  have w1 : iR 1 = true := rfl
  by_cases c1 : 0 ≤ a ∧ a ≤ 1
  · have r0 : ¬ (a < 0) := by omega
    have r2 : a < 2 := by omega
    have ss := G.ss a c1.1 (by omega)
    have hb := isB_s (i := a) c1.1 (by omega)
    have hne : (27 : Int) ≠ 229 + 18 * a := by omega
    have ec := c_copyFrom C.sh isB_27 hb hne C.s.sp ss.2
    have SR2 := cpB_SR isB_27 hb hne T F V C.s ss.2
    have co : ∀ o, (o < 229 + 18 * a ∨ 229 + 18 * a + 17 < o) → cpB σ 27 (229 + 18 * a) o = σ o := fun o ho => cpB_o ho
    have nm1 : ¬ (229 + 18 * a = -1) := by omega
    have kx : cpB σ 27 (229 + 18 * a) 0 4 = 228 := by rw [co 0 (by omega)]; exact G.x4
    generalize hcp : cpB σ 27 (229 + 18 * a) = σc at ec SR2 co kx
    have eu : fX7_saveSnapshot P σ 0 a = some (1, wr σc 228 a 1) := by
      simp (disch := first | omega | assumption | (simp (disch := omega) only [G.x1, G.x2, G.x3, C.h1, ss.1]; done) | fail) only [fX7_saveSnapshot, ↓z_lt, ↓z_ge, ↓z_gt, ↓z_le, ↓z_eq, ↓z_ne, ↓z_mx, ↓z_mn, ↓z_dv, ↓z_rm, ↓z_i2l, ↓z_lc, ↓z_sw, ↓z_sf, ↓z_sn, ↓z_bd, ↓z_nt, z_b0, z_b1, z_bi, z_bj, ↓z_gF, ↓z_gR, ↓z_pF, ↓z_pZ, ↓z_pR, ↓z_aI, ↓z_aR, ↓z_sI, ↓z_sZ, ↓z_on, z_cl, ↓reduceIte, Int.reduceEq, Int.reduceNeg, Int.reduceLT, Int.reduceLE, Int.reduceAdd, Int.reduceSub, Int.reduceMul, true_and, and_true, or_true, true_or, eq_self, C.h0, C.h1, C.p2, C.p3, C.p4, C.p5, C.p6, C.p7, C.p8, C.p9, C.e0, C.e1, C.e2, C.e4, C.e5, C.l2, C.l3, C.l4, C.l5, C.pr.r7, C.pr.r8, C.pr.r9, C.pr.r10, C.pr.r11, C.pr.r12, C.pr.r13, C.pr.r14, C.pr.r15, C.pr.v0, C.pr.v1, C.pr.v2, C.pr.v3, C.pr.v4, C.pr.v5, C.pr.v6, C.pr.we, C.pr.wi, C.pr.pe, C.pr.fp, C.pr.he, C.pr.ho, C.pr.ra, C.pr.pa, C.tm, C.sc, C.po, C.al, C.ho, C.mo, C.dn, C.se, C.ke, C.ca, C.co, sO16 C.sh, sO27 C.sh, sO34 C.sh, sO40 C.sh, sA28 C.sh, sA29 C.sh, sA30 C.sh, sA31 C.sh, sA32 C.sh, sA33 C.sh, sA35 C.sh, sA36 C.sh, sA37 C.sh, sA38 C.sh, sA39 C.sh, sA41 C.sh, sA42 C.sh, sA43 C.sh, sA44 C.sh, pO C.sh C.pr.hp, pA1 C.sh C.pr.hp, pA2 C.sh C.pr.hp, pA3 C.sh C.pr.hp, pA4 C.sh C.pr.hp, pA5 C.sh C.pr.hp, pA6 C.sh C.pr.hp, pA7 C.sh C.pr.hp, pA8 C.sh C.pr.hp, pA9 C.sh C.pr.hp, pN C.pr.hp, pN0 C.pr.hp, iR_t, Int.reduceAdd, n02, n12, n10, G.x0, G.x1, G.x2, G.x3, G.x4, G.h0, sO0 C.sh, sO1 C.sh, sO45 C.sh, sA278 C.sh, ha, r0, r2, sA228 C.sh, sA227 C.sh, ss.1, nm1, hb.O0 C.sh, ↓e_g ec, kx]
    have co2 : ∀ o, o ≠ 228 → (o < 229 + 18 * a ∨ 229 + 18 * a + 17 < o) → (wr σc 228 a 1) o = σ o := fun o h1 h2 => by rw [wr_o h1, co o h2]
    have k228 : ∀ j, (wr σc 228 a 1) 228 j = if j = a then 1 else σ 228 j := fun j => by
      by_cases z : j = a
      · subst z; rw [if_pos rfl]; exact wr_s
      · rw [if_neg z, wr_i z, co 228 (by omega)]
    have Sn : SR (wr σc 228 a 1) (229 + 18 * a) t (σ 270) (σ 271) := SR2.fr fun o _ _ => wr_o (by omega)
    generalize wr σc 228 a 1 = σ2 at eu co2 k228 Sn
    have M2 : MP P σ2 t := M.to2 (fun j _ _ => by rw [co2 265 (by omega) (by omega)]) (co2 268 (by omega) (by omega))
    have em := m_copy (P := P) (σ := wr σ2 265 0 0) (k := 0) (m := a) (a0 := 270) (a1 := 271) (a3 := 274) (a4 := 275) (fun i i0 i1 => sA270 M.sh (by omega) (by omega)) (fun i i0 i1 => sA274 M.sh (by omega) (by omega)) (fun i i0 i1 => sA271 M.sh (by omega) (by omega)) (fun i i0 i1 => sA275 M.sh (by omega) (by omega)) (Or.inl (by decide)) (Or.inl (by decide)) (by decide)
    refine ⟨1, σ2, wr (cps (cps (wr σ2 265 0 0) 270 (410 * 0) 274 (410 * a) 410) 271 (12 * 0) 275 (12 * a) 12) 276 a 1, eu, ?_, rfl, ?_⟩
    · have M := M2
      simp (disch := first | omega | assumption | (simp (disch := omega) only [wr_i, wr_s, M2.q14, M2.q15, M2.q19, M2.q20]; done) | fail) only [fX8_saveSnapshot, ↓m_within', ↓z_lt, ↓z_ge, ↓z_gt, ↓z_le, ↓z_eq, ↓z_ne, ↓z_mx, ↓z_mn, ↓z_dv, ↓z_rm, ↓z_i2l, ↓z_lc, ↓z_sw, ↓z_sf, ↓z_sn, ↓z_bd, ↓z_nt, z_b0, z_b1, z_bi, z_bj, ↓z_gF, ↓z_gR, ↓z_pF, ↓z_pZ, ↓z_pR, ↓z_aI, ↓z_aR, ↓z_sI, ↓z_sZ, ↓z_on, z_cl, ↓reduceIte, Int.reduceEq, Int.reduceNeg, Int.reduceLT, Int.reduceLE, Int.reduceAdd, Int.reduceSub, Int.reduceMul, true_and, and_true, or_true, true_or, eq_self, st2_f, st2_g, st2_o, M.q1, M.q10, M.q11, M.q12, M.q14, M.q15, M.q16, M.q17, M.q19, M.q20, M.q21, M.q22, M.tl, sO265 M.sh, sA266 M.sh, sA267 M.sh, sA268 M.sh, sA269 M.sh, sA270 M.sh, sA271 M.sh, sA272 M.sh, sA273 M.sh, sA274 M.sh, sA275 M.sh, sA276 M.sh, sA277 M.sh, iR_t, wr_i, wr_s, wr_n, cps_n, c1, and_self, if_true, ↓e_g em]
    · have e74 : ∀ j, (wr (cps (cps (wr σ2 265 0 0) 270 (410 * 0) 274 (410 * a) 410) 271 (12 * 0) 275 (12 * a) 12) 276 a 1) 274 j = if 410 * a ≤ j ∧ j < 410 * a + 410 then σ 270 (j - 410 * a) else σ 274 j := fun j => by
        rw [wr_n (by omega), cps_n (by omega)]
        by_cases z : 410 * a ≤ j ∧ j < 410 * a + 410
        · rw [if_pos z, cps_at z.1 z.2, wr_n (by omega), co2 270 (by omega) (by omega)]; congr 1; omega
        · rw [if_neg z, cps_no (by omega), wr_n (by omega), co2 274 (by omega) (by omega)]
      have e75 : ∀ j, (wr (cps (cps (wr σ2 265 0 0) 270 (410 * 0) 274 (410 * a) 410) 271 (12 * 0) 275 (12 * a) 12) 276 a 1) 275 j = if 12 * a ≤ j ∧ j < 12 * a + 12 then σ 271 (j - 12 * a) else σ 275 j := fun j => by
        rw [wr_n (by omega)]
        by_cases z : 12 * a ≤ j ∧ j < 12 * a + 12
        · rw [if_pos z, cps_at z.1 z.2, cps_n (by omega), wr_n (by omega), co2 271 (by omega) (by omega)]; congr 1; omega
        · rw [if_neg z, cps_no (by omega), cps_n (by omega), wr_n (by omega), co2 275 (by omega) (by omega)]
      have e76 : ∀ j, (wr (cps (cps (wr σ2 265 0 0) 270 (410 * 0) 274 (410 * a) 410) 271 (12 * 0) 275 (12 * a) 12) 276 a 1) 276 j = if j = a then 1 else σ 276 j := fun j => by
        by_cases z : j = a
        · subst z; rw [if_pos rfl]; exact wr_s
        · rw [if_neg z, wr_i z, cps_n (by omega), cps_n (by omega), wr_n (by omega), co2 276 (by omega) (by omega)]
      have eo : ∀ o, o ≠ 265 → o ≠ 274 → o ≠ 275 → o ≠ 276 → (wr (cps (cps (wr σ2 265 0 0) 270 (410 * 0) 274 (410 * a) 410) 271 (12 * 0) 275 (12 * a) 12) 276 a 1) o = σ2 o := fun o h1 h2 h3 h4 => by
        rw [wr_o h4, cps_o h3, cps_o h2, wr_o h1]
      have ej : ∀ j, j ≠ 0 → (wr (cps (cps (wr σ2 265 0 0) 270 (410 * 0) 274 (410 * a) 410) 271 (12 * 0) 275 (12 * a) 12) 276 a 1) 265 j = σ 265 j := fun j h1 => by
        rw [wr_n (by omega), cps_n (by omega), cps_n (by omega), wr_i h1, co2 265 (by omega) (by omega)]
      generalize wr (cps (cps (wr σ2 265 0 0) 270 (410 * 0) 274 (410 * a) 410) 271 (12 * 0) 275 (12 * a) 12) 276 a 1 = σ5 at e74 e75 e76 eo ej
      have eA : ∀ o, o ≠ 228 → (o < 229 + 18 * a ∨ 229 + 18 * a + 17 < o) → o ≠ 265 → o ≠ 274 → o ≠ 275 → o ≠ 276 → σ5 o = σ o := fun o h1 h2 h3 h4 h5 h6 => (eo o h3 h4 h5 h6).trans (co2 o h1 h2)
      have e228 : ∀ j, σ5 228 j = if j = a then 1 else σ 228 j := fun j => by rw [eo 228 (by omega) (by omega) (by omega) (by omega)]; exact k228 j
      have hp := G.cr.pr.hp
      have E0 := eA 270 (by omega) (by omega) (by omega) (by omega) (by omega) (by omega)
      have E1 := eA 271 (by omega) (by omega) (by omega) (by omega) (by omega) (by omega)
      have eC : ∀ o, o < 228 → σ5 o = σ o := fun o h => eA o (by omega) (by omega) (by omega) (by omega) (by omega) (by omega)
      refine ⟨?_, M.to2 (fun j _ _ => ej j (by omega)) (eA 268 (by omega) (by omega) (by omega) (by omega) (by omega) (by omega)), T, ?_, ?_, ?_, ?_, ?_, ?_, ?_, ?_, ?_, ?_, ?_, ?_, ?_, ?_, ?_, ?_, ?_, ?_, ?_, ?_, ?_, ?_, ?_⟩
      · rw [E0, E1]
        refine ⟨C.sh, ?_, ?_, ?_, C.s.fr fun o _ _ => eC o (by omega)⟩
        · rw [eC 16 (by omega)]; exact C.h0
        · rw [eC 16 (by omega)]; exact C.h1
        · exact C.pr.ag fun o _ _ => eC o (by omega)
      · rw [E0, E1]; exact F
      · rw [E0]; exact V
      · rw [eC 0 (by omega)]; exact G.x0
      · rw [eC 0 (by omega)]; exact G.x1
      · rw [eC 0 (by omega)]; exact G.x2
      · rw [eC 0 (by omega)]; exact G.x3
      · rw [eC 0 (by omega)]; exact G.x4
      · rw [eC 1 (by omega)]; exact G.r0
      · rw [eC 1 (by omega)]; exact G.r9
      · rw [eC 1 (by omega)]; exact G.r11
      · rw [eC 1 (by omega)]; exact G.r12
      · rw [eC 1 (by omega)]; exact G.r13
      · exact G.rq.fr (eC (20 - p) (by omega))
      · rw [eC 45 (by omega)]; exact G.h0
      · rw [eC 45 (by omega)]; exact G.hn
      · rw [eC 45 (by omega)]; exact G.hk
      · rw [eC 45 (by omega), ej 18 (by omega)]; exact G.hd
      · intro i i0 i1
        have q := G.hs i i0 i1
        rw [eC 46 (by omega)]
        exact ⟨q.1, q.2.fr fun o _ _ => eC o (by omega)⟩
      · intro j j0 j1
        have hn := G.hn
        rw [eC 45 (by omega)] at j1 ⊢
        rw [eA 272 (by omega) (by omega) (by omega) (by omega) (by omega) (by omega), eA 273 (by omega) (by omega) (by omega) (by omega) (by omega) (by omega)]
        exact (G.hr j j0 j1).fr fun o _ _ => eC o (by omega)
      · intro i i0 i1
        have q := G.ss i i0 i1
        rw [eC 227 (by omega)]
        refine ⟨q.1, ?_⟩
        by_cases z : i = a
        · subst z; exact Sn.sp.fr fun o _ _ => eo o (by omega) (by omega) (by omega) (by omega)
        · exact q.2.fr fun o _ _ => eA o (by omega) (by omega) (by omega) (by omega) (by omega) (by omega)
      · intro i i0 i1
        have q := G.st i i0 i1
        rw [e228, e76]
        by_cases z : i = a
        · subst z
          rw [if_pos rfl, if_pos rfl]
          refine ⟨Or.inr rfl, rfl, fun _ => ?_⟩
          have ks : KS σ5 (229 + 18 * i) B t (σ 270) (σ 271) := KS.fr (σ := σ2) ⟨Sn, F, V⟩ fun o _ _ => eo o (by omega) (by omega) (by omega) (by omega)
          refine ks.cut T (fun j j0 j1 => ?_) (fun j j0 j1 => ?_)
          · rw [e74, if_pos (by omega)]; congr 1; omega
          · rw [e75, if_pos (by omega)]; congr 1; omega
        · rw [if_neg z, if_neg z]
          refine ⟨q.1, q.2.1, fun z1 => ?_⟩
          have ks := (q.2.2 z1).fr (σ' := σ5) fun o _ _ => eA o (by omega) (by omega) (by omega) (by omega) (by omega) (by omega)
          refine ks.cut T (fun j j0 j1 => ?_) (fun j j0 j1 => ?_)
          · rw [e74, if_neg (by omega), cuF_s j0 j1]
          · rw [e75, if_neg (by omega), cuG_s j0 j1]
      · rw [eC 1 (by omega), ej 2 (by omega)]; exact G.bf
      · rw [eC 1 (by omega), eC 2 (by omega), eA 266 (by omega) (by omega) (by omega) (by omega) (by omega) (by omega)]; exact G.bb
  · refine ⟨0, σ, wr σ 265 0 0, ?_, ?_, rfl, G.to (fun o h1 h2 h3 => wr_o h1) (fun j j0 _ => wr_i (by omega))⟩
    · by_cases r0 : a < 0
      · simp (disch := first | omega | assumption | (simp (disch := omega) only [G.x1, G.x2, C.h1, C.p8, C.p9, C.e0, C.tm, st2_wo, C.h0]; done) | fail) only [fX7_saveSnapshot, ↓z_lt, ↓z_ge, ↓z_gt, ↓z_le, ↓z_eq, ↓z_ne, ↓z_mx, ↓z_mn, ↓z_dv, ↓z_rm, ↓z_i2l, ↓z_lc, ↓z_sw, ↓z_sf, ↓z_sn, ↓z_bd, ↓z_nt, z_b0, z_b1, z_bi, z_bj, ↓z_gF, ↓z_gR, ↓z_pF, ↓z_pZ, ↓z_pR, ↓z_aI, ↓z_aR, ↓z_sI, ↓z_sZ, ↓z_on, z_cl, ↓reduceIte, Int.reduceEq, Int.reduceNeg, Int.reduceLT, Int.reduceLE, Int.reduceAdd, Int.reduceSub, Int.reduceMul, true_and, and_true, or_true, true_or, eq_self, C.h0, C.h1, C.p2, C.p3, C.p4, C.p5, C.p6, C.p7, C.p8, C.p9, C.e0, C.e1, C.e2, C.e4, C.e5, C.l2, C.l3, C.l4, C.l5, C.pr.r7, C.pr.r8, C.pr.r9, C.pr.r10, C.pr.r11, C.pr.r12, C.pr.r13, C.pr.r14, C.pr.r15, C.pr.v0, C.pr.v1, C.pr.v2, C.pr.v3, C.pr.v4, C.pr.v5, C.pr.v6, C.pr.we, C.pr.wi, C.pr.pe, C.pr.fp, C.pr.he, C.pr.ho, C.pr.ra, C.pr.pa, C.tm, C.sc, C.po, C.al, C.ho, C.mo, C.dn, C.se, C.ke, C.ca, C.co, sO16 C.sh, sO27 C.sh, sO34 C.sh, sO40 C.sh, sA28 C.sh, sA29 C.sh, sA30 C.sh, sA31 C.sh, sA32 C.sh, sA33 C.sh, sA35 C.sh, sA36 C.sh, sA37 C.sh, sA38 C.sh, sA39 C.sh, sA41 C.sh, sA42 C.sh, sA43 C.sh, sA44 C.sh, pO C.sh C.pr.hp, pA1 C.sh C.pr.hp, pA2 C.sh C.pr.hp, pA3 C.sh C.pr.hp, pA4 C.sh C.pr.hp, pA5 C.sh C.pr.hp, pA6 C.sh C.pr.hp, pA7 C.sh C.pr.hp, pA8 C.sh C.pr.hp, pA9 C.sh C.pr.hp, pN C.pr.hp, pN0 C.pr.hp, iR_t, Int.reduceAdd, n02, n12, n10, G.x0, G.x1, G.x2, G.x3, G.x4, G.h0, sO0 C.sh, sO1 C.sh, sO45 C.sh, sA278 C.sh, ha, r0]
      · have r2 : ¬ (a < 2) := by omega
        simp (disch := first | omega | assumption | (simp (disch := omega) only [G.x1, G.x2, C.h1, C.p8, C.p9, C.e0, C.tm, st2_wo, C.h0]; done) | fail) only [fX7_saveSnapshot, ↓z_lt, ↓z_ge, ↓z_gt, ↓z_le, ↓z_eq, ↓z_ne, ↓z_mx, ↓z_mn, ↓z_dv, ↓z_rm, ↓z_i2l, ↓z_lc, ↓z_sw, ↓z_sf, ↓z_sn, ↓z_bd, ↓z_nt, z_b0, z_b1, z_bi, z_bj, ↓z_gF, ↓z_gR, ↓z_pF, ↓z_pZ, ↓z_pR, ↓z_aI, ↓z_aR, ↓z_sI, ↓z_sZ, ↓z_on, z_cl, ↓reduceIte, Int.reduceEq, Int.reduceNeg, Int.reduceLT, Int.reduceLE, Int.reduceAdd, Int.reduceSub, Int.reduceMul, true_and, and_true, or_true, true_or, eq_self, C.h0, C.h1, C.p2, C.p3, C.p4, C.p5, C.p6, C.p7, C.p8, C.p9, C.e0, C.e1, C.e2, C.e4, C.e5, C.l2, C.l3, C.l4, C.l5, C.pr.r7, C.pr.r8, C.pr.r9, C.pr.r10, C.pr.r11, C.pr.r12, C.pr.r13, C.pr.r14, C.pr.r15, C.pr.v0, C.pr.v1, C.pr.v2, C.pr.v3, C.pr.v4, C.pr.v5, C.pr.v6, C.pr.we, C.pr.wi, C.pr.pe, C.pr.fp, C.pr.he, C.pr.ho, C.pr.ra, C.pr.pa, C.tm, C.sc, C.po, C.al, C.ho, C.mo, C.dn, C.se, C.ke, C.ca, C.co, sO16 C.sh, sO27 C.sh, sO34 C.sh, sO40 C.sh, sA28 C.sh, sA29 C.sh, sA30 C.sh, sA31 C.sh, sA32 C.sh, sA33 C.sh, sA35 C.sh, sA36 C.sh, sA37 C.sh, sA38 C.sh, sA39 C.sh, sA41 C.sh, sA42 C.sh, sA43 C.sh, sA44 C.sh, pO C.sh C.pr.hp, pA1 C.sh C.pr.hp, pA2 C.sh C.pr.hp, pA3 C.sh C.pr.hp, pA4 C.sh C.pr.hp, pA5 C.sh C.pr.hp, pA6 C.sh C.pr.hp, pA7 C.sh C.pr.hp, pA8 C.sh C.pr.hp, pA9 C.sh C.pr.hp, pN C.pr.hp, pN0 C.pr.hp, iR_t, Int.reduceAdd, n02, n12, n10, G.x0, G.x1, G.x2, G.x3, G.x4, G.h0, sO0 C.sh, sO1 C.sh, sO45 C.sh, sA278 C.sh, ha, r0, r2]
    · simp (disch := first | omega | assumption | (simp (disch := omega) only [G.x1, G.x2, C.h1, C.p8, C.p9, C.e0, C.tm, st2_wo, C.h0]; done) | fail) only [fX8_saveSnapshot, ↓m_within', ↓z_lt, ↓z_ge, ↓z_gt, ↓z_le, ↓z_eq, ↓z_ne, ↓z_mx, ↓z_mn, ↓z_dv, ↓z_rm, ↓z_i2l, ↓z_lc, ↓z_sw, ↓z_sf, ↓z_sn, ↓z_bd, ↓z_nt, z_b0, z_b1, z_bi, z_bj, ↓z_gF, ↓z_gR, ↓z_pF, ↓z_pZ, ↓z_pR, ↓z_aI, ↓z_aR, ↓z_sI, ↓z_sZ, ↓z_on, z_cl, ↓reduceIte, Int.reduceEq, Int.reduceNeg, Int.reduceLT, Int.reduceLE, Int.reduceAdd, Int.reduceSub, Int.reduceMul, true_and, and_true, or_true, true_or, eq_self, st2_f, st2_g, st2_o, M.q1, M.q10, M.q11, M.q12, M.q14, M.q15, M.q16, M.q17, M.q19, M.q20, M.q21, M.q22, M.tl, sO265 M.sh, sA266 M.sh, sA267 M.sh, sA268 M.sh, sA269 M.sh, sA270 M.sh, sA271 M.sh, sA272 M.sh, sA273 M.sh, sA274 M.sh, sA275 M.sh, sA276 M.sh, sA277 M.sh, iR_t, wr_i, wr_n, c1, if_false]
end ZZB
