/-! PARSE: the law's case 1. -/
section ZZA7
variable {P : Shp} {σ σ' σ0 σ1 σ2 s s3 τ τ' τ0 τ1 τ2 : St} {t f g h d d' : Int → Int} {a b c e i j k p x y z v w q B : Int} {n L : Nat} {xs : Nat → Int32} {kE : St → Option Unit}
theorem parK_S (sh : ShpIs P 279 PL) (m8 : τ' 265 8 = 0) (u : fX8_takeDraft P τ' 265 = some τ2) (q11 : τ2 265 11 = 268) (tl : τ2 268 = t) : parK P τ' = some (t 2, τ2) := by
  have es : fX8_streams P τ2 265 = some (t 2) := by
    simp (disch := first | omega | assumption) only [fX8_streams, ↓z_lt, ↓z_ge, ↓z_gt, ↓z_le, ↓z_eq, ↓z_ne, ↓z_mx, ↓z_mn, ↓z_dv, ↓z_rm, ↓z_i2l, ↓z_lc, ↓z_sw, ↓z_sf, ↓z_sn, ↓z_bd, ↓z_nt, z_b0, z_b1, z_bi, z_bj, ↓z_gF, ↓z_gR, ↓z_pF, ↓z_pZ, ↓z_pR, ↓z_aI, ↓z_aR, ↓z_sI, ↓z_sZ, ↓z_on, z_cl, ↓reduceIte, Int.reduceEq, Int.reduceNeg, Int.reduceLT, Int.reduceLE, Int.reduceAdd, Int.reduceSub, Int.reduceMul, true_and, and_true, or_true, true_or, eq_self, iR_t, sO265 sh, sA268 sh, q11, tl]
  simp (disch := first | omega | assumption) only [parK, ↓z_lt, ↓z_ge, ↓z_gt, ↓z_le, ↓z_eq, ↓z_ne, ↓z_mx, ↓z_mn, ↓z_dv, ↓z_rm, ↓z_i2l, ↓z_lc, ↓z_sw, ↓z_sf, ↓z_sn, ↓z_bd, ↓z_nt, z_b0, z_b1, z_bi, z_bj, ↓z_gF, ↓z_gR, ↓z_pF, ↓z_pZ, ↓z_pR, ↓z_aI, ↓z_aR, ↓z_sI, ↓z_sZ, ↓z_on, z_cl, ↓reduceIte, Int.reduceEq, Int.reduceNeg, Int.reduceLT, Int.reduceLE, Int.reduceAdd, Int.reduceSub, Int.reduceMul, true_and, and_true, or_true, true_or, eq_self, iR_t, sO265 sh, m8, ↓e_cl u, ↓e_cl es]
theorem GR.pars (G : GR P σ p t B) (hq : q = 20 - p) (S : PS P σ s3 p q d (setF d f) g) (M0 : MF0 s3 τ') (K : TK P τ' τ2 d f g) (T' : TV d) (VC : CV (setF d f)) (FC : FV (B + 24) d (setF d f) g) : GR P τ2 q d (B + 24) := by
  have hp := G.cr.pr.hp
  have eA : ∀ o, o < 265 → τ2 o = s3 o := fun o ho => by
    rw [K.oo o (by omega) (by omega) (by omega) (by omega) (by omega)]; exact M0.oo o (by omega) (by omega) (by omega)
  have eS : ∀ o, o ≠ 1 → (o < q ∨ q + 9 < o) → (o < 13 ∨ 16 < o) → (o < 27 ∨ 45 < o) → o ≠ 228 → o < 265 → τ2 o = σ o := fun o h1 h2 h3 h4 h5 h6 => by
    rw [eA o h6]; exact S.oo o h1 h2 h3 h4 h5 (by omega)
  have eJ : ∀ j, (j = 1 ∨ 10 ≤ j) → j ≠ 13 → j ≠ 18 → τ2 265 j = σ 265 j := fun j h1 h2 h3 => by
    rw [K.jj j h3, M0.jj j h1 h2, S.oo 265 (by omega) (by omega) (by omega) (by omega) (by omega) (by omega)]
  have ep : τ2 p = σ p := eS p (by omega) (by omega) (by omega) (by omega) (by omega) (by omega)
  have e0 : τ2 0 = σ 0 := eS 0 (by omega) (by omega) (by omega) (by omega) (by omega) (by omega)
  have e1 : τ2 1 = s3 1 := eA 1 (by omega)
  have e45 : τ2 45 = s3 45 := eA 45 (by omega)
  have M := G.mp
  have hR := G.cr.pr
  refine ⟨?_, ⟨G.cr.sh, ?_, ?_, ?_, ?_, ?_, ?_, ?_, ?_, ?_, ?_, ?_, ?_, K.tl⟩, T', ?_, ?_, ?_, ?_, ?_, ?_, ?_, ?_, ?_, ?_, ?_, ?_, ?_, ?_, ?_, ?_, ?_, ?_, ?_, ?_, ?_, ?_, ?_⟩
  · rw [K.fl, K.gl]
    have C := S.cr
    refine ⟨C.sh, ?_, ?_, C.pr.ag fun o _ _ => eA o (by omega), C.s.fr fun o _ _ => eA o (by omega)⟩
    · rw [eA 16 (by omega)]; exact C.h0
    · rw [eA 16 (by omega)]; exact C.h1
  · rw [eJ 1 (by omega) (by omega) (by omega)]; exact M.q1
  · rw [eJ 10 (by omega) (by omega) (by omega)]; exact M.q10
  · rw [eJ 11 (by omega) (by omega) (by omega)]; exact M.q11
  · rw [eJ 12 (by omega) (by omega) (by omega)]; exact M.q12
  · rw [eJ 14 (by omega) (by omega) (by omega)]; exact M.q14
  · rw [eJ 15 (by omega) (by omega) (by omega)]; exact M.q15
  · rw [eJ 16 (by omega) (by omega) (by omega)]; exact M.q16
  · rw [eJ 17 (by omega) (by omega) (by omega)]; exact M.q17
  · rw [eJ 19 (by omega) (by omega) (by omega)]; exact M.q19
  · rw [eJ 20 (by omega) (by omega) (by omega)]; exact M.q20
  · rw [eJ 21 (by omega) (by omega) (by omega)]; exact M.q21
  · rw [eJ 22 (by omega) (by omega) (by omega)]; exact M.q22
  · rw [K.fl, K.gl]; exact FC
  · rw [K.fl]; exact VC
  · rw [e0]; exact G.x0
  · rw [e0]; exact G.x1
  · rw [e0]; exact G.x2
  · rw [e0]; exact G.x3
  · rw [e0]; exact G.x4
  · rw [e1, S.j1 0 (by omega)]; exact G.r0
  · rw [e1, S.z9]; omega
  · rw [e1, S.j1 11 (by omega)]; exact G.r11
  · rw [e1, S.j1 12 (by omega)]; exact G.r12
  · rw [e1, S.j1 13 (by omega)]; exact G.r13
  · rw [show 20 - q = p by omega]
    unfold PP
    rw [ep]
    exact ⟨hR.r7, hR.r8, hR.r9, hR.r10, hR.r11, hR.r12, hR.r13, hR.r14, hR.r15⟩
  · rw [e45, S.h0]; exact G.h0
  · rw [e45, S.h2]; exact G.hn
  · rw [e45, S.h1]; omega
  · rw [K.z18, e45, S.h1]
  · intro i i0 i1
    have z := G.hs i i0 i1
    rw [eS 46 (by omega) (by omega) (by omega) (by omega) (by omega) (by omega)]
    exact ⟨z.1, z.2.fr fun o _ _ => eS o (by omega) (by omega) (by omega) (by omega) (by omega) (by omega)⟩
  · intro j j0 j1
    rw [e45, S.h1] at j1
    omega
  · intro i i0 i1
    have z := G.ss i i0 i1
    rw [eS 227 (by omega) (by omega) (by omega) (by omega) (by omega) (by omega)]
    exact ⟨z.1, z.2.fr fun o _ _ => eS o (by omega) (by omega) (by omega) (by omega) (by omega) (by omega)⟩
  · intro i i0 i1
    have w0 := S.w0
    have z76 := K.z76
    have : i = 0 ∨ i = 1 := by omega
    rcases this with rfl | rfl
    · rw [eA 228 (by omega), w0.1, z76.1]
      exact ⟨Or.inl rfl, rfl, fun y => absurd y (by omega)⟩
    · rw [eA 228 (by omega), w0.2, z76.2]
      exact ⟨Or.inl rfl, rfl, fun y => absurd y (by omega)⟩
  · rw [e1, S.z1, K.jj 2 (by omega), M0.z2]; omega
  · intro i i0 i1
    rw [e1, S.z1] at i1
    omega
theorem rd_parse (G : GR P σ p t B) (h9 : 9999 ≤ B) (hB : B ≤ 1900000000) (ha : iR a = true) : ChE P (B + 200000) σ (fL_parse P σ 0 a 278) (fun s => fX8_parse P s 265 a) := by
  have sh := G.cr.sh
  have hp := G.cr.pr.hp
  have bf := G.bf
  by_cases c : 0 ≤ a ∧ a ≤ σ 1 1
  · have PT0 := G_PT G c.2
    have hq0 : 20 - p = 3 ∨ 20 - p = 17 := by omega
    generalize hq : 20 - p = q at *
    rcases G_read G c.1 c.2 hq.symm PT0 with ⟨σ', τ', e', d1, r, u, Q, F, M0⟩ | ⟨σ', τ', r, u, F, M0, k1, k2, k3, k4⟩
    · obtain ⟨s3, hL, v3, S, VC, FC⟩ := c_parS G h9 hB ha c.1 c.2 hq.symm F r Q.pr Q.tv Q.nn3.2.1 (fun k k0 k1 => (Q.np.2 k k0 k1).1)
      have o3 : ∀ o, 264 < o → o ≠ 278 → s3 o = σ o := fun o h1 h2 => S.oo o (by omega) (by omega) (by omega) (by omega) (by omega) h2
      have PT3 : PT σ s3 a := by
        unfold PT at PT0 ⊢
        rw [o3 265 (by omega) (by omega), o3 266 (by omega) (by omega)]
        exact PT0
      rcases G_read G c.1 c.2 hq.symm PT3 with ⟨σ2, τ2, e2, d2, r2, u2, Q2, F2, M2⟩ | ⟨σ2, τ2, r2, _⟩
      · have es : σ2 = σ' := by
          rw [r] at r2
          exact ((Prod.mk.inj (Option.some.inj r2)).2).symm
        subst es
        obtain ⟨s4, hL4, v4, S4, VC4, FC4⟩ := c_parS G h9 hB ha c.1 c.2 hq.symm F2 r Q2.pr Q2.tv Q2.nn3.2.1 (fun k k0 k1 => (Q2.np.2 k k0 k1).1)
        have e4 : s4 = s3 := by
          rw [hL] at hL4
          exact ((Prod.mk.inj (Option.some.inj hL4)).2).symm
        subst e4
        have oM : ∀ o, 269 < o → o ≠ 278 → τ2 o = σ o := fun o h1 h2 => by
          rw [M2.oo o (by omega) (by omega) (by omega)]; exact o3 o (by omega) h2
        have oJ : ∀ j, (j = 1 ∨ 10 ≤ j) → j ≠ 13 → τ2 265 j = σ 265 j := fun j h1 h2 => by
          rw [M2.jj j h1 h2, o3 265 (by omega) (by omega)]
        have o268 : τ2 268 = σ 268 := by rw [M2.oo 268 (by omega) (by omega) (by omega)]; exact o3 268 (by omega) (by omega)
        have MT2 : MP P τ2 t := G.mp.to2 (fun j j0 j1 => oJ j (by omega) (by omega)) o268
        have T' := Q2.tv.tk G.tv
        have bl := G.fv.bl
        have bg := G.fv.bg
        obtain ⟨τ3, ut, K⟩ := m_take (B := B) MT2 Q2.dd T' ⟨h9, by omega⟩ (by rw [oM 270 (by omega) (by omega)]; exact bl) (by rw [oM 271 (by omega) (by omega)]; exact bg) Q2.nn3.2.1 (fun k k0 k1 => (Q2.np.2 k k0 k1).1)
        rw [oM 270 (by omega) (by omega), oM 271 (by omega) (by omega)] at K
        have uK := parK_S sh Q2.mt.fl ut ((K.jj 11 (by omega)).trans (MT2.q11)) K.tl
        have e2' : tkT d2 t 2 = d2 2 := tk_in (by omega) (by omega)
        rw [e2'] at uK
        have n2 := Q2.tv.n2
        have G3 := GR.pars G hq.symm S4 M2 K T' VC4 FC4
        refine ⟨0, d2 2, s4, d2 2, τ3, hL, u2.trans uK, ?_, by omega, by omega, fun _ => ⟨?_, rfl, iR_t (by omega) (by omega)⟩, q, tkT d2 t, G3.mono (by omega) (by omega)⟩
        · rw [K.jj 0 (by omega)]; exact M2.z0
        · rw [K.oo 278 (by omega) (by omega) (by omega) (by omega) (by omega), M2.oo 278 (by omega) (by omega) (by omega)]; exact v4
      · exfalso
        rw [r] at r2
        have := (Prod.mk.inj (Option.some.inj r2)).1
        omega
    · have hL := c_parF G ha c.1 c.2 hq.symm F r (by omega) (by omega)
      have rv : iR (-2 - (8 * σ' 1 7 + σ' 1 8)) = true := iR_t (by omega) (by omega)
      generalize hv : -2 - (8 * σ' 1 7 + σ' 1 8) = v at *
      have o3 : ∀ o, o ≠ 1 → (o < q ∨ q + 9 < o) → (o < 13 ∨ 15 < o) → o ≠ 278 → wr (wr σ' 1 1 0) 278 0 v o = σ o := fun o h1 h2 h3 h4 => by
        rw [wr_o h4, wr_o h1]; exact F.oo o h1 h2 h3
      have PT3 : PT σ (wr (wr σ' 1 1 0) 278 0 v) a := by
        unfold PT at PT0 ⊢
        rw [o3 265 (by omega) (by omega) (by omega) (by omega), o3 266 (by omega) (by omega) (by omega) (by omega)]
        exact PT0
      rcases G_read G c.1 c.2 hq.symm PT3 with ⟨σ2, τ2, e2, d2, r2, _⟩ | ⟨σ2, τ2, r2, u2, F2, M2, l1, l2, l3, l4⟩
      · exfalso
        rw [r] at r2
        have := (Prod.mk.inj (Option.some.inj r2)).1
        omega
      · have es : σ2 = σ' := by
          rw [r] at r2
          exact ((Prod.mk.inj (Option.some.inj r2)).2).symm
        subst es
        refine ⟨0, v, _, _, τ2, hL, u2.trans (parK_F sh l1), M2.z0, by omega, by omega, fun _ => ⟨?_, by omega, rv⟩, p, t, GR.mono (GR.rdr G hq.symm (fun o h1 h2 h3 h4 h5 h6 h7 => ?_) (fun j h1 h2 => ?_) (fun j h1 => ?_) (fun j h1 h2 => ?_) ?_ M2.z2) (by omega) (by omega)⟩
        · rw [M2.oo 278 (by omega) (by omega) (by omega)]; exact wr_s
        · rw [M2.oo o h4 h5 h6]; exact o3 o h1 h2 h3 h7
        · rw [M2.oo 1 (by omega) (by omega) (by omega), wr_n (by omega), wr_i (by omega)]; exact F.jj j (by omega) h2
        · rw [M2.oo q (by omega) (by omega) (by omega), wr_n (by omega), wr_n (by omega)]; exact F.qq j h1
        · rw [M2.jj j h1 h2, o3 265 (by omega) (by omega) (by omega) (by omega)]
        · rw [M2.oo 1 (by omega) (by omega) (by omega), wr_n (by omega), wr_s]
  · refine (RdOk.ch (RdOk.ex (c := 1) (v := 0) ?_ ?_ (by omega) (by omega)) G (by omega) (by omega)).toE
    · have x0 := G.x0
      have b1 : iR (σ 1 1) = true := iR_t (by omega) (by omega)
      by_cases r1 : a < 0
      · simp (disch := first | omega | assumption) only [fL_parse, trc, fX7_parse, ↓z_lt, ↓z_ge, ↓z_gt, ↓z_le, ↓z_eq, ↓z_ne, ↓z_mx, ↓z_mn, ↓z_dv, ↓z_rm, ↓z_i2l, ↓z_lc, ↓z_sw, ↓z_sf, ↓z_sn, ↓z_bd, ↓z_nt, z_b0, z_b1, z_bi, z_bj, ↓z_gF, ↓z_gR, ↓z_pF, ↓z_pZ, ↓z_pR, ↓z_aI, ↓z_aR, ↓z_sI, ↓z_sZ, ↓z_on, z_cl, ↓reduceIte, Int.reduceEq, Int.reduceNeg, Int.reduceLT, Int.reduceLE, Int.reduceAdd, Int.reduceSub, Int.reduceMul, true_and, and_true, or_true, true_or, eq_self, iR_t, sO0 sh, n02, n12, n10, r1, ha]
      · have r2 : ¬ (a ≤ σ 1 1) := by omega
        simp (disch := first | omega | assumption) only [fL_parse, trc, fX7_parse, ↓z_lt, ↓z_ge, ↓z_gt, ↓z_le, ↓z_eq, ↓z_ne, ↓z_mx, ↓z_mn, ↓z_dv, ↓z_rm, ↓z_i2l, ↓z_lc, ↓z_sw, ↓z_sf, ↓z_sn, ↓z_bd, ↓z_nt, z_b0, z_b1, z_bi, z_bj, ↓z_gF, ↓z_gR, ↓z_pF, ↓z_pZ, ↓z_pR, ↓z_aI, ↓z_aR, ↓z_sI, ↓z_sZ, ↓z_on, z_cl, ↓reduceIte, Int.reduceEq, Int.reduceNeg, Int.reduceLT, Int.reduceLE, Int.reduceAdd, Int.reduceSub, Int.reduceMul, true_and, and_true, or_true, true_or, eq_self, iR_t, sO0 sh, sO1 sh, n02, n12, n10, x0, r1, r2, ha, b1]
    · have b2 : iR (σ 265 2) = true := iR_t (by omega) (by omega)
      have hr0 : iR 0 = true := rfl
      have w2 : wr σ 265 0 0 265 2 = σ 265 2 := wr_i (by omega)
      have hw : ¬ (0 ≤ a ∧ a ≤ σ 265 2) := by omega
      have id2 : st2 (wr σ 265 0 1) (σ 270) (σ 271) = wr σ 265 0 1 := (st2_w (by omega) (by omega)).symm
      rw [st2_id, id2]
      show fX8_parse P σ 265 a = _
      have ef : fX8_fail0 P (wr σ 265 0 0) 265 1 = some (0, wr σ 265 0 1) := by
        simp (disch := first | omega | assumption) only [fX8_fail0, ↓z_lt, ↓z_ge, ↓z_gt, ↓z_le, ↓z_eq, ↓z_ne, ↓z_mx, ↓z_mn, ↓z_dv, ↓z_rm, ↓z_i2l, ↓z_lc, ↓z_sw, ↓z_sf, ↓z_sn, ↓z_bd, ↓z_nt, z_b0, z_b1, z_bi, z_bj, ↓z_gF, ↓z_gR, ↓z_pF, ↓z_pZ, ↓z_pR, ↓z_aI, ↓z_aR, ↓z_sI, ↓z_sZ, ↓z_on, z_cl, ↓reduceIte, Int.reduceEq, Int.reduceNeg, Int.reduceLT, Int.reduceLE, Int.reduceAdd, Int.reduceSub, Int.reduceMul, true_and, and_true, or_true, true_or, eq_self, sO265 sh, wr_wr]
      simp (disch := first | omega | assumption) only [par_eq, ↓z_lt, ↓z_ge, ↓z_gt, ↓z_le, ↓z_eq, ↓z_ne, ↓z_mx, ↓z_mn, ↓z_dv, ↓z_rm, ↓z_i2l, ↓z_lc, ↓z_sw, ↓z_sf, ↓z_sn, ↓z_bd, ↓z_nt, z_b0, z_b1, z_bi, z_bj, ↓z_gF, ↓z_gR, ↓z_pF, ↓z_pZ, ↓z_pR, ↓z_aI, ↓z_aR, ↓z_sI, ↓z_sZ, ↓z_on, z_cl, ↓reduceIte, Int.reduceEq, Int.reduceNeg, Int.reduceLT, Int.reduceLE, Int.reduceAdd, Int.reduceSub, Int.reduceMul, true_and, and_true, or_true, true_or, eq_self, iR_t, sO265 sh, w2, ↓m_within', ha, b2, hr0, hw, ↓e_cl ef]
theorem fc1_ok (hn : n < 512) (hR : RR P n s) (i0 : 0 ≤ i) (i1 : i + 6 ≤ (L : Int)) (hk : ∀ s', RR P (n + 1) s' → kE s' = some ()) : fc_1 P L xs s 0 265 278 i kE = some () := by
  obtain ⟨p, t, G⟩ := hR
  have sh := G.cr.sh
  have H : ChE P (100000 + 200000 * ((n + 1 : Nat) : Int)) s (fL_parse P s 0 (sc xs (i + 1)) 278) (fun s => fX8_parse P s 265 (sc xs (i + 1))) := by
    have := rd_parse (a := sc xs (i + 1)) G (by omega) (by omega) sc_iR
    rw [show 100000 + 200000 * ((n + 1 : Nat) : Int) = 100000 + 200000 * (n : Int) + 200000 by push_cast; omega]
    exact this
  obtain ⟨e, v, s3, v', s8, h1, h2, h3, h4, h5, h6, h7⟩ := H
  unfold fc_1
  rw [aS_i (j := i + 1) (by omega) (by omega)]
  rw [e_cl h1]
  dsimp only
  rw [aS_i (j := i + 1) (by omega) (by omega)]
  rw [z_on, if_pos (sO265 sh), e_cl h2]
  exact tailW sh h3 h4 h5 h6 (hk s8 h7)
end ZZA7
