/-! A STATEMENT on both sides. -/
noncomputable def tailC (P : Shp) (x : Int) (s : St) : Option (Int × St) :=
  jeq x 0
    (bz 0 (some ((0 : Int), s)))
    (
      onO P 5 1 <| cl (fX5_takeSemicolon P s 1) fun (x12, s13) =>
      jeq x12 0
        (bz 0 (some ((0 : Int), s13)))
        (bz 1 (some ((1 : Int), s13))))
noncomputable def tailM (P : Shp) (s2 : St) : Option St :=
  gF P 8 s2 265 6 fun x3 =>
  jnt
    (fun x4 =>
      onO P 8 265 <| cl (fX8_must P s2 265 x4 1) fun (x6, s7) =>
      jeq x6 0
        (some s7)
        (
          onO P 8 265 <| cl (fX8_nextToken P s7 265) fun s8 =>
          some s8))
    fun k85 =>
  jne x3 3
    (k85 0)
    (k85 1)
def SN (P : Shp) (σ τ : St) (f : Int → Int) (N e q : Int) (FC : Option (Int × St)) (FM : Option St) : Prop :=
  (∃ σ' τ' e' d', FC = some (1, σ') ∧ FM = some τ' ∧ QQ P σ' τ' f N e' q d' ∧ CFr q σ σ' ∧ MFr τ τ' ∧ e < e') ∨ (∃ σ' τ', FC = some (0, σ') ∧ FM = some τ' ∧ BAD q σ τ σ' τ')
section ZZZ
variable {P : Shp} {σ σ' σ0 σ1 σ2 s τ τ' τ0 τ1 τ2 : St} {f g h B B' d d' : Int → Int} {a b c e e' k i x y z v v' w N q L kd cnt h1 s1 p o n : Int}
theorem tailM_F (sh : ShpIs P 279 PL) (h : BAD q σ τ σ' τ') : tailM P τ' = some τ' := by
  have k1 := h.k1
  have k5 := h.k5
  have n8 : ¬ (τ' 265 8 = 0) := by omega
  have r8 : iR (τ' 265 8) = true := iR_t (by omega) (by omega)
  by_cases c : τ' 265 6 = 3
  · simp (disch := first | omega | assumption) only [tailM, ↓z_lt, ↓z_ge, ↓z_gt, ↓z_le, ↓z_eq, ↓z_ne, ↓z_mx, ↓z_mn, ↓z_dv, ↓z_rm, ↓z_i2l, ↓z_lc, ↓z_sw, ↓z_sf, ↓z_sn, ↓z_bd, ↓z_nt, z_b0, z_b1, z_bi, z_bj, ↓z_gF, ↓z_gR, ↓z_pF, ↓z_pZ, ↓z_pR, ↓z_aI, ↓z_aR, ↓z_sI, ↓z_sZ, ↓z_on, z_cl, ↓reduceIte, Int.reduceEq, Int.reduceNeg, Int.reduceLT, Int.reduceLE, Int.reduceAdd, Int.reduceSub, Int.reduceMul, true_and, and_true, or_true, true_or, eq_self, iR_t, sO265 sh, c, ↓f_must' sh n8 r8]
  · simp (disch := first | omega | assumption) only [tailM, ↓z_lt, ↓z_ge, ↓z_gt, ↓z_le, ↓z_eq, ↓z_ne, ↓z_mx, ↓z_mn, ↓z_dv, ↓z_rm, ↓z_i2l, ↓z_lc, ↓z_sw, ↓z_sf, ↓z_sn, ↓z_bd, ↓z_nt, z_b0, z_b1, z_bi, z_bj, ↓z_gF, ↓z_gR, ↓z_pF, ↓z_pZ, ↓z_pR, ↓z_aI, ↓z_aR, ↓z_sI, ↓z_sZ, ↓z_on, z_cl, ↓reduceIte, Int.reduceEq, Int.reduceNeg, Int.reduceLT, Int.reduceLE, Int.reduceAdd, Int.reduceSub, Int.reduceMul, true_and, and_true, or_true, true_or, eq_self, iR_t, sO265 sh, c, ↓f_must' sh n8 r8]
theorem sim_tail (hq : q = 3 ∨ q = 17) (Q : QQ P σ τ f N e q d) (ht : ¬ (tT f N e = 0)) {FC : Option (Int × St)} {FM : Option St} (h : PN P σ τ f N q FC FM) : ∃ x σ1 τ1, FC = some (x, σ1) ∧ (x = 0 ∨ x = 1) ∧ FM = some τ1 ∧ SN P σ τ f N e q (tailC P x σ1) (tailM P τ1) := by
  have sh := Q.ct.rb.sh
  rcases h with (⟨σ1, τ1, e1, d1, hC, hM, Q1, F1, G1⟩ | ⟨σ1, τ1, hC, hM, hB⟩) | ⟨σ1, τ1, e1, hC, hM, C1, t1, hB⟩
  · refine ⟨1, σ1, τ1, hC, Or.inr rfl, hM, ?_⟩
    have tt := Q1.mt.tt
    have hT := tT_in (f := f) (N := N) (e := e1)
    by_cases c : tT f N e1 = 3
    · left
      obtain ⟨σ2, r2, C2, o2, j2⟩ := c_semi Q1.ct c
      obtain ⟨τ2, u2, M2, p2, l2⟩ := m_nxt Q1.mt
      have pos : e < tE f N e1 := by
        have ps := F1.ps
        rw [Q.ct.ee, Q1.ct.ee] at ps
        have ti := tok_in (f := f) Q.ct.e0 Q.ct.e1
        have : tS f N e < N := by
          by_cases y : tS f N e < N
          · exact y
          · exfalso; apply ht; unfold tT; rw [if_neg y]
        have := ti.2.2.2 this
        omega
      rw [c] at tt
      refine ⟨σ2, τ2, tE f N e1, d1, ?_, ?_, Q1.tok C2 M2 o2 j2 p2 l2, F1.tr (CFr.ad o2 j2 hq (Q1.ct.le C2)), G1.tr (MFr.ad p2 l2), pos⟩
      · simp (disch := first | omega | assumption) only [tailC, ↓z_lt, ↓z_ge, ↓z_gt, ↓z_le, ↓z_eq, ↓z_ne, ↓z_mx, ↓z_mn, ↓z_dv, ↓z_rm, ↓z_i2l, ↓z_lc, ↓z_sw, ↓z_sf, ↓z_sn, ↓z_bd, ↓z_nt, z_b0, z_b1, z_bi, z_bj, ↓z_gF, ↓z_gR, ↓z_pF, ↓z_pZ, ↓z_pR, ↓z_aI, ↓z_aR, ↓z_sI, ↓z_sZ, ↓z_on, z_cl, ↓reduceIte, Int.reduceEq, Int.reduceNeg, Int.reduceLT, Int.reduceLE, Int.reduceAdd, Int.reduceSub, Int.reduceMul, true_and, and_true, or_true, true_or, eq_self, iR_t, sO1 sh, ↓e_cl r2]
      · simp (disch := first | omega | assumption) only [tailM, ↓z_lt, ↓z_ge, ↓z_gt, ↓z_le, ↓z_eq, ↓z_ne, ↓z_mx, ↓z_mn, ↓z_dv, ↓z_rm, ↓z_i2l, ↓z_lc, ↓z_sw, ↓z_sf, ↓z_sn, ↓z_bd, ↓z_nt, z_b0, z_b1, z_bi, z_bj, ↓z_gF, ↓z_gR, ↓z_pF, ↓z_pZ, ↓z_pR, ↓z_aI, ↓z_aR, ↓z_sI, ↓z_sZ, ↓z_on, z_cl, ↓reduceIte, Int.reduceEq, Int.reduceNeg, Int.reduceLT, Int.reduceLE, Int.reduceAdd, Int.reduceSub, Int.reduceMul, true_and, and_true, or_true, true_or, eq_self, iR_t, sO265 sh, tt, ↓m_must1' Q1.mt, ↓e_cl u2]
    · right
      generalize htt : tT f N e1 = t at *
      have c' : ¬ (tT f N e1 = 3) := by omega
      refine ⟨clt σ1 1, mlt τ1 1, ?_, ?_, BAD.flt hq Q1.ct Q1.mt F1 G1 (by omega)⟩
      · simp (disch := first | omega | assumption) only [tailC, ↓z_lt, ↓z_ge, ↓z_gt, ↓z_le, ↓z_eq, ↓z_ne, ↓z_mx, ↓z_mn, ↓z_dv, ↓z_rm, ↓z_i2l, ↓z_lc, ↓z_sw, ↓z_sf, ↓z_sn, ↓z_bd, ↓z_nt, z_b0, z_b1, z_bi, z_bj, ↓z_gF, ↓z_gR, ↓z_pF, ↓z_pZ, ↓z_pR, ↓z_aI, ↓z_aR, ↓z_sI, ↓z_sZ, ↓z_on, z_cl, ↓reduceIte, Int.reduceEq, Int.reduceNeg, Int.reduceLT, Int.reduceLE, Int.reduceAdd, Int.reduceSub, Int.reduceMul, true_and, and_true, or_true, true_or, eq_self, iR_t, sO1 sh, ↓c_semiS' Q1.ct c']
      · simp (disch := first | omega | assumption) only [tailM, ↓z_lt, ↓z_ge, ↓z_gt, ↓z_le, ↓z_eq, ↓z_ne, ↓z_mx, ↓z_mn, ↓z_dv, ↓z_rm, ↓z_i2l, ↓z_lc, ↓z_sw, ↓z_sf, ↓z_sn, ↓z_bd, ↓z_nt, z_b0, z_b1, z_bi, z_bj, ↓z_gF, ↓z_gR, ↓z_pF, ↓z_pZ, ↓z_pR, ↓z_aI, ↓z_aR, ↓z_sI, ↓z_sZ, ↓z_on, z_cl, ↓reduceIte, Int.reduceEq, Int.reduceNeg, Int.reduceLT, Int.reduceLE, Int.reduceAdd, Int.reduceSub, Int.reduceMul, true_and, and_true, or_true, true_or, eq_self, iR_t, sO265 sh, tt, c, ↓m_must0' Q1.mt]
  · refine ⟨0, σ1, τ1, hC, Or.inl rfl, hM, Or.inr ⟨σ1, τ1, ?_, tailM_F sh hB, hB⟩⟩
    simp (disch := first | omega | assumption) only [tailC, ↓z_lt, ↓z_ge, ↓z_gt, ↓z_le, ↓z_eq, ↓z_ne, ↓z_mx, ↓z_mn, ↓z_dv, ↓z_rm, ↓z_i2l, ↓z_lc, ↓z_sw, ↓z_sf, ↓z_sn, ↓z_bd, ↓z_nt, z_b0, z_b1, z_bi, z_bj, ↓z_gF, ↓z_gR, ↓z_pF, ↓z_pZ, ↓z_pR, ↓z_aI, ↓z_aR, ↓z_sI, ↓z_sZ, ↓z_on, z_cl, ↓reduceIte, Int.reduceEq, Int.reduceNeg, Int.reduceLT, Int.reduceLE, Int.reduceAdd, Int.reduceSub, Int.reduceMul, true_and, and_true, or_true, true_or, eq_self, iR_t]
  · refine ⟨1, σ1, τ1, hC, Or.inr rfl, hM, Or.inr ⟨clt σ1 1, τ1, ?_, tailM_F sh hB, hB⟩⟩
    have c' : ¬ (tT f N e1 = 3) := by omega
    simp (disch := first | omega | assumption) only [tailC, ↓z_lt, ↓z_ge, ↓z_gt, ↓z_le, ↓z_eq, ↓z_ne, ↓z_mx, ↓z_mn, ↓z_dv, ↓z_rm, ↓z_i2l, ↓z_lc, ↓z_sw, ↓z_sf, ↓z_sn, ↓z_bd, ↓z_nt, z_b0, z_b1, z_bi, z_bj, ↓z_gF, ↓z_gR, ↓z_pF, ↓z_pZ, ↓z_pR, ↓z_aI, ↓z_aR, ↓z_sI, ↓z_sZ, ↓z_on, z_cl, ↓reduceIte, Int.reduceEq, Int.reduceNeg, Int.reduceLT, Int.reduceLE, Int.reduceAdd, Int.reduceSub, Int.reduceMul, true_and, and_true, or_true, true_or, eq_self, iR_t, sO1 sh, ↓c_semiS' C1 c']
theorem sim_stmt (Q : QQ P σ τ f N e q d) (ht : ¬ (tT f N e = 0)) : SN P σ τ f N e q (fX5_readStatement P σ 1) (fX8_statement P τ 265) := by
  have hq := Q.pr.hp
  have sh := Q.ct.rb.sh
  have w3 := c_isWord Q.ct (z := -3) (by omega)
  have w4 := c_isWord Q.ct (z := -4) (by omega)
  have w5 := c_isWord Q.ct (z := -5) (by omega)
  have w6 := c_isWord Q.ct (z := -6) (by omega)
  have m3 := m_isWord Q.mt (z := -3) (by omega)
  have m4 := m_isWord Q.mt (z := -4) (by omega)
  have m5 := m_isWord Q.mt (z := -5) (by omega)
  have m6 := m_isWord Q.mt (z := -6) (by omega)
  by_cases c3 : wdB f N e (-3) = true
  · rw [if_pos c3] at w3 m3
    obtain ⟨x, σ1, τ1, hC, hx, hM, S⟩ := sim_tail hq Q ht (sim_pattern Q)
    have eC : fX5_readStatement P σ 1 = tailC P x σ1 := by
      rcases hx with rfl | rfl
      · simp (disch := first | omega | assumption) only [fX5_readStatement, tailC, ↓z_lt, ↓z_ge, ↓z_gt, ↓z_le, ↓z_eq, ↓z_ne, ↓z_mx, ↓z_mn, ↓z_dv, ↓z_rm, ↓z_i2l, ↓z_lc, ↓z_sw, ↓z_sf, ↓z_sn, ↓z_bd, ↓z_nt, z_b0, z_b1, z_bi, z_bj, ↓z_gF, ↓z_gR, ↓z_pF, ↓z_pZ, ↓z_pR, ↓z_aI, ↓z_aR, ↓z_sI, ↓z_sZ, ↓z_on, z_cl, ↓reduceIte, Int.reduceEq, Int.reduceNeg, Int.reduceLT, Int.reduceLE, Int.reduceAdd, Int.reduceSub, Int.reduceMul, true_and, and_true, or_true, true_or, eq_self, iR_t, sO1 sh, ↓e_cl w3, ↓e_cl hC]
      · simp (disch := first | omega | assumption) only [fX5_readStatement, tailC, ↓z_lt, ↓z_ge, ↓z_gt, ↓z_le, ↓z_eq, ↓z_ne, ↓z_mx, ↓z_mn, ↓z_dv, ↓z_rm, ↓z_i2l, ↓z_lc, ↓z_sw, ↓z_sf, ↓z_sn, ↓z_bd, ↓z_nt, z_b0, z_b1, z_bi, z_bj, ↓z_gF, ↓z_gR, ↓z_pF, ↓z_pZ, ↓z_pR, ↓z_aI, ↓z_aR, ↓z_sI, ↓z_sZ, ↓z_on, z_cl, ↓reduceIte, Int.reduceEq, Int.reduceNeg, Int.reduceLT, Int.reduceLE, Int.reduceAdd, Int.reduceSub, Int.reduceMul, true_and, and_true, or_true, true_or, eq_self, iR_t, sO1 sh, ↓e_cl w3, ↓e_cl hC]
    have eM : fX8_statement P τ 265 = tailM P τ1 := by
      simp (disch := first | omega | assumption) only [fX8_statement, tailM, ↓z_lt, ↓z_ge, ↓z_gt, ↓z_le, ↓z_eq, ↓z_ne, ↓z_mx, ↓z_mn, ↓z_dv, ↓z_rm, ↓z_i2l, ↓z_lc, ↓z_sw, ↓z_sf, ↓z_sn, ↓z_bd, ↓z_nt, z_b0, z_b1, z_bi, z_bj, ↓z_gF, ↓z_gR, ↓z_pF, ↓z_pZ, ↓z_pR, ↓z_aI, ↓z_aR, ↓z_sI, ↓z_sZ, ↓z_on, z_cl, ↓reduceIte, Int.reduceEq, Int.reduceNeg, Int.reduceLT, Int.reduceLE, Int.reduceAdd, Int.reduceSub, Int.reduceMul, true_and, and_true, or_true, true_or, eq_self, iR_t, sO265 sh, ↓e_cl m3, ↓e_cl hM]
    rw [eC, eM]; exact S
  · rw [if_neg c3] at w3 m3
    by_cases c4 : wdB f N e (-4) = true
    · rw [if_pos c4] at w4 m4
      obtain ⟨x, σ1, τ1, hC, hx, hM, S⟩ := sim_tail hq Q ht (Or.inl (sim_device Q))
      have eC : fX5_readStatement P σ 1 = tailC P x σ1 := by
        rcases hx with rfl | rfl
        · simp (disch := first | omega | assumption) only [fX5_readStatement, tailC, ↓z_lt, ↓z_ge, ↓z_gt, ↓z_le, ↓z_eq, ↓z_ne, ↓z_mx, ↓z_mn, ↓z_dv, ↓z_rm, ↓z_i2l, ↓z_lc, ↓z_sw, ↓z_sf, ↓z_sn, ↓z_bd, ↓z_nt, z_b0, z_b1, z_bi, z_bj, ↓z_gF, ↓z_gR, ↓z_pF, ↓z_pZ, ↓z_pR, ↓z_aI, ↓z_aR, ↓z_sI, ↓z_sZ, ↓z_on, z_cl, ↓reduceIte, Int.reduceEq, Int.reduceNeg, Int.reduceLT, Int.reduceLE, Int.reduceAdd, Int.reduceSub, Int.reduceMul, true_and, and_true, or_true, true_or, eq_self, iR_t, sO1 sh, ↓e_cl w3, ↓e_cl w4, ↓e_cl hC]
        · simp (disch := first | omega | assumption) only [fX5_readStatement, tailC, ↓z_lt, ↓z_ge, ↓z_gt, ↓z_le, ↓z_eq, ↓z_ne, ↓z_mx, ↓z_mn, ↓z_dv, ↓z_rm, ↓z_i2l, ↓z_lc, ↓z_sw, ↓z_sf, ↓z_sn, ↓z_bd, ↓z_nt, z_b0, z_b1, z_bi, z_bj, ↓z_gF, ↓z_gR, ↓z_pF, ↓z_pZ, ↓z_pR, ↓z_aI, ↓z_aR, ↓z_sI, ↓z_sZ, ↓z_on, z_cl, ↓reduceIte, Int.reduceEq, Int.reduceNeg, Int.reduceLT, Int.reduceLE, Int.reduceAdd, Int.reduceSub, Int.reduceMul, true_and, and_true, or_true, true_or, eq_self, iR_t, sO1 sh, ↓e_cl w3, ↓e_cl w4, ↓e_cl hC]
      have eM : fX8_statement P τ 265 = tailM P τ1 := by
        simp (disch := first | omega | assumption) only [fX8_statement, tailM, ↓z_lt, ↓z_ge, ↓z_gt, ↓z_le, ↓z_eq, ↓z_ne, ↓z_mx, ↓z_mn, ↓z_dv, ↓z_rm, ↓z_i2l, ↓z_lc, ↓z_sw, ↓z_sf, ↓z_sn, ↓z_bd, ↓z_nt, z_b0, z_b1, z_bi, z_bj, ↓z_gF, ↓z_gR, ↓z_pF, ↓z_pZ, ↓z_pR, ↓z_aI, ↓z_aR, ↓z_sI, ↓z_sZ, ↓z_on, z_cl, ↓reduceIte, Int.reduceEq, Int.reduceNeg, Int.reduceLT, Int.reduceLE, Int.reduceAdd, Int.reduceSub, Int.reduceMul, true_and, and_true, or_true, true_or, eq_self, iR_t, sO265 sh, ↓e_cl m3, ↓e_cl m4, ↓e_cl hM]
      rw [eC, eM]; exact S
    · rw [if_neg c4] at w4 m4
      by_cases c5 : wdB f N e (-5) = true
      · rw [if_pos c5] at w5 m5
        obtain ⟨x, σ1, τ1, hC, hx, hM, S⟩ := sim_tail hq Q ht (Or.inl (sim_stream Q))
        have eC : fX5_readStatement P σ 1 = tailC P x σ1 := by
          rcases hx with rfl | rfl
          · simp (disch := first | omega | assumption) only [fX5_readStatement, tailC, ↓z_lt, ↓z_ge, ↓z_gt, ↓z_le, ↓z_eq, ↓z_ne, ↓z_mx, ↓z_mn, ↓z_dv, ↓z_rm, ↓z_i2l, ↓z_lc, ↓z_sw, ↓z_sf, ↓z_sn, ↓z_bd, ↓z_nt, z_b0, z_b1, z_bi, z_bj, ↓z_gF, ↓z_gR, ↓z_pF, ↓z_pZ, ↓z_pR, ↓z_aI, ↓z_aR, ↓z_sI, ↓z_sZ, ↓z_on, z_cl, ↓reduceIte, Int.reduceEq, Int.reduceNeg, Int.reduceLT, Int.reduceLE, Int.reduceAdd, Int.reduceSub, Int.reduceMul, true_and, and_true, or_true, true_or, eq_self, iR_t, sO1 sh, ↓e_cl w3, ↓e_cl w4, ↓e_cl w5, ↓e_cl hC]
          · simp (disch := first | omega | assumption) only [fX5_readStatement, tailC, ↓z_lt, ↓z_ge, ↓z_gt, ↓z_le, ↓z_eq, ↓z_ne, ↓z_mx, ↓z_mn, ↓z_dv, ↓z_rm, ↓z_i2l, ↓z_lc, ↓z_sw, ↓z_sf, ↓z_sn, ↓z_bd, ↓z_nt, z_b0, z_b1, z_bi, z_bj, ↓z_gF, ↓z_gR, ↓z_pF, ↓z_pZ, ↓z_pR, ↓z_aI, ↓z_aR, ↓z_sI, ↓z_sZ, ↓z_on, z_cl, ↓reduceIte, Int.reduceEq, Int.reduceNeg, Int.reduceLT, Int.reduceLE, Int.reduceAdd, Int.reduceSub, Int.reduceMul, true_and, and_true, or_true, true_or, eq_self, iR_t, sO1 sh, ↓e_cl w3, ↓e_cl w4, ↓e_cl w5, ↓e_cl hC]
        have eM : fX8_statement P τ 265 = tailM P τ1 := by
          simp (disch := first | omega | assumption) only [fX8_statement, tailM, ↓z_lt, ↓z_ge, ↓z_gt, ↓z_le, ↓z_eq, ↓z_ne, ↓z_mx, ↓z_mn, ↓z_dv, ↓z_rm, ↓z_i2l, ↓z_lc, ↓z_sw, ↓z_sf, ↓z_sn, ↓z_bd, ↓z_nt, z_b0, z_b1, z_bi, z_bj, ↓z_gF, ↓z_gR, ↓z_pF, ↓z_pZ, ↓z_pR, ↓z_aI, ↓z_aR, ↓z_sI, ↓z_sZ, ↓z_on, z_cl, ↓reduceIte, Int.reduceEq, Int.reduceNeg, Int.reduceLT, Int.reduceLE, Int.reduceAdd, Int.reduceSub, Int.reduceMul, true_and, and_true, or_true, true_or, eq_self, iR_t, sO265 sh, ↓e_cl m3, ↓e_cl m4, ↓e_cl m5, ↓e_cl hM]
        rw [eC, eM]; exact S
      · rw [if_neg c5] at w5 m5
        by_cases c6 : wdB f N e (-6) = true
        · rw [if_pos c6] at w6 m6
          obtain ⟨x, σ1, τ1, hC, hx, hM, S⟩ := sim_tail hq Q ht (Or.inl (sim_alarm Q))
          have eC : fX5_readStatement P σ 1 = tailC P x σ1 := by
            rcases hx with rfl | rfl
            · simp (disch := first | omega | assumption) only [fX5_readStatement, tailC, ↓z_lt, ↓z_ge, ↓z_gt, ↓z_le, ↓z_eq, ↓z_ne, ↓z_mx, ↓z_mn, ↓z_dv, ↓z_rm, ↓z_i2l, ↓z_lc, ↓z_sw, ↓z_sf, ↓z_sn, ↓z_bd, ↓z_nt, z_b0, z_b1, z_bi, z_bj, ↓z_gF, ↓z_gR, ↓z_pF, ↓z_pZ, ↓z_pR, ↓z_aI, ↓z_aR, ↓z_sI, ↓z_sZ, ↓z_on, z_cl, ↓reduceIte, Int.reduceEq, Int.reduceNeg, Int.reduceLT, Int.reduceLE, Int.reduceAdd, Int.reduceSub, Int.reduceMul, true_and, and_true, or_true, true_or, eq_self, iR_t, sO1 sh, ↓e_cl w3, ↓e_cl w4, ↓e_cl w5, ↓e_cl w6, ↓e_cl hC]
            · simp (disch := first | omega | assumption) only [fX5_readStatement, tailC, ↓z_lt, ↓z_ge, ↓z_gt, ↓z_le, ↓z_eq, ↓z_ne, ↓z_mx, ↓z_mn, ↓z_dv, ↓z_rm, ↓z_i2l, ↓z_lc, ↓z_sw, ↓z_sf, ↓z_sn, ↓z_bd, ↓z_nt, z_b0, z_b1, z_bi, z_bj, ↓z_gF, ↓z_gR, ↓z_pF, ↓z_pZ, ↓z_pR, ↓z_aI, ↓z_aR, ↓z_sI, ↓z_sZ, ↓z_on, z_cl, ↓reduceIte, Int.reduceEq, Int.reduceNeg, Int.reduceLT, Int.reduceLE, Int.reduceAdd, Int.reduceSub, Int.reduceMul, true_and, and_true, or_true, true_or, eq_self, iR_t, sO1 sh, ↓e_cl w3, ↓e_cl w4, ↓e_cl w5, ↓e_cl w6, ↓e_cl hC]
          have eM : fX8_statement P τ 265 = tailM P τ1 := by
            simp (disch := first | omega | assumption) only [fX8_statement, tailM, ↓z_lt, ↓z_ge, ↓z_gt, ↓z_le, ↓z_eq, ↓z_ne, ↓z_mx, ↓z_mn, ↓z_dv, ↓z_rm, ↓z_i2l, ↓z_lc, ↓z_sw, ↓z_sf, ↓z_sn, ↓z_bd, ↓z_nt, z_b0, z_b1, z_bi, z_bj, ↓z_gF, ↓z_gR, ↓z_pF, ↓z_pZ, ↓z_pR, ↓z_aI, ↓z_aR, ↓z_sI, ↓z_sZ, ↓z_on, z_cl, ↓reduceIte, Int.reduceEq, Int.reduceNeg, Int.reduceLT, Int.reduceLE, Int.reduceAdd, Int.reduceSub, Int.reduceMul, true_and, and_true, or_true, true_or, eq_self, iR_t, sO265 sh, ↓e_cl m3, ↓e_cl m4, ↓e_cl m5, ↓e_cl m6, ↓e_cl hM]
          rw [eC, eM]; exact S
        · rw [if_neg c6] at w6 m6
          right
          have B := BAD.flt (k := 1) hq Q.ct Q.mt CFr.rf MFr.rf (by omega)
          have T := tailM_F sh B
          refine ⟨clt σ 1, mlt τ 1, ?_, ?_, B⟩
          · simp (disch := first | omega | assumption) only [fX5_readStatement, ↓z_lt, ↓z_ge, ↓z_gt, ↓z_le, ↓z_eq, ↓z_ne, ↓z_mx, ↓z_mn, ↓z_dv, ↓z_rm, ↓z_i2l, ↓z_lc, ↓z_sw, ↓z_sf, ↓z_sn, ↓z_bd, ↓z_nt, z_b0, z_b1, z_bi, z_bj, ↓z_gF, ↓z_gR, ↓z_pF, ↓z_pZ, ↓z_pR, ↓z_aI, ↓z_aR, ↓z_sI, ↓z_sZ, ↓z_on, z_cl, ↓reduceIte, Int.reduceEq, Int.reduceNeg, Int.reduceLT, Int.reduceLE, Int.reduceAdd, Int.reduceSub, Int.reduceMul, true_and, and_true, or_true, true_or, eq_self, iR_t, sO1 sh, ↓e_cl w3, ↓e_cl w4, ↓e_cl w5, ↓e_cl w6, ↓c_fault' Q.ct]
          · rw [← T]
            simp (disch := first | omega | assumption) only [fX8_statement, tailM, ↓z_lt, ↓z_ge, ↓z_gt, ↓z_le, ↓z_eq, ↓z_ne, ↓z_mx, ↓z_mn, ↓z_dv, ↓z_rm, ↓z_i2l, ↓z_lc, ↓z_sw, ↓z_sf, ↓z_sn, ↓z_bd, ↓z_nt, z_b0, z_b1, z_bi, z_bj, ↓z_gF, ↓z_gR, ↓z_pF, ↓z_pZ, ↓z_pR, ↓z_aI, ↓z_aR, ↓z_sI, ↓z_sZ, ↓z_on, z_cl, ↓reduceIte, Int.reduceEq, Int.reduceNeg, Int.reduceLT, Int.reduceLE, Int.reduceAdd, Int.reduceSub, Int.reduceMul, true_and, and_true, or_true, true_or, eq_self, iR_t, sO265 sh, ↓e_cl m3, ↓e_cl m4, ↓e_cl m5, ↓e_cl m6, ↓m_must0' Q.mt]
end ZZZ
