/-! A KNOWN DEVICE on both sides. -/
section ZZO
variable {P : Shp} {σ σ' σ0 σ1 σ2 s τ τ' τ0 τ1 τ2 : St} {f g h B B' d d' : Int → Int} {a b c e e' k i j x y z v w N q L kd cnt h1 s1 : Int} {n m r : Nat}
def dvF (σ : St) (f : Int → Int) (N e cnt : Int) : Int := fdI (σ 14) (tV f N e) cnt
theorem dvF_in (Q : QQ P σ τ f N e q d) : (dvF σ f N e (d 1) = -1) ∨ (0 ≤ dvF σ f N e (d 1) ∧ dvF σ f N e (d 1) < d 1) := by
  have := fdI_in (h := σ 14) (v := tV f N e) (cnt := d 1) (Q.cn (a := 1) (by omega)).1
  unfold dvF
  omega
theorem c_ix (Q : QQ P σ τ f N e q d) (hw : tT f N e = 1) : fX5_indexOfWord P σ 1 14 (d 1) = some (dvF σ f N e (d 1)) := by
  have n1 := Q.tv.n1
  exact c_index Q.ct hw (kd := 1) (by omega) rfl n1.1 n1.2 Q.na1
theorem m_fx (Q : QQ P σ τ f N e q d) (hw : tT f N e = 1) : fX8_draftFind P τ 265 1 = some (dvF σ f N e (d 1)) := by
  have n1 := Q.tv.n1
  exact m_find Q.mt hw (kd := 1) (by omega) Q.m12 Q.m10 (Q.dd 1 (by omega) (by omega)) n1.1 n1.2 Q.na1
theorem c_kn1 (Q : QQ P σ τ f N e q d) (hw : tT f N e = 1) (hx : ¬ (dvF σ f N e (d 1) = -1)) : fX5_isKnownDevice P σ 1 = some (1, σ) := by
  have hq := Q.pr.hp
  have hq1 : ¬ (q = -1) := by omega
  have n1 := Q.tv.n1
  have hi := dvF_in Q
  have r := c_ix Q hw
  have t1 := Q.ct.tt
  have p9 := Q.pl
  have p12 := Q.n12
  have v5 := Q.pr.v5
  generalize dvF σ f N e (d 1) = D at *
  simp (disch := first | omega | assumption) only [fX5_isKnownDevice, ↓z_lt, ↓z_ge, ↓z_gt, ↓z_le, ↓z_eq, ↓z_ne, ↓z_mx, ↓z_mn, ↓z_dv, ↓z_rm, ↓z_i2l, ↓z_lc, ↓z_sw, ↓z_sf, ↓z_sn, ↓z_bd, ↓z_nt, z_b0, z_b1, z_bi, z_bj, ↓z_gF, ↓z_gR, ↓z_pF, ↓z_pZ, ↓z_pR, ↓z_aI, ↓z_aR, ↓z_sI, ↓z_sZ, ↓z_on, z_cl, ↓reduceIte, Int.reduceEq, Int.reduceNeg, Int.reduceLT, Int.reduceLE, Int.reduceAdd, Int.reduceSub, Int.reduceMul, true_and, and_true, or_true, true_or, eq_self, iR_t, sO1 Q.ct.rb.sh, t1, hw, p9, p12, pO Q.ct.rb.sh hq, hq1, v5, ↓e_cl r, hx]
theorem c_kn2 (Q : QQ P σ τ f N e q d) (hw : tT f N e = 1) (hx : dvF σ f N e (d 1) = -1) : fX5_isKnownDevice P σ 1 = some (0, clt σ 2) := by
  have hq := Q.pr.hp
  have hq1 : ¬ (q = -1) := by omega
  have n1 := Q.tv.n1
  have r := c_ix Q hw
  have t1 := Q.ct.tt
  have p9 := Q.pl
  have p12 := Q.n12
  have v5 := Q.pr.v5
  rw [hx] at r
  simp (disch := first | omega | assumption) only [fX5_isKnownDevice, ↓z_lt, ↓z_ge, ↓z_gt, ↓z_le, ↓z_eq, ↓z_ne, ↓z_mx, ↓z_mn, ↓z_dv, ↓z_rm, ↓z_i2l, ↓z_lc, ↓z_sw, ↓z_sf, ↓z_sn, ↓z_bd, ↓z_nt, z_b0, z_b1, z_bi, z_bj, ↓z_gF, ↓z_gR, ↓z_pF, ↓z_pZ, ↓z_pR, ↓z_aI, ↓z_aR, ↓z_sI, ↓z_sZ, ↓z_on, z_cl, ↓reduceIte, Int.reduceEq, Int.reduceNeg, Int.reduceLT, Int.reduceLE, Int.reduceAdd, Int.reduceSub, Int.reduceMul, true_and, and_true, or_true, true_or, eq_self, iR_t, sO1 Q.ct.rb.sh, t1, hw, p9, p12, pO Q.ct.rb.sh hq, hq1, v5, ↓e_cl r, ↓c_fault' Q.ct]
theorem c_kn0 (Q : QQ P σ τ f N e q d) (hw : ¬ (tT f N e = 1)) : fX5_isKnownDevice P σ 1 = some (0, clt σ 1) := by
  have t1 := Q.ct.tt
  have ht := tT_in (f := f) (N := N) (e := e)
  simp (disch := first | omega | assumption) only [fX5_isKnownDevice, ↓z_lt, ↓z_ge, ↓z_gt, ↓z_le, ↓z_eq, ↓z_ne, ↓z_mx, ↓z_mn, ↓z_dv, ↓z_rm, ↓z_i2l, ↓z_lc, ↓z_sw, ↓z_sf, ↓z_sn, ↓z_bd, ↓z_nt, z_b0, z_b1, z_bi, z_bj, ↓z_gF, ↓z_gR, ↓z_pF, ↓z_pZ, ↓z_pR, ↓z_aI, ↓z_aR, ↓z_sI, ↓z_sZ, ↓z_on, z_cl, ↓reduceIte, Int.reduceEq, Int.reduceNeg, Int.reduceLT, Int.reduceLE, Int.reduceAdd, Int.reduceSub, Int.reduceMul, true_and, and_true, or_true, true_or, eq_self, iR_t, sO1 Q.ct.rb.sh, t1, hw, ↓c_fault' Q.ct]
theorem m_dv1 (Q : QQ P σ τ f N e q d) (hw : tT f N e = 1) (hx : ¬ (dvF σ f N e (d 1) = -1)) : ∃ τ', fX8_deviceHere P τ 265 = some (dvF σ f N e (d 1), τ') ∧ MT P τ' f N (tE f N e) ∧ (∀ o, o ≠ 265 → τ' o = τ o) ∧ (∀ j, (j < 4 ∨ 7 < j) → τ' 265 j = τ 265 j) := by
  obtain ⟨τ', u, M, o2, j2⟩ := m_goOn Q.mt
  have n1 := Q.tv.n1
  have hi := dvF_in Q
  have r := m_fx Q hw
  have t1 := Q.mt.tt
  generalize dvF σ f N e (d 1) = D at *
  refine ⟨τ', ?_, M, o2, j2⟩
  simp (disch := first | omega | assumption) only [fX8_deviceHere, ↓z_lt, ↓z_ge, ↓z_gt, ↓z_le, ↓z_eq, ↓z_ne, ↓z_mx, ↓z_mn, ↓z_dv, ↓z_rm, ↓z_i2l, ↓z_lc, ↓z_sw, ↓z_sf, ↓z_sn, ↓z_bd, ↓z_nt, z_b0, z_b1, z_bi, z_bj, ↓z_gF, ↓z_gR, ↓z_pF, ↓z_pZ, ↓z_pR, ↓z_aI, ↓z_aR, ↓z_sI, ↓z_sZ, ↓z_on, z_cl, ↓reduceIte, Int.reduceEq, Int.reduceNeg, Int.reduceLT, Int.reduceLE, Int.reduceAdd, Int.reduceSub, Int.reduceMul, true_and, and_true, or_true, true_or, eq_self, iR_t, sO265 Q.ct.rb.sh, t1, hw, ↓m_must1' Q.mt, ↓e_cl r, hx, ↓e_cl u]
theorem m_dv2 (Q : QQ P σ τ f N e q d) (hw : tT f N e = 1) (hx : dvF σ f N e (d 1) = -1) : fX8_deviceHere P τ 265 = some (0, mlt τ 2) := by
  have r := m_fx Q hw
  have t1 := Q.mt.tt
  rw [hx] at r
  simp (disch := first | omega | assumption) only [fX8_deviceHere, ↓z_lt, ↓z_ge, ↓z_gt, ↓z_le, ↓z_eq, ↓z_ne, ↓z_mx, ↓z_mn, ↓z_dv, ↓z_rm, ↓z_i2l, ↓z_lc, ↓z_sw, ↓z_sf, ↓z_sn, ↓z_bd, ↓z_nt, z_b0, z_b1, z_bi, z_bj, ↓z_gF, ↓z_gR, ↓z_pF, ↓z_pZ, ↓z_pR, ↓z_aI, ↓z_aR, ↓z_sI, ↓z_sZ, ↓z_on, z_cl, ↓reduceIte, Int.reduceEq, Int.reduceNeg, Int.reduceLT, Int.reduceLE, Int.reduceAdd, Int.reduceSub, Int.reduceMul, true_and, and_true, or_true, true_or, eq_self, iR_t, sO265 Q.ct.rb.sh, t1, hw, ↓m_must1' Q.mt, ↓e_cl r, ↓m_must0' Q.mt]
theorem m_dv0 (Q : QQ P σ τ f N e q d) (hw : ¬ (tT f N e = 1)) : fX8_deviceHere P τ 265 = some (0, mlt τ 1) := by
  have t1 := Q.mt.tt
  have ht := tT_in (f := f) (N := N) (e := e)
  simp (disch := first | omega | assumption) only [fX8_deviceHere, ↓z_lt, ↓z_ge, ↓z_gt, ↓z_le, ↓z_eq, ↓z_ne, ↓z_mx, ↓z_mn, ↓z_dv, ↓z_rm, ↓z_i2l, ↓z_lc, ↓z_sw, ↓z_sf, ↓z_sn, ↓z_bd, ↓z_nt, z_b0, z_b1, z_bi, z_bj, ↓z_gF, ↓z_gR, ↓z_pF, ↓z_pZ, ↓z_pR, ↓z_aI, ↓z_aR, ↓z_sI, ↓z_sZ, ↓z_on, z_cl, ↓reduceIte, Int.reduceEq, Int.reduceNeg, Int.reduceLT, Int.reduceLE, Int.reduceAdd, Int.reduceSub, Int.reduceMul, true_and, and_true, or_true, true_or, eq_self, iR_t, sO265 Q.ct.rb.sh, t1, hw, ↓m_must0' Q.mt]
end ZZO
