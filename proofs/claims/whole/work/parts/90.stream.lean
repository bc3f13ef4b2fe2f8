/-! THE STREAM's line on both sides. -/
def FS (s : St) : Prop := ¬ (s 265 8 = 0) ∧ iR (s 265 8) = true ∧ (0 ≤ s 265 6 ∧ s 265 6 ≤ 4) ∧ s 265 10 = 267
section ZZR
variable {P : Shp} {σ σ' σ0 σ1 σ2 s τ τ' τ0 τ1 τ2 : St} {f g h B B' d d' : Int → Int} {a b c e e' k i j x y z v v' w N q L kd cnt h1 s1 p : Int} {n m r : Int}
theorem FS.wr7 (h : FS s) : FS (wr s 267 i v) := by
  obtain ⟨a1, a2, a3, a4⟩ := h
  unfold FS
  rw [wr_n (by omega), wr_n (by omega), wr_n (by omega)]
  exact ⟨a1, a2, a3, a4⟩
theorem FS.mk (M : MT P τ f N e) (h10 : τ 265 10 = 267) (hk : 1 ≤ k ∧ k ≤ 5) : FS (mlt τ k) := by
  have ht := tT_in (f := f) (N := N) (e := e)
  unfold FS
  rw [mlt_8, mlt_j (by omega) (by omega), mlt_j (by omega) (by omega), M.tt]
  exact ⟨by omega, iR_t (by omega) (by omega), ht, h10⟩
theorem fs_read (sh : ShpIs P 279 PL) (h : FS s) : fX8_read P s 265 a b = some (a, s) := f_read sh h.1 h.2.1 h.2.2.1
/-- the rest of the stream's line after a fault -/
theorem streamF (sh : ShpIs P 279 PL) (h : FS s) (h0 : 0 ≤ n) (h12 : n < 12) :
    (gR P 8 s 265 10 fun x12 =>
      gR P 8 s 265 10 fun x13 =>
      aI P 10 s x13 3 fun x14 =>
      onO P 8 265 <| cl (fX8_read P s 265 1 x14) fun (x16, s17) =>
      sI P 10 s17 x12 (71 + 3 * n + 1) x16 fun s18 =>
      gR P 8 s18 265 10 fun x19 =>
      onO P 8 265 <| cl (fX8_read P s18 265 1 9999) fun (x21, s22) =>
      sI P 10 s22 x19 (71 + 3 * n + 2) x21 fun s23 =>
      gF P 8 s23 265 8 fun x24 =>
      jne x24 0
        (some s23)
        (
          gR P 8 s23 265 10 fun x25 =>
          aI P 10 s23 x25 2 fun x26 =>
          sI P 10 s23 x25 2 (x26 + 1) fun s27 =>
          some s27)) = some (wr (wr s 267 (71 + 3 * n + 1) 1) 267 (71 + 3 * n + 2) 1) := by
  have r1 : ∀ b, fX8_read P s 265 1 b = some (1, s) := fun b => fs_read sh h
  have r2 : ∀ b, fX8_read P (wr s 267 (71 + 3 * n + 1) 1) 265 1 b = some (1, wr s 267 (71 + 3 * n + 1) 1) := fun b => fs_read sh (FS.wr7 h)
  obtain ⟨a1, a2, a3, a4⟩ := h
  simp (disch := first | omega | assumption) only [↓z_lt, ↓z_ge, ↓z_gt, ↓z_le, ↓z_eq, ↓z_ne, ↓z_mx, ↓z_mn, ↓z_dv, ↓z_rm, ↓z_i2l, ↓z_lc, ↓z_sw, ↓z_sf, ↓z_sn, ↓z_bd, ↓z_nt, z_b0, z_b1, z_bi, z_bj, ↓z_gF, ↓z_gR, ↓z_pF, ↓z_pZ, ↓z_pR, ↓z_aI, ↓z_aR, ↓z_sI, ↓z_sZ, ↓z_on, z_cl, ↓reduceIte, Int.reduceEq, Int.reduceNeg, Int.reduceLT, Int.reduceLE, Int.reduceAdd, Int.reduceSub, Int.reduceMul, true_and, and_true, or_true, true_or, eq_self, iR_t, sO265 sh, sA267 sh, a4, wr_n, ↓e_cl (r1 _), ↓e_cl (r2 _), a1, a2]
theorem QQ.ic2 (Q : QQ P σ τ f N e q d) (h12 : d 2 < 12) (a7 : σ (q + 7) (d 2) = d (71 + 3 * d 2)) (a8 : σ (q + 8) (d 2) = d (71 + 3 * d 2 + 1)) (a9 : σ (q + 9) (d 2) = d (71 + 3 * d 2 + 2)) (b7 : 0 ≤ d (71 + 3 * d 2) ∧ d (71 + 3 * d 2) < d 1) (b8 : 1 ≤ d (71 + 3 * d 2 + 1) ∧ d (71 + 3 * d 2 + 1) ≤ 999) (b9 : 1 ≤ d (71 + 3 * d 2 + 2)) (hn : NM (σ 15) (τ 269) 192 (d 2 + 1)) : QQ P (wr σ q 6 (d 2 + 1)) (wr τ 267 2 (d 2 + 1)) f N e q (zu d 2 (d 2 + 1)) := by
  have hq := Q.pr.hp
  have n2 := Q.tv.n2
  have Z : ∀ j, j ≠ 2 → zu d 2 (d 2 + 1) j = d j := fun j hj => zu_n hj
  refine ⟨Q.ct.fr (fun j _ _ => wr_n (by omega)) (wr_o (by omega)), Q.mt.fr (fun j _ _ => wr_n (by omega)) (wr_o (by omega)), Q.pr.in2 a7 a8 a9 n2.1, Q.tv.in2 h12 b7 b8 b9, ?_, ?_, ?_, ?_, ?_, ?_, ?_, ?_, ?_, ?_, ?_, ?_, ?_, ?_⟩
  · rw [wr_n (by omega)]; exact Q.pl
  · rw [wr_n (by omega)]; exact Q.n11
  · rw [wr_n (by omega)]; exact Q.n12
  · rw [wr_n (by omega)]; exact Q.n13
  · rw [wr_n (by omega), wr_n (by omega)]; exact Q.al
  · rw [wr_n (by omega)]; exact Q.al2
  · rw [wr_n (by omega)]; exact Q.m10
  · rw [wr_n (by omega)]; exact Q.m12
  · intro j j0 j9
    by_cases z : j = 2
    · subst z; rw [wr_s, zu_s]
    · rw [wr_i z, Z j z]; exact Q.dd j j0 j9
  · rw [wr_o (by omega), wr_o (by omega), Z _ (by omega)]; exact Q.na0
  · rw [wr_o (by omega), wr_o (by omega), Z _ (by omega)]; exact Q.na1
  · rw [wr_o (by omega), wr_o (by omega), zu_s]; exact hn
  · rw [Z _ (by omega), Z _ (by omega), Z _ (by omega)]; exact Q.nn3
  · refine ⟨by rw [Z 3 (by omega)]; exact Q.np.1, fun k k0 k1 => ?_⟩
    rw [Z 1 (by omega)] at k1
    rw [Z (55 + k) (by omega), Z 4 (by omega)]
    exact Q.np.2 k k0 k1
theorem streamC {σa σb σc σd : St} {v1 v2 D n2 m1 m3 : Int} (sh : ShpIs P 279 PL) (hq : q = 3 ∨ q = 17) (p9 : σ 1 9 = q) (v6 : σ q 6 = n2) (n0 : 0 ≤ n2) (c12 : n2 < 12) (r1 : fX5_advance P σ 1 = some σ1) (i13 : σ1 1 13 = 15) (r2' : fX5_takeNewName P σ1 1 15 n2 = some (1, σa)) (K : fX5_isKnownDevice P σa 1 = some (1, σa)) (pa9 : σa 1 9 = q) (pa12 : σa 1 12 = 14) (pa13 : σa q 13 = q + 7) (pa5 : σa q 5 = m1) (X : fX5_indexOfWord P σa 1 14 m1 = some D) (rb : fX5_advance P (wr σa (q + 7) n2 D) 1 = some σb) (pb9 : σb 1 9 = q) (w0 : σb q 0 = m3) (N2 : fX5_isNumberWithin P σb 1 1 m3 = some (1, σb)) (s6 : σb 1 6 = v1) (pb14 : σb q 14 = q + 8) (rc : fX5_advance P (wr σb (q + 8) n2 v1) 1 = some σc) (pc9 : σc 1 9 = q) (N3 : fX5_isNumberWithin P σc 1 1 9999 = some (1, σc)) (s6c : σc 1 6 = v2) (pc15 : σc q 15 = q + 9) (rd : fX5_advance P (wr σc (q + 9) n2 v2) 1 = some σd) (pd9 : σd 1 9 = q) : fX5_readStream P σ 1 = some (1, wr σd q 6 (n2 + 1)) := by
  have hq1 : ¬ (q = -1) := by omega
  have hq7 : ¬ (q + 7 = -1) := by omega
  have hq8 : ¬ (q + 8 = -1) := by omega
  have hq9 : ¬ (q + 9 = -1) := by omega
  simp (disch := first | omega | assumption | (simp (disch := omega) only [ i13, p9, v6, pa9, pa12, pa13, pa5, pb9, w0, s6, pb14, pc9, s6c, pc15 ]; done) | fail) only [fX5_readStream, ↓z_lt, ↓z_ge, ↓z_gt, ↓z_le, ↓z_eq, ↓z_ne, ↓z_mx, ↓z_mn, ↓z_dv, ↓z_rm, ↓z_i2l, ↓z_lc, ↓z_sw, ↓z_sf, ↓z_sn, ↓z_bd, ↓z_nt, z_b0, z_b1, z_bi, z_bj, ↓z_gF, ↓z_gR, ↓z_pF, ↓z_pZ, ↓z_pR, ↓z_aI, ↓z_aR, ↓z_sI, ↓z_sZ, ↓z_on, z_cl, ↓reduceIte, Int.reduceEq, Int.reduceNeg, Int.reduceLT, Int.reduceLE, Int.reduceAdd, Int.reduceSub, Int.reduceMul, true_and, and_true, or_true, true_or, eq_self, iR_t, sO1 sh, p9, pa9, pb9, pc9, pd9, pa13, pb14, pc15, pO sh hq, pA7 sh hq, pA8 sh hq, pA9 sh hq, hq1, hq7, hq8, hq9, v6, c12, ↓e_cl r1, i13, pa12, ↓e_g r2', ↓e_cl K, ↓e_g X, ↓e_g rb, ↓e_g N2, ↓e_g rc, ↓e_g N3, ↓e_g rd]
theorem streamM {τa τb τc τd : St} {v1 v2 D n2 m3 : Int} (sh : ShpIs P 279 PL) (n0 : 0 ≤ n2) (c12 : n2 < 12) (u1' : fX8_begin P τ 265 2 12 = some (1, τa)) (ma10 : τa 265 10 = 267) (da2 : τa 267 2 = n2) (U : fX8_deviceHere P τa 265 = some (D, τb)) (mb10 : wr τb 267 (71 + 3 * n2) D 265 10 = 267) (wm3 : wr τb 267 (71 + 3 * n2) D 267 3 = m3) (U2 : fX8_read P (wr τb 267 (71 + 3 * n2) D) 265 1 m3 = some (v1, τc)) (mc10 : wr τc 267 (71 + 3 * n2 + 1) v1 265 10 = 267) (U3 : fX8_read P (wr τc 267 (71 + 3 * n2 + 1) v1) 265 1 9999 = some (v2, τd)) (md10 : wr τd 267 (71 + 3 * n2 + 2) v2 265 10 = 267) (md8 : wr τd 267 (71 + 3 * n2 + 2) v2 265 8 = 0) (wd2 : wr τd 267 (71 + 3 * n2 + 2) v2 267 2 = n2) : fX8_streamLine P τ 265 = some (wr (wr τd 267 (71 + 3 * n2 + 2) v2) 267 2 (n2 + 1)) := by
  simp (disch := first | omega | assumption) only [fX8_streamLine, ↓z_lt, ↓z_ge, ↓z_gt, ↓z_le, ↓z_eq, ↓z_ne, ↓z_mx, ↓z_mn, ↓z_dv, ↓z_rm, ↓z_i2l, ↓z_lc, ↓z_sw, ↓z_sf, ↓z_sn, ↓z_bd, ↓z_nt, z_b0, z_b1, z_bi, z_bj, ↓z_gF, ↓z_gR, ↓z_pF, ↓z_pZ, ↓z_pR, ↓z_aI, ↓z_aR, ↓z_sI, ↓z_sZ, ↓z_on, z_cl, ↓reduceIte, Int.reduceEq, Int.reduceNeg, Int.reduceLT, Int.reduceLE, Int.reduceAdd, Int.reduceSub, Int.reduceMul, true_and, and_true, or_true, true_or, eq_self, iR_t, sO265 sh, sA267 sh, ma10, da2, ↓e_cl u1', ↓e_cl U, mb10]
  simp (disch := first | omega | assumption) only [↓z_lt, ↓z_ge, ↓z_gt, ↓z_le, ↓z_eq, ↓z_ne, ↓z_mx, ↓z_mn, ↓z_dv, ↓z_rm, ↓z_i2l, ↓z_lc, ↓z_sw, ↓z_sf, ↓z_sn, ↓z_bd, ↓z_nt, z_b0, z_b1, z_bi, z_bj, ↓z_gF, ↓z_gR, ↓z_pF, ↓z_pZ, ↓z_pR, ↓z_aI, ↓z_aR, ↓z_sI, ↓z_sZ, ↓z_on, z_cl, ↓reduceIte, Int.reduceEq, Int.reduceNeg, Int.reduceLT, Int.reduceLE, Int.reduceAdd, Int.reduceSub, Int.reduceMul, true_and, and_true, or_true, true_or, eq_self, iR_t, sO265 sh, sA267 sh, mb10, wm3]
  simp (disch := first | omega | assumption) only [↓z_lt, ↓z_ge, ↓z_gt, ↓z_le, ↓z_eq, ↓z_ne, ↓z_mx, ↓z_mn, ↓z_dv, ↓z_rm, ↓z_i2l, ↓z_lc, ↓z_sw, ↓z_sf, ↓z_sn, ↓z_bd, ↓z_nt, z_b0, z_b1, z_bi, z_bj, ↓z_gF, ↓z_gR, ↓z_pF, ↓z_pZ, ↓z_pR, ↓z_aI, ↓z_aR, ↓z_sI, ↓z_sZ, ↓z_on, z_cl, ↓reduceIte, Int.reduceEq, Int.reduceNeg, Int.reduceLT, Int.reduceLE, Int.reduceAdd, Int.reduceSub, Int.reduceMul, true_and, and_true, or_true, true_or, eq_self, iR_t, sO265 sh, sA267 sh, ↓e_cl U2, mb10, mc10]
  simp (disch := first | omega | assumption) only [↓z_lt, ↓z_ge, ↓z_gt, ↓z_le, ↓z_eq, ↓z_ne, ↓z_mx, ↓z_mn, ↓z_dv, ↓z_rm, ↓z_i2l, ↓z_lc, ↓z_sw, ↓z_sf, ↓z_sn, ↓z_bd, ↓z_nt, z_b0, z_b1, z_bi, z_bj, ↓z_gF, ↓z_gR, ↓z_pF, ↓z_pZ, ↓z_pR, ↓z_aI, ↓z_aR, ↓z_sI, ↓z_sZ, ↓z_on, z_cl, ↓reduceIte, Int.reduceEq, Int.reduceNeg, Int.reduceLT, Int.reduceLE, Int.reduceAdd, Int.reduceSub, Int.reduceMul, true_and, and_true, or_true, true_or, eq_self, iR_t, sO265 sh, sA267 sh, ↓e_cl U3, mc10, md10, md8, wd2]
theorem sim_stream (Q : QQ P σ τ f N e q d) : LN P σ τ f N q (fX5_readStream P σ 1) (fX8_streamLine P τ 265) := by
  have hq := Q.pr.hp
  have hq1 : ¬ (q = -1) := by omega
  have sh := Q.ct.rb.sh
  have n2 := Q.tv.n2
  have n1 := Q.tv.n1
  have h3 := Q.np.1
  have p9 := Q.pl
  have v6 := Q.pr.v6
  have m10 := Q.m10
  have d2 := Q.dd 2 (by omega) (by omega)
  by_cases c12 : d 2 < 12
  · rcases sim_name Q (kd := 2) (by omega) (by show d 2 < 12; exact c12) with ⟨σ1, σa, τa, ea, r1, i11, i12, i13, r2, u1, Qa, nw, Fa, Ga⟩ | ⟨σ1, σa, τa, r1, i11, i12, i13, r2, u1, hB⟩
    · have pa9 := Qa.pl
      have pa12 := Qa.n12
      have pa13 := Qa.pr.r13
      have pa5 := Qa.pr.v5
      have ma10 := Qa.m10
      have da2 := Qa.dd 2 (by omega) (by omega)
      have da3 := Qa.dd 3 (by omega) (by omega)
      have r2' : fX5_takeNewName P σ1 1 15 (d 2) = some (1, σa) := r2
      have u1' : fX8_begin P τ 265 2 12 = some (1, τa) := u1
      by_cases hw : tT f N ea = 1
      · by_cases hx : dvF σa f N ea (d 1) = -1
        · right
          have K := c_kn2 Qa hw hx
          have U := m_dv2 Qa hw hx
          have F0 := FS.mk Qa.mt Qa.m10 (k := 2) (by omega)
          have F1 := FS.wr7 (i := 71 + 3 * d 2) (v := 0) F0
          have F2 := FS.wr7 (i := 71 + 3 * d 2 + 1) (v := 1) F1
          have R1 : ∀ b, fX8_read P (wr (mlt τa 2) 267 (71 + 3 * d 2) 0) 265 1 b = some (1, _) := fun b => fs_read sh F1
          have R2 : ∀ b, fX8_read P (wr (wr (mlt τa 2) 267 (71 + 3 * d 2) 0) 267 (71 + 3 * d 2 + 1) 1) 265 1 b = some (1, _) := fun b => fs_read sh F2
          have F3 := FS.wr7 (i := 71 + 3 * d 2 + 2) (v := 1) F2
          have W3 : wr (mlt τa 2) 267 (71 + 3 * d 2) 0 267 3 = d 3 := by rw [wr_i (by omega), mlt_o (by omega)]; exact da3
          refine ⟨clt σa 2, wr (wr (wr (mlt τa 2) 267 (71 + 3 * d 2) 0) 267 (71 + 3 * d 2 + 1) 1) 267 (71 + 3 * d 2 + 2) 1, ?_, ?_, (((BAD.flt hq Qa.ct Qa.mt Fa Ga (by omega)).wr7).wr7).wr7⟩
          · simp (disch := first | omega | assumption | (simp (disch := omega) only [ i13, p9, v6 ]; done) | fail) only [fX5_readStream, ↓z_lt, ↓z_ge, ↓z_gt, ↓z_le, ↓z_eq, ↓z_ne, ↓z_mx, ↓z_mn, ↓z_dv, ↓z_rm, ↓z_i2l, ↓z_lc, ↓z_sw, ↓z_sf, ↓z_sn, ↓z_bd, ↓z_nt, z_b0, z_b1, z_bi, z_bj, ↓z_gF, ↓z_gR, ↓z_pF, ↓z_pZ, ↓z_pR, ↓z_aI, ↓z_aR, ↓z_sI, ↓z_sZ, ↓z_on, z_cl, ↓reduceIte, Int.reduceEq, Int.reduceNeg, Int.reduceLT, Int.reduceLE, Int.reduceAdd, Int.reduceSub, Int.reduceMul, true_and, and_true, or_true, true_or, eq_self, iR_t, sO1 sh, p9, pO sh hq, hq1, v6, c12, ↓e_cl r1, i13, ↓e_g r2', ↓e_cl K]
          · simp (disch := first | omega | assumption) only [fX8_streamLine, ↓z_lt, ↓z_ge, ↓z_gt, ↓z_le, ↓z_eq, ↓z_ne, ↓z_mx, ↓z_mn, ↓z_dv, ↓z_rm, ↓z_i2l, ↓z_lc, ↓z_sw, ↓z_sf, ↓z_sn, ↓z_bd, ↓z_nt, z_b0, z_b1, z_bi, z_bj, ↓z_gF, ↓z_gR, ↓z_pF, ↓z_pZ, ↓z_pR, ↓z_aI, ↓z_aR, ↓z_sI, ↓z_sZ, ↓z_on, z_cl, ↓reduceIte, Int.reduceEq, Int.reduceNeg, Int.reduceLT, Int.reduceLE, Int.reduceAdd, Int.reduceSub, Int.reduceMul, true_and, and_true, or_true, true_or, eq_self, iR_t, sO265 sh, sA267 sh, ma10, da2, W3, ↓e_cl u1', ↓e_cl U, F0.2.2.2, F1.2.2.2]
            simp (disch := first | omega | assumption) only [↓z_lt, ↓z_ge, ↓z_gt, ↓z_le, ↓z_eq, ↓z_ne, ↓z_mx, ↓z_mn, ↓z_dv, ↓z_rm, ↓z_i2l, ↓z_lc, ↓z_sw, ↓z_sf, ↓z_sn, ↓z_bd, ↓z_nt, z_b0, z_b1, z_bi, z_bj, ↓z_gF, ↓z_gR, ↓z_pF, ↓z_pZ, ↓z_pR, ↓z_aI, ↓z_aR, ↓z_sI, ↓z_sZ, ↓z_on, z_cl, ↓reduceIte, Int.reduceEq, Int.reduceNeg, Int.reduceLT, Int.reduceLE, Int.reduceAdd, Int.reduceSub, Int.reduceMul, true_and, and_true, or_true, true_or, eq_self, iR_t, sO265 sh, sA267 sh, ↓e_cl (R1 (d 3)), F1.2.2.2, F2.2.2.2, ↓e_cl (R2 9999), F3.1, F3.2.1]
        · have hD := dvF_in Qa
          have K := c_kn1 Qa hw hx
          have X := c_ix Qa hw
          obtain ⟨τb, U, Mb, ob, jb⟩ := m_dv1 Qa hw hx
          generalize dvF σa f N ea (d 1) = D at *
          have hq7 : ¬ (q + 7 = -1) := by omega
          obtain ⟨σb, rb, Cb, obc, jbc⟩ := c_adv (Qa.ct.fr (s := wr σa (q + 7) (d 2) D) (fun j _ _ => wr_n (by omega)) (wr_o (by omega)))
          have un : unC d (71 + 3 * d 2) := by unfold unC; omega
          obtain ⟨Qb, Fb, Gb⟩ := Qa.cell (c := q + 7) (n := d 2) (m := 71 + 3 * d 2) (v := D) (v' := D) (by omega) un (fun _ => by omega) (fun _ => by omega) (fun _ => by omega) (fun _ => Int.le_refl _) (by omega) Cb obc jbc Mb ob jb
          have e3 : zu d (71 + 3 * d 2) D 3 = d 3 := zu_n (by omega)
          have w0 : σb q 0 = d 3 := Qb.pr.v0.trans e3
          have wm3 : wr τb 267 (71 + 3 * d 2) D 267 3 = d 3 := (Qb.dd 3 (by omega) (by omega)).trans e3
          have pb9 := Qb.pl
          have mb10 := Qb.m10
          have h30 := Q.nn3.1
          have rd3 : iR (d 3) = true := iR_t (by omega) (by omega)
          generalize tE f N ea = eb at *
          by_cases t2 : tT f N eb = 2
          · by_cases i2 : 1 ≤ tV f N eb ∧ tV f N eb ≤ d 3
            · have hv1 := tV_in Qb.ct.e0 Qb.ct.e1 t2
              have N2 : fX5_isNumberWithin P σb 1 1 (d 3) = some (1, σb) := c_num1 Qb.ct t2 rfl rd3 i2.1 i2.2
              have s6 : σb 1 6 = tV f N eb := Qb.ct.vv (Or.inr t2)
              obtain ⟨τc, U2, Mc, oc, jc⟩ := m_read1 Qb.mt t2 (a := 1) (b := d 3) rfl rd3 i2
              generalize hv1' : tV f N eb = v1 at *
              have pb14 := Qb.pr.r14
              have hq8 : ¬ (q + 8 = -1) := by omega
              obtain ⟨σc, rc, Cc, occ, jcc⟩ := c_adv (Qb.ct.fr (s := wr σb (q + 8) (d 2) v1) (fun j _ _ => wr_n (by omega)) (wr_o (by omega)))
              have e2' : zu d (71 + 3 * d 2) D 2 = d 2 := zu_n (by omega)
              have e1' : zu d (71 + 3 * d 2) D 1 = d 1 := zu_n (by omega)
              have e0' : zu d (71 + 3 * d 2) D 0 = d 0 := zu_n (by omega)
              have n0 := Q.tv.n0
              have un2 : unC (zu d (71 + 3 * d 2) D) (71 + 3 * d 2 + 1) := by unfold unC; omega
              obtain ⟨Qc, Fc, Gc⟩ := Qb.cell (c := q + 8) (n := d 2) (m := 71 + 3 * d 2 + 1) (v := v1) (v' := v1) (by omega) un2 (fun _ => by omega) (fun _ => by omega) (fun _ => by omega) (fun _ => by omega) (by omega) Cc occ jcc Mc oc jc
              have pc9 := Qc.pl
              have mc10 := Qc.m10
              generalize tE f N eb = ec at *
              by_cases t3 : tT f N ec = 2
              · by_cases i3 : 1 ≤ tV f N ec ∧ tV f N ec ≤ 9999
                · left
                  have hv2 := tV_in Qc.ct.e0 Qc.ct.e1 t3
                  have N3 : fX5_isNumberWithin P σc 1 1 9999 = some (1, σc) := c_num1 Qc.ct t3 rfl rfl i3.1 i3.2
                  have s6c : σc 1 6 = tV f N ec := Qc.ct.vv (Or.inr t3)
                  obtain ⟨τd, U3, Md, od, jd⟩ := m_read1 Qc.mt t3 (a := 1) (b := 9999) rfl rfl i3
                  generalize hv2' : tV f N ec = v2 at *
                  have pc15 := Qc.pr.r15
                  have hq9 : ¬ (q + 9 = -1) := by omega
                  obtain ⟨σd, rd, Cd, odc, jdc⟩ := c_adv (Qc.ct.fr (s := wr σc (q + 9) (d 2) v2) (fun j _ _ => wr_n (by omega)) (wr_o (by omega)))
                  have f2 : zu (zu d (71 + 3 * d 2) D) (71 + 3 * d 2 + 1) v1 2 = d 2 := (zu_n (by omega)).trans e2'
                  have f1 : zu (zu d (71 + 3 * d 2) D) (71 + 3 * d 2 + 1) v1 1 = d 1 := (zu_n (by omega)).trans e1'
                  have f0 : zu (zu d (71 + 3 * d 2) D) (71 + 3 * d 2 + 1) v1 0 = d 0 := (zu_n (by omega)).trans e0'
                  have un3 : unC (zu (zu d (71 + 3 * d 2) D) (71 + 3 * d 2 + 1) v1) (71 + 3 * d 2 + 2) := by unfold unC; omega
                  obtain ⟨Qd, Fd, Gd⟩ := Qc.cell (c := q + 9) (n := d 2) (m := 71 + 3 * d 2 + 2) (v := v2) (v' := v2) (by omega) un3 (fun _ => by omega) (fun _ => by omega) (fun _ => by omega) (fun _ => by omega) (by omega) Cd odc jdc Md od jd
                  have g2 : zu (zu (zu d (71 + 3 * d 2) D) (71 + 3 * d 2 + 1) v1) (71 + 3 * d 2 + 2) v2 2 = d 2 := (zu_n (by omega)).trans f2
                  have g1 : zu (zu (zu d (71 + 3 * d 2) D) (71 + 3 * d 2 + 1) v1) (71 + 3 * d 2 + 2) v2 1 = d 1 := (zu_n (by omega)).trans f1
                  have g7 : zu (zu (zu d (71 + 3 * d 2) D) (71 + 3 * d 2 + 1) v1) (71 + 3 * d 2 + 2) v2 (71 + 3 * d 2) = D := by rw [zu_n (by omega), zu_n (by omega), zu_s]
                  have g8 : zu (zu (zu d (71 + 3 * d 2) D) (71 + 3 * d 2 + 1) v1) (71 + 3 * d 2 + 2) v2 (71 + 3 * d 2 + 1) = v1 := by rw [zu_n (by omega), zu_s]
                  have g9 : zu (zu (zu d (71 + 3 * d 2) D) (71 + 3 * d 2 + 1) v1) (71 + 3 * d 2 + 2) v2 (71 + 3 * d 2 + 2) = v2 := zu_s
                  generalize zu (zu (zu d (71 + 3 * d 2) D) (71 + 3 * d 2 + 1) v1) (71 + 3 * d 2 + 2) v2 = dz at *
                  have QE := Qd.ic2 (by omega) (by rw [g2, g7, odc _ (by omega), wr_o (by omega), occ _ (by omega), wr_o (by omega), obc _ (by omega), wr_s]) (by rw [g2, g8, odc _ (by omega), wr_o (by omega), occ _ (by omega), wr_s]) (by rw [g2, g9, odc _ (by omega), wr_s]) (by rw [g2, g7, g1]; omega) (by rw [g2, g8]; omega) (by rw [g2, g9]; omega) (by
                    rw [g2, odc 15 (by omega), wr_o (by omega), occ 15 (by omega), wr_o (by omega), obc 15 (by omega), wr_o (by omega), wr_o (by omega), od 269 (by omega), wr_o (by omega), oc 269 (by omega), wr_o (by omega), ob 269 (by omega)]
                    exact nw)
                  rw [g2] at QE
                  have pd9 := Qd.pl
                  have md10 := Qd.m10
                  have md8 := Qd.mt.fl
                  have wd2 : wr τd 267 (71 + 3 * d 2 + 2) v2 267 2 = d 2 := (Qd.dd 2 (by omega) (by omega)).trans g2
                  refine ⟨wr σd q 6 (d 2 + 1), wr (wr τd 267 (71 + 3 * d 2 + 2) v2) 267 2 (d 2 + 1), _, _, ?_, ?_, QE, (((Fa.tr Fb).tr Fc).tr Fd).tr (CFr.wq (by omega) hq), (((Ga.tr Gb).tr Gc).tr Gd).tr (MFr.wo (by omega))⟩
                  · exact streamC sh hq p9 v6 n2.1 c12 r1 i13 r2' K pa9 pa12 pa13 pa5 X rb pb9 w0 N2 s6 pb14 rc pc9 N3 s6c pc15 rd pd9
                  · exact streamM sh n2.1 c12 u1' ma10 da2 U mb10 wm3 U2 mc10 U3 md10 md8 wd2
                · right
                  have F0 := FS.mk Qc.mt Qc.m10 (k := 4) (by omega)
                  have F1 := FS.wr7 (i := 71 + 3 * d 2 + 2) (v := 1) F0
                  have K3 : fX5_isNumberWithin P σc 1 1 9999 = some (0, clt σc 4) := c_num4 Qc.ct t3 rfl rfl i3
                  have U3 : fX8_read P (wr τc 267 (71 + 3 * d 2 + 1) v1) 265 1 9999 = some (1, mlt (wr τc 267 (71 + 3 * d 2 + 1) v1) 4) := m_read4 Qc.mt t3 rfl rfl i3
                  refine ⟨clt σc 4, wr (mlt (wr τc 267 (71 + 3 * d 2 + 1) v1) 4) 267 (71 + 3 * d 2 + 2) 1, ?_, ?_, (BAD.flt hq Qc.ct Qc.mt ((Fa.tr Fb).tr Fc) ((Ga.tr Gb).tr Gc) (by omega)).wr7⟩
                  · simp (disch := first | omega | assumption | (simp (disch := omega) only [ i13, p9, v6, pa9, pa12, pa13, pa5, pb9, w0, s6, pb14 ]; done) | fail) only [fX5_readStream, ↓z_lt, ↓z_ge, ↓z_gt, ↓z_le, ↓z_eq, ↓z_ne, ↓z_mx, ↓z_mn, ↓z_dv, ↓z_rm, ↓z_i2l, ↓z_lc, ↓z_sw, ↓z_sf, ↓z_sn, ↓z_bd, ↓z_nt, z_b0, z_b1, z_bi, z_bj, ↓z_gF, ↓z_gR, ↓z_pF, ↓z_pZ, ↓z_pR, ↓z_aI, ↓z_aR, ↓z_sI, ↓z_sZ, ↓z_on, z_cl, ↓reduceIte, Int.reduceEq, Int.reduceNeg, Int.reduceLT, Int.reduceLE, Int.reduceAdd, Int.reduceSub, Int.reduceMul, true_and, and_true, or_true, true_or, eq_self, iR_t, sO1 sh, p9, pa9, pb9, pa13, pb14, pO sh hq, pA7 sh hq, pA8 sh hq, hq1, hq7, hq8, v6, c12, ↓e_cl r1, i13, pa12, ↓e_g r2', ↓e_cl K, ↓e_g X, ↓e_g rb, ↓e_g N2, ↓e_g rc, ↓e_g K3]
                  · simp (disch := first | omega | assumption) only [fX8_streamLine, ↓z_lt, ↓z_ge, ↓z_gt, ↓z_le, ↓z_eq, ↓z_ne, ↓z_mx, ↓z_mn, ↓z_dv, ↓z_rm, ↓z_i2l, ↓z_lc, ↓z_sw, ↓z_sf, ↓z_sn, ↓z_bd, ↓z_nt, z_b0, z_b1, z_bi, z_bj, ↓z_gF, ↓z_gR, ↓z_pF, ↓z_pZ, ↓z_pR, ↓z_aI, ↓z_aR, ↓z_sI, ↓z_sZ, ↓z_on, z_cl, ↓reduceIte, Int.reduceEq, Int.reduceNeg, Int.reduceLT, Int.reduceLE, Int.reduceAdd, Int.reduceSub, Int.reduceMul, true_and, and_true, or_true, true_or, eq_self, iR_t, sO265 sh, sA267 sh, ma10, da2, ↓e_cl u1', ↓e_cl U, mb10]
                    simp (disch := first | omega | assumption) only [↓z_lt, ↓z_ge, ↓z_gt, ↓z_le, ↓z_eq, ↓z_ne, ↓z_mx, ↓z_mn, ↓z_dv, ↓z_rm, ↓z_i2l, ↓z_lc, ↓z_sw, ↓z_sf, ↓z_sn, ↓z_bd, ↓z_nt, z_b0, z_b1, z_bi, z_bj, ↓z_gF, ↓z_gR, ↓z_pF, ↓z_pZ, ↓z_pR, ↓z_aI, ↓z_aR, ↓z_sI, ↓z_sZ, ↓z_on, z_cl, ↓reduceIte, Int.reduceEq, Int.reduceNeg, Int.reduceLT, Int.reduceLE, Int.reduceAdd, Int.reduceSub, Int.reduceMul, true_and, and_true, or_true, true_or, eq_self, iR_t, sO265 sh, sA267 sh, mb10, wm3]
                    simp (disch := first | omega | assumption) only [↓z_lt, ↓z_ge, ↓z_gt, ↓z_le, ↓z_eq, ↓z_ne, ↓z_mx, ↓z_mn, ↓z_dv, ↓z_rm, ↓z_i2l, ↓z_lc, ↓z_sw, ↓z_sf, ↓z_sn, ↓z_bd, ↓z_nt, z_b0, z_b1, z_bi, z_bj, ↓z_gF, ↓z_gR, ↓z_pF, ↓z_pZ, ↓z_pR, ↓z_aI, ↓z_aR, ↓z_sI, ↓z_sZ, ↓z_on, z_cl, ↓reduceIte, Int.reduceEq, Int.reduceNeg, Int.reduceLT, Int.reduceLE, Int.reduceAdd, Int.reduceSub, Int.reduceMul, true_and, and_true, or_true, true_or, eq_self, iR_t, sO265 sh, sA267 sh, ↓e_cl U2, mb10, mc10]
                    simp (disch := first | omega | assumption) only [↓z_lt, ↓z_ge, ↓z_gt, ↓z_le, ↓z_eq, ↓z_ne, ↓z_mx, ↓z_mn, ↓z_dv, ↓z_rm, ↓z_i2l, ↓z_lc, ↓z_sw, ↓z_sf, ↓z_sn, ↓z_bd, ↓z_nt, z_b0, z_b1, z_bi, z_bj, ↓z_gF, ↓z_gR, ↓z_pF, ↓z_pZ, ↓z_pR, ↓z_aI, ↓z_aR, ↓z_sI, ↓z_sZ, ↓z_on, z_cl, ↓reduceIte, Int.reduceEq, Int.reduceNeg, Int.reduceLT, Int.reduceLE, Int.reduceAdd, Int.reduceSub, Int.reduceMul, true_and, and_true, or_true, true_or, eq_self, iR_t, sO265 sh, sA267 sh, ↓e_cl U3, mc10, F1.1, F1.2.1]
              · right
                have F0 := FS.mk Qc.mt Qc.m10 (k := 1) (by omega)
                have F1 := FS.wr7 (i := 71 + 3 * d 2 + 2) (v := 1) F0
                have K3 : fX5_isNumberWithin P σc 1 1 9999 = some (0, clt σc 1) := c_numS Qc.ct t3
                have U3 : fX8_read P (wr τc 267 (71 + 3 * d 2 + 1) v1) 265 1 9999 = some (1, mlt (wr τc 267 (71 + 3 * d 2 + 1) v1) 1) := m_readS Qc.mt t3
                refine ⟨clt σc 1, wr (mlt (wr τc 267 (71 + 3 * d 2 + 1) v1) 1) 267 (71 + 3 * d 2 + 2) 1, ?_, ?_, (BAD.flt hq Qc.ct Qc.mt ((Fa.tr Fb).tr Fc) ((Ga.tr Gb).tr Gc) (by omega)).wr7⟩
                · simp (disch := first | omega | assumption | (simp (disch := omega) only [ i13, p9, v6, pa9, pa12, pa13, pa5, pb9, w0, s6, pb14 ]; done) | fail) only [fX5_readStream, ↓z_lt, ↓z_ge, ↓z_gt, ↓z_le, ↓z_eq, ↓z_ne, ↓z_mx, ↓z_mn, ↓z_dv, ↓z_rm, ↓z_i2l, ↓z_lc, ↓z_sw, ↓z_sf, ↓z_sn, ↓z_bd, ↓z_nt, z_b0, z_b1, z_bi, z_bj, ↓z_gF, ↓z_gR, ↓z_pF, ↓z_pZ, ↓z_pR, ↓z_aI, ↓z_aR, ↓z_sI, ↓z_sZ, ↓z_on, z_cl, ↓reduceIte, Int.reduceEq, Int.reduceNeg, Int.reduceLT, Int.reduceLE, Int.reduceAdd, Int.reduceSub, Int.reduceMul, true_and, and_true, or_true, true_or, eq_self, iR_t, sO1 sh, p9, pa9, pb9, pa13, pb14, pO sh hq, pA7 sh hq, pA8 sh hq, hq1, hq7, hq8, v6, c12, ↓e_cl r1, i13, pa12, ↓e_g r2', ↓e_cl K, ↓e_g X, ↓e_g rb, ↓e_g N2, ↓e_g rc, ↓e_g K3]
                · simp (disch := first | omega | assumption) only [fX8_streamLine, ↓z_lt, ↓z_ge, ↓z_gt, ↓z_le, ↓z_eq, ↓z_ne, ↓z_mx, ↓z_mn, ↓z_dv, ↓z_rm, ↓z_i2l, ↓z_lc, ↓z_sw, ↓z_sf, ↓z_sn, ↓z_bd, ↓z_nt, z_b0, z_b1, z_bi, z_bj, ↓z_gF, ↓z_gR, ↓z_pF, ↓z_pZ, ↓z_pR, ↓z_aI, ↓z_aR, ↓z_sI, ↓z_sZ, ↓z_on, z_cl, ↓reduceIte, Int.reduceEq, Int.reduceNeg, Int.reduceLT, Int.reduceLE, Int.reduceAdd, Int.reduceSub, Int.reduceMul, true_and, and_true, or_true, true_or, eq_self, iR_t, sO265 sh, sA267 sh, ma10, da2, ↓e_cl u1', ↓e_cl U, mb10]
                  simp (disch := first | omega | assumption) only [↓z_lt, ↓z_ge, ↓z_gt, ↓z_le, ↓z_eq, ↓z_ne, ↓z_mx, ↓z_mn, ↓z_dv, ↓z_rm, ↓z_i2l, ↓z_lc, ↓z_sw, ↓z_sf, ↓z_sn, ↓z_bd, ↓z_nt, z_b0, z_b1, z_bi, z_bj, ↓z_gF, ↓z_gR, ↓z_pF, ↓z_pZ, ↓z_pR, ↓z_aI, ↓z_aR, ↓z_sI, ↓z_sZ, ↓z_on, z_cl, ↓reduceIte, Int.reduceEq, Int.reduceNeg, Int.reduceLT, Int.reduceLE, Int.reduceAdd, Int.reduceSub, Int.reduceMul, true_and, and_true, or_true, true_or, eq_self, iR_t, sO265 sh, sA267 sh, mb10, wm3]
                  simp (disch := first | omega | assumption) only [↓z_lt, ↓z_ge, ↓z_gt, ↓z_le, ↓z_eq, ↓z_ne, ↓z_mx, ↓z_mn, ↓z_dv, ↓z_rm, ↓z_i2l, ↓z_lc, ↓z_sw, ↓z_sf, ↓z_sn, ↓z_bd, ↓z_nt, z_b0, z_b1, z_bi, z_bj, ↓z_gF, ↓z_gR, ↓z_pF, ↓z_pZ, ↓z_pR, ↓z_aI, ↓z_aR, ↓z_sI, ↓z_sZ, ↓z_on, z_cl, ↓reduceIte, Int.reduceEq, Int.reduceNeg, Int.reduceLT, Int.reduceLE, Int.reduceAdd, Int.reduceSub, Int.reduceMul, true_and, and_true, or_true, true_or, eq_self, iR_t, sO265 sh, sA267 sh, ↓e_cl U2, mb10, mc10]
                  simp (disch := first | omega | assumption) only [↓z_lt, ↓z_ge, ↓z_gt, ↓z_le, ↓z_eq, ↓z_ne, ↓z_mx, ↓z_mn, ↓z_dv, ↓z_rm, ↓z_i2l, ↓z_lc, ↓z_sw, ↓z_sf, ↓z_sn, ↓z_bd, ↓z_nt, z_b0, z_b1, z_bi, z_bj, ↓z_gF, ↓z_gR, ↓z_pF, ↓z_pZ, ↓z_pR, ↓z_aI, ↓z_aR, ↓z_sI, ↓z_sZ, ↓z_on, z_cl, ↓reduceIte, Int.reduceEq, Int.reduceNeg, Int.reduceLT, Int.reduceLE, Int.reduceAdd, Int.reduceSub, Int.reduceMul, true_and, and_true, or_true, true_or, eq_self, iR_t, sO265 sh, sA267 sh, ↓e_cl U3, mc10, F1.1, F1.2.1]
            · right
              have F0 := FS.mk Qb.mt Qb.m10 (k := 4) (by omega)
              have F1 := FS.wr7 (i := 71 + 3 * d 2 + 1) (v := 1) F0
              have F2 := FS.wr7 (i := 71 + 3 * d 2 + 2) (v := 1) F1
              have K2 : fX5_isNumberWithin P σb 1 1 (d 3) = some (0, clt σb 4) := c_num4 Qb.ct t2 rfl rd3 i2
              have U2 : fX8_read P (wr τb 267 (71 + 3 * d 2) D) 265 1 (d 3) = some (1, mlt (wr τb 267 (71 + 3 * d 2) D) 4) := m_read4 Qb.mt t2 rfl rd3 i2
              have R2 : fX8_read P (wr (mlt (wr τb 267 (71 + 3 * d 2) D) 4) 267 (71 + 3 * d 2 + 1) 1) 265 1 9999 = some (1, _) := fs_read sh F1
              refine ⟨clt σb 4, wr (wr (mlt (wr τb 267 (71 + 3 * d 2) D) 4) 267 (71 + 3 * d 2 + 1) 1) 267 (71 + 3 * d 2 + 2) 1, ?_, ?_, ((BAD.flt hq Qb.ct Qb.mt (Fa.tr Fb) (Ga.tr Gb) (by omega)).wr7).wr7⟩
              · simp (disch := first | omega | assumption | (simp (disch := omega) only [ i13, p9, v6, pa9, pa12, pa13, pa5, pb9, w0 ]; done) | fail) only [fX5_readStream, ↓z_lt, ↓z_ge, ↓z_gt, ↓z_le, ↓z_eq, ↓z_ne, ↓z_mx, ↓z_mn, ↓z_dv, ↓z_rm, ↓z_i2l, ↓z_lc, ↓z_sw, ↓z_sf, ↓z_sn, ↓z_bd, ↓z_nt, z_b0, z_b1, z_bi, z_bj, ↓z_gF, ↓z_gR, ↓z_pF, ↓z_pZ, ↓z_pR, ↓z_aI, ↓z_aR, ↓z_sI, ↓z_sZ, ↓z_on, z_cl, ↓reduceIte, Int.reduceEq, Int.reduceNeg, Int.reduceLT, Int.reduceLE, Int.reduceAdd, Int.reduceSub, Int.reduceMul, true_and, and_true, or_true, true_or, eq_self, iR_t, sO1 sh, p9, pa9, pb9, pa13, pO sh hq, pA7 sh hq, hq1, hq7, v6, c12, ↓e_cl r1, i13, pa12, ↓e_g r2', ↓e_cl K, ↓e_g X, ↓e_g rb, ↓e_g K2]
              · simp (disch := first | omega | assumption) only [fX8_streamLine, ↓z_lt, ↓z_ge, ↓z_gt, ↓z_le, ↓z_eq, ↓z_ne, ↓z_mx, ↓z_mn, ↓z_dv, ↓z_rm, ↓z_i2l, ↓z_lc, ↓z_sw, ↓z_sf, ↓z_sn, ↓z_bd, ↓z_nt, z_b0, z_b1, z_bi, z_bj, ↓z_gF, ↓z_gR, ↓z_pF, ↓z_pZ, ↓z_pR, ↓z_aI, ↓z_aR, ↓z_sI, ↓z_sZ, ↓z_on, z_cl, ↓reduceIte, Int.reduceEq, Int.reduceNeg, Int.reduceLT, Int.reduceLE, Int.reduceAdd, Int.reduceSub, Int.reduceMul, true_and, and_true, or_true, true_or, eq_self, iR_t, sO265 sh, sA267 sh, ma10, da2, ↓e_cl u1', ↓e_cl U, mb10]
                simp (disch := first | omega | assumption) only [↓z_lt, ↓z_ge, ↓z_gt, ↓z_le, ↓z_eq, ↓z_ne, ↓z_mx, ↓z_mn, ↓z_dv, ↓z_rm, ↓z_i2l, ↓z_lc, ↓z_sw, ↓z_sf, ↓z_sn, ↓z_bd, ↓z_nt, z_b0, z_b1, z_bi, z_bj, ↓z_gF, ↓z_gR, ↓z_pF, ↓z_pZ, ↓z_pR, ↓z_aI, ↓z_aR, ↓z_sI, ↓z_sZ, ↓z_on, z_cl, ↓reduceIte, Int.reduceEq, Int.reduceNeg, Int.reduceLT, Int.reduceLE, Int.reduceAdd, Int.reduceSub, Int.reduceMul, true_and, and_true, or_true, true_or, eq_self, iR_t, sO265 sh, sA267 sh, mb10, wm3]
                simp (disch := first | omega | assumption) only [↓z_lt, ↓z_ge, ↓z_gt, ↓z_le, ↓z_eq, ↓z_ne, ↓z_mx, ↓z_mn, ↓z_dv, ↓z_rm, ↓z_i2l, ↓z_lc, ↓z_sw, ↓z_sf, ↓z_sn, ↓z_bd, ↓z_nt, z_b0, z_b1, z_bi, z_bj, ↓z_gF, ↓z_gR, ↓z_pF, ↓z_pZ, ↓z_pR, ↓z_aI, ↓z_aR, ↓z_sI, ↓z_sZ, ↓z_on, z_cl, ↓reduceIte, Int.reduceEq, Int.reduceNeg, Int.reduceLT, Int.reduceLE, Int.reduceAdd, Int.reduceSub, Int.reduceMul, true_and, and_true, or_true, true_or, eq_self, iR_t, sO265 sh, sA267 sh, ↓e_cl U2, mb10, F0.2.2.2, F1.2.2.2]
                simp (disch := first | omega | assumption) only [↓z_lt, ↓z_ge, ↓z_gt, ↓z_le, ↓z_eq, ↓z_ne, ↓z_mx, ↓z_mn, ↓z_dv, ↓z_rm, ↓z_i2l, ↓z_lc, ↓z_sw, ↓z_sf, ↓z_sn, ↓z_bd, ↓z_nt, z_b0, z_b1, z_bi, z_bj, ↓z_gF, ↓z_gR, ↓z_pF, ↓z_pZ, ↓z_pR, ↓z_aI, ↓z_aR, ↓z_sI, ↓z_sZ, ↓z_on, z_cl, ↓reduceIte, Int.reduceEq, Int.reduceNeg, Int.reduceLT, Int.reduceLE, Int.reduceAdd, Int.reduceSub, Int.reduceMul, true_and, and_true, or_true, true_or, eq_self, iR_t, sO265 sh, sA267 sh, ↓e_cl R2, F1.2.2.2, F2.1, F2.2.1]
          · right
            have F0 := FS.mk Qb.mt Qb.m10 (k := 1) (by omega)
            have F1 := FS.wr7 (i := 71 + 3 * d 2 + 1) (v := 1) F0
            have F2 := FS.wr7 (i := 71 + 3 * d 2 + 2) (v := 1) F1
            have K2 : fX5_isNumberWithin P σb 1 1 (d 3) = some (0, clt σb 1) := c_numS Qb.ct t2
            have U2 : fX8_read P (wr τb 267 (71 + 3 * d 2) D) 265 1 (d 3) = some (1, mlt (wr τb 267 (71 + 3 * d 2) D) 1) := m_readS Qb.mt t2
            have R2 : fX8_read P (wr (mlt (wr τb 267 (71 + 3 * d 2) D) 1) 267 (71 + 3 * d 2 + 1) 1) 265 1 9999 = some (1, _) := fs_read sh F1
            refine ⟨clt σb 1, wr (wr (mlt (wr τb 267 (71 + 3 * d 2) D) 1) 267 (71 + 3 * d 2 + 1) 1) 267 (71 + 3 * d 2 + 2) 1, ?_, ?_, ((BAD.flt hq Qb.ct Qb.mt (Fa.tr Fb) (Ga.tr Gb) (by omega)).wr7).wr7⟩
            · simp (disch := first | omega | assumption | (simp (disch := omega) only [ i13, p9, v6, pa9, pa12, pa13, pa5, pb9, w0 ]; done) | fail) only [fX5_readStream, ↓z_lt, ↓z_ge, ↓z_gt, ↓z_le, ↓z_eq, ↓z_ne, ↓z_mx, ↓z_mn, ↓z_dv, ↓z_rm, ↓z_i2l, ↓z_lc, ↓z_sw, ↓z_sf, ↓z_sn, ↓z_bd, ↓z_nt, z_b0, z_b1, z_bi, z_bj, ↓z_gF, ↓z_gR, ↓z_pF, ↓z_pZ, ↓z_pR, ↓z_aI, ↓z_aR, ↓z_sI, ↓z_sZ, ↓z_on, z_cl, ↓reduceIte, Int.reduceEq, Int.reduceNeg, Int.reduceLT, Int.reduceLE, Int.reduceAdd, Int.reduceSub, Int.reduceMul, true_and, and_true, or_true, true_or, eq_self, iR_t, sO1 sh, p9, pa9, pb9, pa13, pO sh hq, pA7 sh hq, hq1, hq7, v6, c12, ↓e_cl r1, i13, pa12, ↓e_g r2', ↓e_cl K, ↓e_g X, ↓e_g rb, ↓e_g K2]
            · simp (disch := first | omega | assumption) only [fX8_streamLine, ↓z_lt, ↓z_ge, ↓z_gt, ↓z_le, ↓z_eq, ↓z_ne, ↓z_mx, ↓z_mn, ↓z_dv, ↓z_rm, ↓z_i2l, ↓z_lc, ↓z_sw, ↓z_sf, ↓z_sn, ↓z_bd, ↓z_nt, z_b0, z_b1, z_bi, z_bj, ↓z_gF, ↓z_gR, ↓z_pF, ↓z_pZ, ↓z_pR, ↓z_aI, ↓z_aR, ↓z_sI, ↓z_sZ, ↓z_on, z_cl, ↓reduceIte, Int.reduceEq, Int.reduceNeg, Int.reduceLT, Int.reduceLE, Int.reduceAdd, Int.reduceSub, Int.reduceMul, true_and, and_true, or_true, true_or, eq_self, iR_t, sO265 sh, sA267 sh, ma10, da2, ↓e_cl u1', ↓e_cl U, mb10]
              simp (disch := first | omega | assumption) only [↓z_lt, ↓z_ge, ↓z_gt, ↓z_le, ↓z_eq, ↓z_ne, ↓z_mx, ↓z_mn, ↓z_dv, ↓z_rm, ↓z_i2l, ↓z_lc, ↓z_sw, ↓z_sf, ↓z_sn, ↓z_bd, ↓z_nt, z_b0, z_b1, z_bi, z_bj, ↓z_gF, ↓z_gR, ↓z_pF, ↓z_pZ, ↓z_pR, ↓z_aI, ↓z_aR, ↓z_sI, ↓z_sZ, ↓z_on, z_cl, ↓reduceIte, Int.reduceEq, Int.reduceNeg, Int.reduceLT, Int.reduceLE, Int.reduceAdd, Int.reduceSub, Int.reduceMul, true_and, and_true, or_true, true_or, eq_self, iR_t, sO265 sh, sA267 sh, mb10, wm3]
              simp (disch := first | omega | assumption) only [↓z_lt, ↓z_ge, ↓z_gt, ↓z_le, ↓z_eq, ↓z_ne, ↓z_mx, ↓z_mn, ↓z_dv, ↓z_rm, ↓z_i2l, ↓z_lc, ↓z_sw, ↓z_sf, ↓z_sn, ↓z_bd, ↓z_nt, z_b0, z_b1, z_bi, z_bj, ↓z_gF, ↓z_gR, ↓z_pF, ↓z_pZ, ↓z_pR, ↓z_aI, ↓z_aR, ↓z_sI, ↓z_sZ, ↓z_on, z_cl, ↓reduceIte, Int.reduceEq, Int.reduceNeg, Int.reduceLT, Int.reduceLE, Int.reduceAdd, Int.reduceSub, Int.reduceMul, true_and, and_true, or_true, true_or, eq_self, iR_t, sO265 sh, sA267 sh, ↓e_cl U2, mb10, F0.2.2.2, F1.2.2.2]
              simp (disch := first | omega | assumption) only [↓z_lt, ↓z_ge, ↓z_gt, ↓z_le, ↓z_eq, ↓z_ne, ↓z_mx, ↓z_mn, ↓z_dv, ↓z_rm, ↓z_i2l, ↓z_lc, ↓z_sw, ↓z_sf, ↓z_sn, ↓z_bd, ↓z_nt, z_b0, z_b1, z_bi, z_bj, ↓z_gF, ↓z_gR, ↓z_pF, ↓z_pZ, ↓z_pR, ↓z_aI, ↓z_aR, ↓z_sI, ↓z_sZ, ↓z_on, z_cl, ↓reduceIte, Int.reduceEq, Int.reduceNeg, Int.reduceLT, Int.reduceLE, Int.reduceAdd, Int.reduceSub, Int.reduceMul, true_and, and_true, or_true, true_or, eq_self, iR_t, sO265 sh, sA267 sh, ↓e_cl R2, F1.2.2.2, F2.1, F2.2.1]
      · right
        have K := c_kn0 Qa hw
        have U := m_dv0 Qa hw
        have F0 := FS.mk Qa.mt Qa.m10 (k := 1) (by omega)
        have F1 := FS.wr7 (i := 71 + 3 * d 2) (v := 0) F0
        have F2 := FS.wr7 (i := 71 + 3 * d 2 + 1) (v := 1) F1
        have R1 : ∀ b, fX8_read P (wr (mlt τa 1) 267 (71 + 3 * d 2) 0) 265 1 b = some (1, _) := fun b => fs_read sh F1
        have R2 : ∀ b, fX8_read P (wr (wr (mlt τa 1) 267 (71 + 3 * d 2) 0) 267 (71 + 3 * d 2 + 1) 1) 265 1 b = some (1, _) := fun b => fs_read sh F2
        have F3 := FS.wr7 (i := 71 + 3 * d 2 + 2) (v := 1) F2
        have W3 : wr (mlt τa 1) 267 (71 + 3 * d 2) 0 267 3 = d 3 := by rw [wr_i (by omega), mlt_o (by omega)]; exact da3
        refine ⟨clt σa 1, wr (wr (wr (mlt τa 1) 267 (71 + 3 * d 2) 0) 267 (71 + 3 * d 2 + 1) 1) 267 (71 + 3 * d 2 + 2) 1, ?_, ?_, (((BAD.flt hq Qa.ct Qa.mt Fa Ga (by omega)).wr7).wr7).wr7⟩
        · simp (disch := first | omega | assumption | (simp (disch := omega) only [ i13, p9, v6 ]; done) | fail) only [fX5_readStream, ↓z_lt, ↓z_ge, ↓z_gt, ↓z_le, ↓z_eq, ↓z_ne, ↓z_mx, ↓z_mn, ↓z_dv, ↓z_rm, ↓z_i2l, ↓z_lc, ↓z_sw, ↓z_sf, ↓z_sn, ↓z_bd, ↓z_nt, z_b0, z_b1, z_bi, z_bj, ↓z_gF, ↓z_gR, ↓z_pF, ↓z_pZ, ↓z_pR, ↓z_aI, ↓z_aR, ↓z_sI, ↓z_sZ, ↓z_on, z_cl, ↓reduceIte, Int.reduceEq, Int.reduceNeg, Int.reduceLT, Int.reduceLE, Int.reduceAdd, Int.reduceSub, Int.reduceMul, true_and, and_true, or_true, true_or, eq_self, iR_t, sO1 sh, p9, pO sh hq, hq1, v6, c12, ↓e_cl r1, i13, ↓e_g r2', ↓e_cl K]
        · simp (disch := first | omega | assumption) only [fX8_streamLine, ↓z_lt, ↓z_ge, ↓z_gt, ↓z_le, ↓z_eq, ↓z_ne, ↓z_mx, ↓z_mn, ↓z_dv, ↓z_rm, ↓z_i2l, ↓z_lc, ↓z_sw, ↓z_sf, ↓z_sn, ↓z_bd, ↓z_nt, z_b0, z_b1, z_bi, z_bj, ↓z_gF, ↓z_gR, ↓z_pF, ↓z_pZ, ↓z_pR, ↓z_aI, ↓z_aR, ↓z_sI, ↓z_sZ, ↓z_on, z_cl, ↓reduceIte, Int.reduceEq, Int.reduceNeg, Int.reduceLT, Int.reduceLE, Int.reduceAdd, Int.reduceSub, Int.reduceMul, true_and, and_true, or_true, true_or, eq_self, iR_t, sO265 sh, sA267 sh, ma10, da2, W3, ↓e_cl u1', ↓e_cl U, F0.2.2.2, F1.2.2.2]
          simp (disch := first | omega | assumption) only [↓z_lt, ↓z_ge, ↓z_gt, ↓z_le, ↓z_eq, ↓z_ne, ↓z_mx, ↓z_mn, ↓z_dv, ↓z_rm, ↓z_i2l, ↓z_lc, ↓z_sw, ↓z_sf, ↓z_sn, ↓z_bd, ↓z_nt, z_b0, z_b1, z_bi, z_bj, ↓z_gF, ↓z_gR, ↓z_pF, ↓z_pZ, ↓z_pR, ↓z_aI, ↓z_aR, ↓z_sI, ↓z_sZ, ↓z_on, z_cl, ↓reduceIte, Int.reduceEq, Int.reduceNeg, Int.reduceLT, Int.reduceLE, Int.reduceAdd, Int.reduceSub, Int.reduceMul, true_and, and_true, or_true, true_or, eq_self, iR_t, sO265 sh, sA267 sh, ↓e_cl (R1 (d 3)), F1.2.2.2, F2.2.2.2, ↓e_cl (R2 9999), F3.1, F3.2.1]
    · right
      refine ⟨σa, τa, ?_, ?_, hB⟩
      · simp (disch := first | omega | assumption | (simp (disch := omega) only [ i13, p9, v6 ]; done) | fail) only [fX5_readStream, ↓z_lt, ↓z_ge, ↓z_gt, ↓z_le, ↓z_eq, ↓z_ne, ↓z_mx, ↓z_mn, ↓z_dv, ↓z_rm, ↓z_i2l, ↓z_lc, ↓z_sw, ↓z_sf, ↓z_sn, ↓z_bd, ↓z_nt, z_b0, z_b1, z_bi, z_bj, ↓z_gF, ↓z_gR, ↓z_pF, ↓z_pZ, ↓z_pR, ↓z_aI, ↓z_aR, ↓z_sI, ↓z_sZ, ↓z_on, z_cl, ↓reduceIte, Int.reduceEq, Int.reduceNeg, Int.reduceLT, Int.reduceLE, Int.reduceAdd, Int.reduceSub, Int.reduceMul, true_and, and_true, or_true, true_or, eq_self, iR_t, sO1 sh, p9, pO sh hq, hq1, v6, c12, ↓e_cl r1, i13, ↓e_g (show fX5_takeNewName P σ1 1 15 (d 2) = some (0, σa) from r2)]
      · simp (disch := first | omega | assumption) only [fX8_streamLine, ↓z_lt, ↓z_ge, ↓z_gt, ↓z_le, ↓z_eq, ↓z_ne, ↓z_mx, ↓z_mn, ↓z_dv, ↓z_rm, ↓z_i2l, ↓z_lc, ↓z_sw, ↓z_sf, ↓z_sn, ↓z_bd, ↓z_nt, z_b0, z_b1, z_bi, z_bj, ↓z_gF, ↓z_gR, ↓z_pF, ↓z_pZ, ↓z_pR, ↓z_aI, ↓z_aR, ↓z_sI, ↓z_sZ, ↓z_on, z_cl, ↓reduceIte, Int.reduceEq, Int.reduceNeg, Int.reduceLT, Int.reduceLE, Int.reduceAdd, Int.reduceSub, Int.reduceMul, true_and, and_true, or_true, true_or, eq_self, iR_t, sO265 sh, ↓e_cl (show fX8_begin P τ 265 2 12 = some (0, τa) from u1)]
  · right
    have b5 : fX8_begin P τ 265 2 12 = some (0, mlt τ 5) := by
      have k1 : 12 ≤ d 2 := by omega
      simp (disch := first | omega | assumption) only [fX8_begin, ↓z_lt, ↓z_ge, ↓z_gt, ↓z_le, ↓z_eq, ↓z_ne, ↓z_mx, ↓z_mn, ↓z_dv, ↓z_rm, ↓z_i2l, ↓z_lc, ↓z_sw, ↓z_sf, ↓z_sn, ↓z_bd, ↓z_nt, z_b0, z_b1, z_bi, z_bj, ↓z_gF, ↓z_gR, ↓z_pF, ↓z_pZ, ↓z_pR, ↓z_aI, ↓z_aR, ↓z_sI, ↓z_sZ, ↓z_on, z_cl, ↓reduceIte, Int.reduceEq, Int.reduceNeg, Int.reduceLT, Int.reduceLE, Int.reduceAdd, Int.reduceSub, Int.reduceMul, true_and, and_true, or_true, true_or, eq_self, iR_t, sO265 sh, sA267 sh, m10, d2, k1, ↓m_must0' Q.mt]
    refine ⟨clt σ 5, mlt τ 5, ?_, ?_, BAD.flt hq Q.ct Q.mt CFr.rf MFr.rf (by omega)⟩
    · simp (disch := first | omega | assumption) only [fX5_readStream, ↓z_lt, ↓z_ge, ↓z_gt, ↓z_le, ↓z_eq, ↓z_ne, ↓z_mx, ↓z_mn, ↓z_dv, ↓z_rm, ↓z_i2l, ↓z_lc, ↓z_sw, ↓z_sf, ↓z_sn, ↓z_bd, ↓z_nt, z_b0, z_b1, z_bi, z_bj, ↓z_gF, ↓z_gR, ↓z_pF, ↓z_pZ, ↓z_pR, ↓z_aI, ↓z_aR, ↓z_sI, ↓z_sZ, ↓z_on, z_cl, ↓reduceIte, Int.reduceEq, Int.reduceNeg, Int.reduceLT, Int.reduceLE, Int.reduceAdd, Int.reduceSub, Int.reduceMul, true_and, and_true, or_true, true_or, eq_self, iR_t, sO1 sh, p9, pO sh hq, hq1, v6, c12, ↓c_fault' Q.ct]
    · simp (disch := first | omega | assumption) only [fX8_streamLine, ↓z_lt, ↓z_ge, ↓z_gt, ↓z_le, ↓z_eq, ↓z_ne, ↓z_mx, ↓z_mn, ↓z_dv, ↓z_rm, ↓z_i2l, ↓z_lc, ↓z_sw, ↓z_sf, ↓z_sn, ↓z_bd, ↓z_nt, z_b0, z_b1, z_bi, z_bj, ↓z_gF, ↓z_gR, ↓z_pF, ↓z_pZ, ↓z_pR, ↓z_aI, ↓z_aR, ↓z_sI, ↓z_sZ, ↓z_on, z_cl, ↓reduceIte, Int.reduceEq, Int.reduceNeg, Int.reduceLT, Int.reduceLE, Int.reduceAdd, Int.reduceSub, Int.reduceMul, true_and, and_true, or_true, true_or, eq_self, iR_t, sO265 sh, ↓e_cl b5]
end ZZR
