/-! THE PATTERN's line on both sides. -/
noncomputable def patT (P : Shp) (x : Int) (s : St) : Option St :=
  fX8_patternLine_L57 P 265 x 0
    (fun s20 =>
      fX8_patternLine_L78 P 265 x
        (fun x36 s37 =>
          gR P 8 s37 265 10 fun x38 =>
          sI P 10 s37 x38 (x + 2) x36 fun s39 =>
          gF P 8 s39 265 8 fun x40 =>
          jne x40 0
            (some s39)
            (
              gR P 8 s39 265 10 fun x41 =>
              aI P 10 s39 x41 0 fun x42 =>
              sI P 10 s39 x41 0 (x42 + 1) fun s43 =>
              some s43))
        (fun s44 =>
          some s44)
        1000 0 s20)
    1000 3 s
def PN (P : Shp) (σ τ : St) (f : Int → Int) (N q : Int) (FC : Option (Int × St)) (FM : Option St) : Prop :=
  LN P σ τ f N q FC FM ∨ (∃ σ' τ' e', FC = some (1, σ') ∧ FM = some τ' ∧ CT P σ' f N e' ∧ tT f N e' = 1 ∧ BAD q σ τ (clt σ' 1) τ')
section ZZY
variable {P : Shp} {σ σ' σ0 σ1 σ2 s τ τ' τ0 τ1 τ2 : St} {f g h B B' d d' : Int → Int} {a b c e e' k i x y z v v' w N q L kd cnt h1 s1 p o n : Int}
theorem kinds_mF (sh : ShpIs P 279 PL) (h : FS s) (kA : Int → St → Option St) (kB : St → Option St) (m : Nat) : fX8_patternLine_L78 P 265 x kA kB (m + 1) 0 s = kA 0 s := by
  simp (disch := first | omega | assumption) only [fX8_patternLine_L78, ↓z_lt, ↓z_ge, ↓z_gt, ↓z_le, ↓z_eq, ↓z_ne, ↓z_mx, ↓z_mn, ↓z_dv, ↓z_rm, ↓z_i2l, ↓z_lc, ↓z_sw, ↓z_sf, ↓z_sn, ↓z_bd, ↓z_nt, z_b0, z_b1, z_bi, z_bj, ↓z_gF, ↓z_gR, ↓z_pF, ↓z_pZ, ↓z_pR, ↓z_aI, ↓z_aR, ↓z_sI, ↓z_sZ, ↓z_on, z_cl, ↓reduceIte, Int.reduceEq, Int.reduceNeg, Int.reduceLT, Int.reduceLE, Int.reduceAdd, Int.reduceSub, Int.reduceMul, true_and, and_true, or_true, true_or, eq_self, iR_t, sO265 sh, h.1, h.2.1]
theorem patF (sh : ShpIs P 279 PL) (h : FS s) (x0 : 0 ≤ x) (x90 : x < 90) : patT P x s = some (wr (w57 s x) 267 (x + 2) 0) := by
  have F := FS.w57 (x := x) h
  have F2 := FS.wr7 (i := x + 2) (v := 0) F
  unfold patT
  refine (m57 sh h.2.2.2 x0 x90 0 _ 994).trans ?_
  refine (kinds_mF sh F _ _ 999).trans ?_
  simp (disch := first | omega | assumption) only [↓z_lt, ↓z_ge, ↓z_gt, ↓z_le, ↓z_eq, ↓z_ne, ↓z_mx, ↓z_mn, ↓z_dv, ↓z_rm, ↓z_i2l, ↓z_lc, ↓z_sw, ↓z_sf, ↓z_sn, ↓z_bd, ↓z_nt, z_b0, z_b1, z_bi, z_bj, ↓z_gF, ↓z_gR, ↓z_pF, ↓z_pZ, ↓z_pR, ↓z_aI, ↓z_aR, ↓z_sI, ↓z_sZ, ↓z_on, z_cl, ↓reduceIte, Int.reduceEq, Int.reduceNeg, Int.reduceLT, Int.reduceLE, Int.reduceAdd, Int.reduceSub, Int.reduceMul, true_and, and_true, or_true, true_or, eq_self, iR_t, sO265 sh, sA267 sh, F.2.2.2, F2.1, F2.2.1]
theorem patA {τa : St} (sh : ShpIs P 279 PL) (hs : s 265 10 = 267) (hn : n < 6) (n0 : 0 ≤ n) (k0 : 0 < k) (k5 : k ≤ 5) (H : fX8_patternLine_L78 P 265 (7 + 8 * n) (fun x36 s37 =>
          gR P 8 s37 265 10 fun x38 =>
          sI P 10 s37 x38 (7 + 8 * n + 2) x36 fun s39 =>
          gF P 8 s39 265 8 fun x40 =>
          jne x40 0
            (some s39)
            (
              gR P 8 s39 265 10 fun x41 =>
              aI P 10 s39 x41 0 fun x42 =>
              sI P 10 s39 x41 0 (x42 + 1) fun s43 =>
              some s43)) (fun s44 => some s44) 1000 0 (w57 s (7 + 8 * n)) = (fun x36 s37 =>
          gR P 8 s37 265 10 fun x38 =>
          sI P 10 s37 x38 (7 + 8 * n + 2) x36 fun s39 =>
          gF P 8 s39 265 8 fun x40 =>
          jne x40 0
            (some s39)
            (
              gR P 8 s39 265 10 fun x41 =>
              aI P 10 s39 x41 0 fun x42 =>
              sI P 10 s39 x41 0 (x42 + 1) fun s43 =>
              some s43)) k τa) (m10 : τa 265 10 = 267) (m8 : τa 265 8 = 0) (w0 : τa 267 0 = n) : patT P (7 + 8 * n) s = some (wr (wr τa 267 (7 + 8 * n + 2) k) 267 0 (n + 1)) := by
  have M10 : wr τa 267 (7 + 8 * n + 2) k 265 10 = 267 := by rw [wr_n (by omega)]; exact m10
  have M8 : wr τa 267 (7 + 8 * n + 2) k 265 8 = 0 := by rw [wr_n (by omega)]; exact m8
  have W0 : wr τa 267 (7 + 8 * n + 2) k 267 0 = n := by rw [wr_i (by omega)]; exact w0
  unfold patT
  refine (m57 sh hs (by omega) (by omega) 0 _ 994).trans ?_
  refine H.trans ?_
  simp (disch := first | omega | assumption) only [↓z_lt, ↓z_ge, ↓z_gt, ↓z_le, ↓z_eq, ↓z_ne, ↓z_mx, ↓z_mn, ↓z_dv, ↓z_rm, ↓z_i2l, ↓z_lc, ↓z_sw, ↓z_sf, ↓z_sn, ↓z_bd, ↓z_nt, z_b0, z_b1, z_bi, z_bj, ↓z_gF, ↓z_gR, ↓z_pF, ↓z_pZ, ↓z_pR, ↓z_aI, ↓z_aR, ↓z_sI, ↓z_sZ, ↓z_on, z_cl, ↓reduceIte, Int.reduceEq, Int.reduceNeg, Int.reduceLT, Int.reduceLE, Int.reduceAdd, Int.reduceSub, Int.reduceMul, true_and, and_true, or_true, true_or, eq_self, iR_t, sO265 sh, sA267 sh, m10, M10, M8, W0]
theorem patB {τa : St} (sh : ShpIs P 279 PL) (hs : s 265 10 = 267) (hn : n < 6) (n0 : 0 ≤ n) (H : ∀ kA kB, fX8_patternLine_L78 P 265 (7 + 8 * n) kA kB 1000 0 (w57 s (7 + 8 * n)) = kB τa) : patT P (7 + 8 * n) s = some τa := by
  unfold patT
  refine (m57 sh hs (by omega) (by omega) 0 _ 994).trans ?_
  exact H _ _
theorem pat_eq : fX8_patternLine P s 265 = (
  onO P 8 265 <| cl (fX8_begin P s 265 0 6) fun (x2, s3) =>
  jne x2 0
    (
      gR P 8 s3 265 10 fun x4 =>
      aI P 10 s3 x4 0 fun x5 =>
      bd (7 + (8 * x5)) fun x6 =>
      gR P 8 s3 265 10 fun x7 =>
      onO P 8 265 <| cl (fX8_read P s3 265 1 99) fun (x9, s10) =>
      sI P 10 s10 x7 x6 x9 fun s11 =>
      gR P 8 s11 265 10 fun x12 =>
      onO P 8 265 <| cl (fX8_read P s11 265 1 200) fun (x14, s15) =>
      sI P 10 s15 x12 (x6 + 1) x14 fun s16 =>
      patT P x6 s16)
    (some s3)) := rfl
theorem patM {τa τb τc : St} {v1 v2 : Int} (sh : ShpIs P 279 PL) (n0 : 0 ≤ n) (n6 : n < 6) (u1' : fX8_begin P τ 265 0 6 = some (1, τa)) (ma10 : τa 265 10 = 267) (da0 : τa 267 0 = n) (U1 : fX8_read P τa 265 1 99 = some (v1, τb)) (mb10 : wr τb 267 (7 + 8 * n) v1 265 10 = 267) (U2 : fX8_read P (wr τb 267 (7 + 8 * n) v1) 265 1 200 = some (v2, τc)) {R : St} (T : patT P (7 + 8 * n) (wr τc 267 (7 + 8 * n + 1) v2) = some R) : fX8_patternLine P τ 265 = some R := by
  rw [← T]
  simp (disch := first | omega | assumption) only [pat_eq, ↓z_lt, ↓z_ge, ↓z_gt, ↓z_le, ↓z_eq, ↓z_ne, ↓z_mx, ↓z_mn, ↓z_dv, ↓z_rm, ↓z_i2l, ↓z_lc, ↓z_sw, ↓z_sf, ↓z_sn, ↓z_bd, ↓z_nt, z_b0, z_b1, z_bi, z_bj, ↓z_gF, ↓z_gR, ↓z_pF, ↓z_pZ, ↓z_pR, ↓z_aI, ↓z_aR, ↓z_sI, ↓z_sZ, ↓z_on, z_cl, ↓reduceIte, Int.reduceEq, Int.reduceNeg, Int.reduceLT, Int.reduceLE, Int.reduceAdd, Int.reduceSub, Int.reduceMul, true_and, and_true, or_true, true_or, eq_self, iR_t, sO265 sh, sA267 sh, ma10, da0, ↓e_cl u1', ↓e_cl U1]
  simp (disch := first | omega | assumption) only [↓z_lt, ↓z_ge, ↓z_gt, ↓z_le, ↓z_eq, ↓z_ne, ↓z_mx, ↓z_mn, ↓z_dv, ↓z_rm, ↓z_i2l, ↓z_lc, ↓z_sw, ↓z_sf, ↓z_sn, ↓z_bd, ↓z_nt, z_b0, z_b1, z_bi, z_bj, ↓z_gF, ↓z_gR, ↓z_pF, ↓z_pZ, ↓z_pR, ↓z_aI, ↓z_aR, ↓z_sI, ↓z_sZ, ↓z_on, z_cl, ↓reduceIte, Int.reduceEq, Int.reduceNeg, Int.reduceLT, Int.reduceLE, Int.reduceAdd, Int.reduceSub, Int.reduceMul, true_and, and_true, or_true, true_or, eq_self, iR_t, sO265 sh, sA267 sh, mb10, ↓e_cl U2]
theorem pErr0 (C : CT P σ' f N e) (hq : q = 3 ∨ q = 17) (n0 : 0 ≤ n) (n6 : n < 6) (p9 : σ' 1 9 = q) (q9 : σ' q 9 = q + 3) (H1 : ∀ kE m, 5 < m → fX5_readPatternErrors_L2 P 1 n kE m 0 σ = kE 0 σ') : fX5_readPatternErrors P σ 1 n = some (0, clt (wr σ' (q + 3) n 0) 1) := by
  have sh := C.rb.sh
  have hq1 : ¬ (q = -1) := by omega
  have hq3 : ¬ (q + 3 = -1) := by omega
  have C2 : CT P (wr σ' (q + 3) n 0) f N e := C.fr (fun j _ _ => wr_n (by omega)) (wr_o (by omega))
  unfold fX5_readPatternErrors
  refine (H1 _ 1000 (by decide)).trans ?_
  simp (disch := first | omega | assumption) only [↓z_lt, ↓z_ge, ↓z_gt, ↓z_le, ↓z_eq, ↓z_ne, ↓z_mx, ↓z_mn, ↓z_dv, ↓z_rm, ↓z_i2l, ↓z_lc, ↓z_sw, ↓z_sf, ↓z_sn, ↓z_bd, ↓z_nt, z_b0, z_b1, z_bi, z_bj, ↓z_gF, ↓z_gR, ↓z_pF, ↓z_pZ, ↓z_pR, ↓z_aI, ↓z_aR, ↓z_sI, ↓z_sZ, ↓z_on, z_cl, ↓reduceIte, Int.reduceEq, Int.reduceNeg, Int.reduceLT, Int.reduceLE, Int.reduceAdd, Int.reduceSub, Int.reduceMul, true_and, and_true, or_true, true_or, eq_self, iR_t, sO1 sh, p9, q9, pO sh hq, pA3 sh hq, hq1, hq3, ↓c_fault' C2]
theorem pErr1 (C : CT P σ' f N e) (hq : q = 3 ∨ q = 17) (n0 : 0 ≤ n) (n6 : n < 6) (p9 : σ' 1 9 = q) (q9 : σ' q 9 = q + 3) (k0 : 0 < k) (k5 : k ≤ 5) (hk : kwF f N e = -1) (H1 : ∀ kE m, 5 < m → fX5_readPatternErrors_L2 P 1 n kE m 0 σ = kE k σ') : fX5_readPatternErrors P σ 1 n = some (1, wr σ' (q + 3) n k) := by
  have sh := C.rb.sh
  have hq1 : ¬ (q = -1) := by omega
  have hq3 : ¬ (q + 3 = -1) := by omega
  have k1 : ¬ (k = 0) := by omega
  have C2 : CT P (wr σ' (q + 3) n k) f N e := C.fr (fun j _ _ => wr_n (by omega)) (wr_o (by omega))
  have W := c_kindOfWord C2
  rw [hk] at W
  unfold fX5_readPatternErrors
  refine (H1 _ 1000 (by decide)).trans ?_
  simp (disch := first | omega | assumption) only [↓z_lt, ↓z_ge, ↓z_gt, ↓z_le, ↓z_eq, ↓z_ne, ↓z_mx, ↓z_mn, ↓z_dv, ↓z_rm, ↓z_i2l, ↓z_lc, ↓z_sw, ↓z_sf, ↓z_sn, ↓z_bd, ↓z_nt, z_b0, z_b1, z_bi, z_bj, ↓z_gF, ↓z_gR, ↓z_pF, ↓z_pZ, ↓z_pR, ↓z_aI, ↓z_aR, ↓z_sI, ↓z_sZ, ↓z_on, z_cl, ↓reduceIte, Int.reduceEq, Int.reduceNeg, Int.reduceLT, Int.reduceLE, Int.reduceAdd, Int.reduceSub, Int.reduceMul, true_and, and_true, or_true, true_or, eq_self, iR_t, sO1 sh, p9, q9, pO sh hq, pA3 sh hq, hq1, hq3, k1, ↓e_cl W]
theorem pErr5 (C : CT P σ' f N e) (hq : q = 3 ∨ q = 17) (n0 : 0 ≤ n) (n6 : n < 6) (p9 : σ' 1 9 = q) (q9 : σ' q 9 = q + 3) (k0 : 0 < k) (k5 : k ≤ 5) (hk : ¬ (kwF f N e = -1)) (H1 : ∀ kE m, 5 < m → fX5_readPatternErrors_L2 P 1 n kE m 0 σ = kE k σ') : fX5_readPatternErrors P σ 1 n = some (0, clt (wr σ' (q + 3) n k) 5) := by
  have sh := C.rb.sh
  have hq1 : ¬ (q = -1) := by omega
  have hq3 : ¬ (q + 3 = -1) := by omega
  have k1 : ¬ (k = 0) := by omega
  have C2 : CT P (wr σ' (q + 3) n k) f N e := C.fr (fun j _ _ => wr_n (by omega)) (wr_o (by omega))
  have W := c_kindOfWord C2
  have kw := kwF_in (f := f) (N := N) (e := e)
  generalize kwF f N e = K at *
  unfold fX5_readPatternErrors
  refine (H1 _ 1000 (by decide)).trans ?_
  simp (disch := first | omega | assumption) only [↓z_lt, ↓z_ge, ↓z_gt, ↓z_le, ↓z_eq, ↓z_ne, ↓z_mx, ↓z_mn, ↓z_dv, ↓z_rm, ↓z_i2l, ↓z_lc, ↓z_sw, ↓z_sf, ↓z_sn, ↓z_bd, ↓z_nt, z_b0, z_b1, z_bi, z_bj, ↓z_gF, ↓z_gR, ↓z_pF, ↓z_pZ, ↓z_pR, ↓z_aI, ↓z_aR, ↓z_sI, ↓z_sZ, ↓z_on, z_cl, ↓reduceIte, Int.reduceEq, Int.reduceNeg, Int.reduceLT, Int.reduceLE, Int.reduceAdd, Int.reduceSub, Int.reduceMul, true_and, and_true, or_true, true_or, eq_self, iR_t, sO1 sh, p9, q9, pO sh hq, pA3 sh hq, hq1, hq3, k1, ↓e_cl W, hk, ↓c_fault' C2]
theorem patC {v1 v2 bb : Int} {σa σb σc σE : St} (sh : ShpIs P 279 PL) (hq : q = 3 ∨ q = 17) (p9 : σ 1 9 = q) (v4 : σ q 4 = n) (n0 : 0 ≤ n) (n6 : n < 6) (r1 : fX5_advance P σ 1 = some σ1) (i11 : σ1 1 11 = 13) (r2' : fX5_takeNewName P σ1 1 13 n = some (1, σa)) (N1 : fX5_isNumberWithin P σa 1 1 99 = some (1, σa)) (pa9 : σa 1 9 = q) (pa7 : σa q 7 = q + 1) (s6 : σa 1 6 = v1) (rb : fX5_advance P (wr σa (q + 1) n v1) 1 = some σb) (N2 : fX5_isNumberWithin P σb 1 1 200 = some (1, σb)) (pb9 : σb 1 9 = q) (pb8 : σb q 8 = q + 2) (s6b : σb 1 6 = v2) (rc : fX5_advance P (wr σb (q + 2) n v2) 1 = some σc) (pc9 : σc 1 9 = q) (E : fX5_readPatternErrors P (wr σc q 4 (n + 1)) 1 n = some (bb, σE)) (hb : bb = 0 ∨ bb = 1) : fX5_readPattern P σ 1 = some (bb, σE) := by
  have hq1 : ¬ (q = -1) := by omega
  have hq2 : ¬ (q + 1 = -1) := by omega
  have hq3 : ¬ (q + 2 = -1) := by omega
  rcases hb with rfl | rfl
  · simp (disch := first | omega | assumption | (simp (disch := omega) only [ i11, p9, v4, pa9, pa7, s6, pb9, pb8, s6b, pc9 ]; done) | fail) only [fX5_readPattern, ↓z_lt, ↓z_ge, ↓z_gt, ↓z_le, ↓z_eq, ↓z_ne, ↓z_mx, ↓z_mn, ↓z_dv, ↓z_rm, ↓z_i2l, ↓z_lc, ↓z_sw, ↓z_sf, ↓z_sn, ↓z_bd, ↓z_nt, z_b0, z_b1, z_bi, z_bj, ↓z_gF, ↓z_gR, ↓z_pF, ↓z_pZ, ↓z_pR, ↓z_aI, ↓z_aR, ↓z_sI, ↓z_sZ, ↓z_on, z_cl, ↓reduceIte, Int.reduceEq, Int.reduceNeg, Int.reduceLT, Int.reduceLE, Int.reduceAdd, Int.reduceSub, Int.reduceMul, true_and, and_true, or_true, true_or, eq_self, iR_t, sO1 sh, p9, pa9, pb9, pc9, pa7, pb8, pO sh hq, pA1 sh hq, pA2 sh hq, hq1, hq2, hq3, v4, n6, ↓e_cl r1, i11, ↓e_g r2', ↓e_cl N1, s6, ↓e_g rb, ↓e_cl N2, s6b, ↓e_g rc, ↓e_g E]
  · simp (disch := first | omega | assumption | (simp (disch := omega) only [ i11, p9, v4, pa9, pa7, s6, pb9, pb8, s6b, pc9 ]; done) | fail) only [fX5_readPattern, ↓z_lt, ↓z_ge, ↓z_gt, ↓z_le, ↓z_eq, ↓z_ne, ↓z_mx, ↓z_mn, ↓z_dv, ↓z_rm, ↓z_i2l, ↓z_lc, ↓z_sw, ↓z_sf, ↓z_sn, ↓z_bd, ↓z_nt, z_b0, z_b1, z_bi, z_bj, ↓z_gF, ↓z_gR, ↓z_pF, ↓z_pZ, ↓z_pR, ↓z_aI, ↓z_aR, ↓z_sI, ↓z_sZ, ↓z_on, z_cl, ↓reduceIte, Int.reduceEq, Int.reduceNeg, Int.reduceLT, Int.reduceLE, Int.reduceAdd, Int.reduceSub, Int.reduceMul, true_and, and_true, or_true, true_or, eq_self, iR_t, sO1 sh, p9, pa9, pb9, pc9, pa7, pb8, pO sh hq, pA1 sh hq, pA2 sh hq, hq1, hq2, hq3, v4, n6, ↓e_cl r1, i11, ↓e_g r2', ↓e_cl N1, s6, ↓e_g rb, ↓e_cl N2, s6b, ↓e_g rc, ↓e_g E]
theorem pat_end {v1 v2 ec : Int} {σc τD : St} {dc : Int → Int} (Q : QQ P σ τ f N e q d) (Qc : QQ P σc τD f N ec q dc) (g0 : dc 0 = n) (n6 : n < 6) (g7 : dc (7 + 8 * n) = v1) (g8 : dc (7 + 8 * n + 1) = v2) (i1 : 1 ≤ v1 ∧ v1 ≤ 99) (i2 : 1 ≤ v2 ∧ v2 ≤ 200) (sc1 : σc (q + 1) n = v1) (sc2 : σc (q + 2) n = v2) (sc4 : σc q 4 = n) (nc : NM (σc 13) (τD 269) 0 (n + 1)) (PM : ∀ R, patT P (7 + 8 * n) τD = some R → fX8_patternLine P τ 265 = some R) (PC : ∀ bb σE, fX5_readPatternErrors P (wr σc q 4 (n + 1)) 1 n = some (bb, σE) → (bb = 0 ∨ bb = 1) → fX5_readPattern P σ 1 = some (bb, σE)) (FF : CFr q σ σc) (GG : MFr τ τD) : PN P σ τ f N q (fX5_readPattern P σ 1) (fX8_patternLine P τ 265) := by
  have hq := Q.pr.hp
  have sh := Q.ct.rb.sh
  have n0 : 0 ≤ n := by have := Qc.tv.n0; omega
  have hs := Qc.m10
  obtain ⟨d5, Q5, D5⟩ := Qc.w57 (x := 7 + 8 * n) (by omega) (by rw [g0])
  have Q5' : QQ P (wr (wr σc q 4 (n + 1)) q 4 n) (w57 τD (7 + 8 * n)) f N ec q d5 := by
    rw [wr_back sc4]; exact Q5
  obtain ⟨k', e', σ', τ', d', H1, H2, O⟩ := sim_kinds hq n0 n6 5 0 (by decide) (Int.le_refl _) (wr σc q 4 (n + 1)) (w57 τD (7 + 8 * n)) ec d5 Q5' ((D5 0 (by omega)).trans g0) (fun i i0 i1 => by omega)
  have C' : CT P σ' f N e' := O.qq.ct.fr (fun j _ _ => (wr_n (by omega)).symm) (wr_o (by omega)).symm
  have C2 : CT P (wr σ' (q + 3) n k') f N e' := C'.fr (fun j _ _ => wr_n (by omega)) (wr_o (by omega))
  have sq : σ' q = wr σc q 4 (n + 1) q := O.co q (by omega) (by omega)
  have s4 : σ' q 4 = n + 1 := by rw [sq, wr_s]
  have p9' : σ' 1 9 = q := by have := O.qq.pl; rw [wr_n (by omega)] at this; exact this
  have q9 : σ' q 9 = q + 3 := by have := O.qq.pr.r9; rw [wr_i (by omega)] at this; exact this
  have F' : CFr q σ (wr σ' (q + 3) n k') := (FF.tr ((CFr.wq (by omega) hq).tr O.cf)).tr (CFr.wo (by omega) hq)
  have G' : MFr τ τ' := GG.tr (MFr.w57.tr O.mf)
  have k05 := O.k0
  by_cases kz : k' = 0
  · have hk : kwF f N e' = -1 := O.kx.resolve_left (by omega)
    subst kz
    left; right
    have M := patB (τa := mlt τ' 1) sh hs n6 n0 (fun kA kB => by rw [H2 kA kB 1000 (by decide), if_neg (fun w => w.1 rfl), if_pos hk])
    exact ⟨clt (wr σ' (q + 3) n 0) 1, mlt τ' 1, PC _ _ (pErr0 C' hq n0 n6 p9' q9 H1) (Or.inl rfl), PM _ M, BAD.flt hq C2 O.qq.mt F' G' (by omega)⟩
  · by_cases hk : kwF f N e' = -1
    · by_cases t1 : tT f N e' = 1
      · right
        have M := patB (τa := mlt τ' 1) sh hs n6 n0 (fun kA kB => by rw [H2 kA kB 1000 (by decide), if_neg (fun w => w.2 t1), if_pos hk])
        exact ⟨wr σ' (q + 3) n k', mlt τ' 1, e', PC _ _ (pErr1 C' hq n0 n6 p9' q9 (by omega) (by omega) hk H1) (Or.inr rfl), PM _ M, C2, t1, BAD.flt hq C2 O.qq.mt F' G' (by omega)⟩
      · left; left
        have d0' : d' 0 = n := (O.dm 0 (by omega)).trans ((D5 0 (by omega)).trans g0)
        have d7' : d' (7 + 8 * n) = v1 := (O.dm _ (by omega)).trans ((D5 _ (by omega)).trans g7)
        have d8' : d' (7 + 8 * n + 1) = v2 := (O.dm _ (by omega)).trans ((D5 _ (by omega)).trans g8)
        have M := patA sh hs n6 n0 (k := k') (by omega) (by omega) ((H2 _ _ 1000 (by decide)).trans (if_pos ⟨kz, t1⟩)) O.qq.m10 O.qq.mt.fl ((O.qq.dd 0 (by omega) (by omega)).trans d0')
        have un2 : unC d' (7 + 8 * n + 2) := by unfold unC; omega
        have QE0 := O.qq.cell0 (c := q + 3) (n := n) (m := 7 + 8 * n + 2) (v := k') (v' := k') (by omega) un2 (fun _ => by omega) (fun _ => by omega) (fun _ => by omega) (fun _ => by omega) (by omega)
        rw [wr_comm (σ := σ') (o := q) (p := q + 3) (by omega)] at QE0
        have z0 : zu d' (7 + 8 * n + 2) k' 0 = n := (zu_n (by omega)).trans d0'
        have z7 : zu d' (7 + 8 * n + 2) k' (7 + 8 * n) = v1 := (zu_n (by omega)).trans d7'
        have z8 : zu d' (7 + 8 * n + 2) k' (7 + 8 * n + 1) = v2 := (zu_n (by omega)).trans d8'
        have z9 : zu d' (7 + 8 * n + 2) k' (7 + 8 * n + 2) = k' := zu_s
        have zr : ∀ i, 0 ≤ i → zu d' (7 + 8 * n + 2) k' (7 + 8 * n + 3 + i) = d' (7 + 8 * n + 3 + i) := fun i i0 => zu_n (by omega)
        have rows := O.rw'
        generalize zu d' (7 + 8 * n + 2) k' = dz at *
        have QE1 := QE0.ic0 (by omega) (by rw [z0, z7, wr_o (by omega), wr_o (by omega), O.co (q + 1) (by omega) (by omega), wr_o (by omega)]; exact sc1) (by rw [z0, z8, wr_o (by omega), wr_o (by omega), O.co (q + 2) (by omega) (by omega), wr_o (by omega)]; exact sc2) (by rw [z0, z9, wr_o (by omega), wr_s]) (by
            rw [z0, z9]
            intro i i0 i1
            rw [wr_o (by omega), wr_o (by omega), zr i i0]
            exact rows i i0 i1) (by rw [z0, z7]; omega) (by rw [z0, z8]; omega) (by rw [z0, z9]; omega) (by
            rw [z0, wr_o (by omega), wr_o (by omega), O.co 13 (by omega) (by omega), wr_o (by omega), wr_o (by omega), O.mo 269 (by omega) (by omega), w57_o (by omega)]
            exact nc)
        rw [z0, wr_back (w := n + 1) (by rw [wr_o (by omega)]; exact s4)] at QE1
        exact ⟨wr σ' (q + 3) n k', _, _, _, PC _ _ (pErr1 C' hq n0 n6 p9' q9 (by omega) (by omega) hk H1) (Or.inr rfl), PM _ M, QE1, F', (G'.tr (MFr.wo (by omega))).tr (MFr.wo (by omega))⟩
    · left; right
      have M := patB (τa := mlt τ' 5) sh hs n6 n0 (fun kA kB => by
        rw [H2 kA kB 1000 (by decide), if_neg (fun w => hk (kwF_n w.2)), if_neg hk])
      exact ⟨clt (wr σ' (q + 3) n k') 5, mlt τ' 5, PC _ _ (pErr5 C' hq n0 n6 p9' q9 (by omega) (by omega) hk H1) (Or.inl rfl), PM _ M, BAD.flt hq C2 O.qq.mt F' G' (by omega)⟩
theorem sim_pattern (Q : QQ P σ τ f N e q d) : PN P σ τ f N q (fX5_readPattern P σ 1) (fX8_patternLine P τ 265) := by
  have hq := Q.pr.hp
  have hq1 : ¬ (q = -1) := by omega
  have hq2 : ¬ (q + 1 = -1) := by omega
  have sh := Q.ct.rb.sh
  have n0 := Q.tv.n0
  have p9 := Q.pl
  have v4 := Q.pr.v4
  have m10 := Q.m10
  have d0 := Q.dd 0 (by omega) (by omega)
  by_cases c6 : d 0 < 6
  · rcases sim_name Q (kd := 0) (by omega) (by show d 0 < 6; exact c6) with ⟨σ1, σa, τa, ea, r1, i11, i12, i13, r2, u1, Qa, nw, Fa, Ga⟩ | ⟨σ1, σa, τa, r1, i11, i12, i13, r2, u1, hB⟩
    · have pa9 := Qa.pl
      have ma10 := Qa.m10
      have da0 := Qa.dd 0 (by omega) (by omega)
      have r2' : fX5_takeNewName P σ1 1 13 (d 0) = some (1, σa) := r2
      have u1' : fX8_begin P τ 265 0 6 = some (1, τa) := u1
      have nw' : NM (σa 13) (τa 269) 0 (d 0 + 1) := nw
      have pa7 := Qa.pr.r7
      have dna0 := Qa.tv.n1
      have dnb0 := Qa.tv.n2
      generalize hn : d 0 = n at *
      by_cases t1 : tT f N ea = 2
      · by_cases i1 : 1 ≤ tV f N ea ∧ tV f N ea ≤ 99
        · have hv1 := tV_in Qa.ct.e0 Qa.ct.e1 t1
          have s6 : σa 1 6 = tV f N ea := Qa.ct.vv (Or.inr t1)
          have N1 : fX5_isNumberWithin P σa 1 1 99 = some (1, σa) := c_num1 Qa.ct t1 rfl rfl i1.1 i1.2
          obtain ⟨τb, U1, Mb, ob, jb⟩ := m_read1 Qa.mt t1 (a := 1) (b := 99) rfl rfl i1
          generalize hv1' : tV f N ea = v1 at *
          obtain ⟨σb, rb, Cb, obc, jbc⟩ := c_adv (Qa.ct.fr (s := wr σa (q + 1) n v1) (fun j _ _ => wr_n (by omega)) (wr_o (by omega)))
          have un : unC d (7 + 8 * n) := by unfold unC; omega
          obtain ⟨Qb, Fb, Gb⟩ := Qa.cell (c := q + 1) (n := n) (m := 7 + 8 * n) (v := v1) (v' := v1) (by omega) un (fun _ => by omega) (fun _ => by omega) (fun _ => by omega) (fun _ => by omega) (by omega) Cb obc jbc Mb ob jb
          have un1 : unC (zu d (7 + 8 * n) v1) (7 + 8 * n + 1) := by
            refine unC.zu ?_ (by omega)
            unfold unC; omega
          have e0 : zu d (7 + 8 * n) v1 0 = n := (zu_n (by omega)).trans hn
          have ea7 : zu d (7 + 8 * n) v1 (7 + 8 * n) = v1 := zu_s
          have pb9 := Qb.pl
          have pb8 := Qb.pr.r8
          have mb10 := Qb.m10
          have sb1 : σb (q + 1) n = v1 := by rw [obc _ (by omega), wr_s]
          have nb : NM (σb 13) (wr τb 267 (7 + 8 * n) v1 269) 0 (n + 1) := by
            rw [obc 13 (by omega), wr_o (by omega), wr_o (by omega), ob 269 (by omega)]
            exact nw'
          generalize tE f N ea = eb at *
          generalize zu d (7 + 8 * n) v1 = db at *
          by_cases t2 : tT f N eb = 2
          · by_cases i2 : 1 ≤ tV f N eb ∧ tV f N eb ≤ 200
            · have hv2 := tV_in Qb.ct.e0 Qb.ct.e1 t2
              have s6b : σb 1 6 = tV f N eb := Qb.ct.vv (Or.inr t2)
              have N2 : fX5_isNumberWithin P σb 1 1 200 = some (1, σb) := c_num1 Qb.ct t2 rfl rfl i2.1 i2.2
              obtain ⟨τc, U2, Mc, oc, jc⟩ := m_read1 Qb.mt t2 (a := 1) (b := 200) rfl rfl i2
              generalize hv2' : tV f N eb = v2 at *
              obtain ⟨σc, rc, Cc, occ, jcc⟩ := c_adv (Qb.ct.fr (s := wr σb (q + 2) n v2) (fun j _ _ => wr_n (by omega)) (wr_o (by omega)))
              obtain ⟨Qc, Fc, Gc⟩ := Qb.cell (c := q + 2) (n := n) (m := 7 + 8 * n + 1) (v := v2) (v' := v2) (by omega) un1 (fun _ => by omega) (fun _ => by omega) (fun _ => by omega) (fun _ => by omega) (by omega) Cc occ jcc Mc oc jc
              have g0 : zu db (7 + 8 * n + 1) v2 0 = n := (zu_n (by omega)).trans e0
              have g7 : zu db (7 + 8 * n + 1) v2 (7 + 8 * n) = v1 := (zu_n (by omega)).trans ea7
              have g8 : zu db (7 + 8 * n + 1) v2 (7 + 8 * n + 1) = v2 := zu_s
              have pc9 := Qc.pl
              have mc10 := Qc.m10
              have sc1 : σc (q + 1) n = v1 := by rw [occ _ (by omega), wr_o (by omega)]; exact sb1
              have sc2 : σc (q + 2) n = v2 := by rw [occ _ (by omega), wr_s]
              have sc4 := Qc.pr.v4
              have nc : NM (σc 13) (wr τc 267 (7 + 8 * n + 1) v2 269) 0 (n + 1) := by
                rw [occ 13 (by omega), wr_o (by omega), wr_o (by omega), oc 269 (by omega)]
                exact nb
              generalize tE f N eb = ec at *
              generalize zu db (7 + 8 * n + 1) v2 = dc at *
              have PM := fun R => patM (R := R) sh n0.1 c6 u1' ma10 da0 U1 mb10 U2
              have PC := fun bb σE => patC (bb := bb) (σE := σE) sh hq p9 v4 n0.1 c6 r1 i11 r2' N1 pa9 pa7 s6 rb N2 pb9 pb8 s6b rc pc9
              have FF := (Fa.tr Fb).tr Fc
              have GG := (Ga.tr Gb).tr Gc
              generalize wr τc 267 (7 + 8 * n + 1) v2 = τD at *
              rw [g0] at sc4
              exact pat_end Q Qc g0 c6 g7 g8 i1 i2 sc1 sc2 sc4 nc PM PC FF GG
            · left; right
              have F0 := FS.mk Qb.mt Qb.m10 (k := 4) (by omega)
              have F1 := FS.wr7 (i := 7 + 8 * n + 1) (v := 1) F0
              have K2 : fX5_isNumberWithin P σb 1 1 200 = some (0, clt σb 4) := c_num4 Qb.ct t2 rfl rfl i2
              have U2 : fX8_read P (wr τb 267 (7 + 8 * n) v1) 265 1 200 = some (1, mlt (wr τb 267 (7 + 8 * n) v1) 4) := m_read4 Qb.mt t2 rfl rfl i2
              refine ⟨clt σb 4, _, ?_, patM sh n0.1 c6 u1' ma10 da0 U1 mb10 U2 (patF sh F1 (by omega) (by omega)), ((BAD.flt hq Qb.ct Qb.mt (Fa.tr Fb) (Ga.tr Gb) (by omega)).wr7).w57.wr7⟩
              simp (disch := first | omega | assumption | (simp (disch := omega) only [ i11, p9, v4, pa9, pa7, s6 ]; done) | fail) only [fX5_readPattern, ↓z_lt, ↓z_ge, ↓z_gt, ↓z_le, ↓z_eq, ↓z_ne, ↓z_mx, ↓z_mn, ↓z_dv, ↓z_rm, ↓z_i2l, ↓z_lc, ↓z_sw, ↓z_sf, ↓z_sn, ↓z_bd, ↓z_nt, z_b0, z_b1, z_bi, z_bj, ↓z_gF, ↓z_gR, ↓z_pF, ↓z_pZ, ↓z_pR, ↓z_aI, ↓z_aR, ↓z_sI, ↓z_sZ, ↓z_on, z_cl, ↓reduceIte, Int.reduceEq, Int.reduceNeg, Int.reduceLT, Int.reduceLE, Int.reduceAdd, Int.reduceSub, Int.reduceMul, true_and, and_true, or_true, true_or, eq_self, iR_t, sO1 sh, p9, pa9, pa7, pO sh hq, pA1 sh hq, hq1, hq2, v4, c6, ↓e_cl r1, i11, ↓e_g r2', ↓e_cl N1, s6, ↓e_g rb, ↓e_cl K2]
          · left; right
            have F0 := FS.mk Qb.mt Qb.m10 (k := 1) (by omega)
            have F1 := FS.wr7 (i := 7 + 8 * n + 1) (v := 1) F0
            have K2 : fX5_isNumberWithin P σb 1 1 200 = some (0, clt σb 1) := c_numS Qb.ct t2
            have U2 : fX8_read P (wr τb 267 (7 + 8 * n) v1) 265 1 200 = some (1, mlt (wr τb 267 (7 + 8 * n) v1) 1) := m_readS Qb.mt t2
            refine ⟨clt σb 1, _, ?_, patM sh n0.1 c6 u1' ma10 da0 U1 mb10 U2 (patF sh F1 (by omega) (by omega)), ((BAD.flt hq Qb.ct Qb.mt (Fa.tr Fb) (Ga.tr Gb) (by omega)).wr7).w57.wr7⟩
            simp (disch := first | omega | assumption | (simp (disch := omega) only [ i11, p9, v4, pa9, pa7, s6 ]; done) | fail) only [fX5_readPattern, ↓z_lt, ↓z_ge, ↓z_gt, ↓z_le, ↓z_eq, ↓z_ne, ↓z_mx, ↓z_mn, ↓z_dv, ↓z_rm, ↓z_i2l, ↓z_lc, ↓z_sw, ↓z_sf, ↓z_sn, ↓z_bd, ↓z_nt, z_b0, z_b1, z_bi, z_bj, ↓z_gF, ↓z_gR, ↓z_pF, ↓z_pZ, ↓z_pR, ↓z_aI, ↓z_aR, ↓z_sI, ↓z_sZ, ↓z_on, z_cl, ↓reduceIte, Int.reduceEq, Int.reduceNeg, Int.reduceLT, Int.reduceLE, Int.reduceAdd, Int.reduceSub, Int.reduceMul, true_and, and_true, or_true, true_or, eq_self, iR_t, sO1 sh, p9, pa9, pa7, pO sh hq, pA1 sh hq, hq1, hq2, v4, c6, ↓e_cl r1, i11, ↓e_g r2', ↓e_cl N1, s6, ↓e_g rb, ↓e_cl K2]
        · left; right
          have F0 := FS.mk Qa.mt Qa.m10 (k := 4) (by omega)
          have F1 := FS.wr7 (i := 7 + 8 * n) (v := 1) F0
          have F2 := FS.wr7 (i := 7 + 8 * n + 1) (v := 1) F1
          have K2 : fX5_isNumberWithin P σa 1 1 99 = some (0, clt σa 4) := c_num4 Qa.ct t1 rfl rfl i1
          have U1 : fX8_read P τa 265 1 99 = some (1, mlt τa 4) := m_read4 Qa.mt t1 rfl rfl i1
          refine ⟨clt σa 4, _, ?_, patM sh n0.1 c6 u1' ma10 da0 U1 F1.2.2.2 (fs_read sh F1) (patF sh F2 (by omega) (by omega)), (((BAD.flt hq Qa.ct Qa.mt Fa Ga (by omega)).wr7).wr7).w57.wr7⟩
          simp (disch := first | omega | assumption | (simp (disch := omega) only [ i11, p9, v4, pa9 ]; done) | fail) only [fX5_readPattern, ↓z_lt, ↓z_ge, ↓z_gt, ↓z_le, ↓z_eq, ↓z_ne, ↓z_mx, ↓z_mn, ↓z_dv, ↓z_rm, ↓z_i2l, ↓z_lc, ↓z_sw, ↓z_sf, ↓z_sn, ↓z_bd, ↓z_nt, z_b0, z_b1, z_bi, z_bj, ↓z_gF, ↓z_gR, ↓z_pF, ↓z_pZ, ↓z_pR, ↓z_aI, ↓z_aR, ↓z_sI, ↓z_sZ, ↓z_on, z_cl, ↓reduceIte, Int.reduceEq, Int.reduceNeg, Int.reduceLT, Int.reduceLE, Int.reduceAdd, Int.reduceSub, Int.reduceMul, true_and, and_true, or_true, true_or, eq_self, iR_t, sO1 sh, p9, pO sh hq, hq1, v4, c6, ↓e_cl r1, i11, ↓e_g r2', ↓e_cl K2]
      · left; right
        have F0 := FS.mk Qa.mt Qa.m10 (k := 1) (by omega)
        have F1 := FS.wr7 (i := 7 + 8 * n) (v := 1) F0
        have F2 := FS.wr7 (i := 7 + 8 * n + 1) (v := 1) F1
        have K2 : fX5_isNumberWithin P σa 1 1 99 = some (0, clt σa 1) := c_numS Qa.ct t1
        have U1 : fX8_read P τa 265 1 99 = some (1, mlt τa 1) := m_readS Qa.mt t1
        refine ⟨clt σa 1, _, ?_, patM sh n0.1 c6 u1' ma10 da0 U1 F1.2.2.2 (fs_read sh F1) (patF sh F2 (by omega) (by omega)), (((BAD.flt hq Qa.ct Qa.mt Fa Ga (by omega)).wr7).wr7).w57.wr7⟩
        simp (disch := first | omega | assumption | (simp (disch := omega) only [ i11, p9, v4, pa9 ]; done) | fail) only [fX5_readPattern, ↓z_lt, ↓z_ge, ↓z_gt, ↓z_le, ↓z_eq, ↓z_ne, ↓z_mx, ↓z_mn, ↓z_dv, ↓z_rm, ↓z_i2l, ↓z_lc, ↓z_sw, ↓z_sf, ↓z_sn, ↓z_bd, ↓z_nt, z_b0, z_b1, z_bi, z_bj, ↓z_gF, ↓z_gR, ↓z_pF, ↓z_pZ, ↓z_pR, ↓z_aI, ↓z_aR, ↓z_sI, ↓z_sZ, ↓z_on, z_cl, ↓reduceIte, Int.reduceEq, Int.reduceNeg, Int.reduceLT, Int.reduceLE, Int.reduceAdd, Int.reduceSub, Int.reduceMul, true_and, and_true, or_true, true_or, eq_self, iR_t, sO1 sh, p9, pO sh hq, hq1, v4, c6, ↓e_cl r1, i11, ↓e_g r2', ↓e_cl K2]
    · left; right
      refine ⟨σa, τa, ?_, ?_, hB⟩
      · simp (disch := first | omega | assumption | (simp (disch := omega) only [ i11, p9, v4 ]; done) | fail) only [fX5_readPattern, ↓z_lt, ↓z_ge, ↓z_gt, ↓z_le, ↓z_eq, ↓z_ne, ↓z_mx, ↓z_mn, ↓z_dv, ↓z_rm, ↓z_i2l, ↓z_lc, ↓z_sw, ↓z_sf, ↓z_sn, ↓z_bd, ↓z_nt, z_b0, z_b1, z_bi, z_bj, ↓z_gF, ↓z_gR, ↓z_pF, ↓z_pZ, ↓z_pR, ↓z_aI, ↓z_aR, ↓z_sI, ↓z_sZ, ↓z_on, z_cl, ↓reduceIte, Int.reduceEq, Int.reduceNeg, Int.reduceLT, Int.reduceLE, Int.reduceAdd, Int.reduceSub, Int.reduceMul, true_and, and_true, or_true, true_or, eq_self, iR_t, sO1 sh, p9, pO sh hq, hq1, v4, c6, ↓e_cl r1, i11, ↓e_g (show fX5_takeNewName P σ1 1 13 (d 0) = some (0, σa) from r2)]
      · simp (disch := first | omega | assumption) only [fX8_patternLine, ↓z_lt, ↓z_ge, ↓z_gt, ↓z_le, ↓z_eq, ↓z_ne, ↓z_mx, ↓z_mn, ↓z_dv, ↓z_rm, ↓z_i2l, ↓z_lc, ↓z_sw, ↓z_sf, ↓z_sn, ↓z_bd, ↓z_nt, z_b0, z_b1, z_bi, z_bj, ↓z_gF, ↓z_gR, ↓z_pF, ↓z_pZ, ↓z_pR, ↓z_aI, ↓z_aR, ↓z_sI, ↓z_sZ, ↓z_on, z_cl, ↓reduceIte, Int.reduceEq, Int.reduceNeg, Int.reduceLT, Int.reduceLE, Int.reduceAdd, Int.reduceSub, Int.reduceMul, true_and, and_true, or_true, true_or, eq_self, iR_t, sO265 sh, ↓e_cl (show fX8_begin P τ 265 0 6 = some (0, τa) from u1)]
  · left; right
    have b5 : fX8_begin P τ 265 0 6 = some (0, mlt τ 5) := by
      have k1 : 6 ≤ d 0 := by omega
      simp (disch := first | omega | assumption) only [fX8_begin, ↓z_lt, ↓z_ge, ↓z_gt, ↓z_le, ↓z_eq, ↓z_ne, ↓z_mx, ↓z_mn, ↓z_dv, ↓z_rm, ↓z_i2l, ↓z_lc, ↓z_sw, ↓z_sf, ↓z_sn, ↓z_bd, ↓z_nt, z_b0, z_b1, z_bi, z_bj, ↓z_gF, ↓z_gR, ↓z_pF, ↓z_pZ, ↓z_pR, ↓z_aI, ↓z_aR, ↓z_sI, ↓z_sZ, ↓z_on, z_cl, ↓reduceIte, Int.reduceEq, Int.reduceNeg, Int.reduceLT, Int.reduceLE, Int.reduceAdd, Int.reduceSub, Int.reduceMul, true_and, and_true, or_true, true_or, eq_self, iR_t, sO265 sh, sA267 sh, m10, d0, k1, ↓m_must0' Q.mt]
    refine ⟨clt σ 5, mlt τ 5, ?_, ?_, BAD.flt hq Q.ct Q.mt CFr.rf MFr.rf (by omega)⟩
    · simp (disch := first | omega | assumption) only [fX5_readPattern, ↓z_lt, ↓z_ge, ↓z_gt, ↓z_le, ↓z_eq, ↓z_ne, ↓z_mx, ↓z_mn, ↓z_dv, ↓z_rm, ↓z_i2l, ↓z_lc, ↓z_sw, ↓z_sf, ↓z_sn, ↓z_bd, ↓z_nt, z_b0, z_b1, z_bi, z_bj, ↓z_gF, ↓z_gR, ↓z_pF, ↓z_pZ, ↓z_pR, ↓z_aI, ↓z_aR, ↓z_sI, ↓z_sZ, ↓z_on, z_cl, ↓reduceIte, Int.reduceEq, Int.reduceNeg, Int.reduceLT, Int.reduceLE, Int.reduceAdd, Int.reduceSub, Int.reduceMul, true_and, and_true, or_true, true_or, eq_self, iR_t, sO1 sh, p9, pO sh hq, hq1, v4, c6, ↓c_fault' Q.ct]
    · simp (disch := first | omega | assumption) only [fX8_patternLine, ↓z_lt, ↓z_ge, ↓z_gt, ↓z_le, ↓z_eq, ↓z_ne, ↓z_mx, ↓z_mn, ↓z_dv, ↓z_rm, ↓z_i2l, ↓z_lc, ↓z_sw, ↓z_sf, ↓z_sn, ↓z_bd, ↓z_nt, z_b0, z_b1, z_bi, z_bj, ↓z_gF, ↓z_gR, ↓z_pF, ↓z_pZ, ↓z_pR, ↓z_aI, ↓z_aR, ↓z_sI, ↓z_sZ, ↓z_on, z_cl, ↓reduceIte, Int.reduceEq, Int.reduceNeg, Int.reduceLT, Int.reduceLE, Int.reduceAdd, Int.reduceSub, Int.reduceMul, true_and, and_true, or_true, true_or, eq_self, iR_t, sO265 sh, ↓e_cl b5]
end ZZY
