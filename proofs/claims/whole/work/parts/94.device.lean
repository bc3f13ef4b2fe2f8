/-! THE DEVICE's line on both sides. -/
noncomputable def devT (P : Shp) (x5 : Int) (x12 : Int) (x16 : Int) (s17 : St) : Option St :=
  sI P 10 s17 x12 (55 + x5) x16 fun s18 =>
  gR P 8 s18 265 10 fun x19 =>
  sI P 10 s18 x19 (63 + x5) ((-1)) fun s20 =>
  onO P 8 265 <| cl (fX8_isWord P s20 265 ((-7))) fun x21 =>
  jnt
    (fun s22 =>
      gF P 8 s22 265 8 fun x23 =>
      jne x23 0
        (some s22)
        (
          gR P 8 s22 265 10 fun x24 =>
          aI P 10 s22 x24 1 fun x25 =>
          sI P 10 s22 x24 1 (x25 + 1) fun s26 =>
          some s26))
    fun k119 =>
  jeq x21 0
    (k119 s20)
    (
      onO P 8 265 <| cl (fX8_goOn P s20 265) fun s27 =>
      gR P 8 s27 265 10 fun x28 =>
      onO P 8 265 <| cl (fX8_deviceHere P s27 265) fun (x30, s31) =>
      sI P 10 s31 x28 (63 + x5) x30 fun s32 =>
      k119 s32)
noncomputable def devR (P : Shp) (x5 : Int) (s11 : St) : Option St :=
  gR P 8 s11 265 10 fun x12 =>
  gR P 8 s11 265 10 fun x13 =>
  aI P 10 s11 x13 4 fun x14 =>
  onO P 8 265 <| cl (fX8_read P s11 265 0 (x14 - 1)) fun (x16, s17) =>
  devT P x5 x12 x16 s17
section ZZV
variable {P : Shp} {σ σ' σ0 σ1 σ2 s τ τ' τ0 τ1 τ2 : St} {f g h B B' d d' : Int → Int} {a b c e e' k i j x y z v v' w N q L kd cnt h1 s1 p : Int} {n m r : Int}
theorem dev_eq : fX8_deviceLine P s 265 = (
  onO P 8 265 <| cl (fX8_begin P s 265 1 8) fun (x2, s3) =>
  jne x2 0
    (
      gR P 8 s3 265 10 fun x4 =>
      aI P 10 s3 x4 1 fun x5 =>
      gF P 8 s3 265 6 fun x6 =>
      jnt
        (fun x7 =>
          onO P 8 265 <| cl (fX8_must P s3 265 x7 1) fun (x9, s10) =>
          jnt
            (devR P x5)
            fun k61 =>
          jeq x9 0
            (k61 s10)
            (
              gF P 8 s10 265 7 fun x33 =>
              onO P 8 265 <| cl (fX8_isTaken P s10 265 x33) fun x34 =>
              jnt
                (fun x35 =>
                  onO P 8 265 <| cl (fX8_must P s10 265 x35 3) fun (x37, s38) =>
                  k61 s38)
                fun k56 =>
              jne x34 0
                (k56 0)
                (k56 1)))
        fun k32 =>
      jne x6 2
        (k32 0)
        (k32 1))
    (some s3)) := rfl
theorem devT_F (sh : ShpIs P 279 PL) (h : FS s) (h0 : 0 ≤ n) (h8 : n < 8) : devT P n 267 0 s = some (wr (wr s 267 (55 + n) 0) 267 (63 + n) (-1)) := by
  have F1 := FS.wr7 (i := 55 + n) (v := 0) h
  have F2 := FS.wr7 (i := 63 + n) (v := -1) F1
  have hz : 0 ≤ -2 - (-7 : Int) ∧ -2 - (-7 : Int) < 10 := by omega
  simp (disch := first | omega | assumption) only [devT, ↓z_lt, ↓z_ge, ↓z_gt, ↓z_le, ↓z_eq, ↓z_ne, ↓z_mx, ↓z_mn, ↓z_dv, ↓z_rm, ↓z_i2l, ↓z_lc, ↓z_sw, ↓z_sf, ↓z_sn, ↓z_bd, ↓z_nt, z_b0, z_b1, z_bi, z_bj, ↓z_gF, ↓z_gR, ↓z_pF, ↓z_pZ, ↓z_pR, ↓z_aI, ↓z_aR, ↓z_sI, ↓z_sZ, ↓z_on, z_cl, ↓reduceIte, Int.reduceEq, Int.reduceNeg, Int.reduceLT, Int.reduceLE, Int.reduceAdd, Int.reduceSub, Int.reduceMul, true_and, and_true, or_true, true_or, eq_self, iR_t, sO265 sh, sA267 sh, F1.2.2.2, ↓f_isWord' sh F2.1 F2.2.1 hz, F2.1, F2.2.1]
theorem devR_F (sh : ShpIs P 279 PL) (h : FS s) (h0 : 0 ≤ n) (h8 : n < 8) (h4 : iR (s 267 4 - 1) = true) : devR P n s = some (wr (wr s 267 (55 + n) 0) 267 (63 + n) (-1)) := by
  have r0 : ∀ b, fX8_read P s 265 0 b = some (0, s) := fun b => fs_read sh h
  have T := devT_F sh h h0 h8
  simp (disch := first | omega | assumption) only [devR, ↓z_lt, ↓z_ge, ↓z_gt, ↓z_le, ↓z_eq, ↓z_ne, ↓z_mx, ↓z_mn, ↓z_dv, ↓z_rm, ↓z_i2l, ↓z_lc, ↓z_sw, ↓z_sf, ↓z_sn, ↓z_bd, ↓z_nt, z_b0, z_b1, z_bi, z_bj, ↓z_gF, ↓z_gR, ↓z_pF, ↓z_pZ, ↓z_pR, ↓z_aI, ↓z_aR, ↓z_sI, ↓z_sZ, ↓z_on, z_cl, ↓reduceIte, Int.reduceEq, Int.reduceNeg, Int.reduceLT, Int.reduceLE, Int.reduceAdd, Int.reduceSub, Int.reduceMul, true_and, and_true, or_true, true_or, eq_self, iR_t, sO265 sh, sA267 sh, h.2.2.2, ↓e_cl (r0 _), T]
theorem devM_2 {m4 : Int} (sh : ShpIs P 279 PL) (n0 : 0 ≤ n) (c8 : n < 8) (u1' : fX8_begin P τ 265 1 8 = some (1, τ1)) (ma10 : τ1 265 10 = 267) (da1 : τ1 267 1 = n) (da4 : τ1 267 4 = m4) (h4 : 1 ≤ m4 ∧ m4 ≤ 8) (M : MT P τ1 f N e) (t2 : ¬ (tT f N e = 2)) : fX8_deviceLine P τ 265 = some (wr (wr (mlt τ1 1) 267 (55 + n) 0) 267 (63 + n) (-1)) := by
  have F0 := FS.mk M ma10 (k := 1) (by omega)
  have T := devR_F sh F0 n0 c8 (by rw [mlt_o (by omega), da4]; exact iR_t (by omega) (by omega))
  have ht := tT_in (f := f) (N := N) (e := e)
  have tt := M.tt
  generalize tT f N e = t at *
  simp (disch := first | omega | assumption) only [dev_eq, ↓z_lt, ↓z_ge, ↓z_gt, ↓z_le, ↓z_eq, ↓z_ne, ↓z_mx, ↓z_mn, ↓z_dv, ↓z_rm, ↓z_i2l, ↓z_lc, ↓z_sw, ↓z_sf, ↓z_sn, ↓z_bd, ↓z_nt, z_b0, z_b1, z_bi, z_bj, ↓z_gF, ↓z_gR, ↓z_pF, ↓z_pZ, ↓z_pR, ↓z_aI, ↓z_aR, ↓z_sI, ↓z_sZ, ↓z_on, z_cl, ↓reduceIte, Int.reduceEq, Int.reduceNeg, Int.reduceLT, Int.reduceLE, Int.reduceAdd, Int.reduceSub, Int.reduceMul, true_and, and_true, or_true, true_or, eq_self, iR_t, sO265 sh, sA267 sh, ma10, da1, ↓e_cl u1', tt, t2, ↓m_must0' M, T]
theorem devM_3 {v tk m4 : Int} (sh : ShpIs P 279 PL) (n0 : 0 ≤ n) (c8 : n < 8) (u1' : fX8_begin P τ 265 1 8 = some (1, τ1)) (ma10 : τ1 265 10 = 267) (da1 : τ1 267 1 = n) (da4 : τ1 267 4 = m4) (h4 : 1 ≤ m4 ∧ m4 ≤ 8) (M : MT P τ1 f N e) (t2 : tT f N e = 2) (s7 : τ1 265 7 = v) (Tk : fX8_isTaken P τ1 265 v = some tk) (htk : tk = 1) : fX8_deviceLine P τ 265 = some (wr (wr (mlt τ1 3) 267 (55 + n) 0) 267 (63 + n) (-1)) := by
  have F0 := FS.mk M ma10 (k := 3) (by omega)
  have T := devR_F sh F0 n0 c8 (by rw [mlt_o (by omega), da4]; exact iR_t (by omega) (by omega))
  have tt := M.tt
  rw [t2] at tt
  subst htk
  simp (disch := first | omega | assumption) only [dev_eq, ↓z_lt, ↓z_ge, ↓z_gt, ↓z_le, ↓z_eq, ↓z_ne, ↓z_mx, ↓z_mn, ↓z_dv, ↓z_rm, ↓z_i2l, ↓z_lc, ↓z_sw, ↓z_sf, ↓z_sn, ↓z_bd, ↓z_nt, z_b0, z_b1, z_bi, z_bj, ↓z_gF, ↓z_gR, ↓z_pF, ↓z_pZ, ↓z_pR, ↓z_aI, ↓z_aR, ↓z_sI, ↓z_sZ, ↓z_on, z_cl, ↓reduceIte, Int.reduceEq, Int.reduceNeg, Int.reduceLT, Int.reduceLE, Int.reduceAdd, Int.reduceSub, Int.reduceMul, true_and, and_true, or_true, true_or, eq_self, iR_t, sO265 sh, sA267 sh, ma10, da1, ↓e_cl u1', tt, ↓m_must1' M, s7, ↓e_cl Tk, ↓m_must0' M, T]
theorem devM_R {v m4 : Int} {R : Option St} (sh : ShpIs P 279 PL) (n0 : 0 ≤ n) (c8 : n < 8) (u1' : fX8_begin P τ 265 1 8 = some (1, τ1)) (ma10 : τ1 265 10 = 267) (da1 : τ1 267 1 = n) (da4 : τ1 267 4 = m4) (h4 : 1 ≤ m4 ∧ m4 ≤ 8) (M : MT P τ1 f N e) (t2 : tT f N e = 2) (s7 : τ1 265 7 = v) (Tk : fX8_isTaken P τ1 265 v = some 0) (U2 : fX8_read P τ1 265 0 (m4 - 1) = some (x, τ2)) (T : devT P n 267 x τ2 = R) : fX8_deviceLine P τ 265 = R := by
  have tt := M.tt
  rw [t2] at tt
  have E : devR P n τ1 = R := by
    rw [← T]
    simp (disch := first | omega | assumption) only [devR, ↓z_lt, ↓z_ge, ↓z_gt, ↓z_le, ↓z_eq, ↓z_ne, ↓z_mx, ↓z_mn, ↓z_dv, ↓z_rm, ↓z_i2l, ↓z_lc, ↓z_sw, ↓z_sf, ↓z_sn, ↓z_bd, ↓z_nt, z_b0, z_b1, z_bi, z_bj, ↓z_gF, ↓z_gR, ↓z_pF, ↓z_pZ, ↓z_pR, ↓z_aI, ↓z_aR, ↓z_sI, ↓z_sZ, ↓z_on, z_cl, ↓reduceIte, Int.reduceEq, Int.reduceNeg, Int.reduceLT, Int.reduceLE, Int.reduceAdd, Int.reduceSub, Int.reduceMul, true_and, and_true, or_true, true_or, eq_self, iR_t, sO265 sh, sA267 sh, ma10, da4, ↓e_cl U2]
  rw [← E]
  simp (disch := first | omega | assumption) only [dev_eq, ↓z_lt, ↓z_ge, ↓z_gt, ↓z_le, ↓z_eq, ↓z_ne, ↓z_mx, ↓z_mn, ↓z_dv, ↓z_rm, ↓z_i2l, ↓z_lc, ↓z_sw, ↓z_sf, ↓z_sn, ↓z_bd, ↓z_nt, z_b0, z_b1, z_bi, z_bj, ↓z_gF, ↓z_gR, ↓z_pF, ↓z_pZ, ↓z_pR, ↓z_aI, ↓z_aR, ↓z_sI, ↓z_sZ, ↓z_on, z_cl, ↓reduceIte, Int.reduceEq, Int.reduceNeg, Int.reduceLT, Int.reduceLE, Int.reduceAdd, Int.reduceSub, Int.reduceMul, true_and, and_true, or_true, true_or, eq_self, iR_t, sO265 sh, sA267 sh, ma10, da1, ↓e_cl u1', tt, ↓m_must1' M, s7, ↓e_cl Tk]
theorem devM_4 {v m4 : Int} (sh : ShpIs P 279 PL) (n0 : 0 ≤ n) (c8 : n < 8) (u1' : fX8_begin P τ 265 1 8 = some (1, τ1)) (ma10 : τ1 265 10 = 267) (da1 : τ1 267 1 = n) (da4 : τ1 267 4 = m4) (h4 : 1 ≤ m4 ∧ m4 ≤ 8) (M : MT P τ1 f N e) (t2 : tT f N e = 2) (s7 : τ1 265 7 = v) (Tk : fX8_isTaken P τ1 265 v = some 0) (U2 : fX8_read P τ1 265 0 (m4 - 1) = some (0, mlt τ1 4)) : fX8_deviceLine P τ 265 = some (wr (wr (mlt τ1 4) 267 (55 + n) 0) 267 (63 + n) (-1)) :=
  devM_R sh n0 c8 u1' ma10 da1 da4 h4 M t2 s7 Tk U2 (devT_F sh (FS.mk M ma10 (k := 4) (by omega)) n0 c8)
theorem devM_0 {v m4 : Int} {τa τb τc : St} (sh : ShpIs P 279 PL) (n0 : 0 ≤ n) (c8 : n < 8) (u1' : fX8_begin P τ 265 1 8 = some (1, τa)) (ma10 : τa 265 10 = 267) (da1 : τa 267 1 = n) (da4 : τa 267 4 = m4) (h4 : 1 ≤ m4 ∧ m4 ≤ 8) (M : MT P τa f N e) (t2 : tT f N e = 2) (s7 : τa 265 7 = v) (Tk : fX8_isTaken P τa 265 v = some 0) (U2 : fX8_read P τa 265 0 (m4 - 1) = some (v, τb)) (mb10 : wr τb 267 (55 + n) v 265 10 = 267) (hc : wr (wr τb 267 (55 + n) v) 267 (63 + n) (-1) = τc) (W : fX8_isWord P τc 265 (-7) = some 0) (mc8 : τc 265 8 = 0) (mc10 : τc 265 10 = 267) (dc1 : τc 267 1 = n) : fX8_deviceLine P τ 265 = some (wr τc 267 1 (n + 1)) := by
  refine devM_R sh n0 c8 u1' ma10 da1 da4 h4 M t2 s7 Tk U2 ?_
  simp (disch := first | omega | assumption | (simp (disch := omega) only [ mb10, hc ]; done) | fail) only [devT, ↓z_lt, ↓z_ge, ↓z_gt, ↓z_le, ↓z_eq, ↓z_ne, ↓z_mx, ↓z_mn, ↓z_dv, ↓z_rm, ↓z_i2l, ↓z_lc, ↓z_sw, ↓z_sf, ↓z_sn, ↓z_bd, ↓z_nt, z_b0, z_b1, z_bi, z_bj, ↓z_gF, ↓z_gR, ↓z_pF, ↓z_pZ, ↓z_pR, ↓z_aI, ↓z_aR, ↓z_sI, ↓z_sZ, ↓z_on, z_cl, ↓reduceIte, Int.reduceEq, Int.reduceNeg, Int.reduceLT, Int.reduceLE, Int.reduceAdd, Int.reduceSub, Int.reduceMul, true_and, and_true, or_true, true_or, eq_self, iR_t, sO265 sh, sA267 sh, mb10, ↓e_g W, hc, mc8, mc10, dc1]
theorem devM_1 {v m4 D : Int} {τa τb τc τd τe : St} (sh : ShpIs P 279 PL) (n0 : 0 ≤ n) (c8 : n < 8) (u1' : fX8_begin P τ 265 1 8 = some (1, τa)) (ma10 : τa 265 10 = 267) (da1 : τa 267 1 = n) (da4 : τa 267 4 = m4) (h4 : 1 ≤ m4 ∧ m4 ≤ 8) (M : MT P τa f N e) (t2 : tT f N e = 2) (s7 : τa 265 7 = v) (Tk : fX8_isTaken P τa 265 v = some 0) (U2 : fX8_read P τa 265 0 (m4 - 1) = some (v, τb)) (mb10 : wr τb 267 (55 + n) v 265 10 = 267) (hc : wr (wr τb 267 (55 + n) v) 267 (63 + n) (-1) = τc) (W : fX8_isWord P τc 265 (-7) = some 1) (g1 : fX8_goOn P τc 265 = some τd) (md10 : τd 265 10 = 267) (V : fX8_deviceHere P τd 265 = some (D, τe)) (me8 : wr τe 267 (63 + n) D 265 8 = 0) (me10 : wr τe 267 (63 + n) D 265 10 = 267) (de1 : wr τe 267 (63 + n) D 267 1 = n) : fX8_deviceLine P τ 265 = some (wr (wr τe 267 (63 + n) D) 267 1 (n + 1)) := by
  refine devM_R sh n0 c8 u1' ma10 da1 da4 h4 M t2 s7 Tk U2 ?_
  simp (disch := first | omega | assumption | (simp (disch := omega) only [ mb10, hc, md10 ]; done) | fail) only [devT, ↓z_lt, ↓z_ge, ↓z_gt, ↓z_le, ↓z_eq, ↓z_ne, ↓z_mx, ↓z_mn, ↓z_dv, ↓z_rm, ↓z_i2l, ↓z_lc, ↓z_sw, ↓z_sf, ↓z_sn, ↓z_bd, ↓z_nt, z_b0, z_b1, z_bi, z_bj, ↓z_gF, ↓z_gR, ↓z_pF, ↓z_pZ, ↓z_pR, ↓z_aI, ↓z_aR, ↓z_sI, ↓z_sZ, ↓z_on, z_cl, ↓reduceIte, Int.reduceEq, Int.reduceNeg, Int.reduceLT, Int.reduceLE, Int.reduceAdd, Int.reduceSub, Int.reduceMul, true_and, and_true, or_true, true_or, eq_self, iR_t, sO265 sh, sA267 sh, mb10, ↓e_g W, hc, ↓e_g g1, md10, ↓e_cl V, me8, me10, de1]
theorem devM_F {v m4 D : Int} {τa τb τc τd τe : St} (sh : ShpIs P 279 PL) (n0 : 0 ≤ n) (c8 : n < 8) (u1' : fX8_begin P τ 265 1 8 = some (1, τa)) (ma10 : τa 265 10 = 267) (da1 : τa 267 1 = n) (da4 : τa 267 4 = m4) (h4 : 1 ≤ m4 ∧ m4 ≤ 8) (M : MT P τa f N e) (t2 : tT f N e = 2) (s7 : τa 265 7 = v) (Tk : fX8_isTaken P τa 265 v = some 0) (U2 : fX8_read P τa 265 0 (m4 - 1) = some (v, τb)) (mb10 : wr τb 267 (55 + n) v 265 10 = 267) (hc : wr (wr τb 267 (55 + n) v) 267 (63 + n) (-1) = τc) (W : fX8_isWord P τc 265 (-7) = some 1) (g1 : fX8_goOn P τc 265 = some τd) (md10 : τd 265 10 = 267) (V : fX8_deviceHere P τd 265 = some (D, τe)) (me8 : ¬ (wr τe 267 (63 + n) D 265 8 = 0)) (me9 : iR (wr τe 267 (63 + n) D 265 8) = true) : fX8_deviceLine P τ 265 = some (wr τe 267 (63 + n) D) := by
  refine devM_R sh n0 c8 u1' ma10 da1 da4 h4 M t2 s7 Tk U2 ?_
  simp (disch := first | omega | assumption | (simp (disch := omega) only [ mb10, hc, md10 ]; done) | fail) only [devT, ↓z_lt, ↓z_ge, ↓z_gt, ↓z_le, ↓z_eq, ↓z_ne, ↓z_mx, ↓z_mn, ↓z_dv, ↓z_rm, ↓z_i2l, ↓z_lc, ↓z_sw, ↓z_sf, ↓z_sn, ↓z_bd, ↓z_nt, z_b0, z_b1, z_bi, z_bj, ↓z_gF, ↓z_gR, ↓z_pF, ↓z_pZ, ↓z_pR, ↓z_aI, ↓z_aR, ↓z_sI, ↓z_sZ, ↓z_on, z_cl, ↓reduceIte, Int.reduceEq, Int.reduceNeg, Int.reduceLT, Int.reduceLE, Int.reduceAdd, Int.reduceSub, Int.reduceMul, true_and, and_true, or_true, true_or, eq_self, iR_t, sO265 sh, sA267 sh, mb10, ↓e_g W, hc, ↓e_g g1, md10, ↓e_cl V, me8, me9]
theorem devC_0 {v m4 : Int} {σa σb σc : St} (sh : ShpIs P 279 PL) (hq : q = 3 ∨ q = 17) (p9 : σ 1 9 = q) (v5 : σ q 5 = n) (n0 : 0 ≤ n) (c8 : n < 8) (r1 : fX5_advance P σ 1 = some σ1) (i12 : σ1 1 12 = 14) (r2' : fX5_takeNewName P σ1 1 14 n = some (1, σa)) (pa9 : σa 1 9 = q) (pa1 : σa q 1 = m4) (h4 : 1 ≤ m4 ∧ m4 ≤ 8) (N1 : fX5_isNumberWithin P σa 1 0 (m4 - 1) = some (1, σa)) (s6 : σa 1 6 = v) (T : fX5_isTakenPort P σa 1 v = some 0) (pa11 : σa q 11 = q + 5) (rb : fX5_advance P (wr σa (q + 5) n v) 1 = some σb) (pb9 : σb 1 9 = q) (pb12 : σb q 12 = q + 6) (hc : wr σb (q + 6) n (-1) = σc) (W : fX5_isWord P σc 1 (-7) = some 0) (pc9 : σc 1 9 = q) : fX5_readDevice P σ 1 = some (1, wr σc q 5 (n + 1)) := by
  have hq1 : ¬ (q = -1) := by omega
  have hq5 : ¬ (q + 5 = -1) := by omega
  have hq6 : ¬ (q + 6 = -1) := by omega
  simp (disch := first | omega | assumption | (simp (disch := omega) only [ i12, p9, v5, pa9, pa1, s6, pa11, pb9, pb12, hc, pc9 ]; done) | fail) only [fX5_readDevice, ↓z_lt, ↓z_ge, ↓z_gt, ↓z_le, ↓z_eq, ↓z_ne, ↓z_mx, ↓z_mn, ↓z_dv, ↓z_rm, ↓z_i2l, ↓z_lc, ↓z_sw, ↓z_sf, ↓z_sn, ↓z_bd, ↓z_nt, z_b0, z_b1, z_bi, z_bj, ↓z_gF, ↓z_gR, ↓z_pF, ↓z_pZ, ↓z_pR, ↓z_aI, ↓z_aR, ↓z_sI, ↓z_sZ, ↓z_on, z_cl, ↓reduceIte, Int.reduceEq, Int.reduceNeg, Int.reduceLT, Int.reduceLE, Int.reduceAdd, Int.reduceSub, Int.reduceMul, true_and, and_true, or_true, true_or, eq_self, iR_t, sO1 sh, p9, pa9, pb9, pc9, pa11, pb12, pO sh hq, pA5 sh hq, pA6 sh hq, hq1, hq5, hq6, v5, c8, ↓e_cl r1, i12, ↓e_g r2', pa1, ↓e_g N1, s6, ↓e_g T, ↓e_g rb, hc, ↓e_g W]
theorem devC_1 {v m4 D : Int} {σa σb σc σd σe : St} (sh : ShpIs P 279 PL) (hq : q = 3 ∨ q = 17) (p9 : σ 1 9 = q) (v5 : σ q 5 = n) (n0 : 0 ≤ n) (c8 : n < 8) (r1 : fX5_advance P σ 1 = some σ1) (i12 : σ1 1 12 = 14) (r2' : fX5_takeNewName P σ1 1 14 n = some (1, σa)) (pa9 : σa 1 9 = q) (pa1 : σa q 1 = m4) (h4 : 1 ≤ m4 ∧ m4 ≤ 8) (N1 : fX5_isNumberWithin P σa 1 0 (m4 - 1) = some (1, σa)) (s6 : σa 1 6 = v) (T : fX5_isTakenPort P σa 1 v = some 0) (pa11 : σa q 11 = q + 5) (rb : fX5_advance P (wr σa (q + 5) n v) 1 = some σb) (pb9 : σb 1 9 = q) (pb12 : σb q 12 = q + 6) (hc : wr σb (q + 6) n (-1) = σc) (W : fX5_isWord P σc 1 (-7) = some 1) (r3 : fX5_advance P σc 1 = some σd) (K : fX5_isKnownDevice P σd 1 = some (1, σd)) (pd9 : σd 1 9 = q) (pd12 : σd q 12 = q + 6) (pdn : σd 1 12 = 14) (X : fX5_indexOfWord P σd 1 14 n = some D) (re : fX5_advance P (wr σd (q + 6) n D) 1 = some σe) (pe9 : σe 1 9 = q) : fX5_readDevice P σ 1 = some (1, wr σe q 5 (n + 1)) := by
  have hq1 : ¬ (q = -1) := by omega
  have hq5 : ¬ (q + 5 = -1) := by omega
  have hq6 : ¬ (q + 6 = -1) := by omega
  simp (disch := first | omega | assumption | (simp (disch := omega) only [ i12, p9, v5, pa9, pa1, s6, pa11, pb9, pb12, hc, pd9, pd12, pdn, pe9 ]; done) | fail) only [fX5_readDevice, ↓z_lt, ↓z_ge, ↓z_gt, ↓z_le, ↓z_eq, ↓z_ne, ↓z_mx, ↓z_mn, ↓z_dv, ↓z_rm, ↓z_i2l, ↓z_lc, ↓z_sw, ↓z_sf, ↓z_sn, ↓z_bd, ↓z_nt, z_b0, z_b1, z_bi, z_bj, ↓z_gF, ↓z_gR, ↓z_pF, ↓z_pZ, ↓z_pR, ↓z_aI, ↓z_aR, ↓z_sI, ↓z_sZ, ↓z_on, z_cl, ↓reduceIte, Int.reduceEq, Int.reduceNeg, Int.reduceLT, Int.reduceLE, Int.reduceAdd, Int.reduceSub, Int.reduceMul, true_and, and_true, or_true, true_or, eq_self, iR_t, sO1 sh, p9, pa9, pb9, pd9, pe9, pa11, pb12, pd12, pdn, pO sh hq, pA5 sh hq, pA6 sh hq, hq1, hq5, hq6, v5, c8, ↓e_cl r1, i12, ↓e_g r2', pa1, ↓e_g N1, s6, ↓e_g T, ↓e_g rb, hc, ↓e_g W, ↓e_g r3, ↓e_cl K, ↓e_g X, ↓e_g re]
theorem devC_F {v m4 : Int} {σa σb σc σd σe : St} (sh : ShpIs P 279 PL) (hq : q = 3 ∨ q = 17) (p9 : σ 1 9 = q) (v5 : σ q 5 = n) (n0 : 0 ≤ n) (c8 : n < 8) (r1 : fX5_advance P σ 1 = some σ1) (i12 : σ1 1 12 = 14) (r2' : fX5_takeNewName P σ1 1 14 n = some (1, σa)) (pa9 : σa 1 9 = q) (pa1 : σa q 1 = m4) (h4 : 1 ≤ m4 ∧ m4 ≤ 8) (N1 : fX5_isNumberWithin P σa 1 0 (m4 - 1) = some (1, σa)) (s6 : σa 1 6 = v) (T : fX5_isTakenPort P σa 1 v = some 0) (pa11 : σa q 11 = q + 5) (rb : fX5_advance P (wr σa (q + 5) n v) 1 = some σb) (pb9 : σb 1 9 = q) (pb12 : σb q 12 = q + 6) (hc : wr σb (q + 6) n (-1) = σc) (W : fX5_isWord P σc 1 (-7) = some 1) (r3 : fX5_advance P σc 1 = some σd) (K : fX5_isKnownDevice P σd 1 = some (0, σe)) : fX5_readDevice P σ 1 = some (0, σe) := by
  have hq1 : ¬ (q = -1) := by omega
  have hq5 : ¬ (q + 5 = -1) := by omega
  have hq6 : ¬ (q + 6 = -1) := by omega
  simp (disch := first | omega | assumption | (simp (disch := omega) only [ i12, p9, v5, pa9, pa1, s6, pa11, pb9, pb12, hc ]; done) | fail) only [fX5_readDevice, ↓z_lt, ↓z_ge, ↓z_gt, ↓z_le, ↓z_eq, ↓z_ne, ↓z_mx, ↓z_mn, ↓z_dv, ↓z_rm, ↓z_i2l, ↓z_lc, ↓z_sw, ↓z_sf, ↓z_sn, ↓z_bd, ↓z_nt, z_b0, z_b1, z_bi, z_bj, ↓z_gF, ↓z_gR, ↓z_pF, ↓z_pZ, ↓z_pR, ↓z_aI, ↓z_aR, ↓z_sI, ↓z_sZ, ↓z_on, z_cl, ↓reduceIte, Int.reduceEq, Int.reduceNeg, Int.reduceLT, Int.reduceLE, Int.reduceAdd, Int.reduceSub, Int.reduceMul, true_and, and_true, or_true, true_or, eq_self, iR_t, sO1 sh, p9, pa9, pb9, pa11, pb12, pO sh hq, pA5 sh hq, pA6 sh hq, hq1, hq5, hq6, v5, c8, ↓e_cl r1, i12, ↓e_g r2', pa1, ↓e_g N1, s6, ↓e_g T, ↓e_g rb, hc, ↓e_g W, ↓e_g r3, ↓e_cl K]
theorem sim_device (Q : QQ P σ τ f N e q d) : LN P σ τ f N q (fX5_readDevice P σ 1) (fX8_deviceLine P τ 265) := by
  have hq := Q.pr.hp
  have hq1 : ¬ (q = -1) := by omega
  have sh := Q.ct.rb.sh
  have n1 := Q.tv.n1
  have h4 := Q.tv.n4
  have p9 := Q.pl
  have v5 := Q.pr.v5
  have m10 := Q.m10
  have d1 := Q.dd 1 (by omega) (by omega)
  by_cases c8 : d 1 < 8
  · rcases sim_name Q (kd := 1) (by omega) (by show d 1 < 8; exact c8) with ⟨σ1, σa, τa, ea, r1, i11, i12, i13, r2, u1, Qa, nw, Fa, Ga⟩ | ⟨σ1, σa, τa, r1, i11, i12, i13, r2, u1, hB⟩
    · have pa9 := Qa.pl
      have pa1 := Qa.pr.v1
      have ma10 := Qa.m10
      have da1 := Qa.dd 1 (by omega) (by omega)
      have da4 := Qa.dd 4 (by omega) (by omega)
      have r2' : fX5_takeNewName P σ1 1 14 (d 1) = some (1, σa) := r2
      have u1' : fX8_begin P τ 265 1 8 = some (1, τa) := u1
      by_cases t2 : tT f N ea = 2
      · have hv1 := tV_in Qa.ct.e0 Qa.ct.e1 t2
        have s6 : σa 1 6 = tV f N ea := Qa.ct.vv (Or.inr t2)
        have s7 : τa 265 7 = tV f N ea := Qa.mt.vv t2
        have rv : iR (tV f N ea) = true := iR_t (by omega) (by omega)
        have Tc := c_taken Qa rv
        have Tm := m_taken Qa rv
        have rd4 : iR (d 4 - 1) = true := iR_t (by omega) (by omega)
        by_cases k0 : tkF d (tV f N ea) = 0
        · rw [k0] at Tc Tm
          by_cases i2 : 0 ≤ tV f N ea ∧ tV f N ea ≤ d 4 - 1
          · have N1 : fX5_isNumberWithin P σa 1 0 (d 4 - 1) = some (1, σa) := c_num1 Qa.ct t2 rfl rd4 i2.1 i2.2
            obtain ⟨τb, U2, Mb, ob, jb⟩ := m_read1 Qa.mt t2 (a := 0) (b := d 4 - 1) rfl rd4 i2
            have pa11 := Qa.pr.r11
            have Ma := Qa.mt
            generalize hv1' : tV f N ea = v1 at *
            obtain ⟨σb, rb, Cb, obc, jbc⟩ := c_adv (Qa.ct.fr (s := wr σa (q + 5) (d 1) v1) (fun j _ _ => wr_n (by omega)) (wr_o (by omega)))
            have un : unC d (55 + d 1) := by unfold unC; omega
            obtain ⟨Qb, Fb, Gb⟩ := Qa.cell (c := q + 5) (n := d 1) (m := 55 + d 1) (v := v1) (v' := v1) (by omega) un (fun _ => by omega) (fun _ => by omega) (fun _ => by omega) (fun _ => by omega) (by omega) Cb obc jbc Mb ob jb
            have e0 : zu d (55 + d 1) v1 0 = d 0 := zu_n (by omega)
            have e1 : zu d (55 + d 1) v1 1 = d 1 := zu_n (by omega)
            have e2 : zu d (55 + d 1) v1 2 = d 2 := zu_n (by omega)
            have e4 : zu d (55 + d 1) v1 4 = d 4 := zu_n (by omega)
            have e55 : zu d (55 + d 1) v1 (55 + d 1) = v1 := zu_s
            have pb9 := Qb.pl
            have mb10 := Qb.m10
            have pb12 := Qb.pr.r12
            have sb5 : σb (q + 5) (d 1) = v1 := by rw [obc _ (by omega), wr_s]
            have nb : NM (σb 14) (wr τb 267 (55 + d 1) v1 269) 96 (d 1 + 1) := by
              rw [obc 14 (by omega), wr_o (by omega), wr_o (by omega), ob 269 (by omega)]
              exact nw
            generalize tE f N ea = eb at *
            generalize hdb : zu d (55 + d 1) v1 = db at *
            have un2 : unC db (63 + d 1) := by unfold unC; omega
            obtain ⟨Qc, Fc, Gc⟩ := Qb.cell (c := q + 6) (n := d 1) (m := 63 + d 1) (v := -1) (v' := -1) (σ' := wr σb (q + 6) (d 1) (-1)) (by omega) un2 (fun _ => by omega) (fun _ => by omega) (fun _ => by omega) (fun _ => by omega) (by omega) (Qb.ct.fr (fun j _ _ => wr_n (by omega)) (wr_o (by omega))) (fun o _ => rfl) (fun j _ => rfl) Qb.mt (fun o _ => rfl) (fun j _ => rfl)
            have g0 : zu db (63 + d 1) (-1) 0 = d 0 := (zu_n (by omega)).trans e0
            have g1 : zu db (63 + d 1) (-1) 1 = d 1 := (zu_n (by omega)).trans e1
            have g2 : zu db (63 + d 1) (-1) 2 = d 2 := (zu_n (by omega)).trans e2
            have g4 : zu db (63 + d 1) (-1) 4 = d 4 := (zu_n (by omega)).trans e4
            have g55 : zu db (63 + d 1) (-1) (55 + d 1) = v1 := (zu_n (by omega)).trans e55
            have g63 : zu db (63 + d 1) (-1) (63 + d 1) = -1 := zu_s
            have sc5 : wr σb (q + 6) (d 1) (-1) (q + 5) (d 1) = v1 := by rw [wr_n (by omega)]; exact sb5
            have sc6 : wr σb (q + 6) (d 1) (-1) (q + 6) (d 1) = -1 := by rw [wr_s]
            have nc : NM (wr σb (q + 6) (d 1) (-1) 14) (wr (wr τb 267 (55 + d 1) v1) 267 (63 + d 1) (-1) 269) 96 (d 1 + 1) := by
              rw [wr_o (show (14 : Int) ≠ q + 6 by omega), wr_o (show (269 : Int) ≠ 267 by omega)]
              exact nb
            generalize hsc : wr σb (q + 6) (d 1) (-1) = σc at *
            generalize htc : wr (wr τb 267 (55 + d 1) v1) 267 (63 + d 1) (-1) = τc at *
            generalize zu db (63 + d 1) (-1) = dc at *
            have Wc := c_isWord Qc.ct (z := -7) (by omega)
            have Wm := m_isWord Qc.mt (z := -7) (by omega)
            have pc9 := Qc.pl
            have mc10 := Qc.m10
            have mc8 := Qc.mt.fl
            have dc1 := (Qc.dd 1 (by omega) (by omega)).trans g1
            by_cases w7 : wdB f N eb (-7) = true
            · rw [if_pos w7] at Wc Wm
              obtain ⟨σd, r3, Cd, od, jd⟩ := c_adv Qc.ct
              obtain ⟨τd, g3, Md, pd, jd'⟩ := m_goOn Qc.mt
              have Qd := Qc.tok Cd Md od jd pd jd'
              have Fd : CFr q σc σd := CFr.ad od jd hq (Qc.ct.le Cd)
              have Gd : MFr τc τd := MFr.ad pd jd'
              have pd9 := Qd.pl
              have pdn := Qd.n12
              have pd12 := Qd.pr.r12
              have md10 := Qd.m10
              have md8 := Qd.mt.fl
              generalize tE f N eb = ed at *
              by_cases hw : tT f N ed = 1
              · by_cases hx : dvF σd f N ed (dc 1) = -1
                · right
                  have K := c_kn2 Qd hw hx
                  have V := m_dv2 Qd hw hx
                  have F0 := FS.mk Qd.mt Qd.m10 (k := 2) (by omega)
                  have F1 := FS.wr7 (i := 63 + d 1) (v := 0) F0
                  exact ⟨clt σd 2, wr (mlt τd 2) 267 (63 + d 1) 0, devC_F sh hq p9 v5 n1.1 c8 r1 i12 r2' pa9 pa1 h4 N1 s6 Tc pa11 rb pb9 pb12 hsc Wc r3 K, devM_F sh n1.1 c8 u1' ma10 da1 da4 h4 Ma t2 s7 Tm U2 mb10 htc Wm g3 md10 V F1.1 F1.2.1, (BAD.flt hq Qd.ct Qd.mt (((Fa.tr Fb).tr Fc).tr Fd) (((Ga.tr Gb).tr Gc).tr Gd) (by omega)).wr7⟩
                · left
                  have hD := dvF_in Qd
                  have K := c_kn1 Qd hw hx
                  have X := c_ix Qd hw
                  obtain ⟨τe, V, Me, oe, je⟩ := m_dv1 Qd hw hx
                  rw [g1] at X V hD hx
                  generalize dvF σd f N ed (d 1) = D at *
                  obtain ⟨σe, re, Ce, oec, jec⟩ := c_adv (Qd.ct.fr (s := wr σd (q + 6) (d 1) D) (fun j _ _ => wr_n (by omega)) (wr_o (by omega)))
                  have un3 : unC dc (63 + d 1) := by unfold unC; omega
                  obtain ⟨Qe, Fe, Ge⟩ := Qd.cell (c := q + 6) (n := d 1) (m := 63 + d 1) (v := D) (v' := D) (by omega) un3 (fun _ => by omega) (fun _ => by omega) (fun _ => by omega) (fun _ => by omega) (by omega) Ce oec jec Me oe je
                  have z1 : zu dc (63 + d 1) D 1 = d 1 := (zu_n (by omega)).trans g1
                  have z4 : zu dc (63 + d 1) D 4 = d 4 := (zu_n (by omega)).trans g4
                  have z55 : zu dc (63 + d 1) D (55 + d 1) = v1 := (zu_n (by omega)).trans g55
                  have z63 : zu dc (63 + d 1) D (63 + d 1) = D := zu_s
                  generalize zu dc (63 + d 1) D = dz at *
                  have QE := Qe.ic1 (by omega) (by rw [z1, z55, oec _ (by omega), wr_n (by omega), od _ (by omega)]; exact sc5) (by rw [z1, z63, oec _ (by omega), wr_s]) (by rw [z1, z55, z4]; omega) (by rw [z1, z63]; omega) (by
                    rw [z1, oec 14 (by omega), wr_o (by omega), od 14 (by omega), wr_o (by omega), oe 269 (by omega), pd 269 (by omega)]
                    exact nc)
                  rw [z1] at QE
                  have pe9 := Qe.pl
                  have me10 := Qe.m10
                  have me8 := Qe.mt.fl
                  have we1 := (Qe.dd 1 (by omega) (by omega)).trans z1
                  exact ⟨wr σe q 5 (d 1 + 1), wr (wr τe 267 (63 + d 1) D) 267 1 (d 1 + 1), _, _, devC_1 sh hq p9 v5 n1.1 c8 r1 i12 r2' pa9 pa1 h4 N1 s6 Tc pa11 rb pb9 pb12 hsc Wc r3 K pd9 pd12 pdn X re pe9, devM_1 sh n1.1 c8 u1' ma10 da1 da4 h4 Ma t2 s7 Tm U2 mb10 htc Wm g3 md10 V me8 me10 we1, QE, ((((Fa.tr Fb).tr Fc).tr Fd).tr Fe).tr (CFr.wq (by omega) hq), ((((Ga.tr Gb).tr Gc).tr Gd).tr Ge).tr (MFr.wo (by omega))⟩
              · right
                have K := c_kn0 Qd hw
                have V := m_dv0 Qd hw
                have F0 := FS.mk Qd.mt Qd.m10 (k := 1) (by omega)
                have F1 := FS.wr7 (i := 63 + d 1) (v := 0) F0
                exact ⟨clt σd 1, wr (mlt τd 1) 267 (63 + d 1) 0, devC_F sh hq p9 v5 n1.1 c8 r1 i12 r2' pa9 pa1 h4 N1 s6 Tc pa11 rb pb9 pb12 hsc Wc r3 K, devM_F sh n1.1 c8 u1' ma10 da1 da4 h4 Ma t2 s7 Tm U2 mb10 htc Wm g3 md10 V F1.1 F1.2.1, (BAD.flt hq Qd.ct Qd.mt (((Fa.tr Fb).tr Fc).tr Fd) (((Ga.tr Gb).tr Gc).tr Gd) (by omega)).wr7⟩
            · rw [if_neg w7] at Wc Wm
              left
              have QE := Qc.ic1 (by omega) (by rw [g1, g55]; exact sc5) (by rw [g1, g63]; exact sc6) (by rw [g1, g55, g4]; omega) (by rw [g1, g63]; omega) (by rw [g1]; exact nc)
              rw [g1] at QE
              exact ⟨wr σc q 5 (d 1 + 1), wr τc 267 1 (d 1 + 1), _, _, devC_0 sh hq p9 v5 n1.1 c8 r1 i12 r2' pa9 pa1 h4 N1 s6 Tc pa11 rb pb9 pb12 hsc Wc pc9, devM_0 sh n1.1 c8 u1' ma10 da1 da4 h4 Ma t2 s7 Tm U2 mb10 htc Wm mc8 mc10 dc1, QE, ((Fa.tr Fb).tr Fc).tr (CFr.wq (by omega) hq), ((Ga.tr Gb).tr Gc).tr (MFr.wo (by omega))⟩
          · right
            have N1 : fX5_isNumberWithin P σa 1 0 (d 4 - 1) = some (0, clt σa 4) := c_num4 Qa.ct t2 rfl rd4 i2
            have U2 : fX8_read P τa 265 0 (d 4 - 1) = some (0, mlt τa 4) := m_read4 Qa.mt t2 rfl rd4 i2
            refine ⟨clt σa 4, _, ?_, devM_4 sh n1.1 c8 u1' ma10 da1 da4 h4 Qa.mt t2 s7 Tm U2, ((BAD.flt hq Qa.ct Qa.mt Fa Ga (by omega)).wr7).wr7⟩
            simp (disch := first | omega | assumption | (simp (disch := omega) only [ i12, p9, v5, pa9, pa1 ]; done) | fail) only [fX5_readDevice, ↓z_lt, ↓z_ge, ↓z_gt, ↓z_le, ↓z_eq, ↓z_ne, ↓z_mx, ↓z_mn, ↓z_dv, ↓z_rm, ↓z_i2l, ↓z_lc, ↓z_sw, ↓z_sf, ↓z_sn, ↓z_bd, ↓z_nt, z_b0, z_b1, z_bi, z_bj, ↓z_gF, ↓z_gR, ↓z_pF, ↓z_pZ, ↓z_pR, ↓z_aI, ↓z_aR, ↓z_sI, ↓z_sZ, ↓z_on, z_cl, ↓reduceIte, Int.reduceEq, Int.reduceNeg, Int.reduceLT, Int.reduceLE, Int.reduceAdd, Int.reduceSub, Int.reduceMul, true_and, and_true, or_true, true_or, eq_self, iR_t, sO1 sh, p9, pa9, pO sh hq, hq1, v5, c8, ↓e_cl r1, i12, ↓e_g r2', pa1, ↓e_g N1]
        · right
          have i2 := tkF_r Qa k0
          have k1 : tkF d (tV f N ea) = 1 := by
            revert k0; unfold tkF; split <;> omega
          rw [k1] at Tc Tm
          have N1 : fX5_isNumberWithin P σa 1 0 (d 4 - 1) = some (1, σa) := c_num1 Qa.ct t2 rfl rd4 i2.1 (by omega)
          refine ⟨clt σa 3, _, ?_, devM_3 sh n1.1 c8 u1' ma10 da1 da4 h4 Qa.mt t2 s7 Tm rfl, ((BAD.flt hq Qa.ct Qa.mt Fa Ga (by omega)).wr7).wr7⟩
          simp (disch := first | omega | assumption | (simp (disch := omega) only [ i12, p9, v5, pa9, pa1, s6 ]; done) | fail) only [fX5_readDevice, ↓z_lt, ↓z_ge, ↓z_gt, ↓z_le, ↓z_eq, ↓z_ne, ↓z_mx, ↓z_mn, ↓z_dv, ↓z_rm, ↓z_i2l, ↓z_lc, ↓z_sw, ↓z_sf, ↓z_sn, ↓z_bd, ↓z_nt, z_b0, z_b1, z_bi, z_bj, ↓z_gF, ↓z_gR, ↓z_pF, ↓z_pZ, ↓z_pR, ↓z_aI, ↓z_aR, ↓z_sI, ↓z_sZ, ↓z_on, z_cl, ↓reduceIte, Int.reduceEq, Int.reduceNeg, Int.reduceLT, Int.reduceLE, Int.reduceAdd, Int.reduceSub, Int.reduceMul, true_and, and_true, or_true, true_or, eq_self, iR_t, sO1 sh, p9, pa9, pO sh hq, hq1, v5, c8, ↓e_cl r1, i12, ↓e_g r2', pa1, ↓e_g N1, s6, ↓e_g Tc, ↓c_fault' Qa.ct]
      · right
        have N1 : fX5_isNumberWithin P σa 1 0 (d 4 - 1) = some (0, clt σa 1) := c_numS Qa.ct t2
        refine ⟨clt σa 1, _, ?_, devM_2 sh n1.1 c8 u1' ma10 da1 da4 h4 Qa.mt t2, ((BAD.flt hq Qa.ct Qa.mt Fa Ga (by omega)).wr7).wr7⟩
        simp (disch := first | omega | assumption | (simp (disch := omega) only [ i12, p9, v5, pa9, pa1 ]; done) | fail) only [fX5_readDevice, ↓z_lt, ↓z_ge, ↓z_gt, ↓z_le, ↓z_eq, ↓z_ne, ↓z_mx, ↓z_mn, ↓z_dv, ↓z_rm, ↓z_i2l, ↓z_lc, ↓z_sw, ↓z_sf, ↓z_sn, ↓z_bd, ↓z_nt, z_b0, z_b1, z_bi, z_bj, ↓z_gF, ↓z_gR, ↓z_pF, ↓z_pZ, ↓z_pR, ↓z_aI, ↓z_aR, ↓z_sI, ↓z_sZ, ↓z_on, z_cl, ↓reduceIte, Int.reduceEq, Int.reduceNeg, Int.reduceLT, Int.reduceLE, Int.reduceAdd, Int.reduceSub, Int.reduceMul, true_and, and_true, or_true, true_or, eq_self, iR_t, sO1 sh, p9, pa9, pO sh hq, hq1, v5, c8, ↓e_cl r1, i12, ↓e_g r2', pa1, ↓e_g N1]
    · right
      refine ⟨σa, τa, ?_, ?_, hB⟩
      · simp (disch := first | omega | assumption | (simp (disch := omega) only [ i12, p9, v5 ]; done) | fail) only [fX5_readDevice, ↓z_lt, ↓z_ge, ↓z_gt, ↓z_le, ↓z_eq, ↓z_ne, ↓z_mx, ↓z_mn, ↓z_dv, ↓z_rm, ↓z_i2l, ↓z_lc, ↓z_sw, ↓z_sf, ↓z_sn, ↓z_bd, ↓z_nt, z_b0, z_b1, z_bi, z_bj, ↓z_gF, ↓z_gR, ↓z_pF, ↓z_pZ, ↓z_pR, ↓z_aI, ↓z_aR, ↓z_sI, ↓z_sZ, ↓z_on, z_cl, ↓reduceIte, Int.reduceEq, Int.reduceNeg, Int.reduceLT, Int.reduceLE, Int.reduceAdd, Int.reduceSub, Int.reduceMul, true_and, and_true, or_true, true_or, eq_self, iR_t, sO1 sh, p9, pO sh hq, hq1, v5, c8, ↓e_cl r1, i12, ↓e_g (show fX5_takeNewName P σ1 1 14 (d 1) = some (0, σa) from r2)]
      · simp (disch := first | omega | assumption) only [fX8_deviceLine, ↓z_lt, ↓z_ge, ↓z_gt, ↓z_le, ↓z_eq, ↓z_ne, ↓z_mx, ↓z_mn, ↓z_dv, ↓z_rm, ↓z_i2l, ↓z_lc, ↓z_sw, ↓z_sf, ↓z_sn, ↓z_bd, ↓z_nt, z_b0, z_b1, z_bi, z_bj, ↓z_gF, ↓z_gR, ↓z_pF, ↓z_pZ, ↓z_pR, ↓z_aI, ↓z_aR, ↓z_sI, ↓z_sZ, ↓z_on, z_cl, ↓reduceIte, Int.reduceEq, Int.reduceNeg, Int.reduceLT, Int.reduceLE, Int.reduceAdd, Int.reduceSub, Int.reduceMul, true_and, and_true, or_true, true_or, eq_self, iR_t, sO265 sh, ↓e_cl (show fX8_begin P τ 265 1 8 = some (0, τa) from u1)]
  · right
    have b5 : fX8_begin P τ 265 1 8 = some (0, mlt τ 5) := by
      have k1 : 8 ≤ d 1 := by omega
      simp (disch := first | omega | assumption) only [fX8_begin, ↓z_lt, ↓z_ge, ↓z_gt, ↓z_le, ↓z_eq, ↓z_ne, ↓z_mx, ↓z_mn, ↓z_dv, ↓z_rm, ↓z_i2l, ↓z_lc, ↓z_sw, ↓z_sf, ↓z_sn, ↓z_bd, ↓z_nt, z_b0, z_b1, z_bi, z_bj, ↓z_gF, ↓z_gR, ↓z_pF, ↓z_pZ, ↓z_pR, ↓z_aI, ↓z_aR, ↓z_sI, ↓z_sZ, ↓z_on, z_cl, ↓reduceIte, Int.reduceEq, Int.reduceNeg, Int.reduceLT, Int.reduceLE, Int.reduceAdd, Int.reduceSub, Int.reduceMul, true_and, and_true, or_true, true_or, eq_self, iR_t, sO265 sh, sA267 sh, m10, d1, k1, ↓m_must0' Q.mt]
    refine ⟨clt σ 5, mlt τ 5, ?_, ?_, BAD.flt hq Q.ct Q.mt CFr.rf MFr.rf (by omega)⟩
    · simp (disch := first | omega | assumption) only [fX5_readDevice, ↓z_lt, ↓z_ge, ↓z_gt, ↓z_le, ↓z_eq, ↓z_ne, ↓z_mx, ↓z_mn, ↓z_dv, ↓z_rm, ↓z_i2l, ↓z_lc, ↓z_sw, ↓z_sf, ↓z_sn, ↓z_bd, ↓z_nt, z_b0, z_b1, z_bi, z_bj, ↓z_gF, ↓z_gR, ↓z_pF, ↓z_pZ, ↓z_pR, ↓z_aI, ↓z_aR, ↓z_sI, ↓z_sZ, ↓z_on, z_cl, ↓reduceIte, Int.reduceEq, Int.reduceNeg, Int.reduceLT, Int.reduceLE, Int.reduceAdd, Int.reduceSub, Int.reduceMul, true_and, and_true, or_true, true_or, eq_self, iR_t, sO1 sh, p9, pO sh hq, hq1, v5, c8, ↓c_fault' Q.ct]
    · simp (disch := first | omega | assumption) only [fX8_deviceLine, ↓z_lt, ↓z_ge, ↓z_gt, ↓z_le, ↓z_eq, ↓z_ne, ↓z_mx, ↓z_mn, ↓z_dv, ↓z_rm, ↓z_i2l, ↓z_lc, ↓z_sw, ↓z_sf, ↓z_sn, ↓z_bd, ↓z_nt, z_b0, z_b1, z_bi, z_bj, ↓z_gF, ↓z_gR, ↓z_pF, ↓z_pZ, ↓z_pR, ↓z_aI, ↓z_aR, ↓z_sI, ↓z_sZ, ↓z_on, z_cl, ↓reduceIte, Int.reduceEq, Int.reduceNeg, Int.reduceLT, Int.reduceLE, Int.reduceAdd, Int.reduceSub, Int.reduceMul, true_and, and_true, or_true, true_or, eq_self, iR_t, sO265 sh, ↓e_cl b5]
end ZZV
