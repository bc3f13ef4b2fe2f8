/-! THE HEADER on both sides. -/
noncomputable def headM3 (P : Shp) (s24 : St) (K : St → Option (Int × St)) : Option (Int × St) :=
  gF P 8 s24 265 6 fun x25 =>
  jnt
    (fun x26 =>
      onO P 8 265 <| cl (fX8_must P s24 265 x26 1) fun (x28, s29) =>
      jnt
        K
        fun k119 =>
      jeq x28 0
        (k119 s29)
        (
          onO P 8 265 <| cl (fX8_nextToken P s29 265) fun s40 =>
          k119 s40))
    fun k108 =>
  jne x25 3
    (k108 0)
    (k108 1)
noncomputable def headM2 (P : Shp) (s19 : St) (K : St → Option (Int × St)) : Option (Int × St) :=
  gR P 8 s19 265 10 fun x20 =>
  onO P 8 265 <| cl (fX8_read P s19 265 1 8) fun (x22, s23) =>
  sI P 10 s23 x20 4 x22 fun s24 =>
  headM3 P s24 K
noncomputable def headM1 (P : Shp) (s14 : St) (K : St → Option (Int × St)) : Option (Int × St) :=
  gR P 8 s14 265 10 fun x15 =>
  onO P 8 265 <| cl (fX8_read P s14 265 1 999) fun (x17, s18) =>
  sI P 10 s18 x15 3 x17 fun s19 =>
  headM2 P s19 K
noncomputable def headM (P : Shp) (s9 : St) (K : St → Option (Int × St)) : Option (Int × St) :=
  onO P 8 265 <| cl (fX8_isWord P s9 265 ((-2))) fun x10 =>
  onO P 8 265 <| cl (fX8_must P s9 265 x10 1) fun (x12, s13) =>
  onO P 8 265 <| cl (fX8_goOn P s13 265) fun s14 =>
  headM1 P s14 K
def dF (j : Int) : Int := if j = 3 then 1 else if j = 4 then 1 else if j = 5 then 10 else if j = 6 then 5 else 0
section ZZA1
variable {P : Shp} {σ σ' σ0 σ1 σ2 s τ τ' τ0 τ1 τ2 : St} {f g h B B' d d' : Int → Int} {a b c e e' k i j x y z v v' w N q L kd cnt h1 s1 p o n m : Int}
theorem headF3 (sh : ShpIs P 279 PL) (h : FS s) (K : St → Option (Int × St)) : headM3 P s K = K s := by
  obtain ⟨a1, a2, a3, a4⟩ := h
  by_cases c : s 265 6 = 3
  · simp (disch := first | omega | assumption) only [headM3, ↓z_lt, ↓z_ge, ↓z_gt, ↓z_le, ↓z_eq, ↓z_ne, ↓z_mx, ↓z_mn, ↓z_dv, ↓z_rm, ↓z_i2l, ↓z_lc, ↓z_sw, ↓z_sf, ↓z_sn, ↓z_bd, ↓z_nt, z_b0, z_b1, z_bi, z_bj, ↓z_gF, ↓z_gR, ↓z_pF, ↓z_pZ, ↓z_pR, ↓z_aI, ↓z_aR, ↓z_sI, ↓z_sZ, ↓z_on, z_cl, ↓reduceIte, Int.reduceEq, Int.reduceNeg, Int.reduceLT, Int.reduceLE, Int.reduceAdd, Int.reduceSub, Int.reduceMul, true_and, and_true, or_true, true_or, eq_self, iR_t, sO265 sh, c, ↓f_must' sh a1 a2]
  · simp (disch := first | omega | assumption) only [headM3, ↓z_lt, ↓z_ge, ↓z_gt, ↓z_le, ↓z_eq, ↓z_ne, ↓z_mx, ↓z_mn, ↓z_dv, ↓z_rm, ↓z_i2l, ↓z_lc, ↓z_sw, ↓z_sf, ↓z_sn, ↓z_bd, ↓z_nt, z_b0, z_b1, z_bi, z_bj, ↓z_gF, ↓z_gR, ↓z_pF, ↓z_pZ, ↓z_pR, ↓z_aI, ↓z_aR, ↓z_sI, ↓z_sZ, ↓z_on, z_cl, ↓reduceIte, Int.reduceEq, Int.reduceNeg, Int.reduceLT, Int.reduceLE, Int.reduceAdd, Int.reduceSub, Int.reduceMul, true_and, and_true, or_true, true_or, eq_self, iR_t, sO265 sh, c, ↓f_must' sh a1 a2]
theorem headF2 (sh : ShpIs P 279 PL) (h : FS s) (K : St → Option (Int × St)) : headM2 P s K = K (wr s 267 4 1) := by
  rw [← headF3 sh (FS.wr7 (i := 4) (v := 1) h) K]
  have r : ∀ b, fX8_read P s 265 1 b = some (1, s) := fun b => fs_read sh h
  simp (disch := first | omega | assumption) only [headM2, ↓z_lt, ↓z_ge, ↓z_gt, ↓z_le, ↓z_eq, ↓z_ne, ↓z_mx, ↓z_mn, ↓z_dv, ↓z_rm, ↓z_i2l, ↓z_lc, ↓z_sw, ↓z_sf, ↓z_sn, ↓z_bd, ↓z_nt, z_b0, z_b1, z_bi, z_bj, ↓z_gF, ↓z_gR, ↓z_pF, ↓z_pZ, ↓z_pR, ↓z_aI, ↓z_aR, ↓z_sI, ↓z_sZ, ↓z_on, z_cl, ↓reduceIte, Int.reduceEq, Int.reduceNeg, Int.reduceLT, Int.reduceLE, Int.reduceAdd, Int.reduceSub, Int.reduceMul, true_and, and_true, or_true, true_or, eq_self, iR_t, sO265 sh, sA267 sh, h.2.2.2, ↓e_cl (r _)]
theorem headF1 (sh : ShpIs P 279 PL) (h : FS s) (K : St → Option (Int × St)) : headM1 P s K = K (wr (wr s 267 3 1) 267 4 1) := by
  rw [← headF2 sh (FS.wr7 (i := 3) (v := 1) h) K]
  have r : ∀ b, fX8_read P s 265 1 b = some (1, s) := fun b => fs_read sh h
  simp (disch := first | omega | assumption) only [headM1, ↓z_lt, ↓z_ge, ↓z_gt, ↓z_le, ↓z_eq, ↓z_ne, ↓z_mx, ↓z_mn, ↓z_dv, ↓z_rm, ↓z_i2l, ↓z_lc, ↓z_sw, ↓z_sf, ↓z_sn, ↓z_bd, ↓z_nt, z_b0, z_b1, z_bi, z_bj, ↓z_gF, ↓z_gR, ↓z_pF, ↓z_pZ, ↓z_pR, ↓z_aI, ↓z_aR, ↓z_sI, ↓z_sZ, ↓z_on, z_cl, ↓reduceIte, Int.reduceEq, Int.reduceNeg, Int.reduceLT, Int.reduceLE, Int.reduceAdd, Int.reduceSub, Int.reduceMul, true_and, and_true, or_true, true_or, eq_self, iR_t, sO265 sh, sA267 sh, h.2.2.2, ↓e_cl (r _)]
theorem QQ.sc (Q : QQ P σ τ f N e q d) (hj : (j = 0 ∧ m = 3 ∧ 1 ≤ v ∧ v ≤ 999) ∨ (j = 1 ∧ m = 4 ∧ 1 ≤ v ∧ v ≤ 8)) (h1 : d 1 = 0) (C : CT P σ' f N (tE f N e)) (o1 : ∀ o, o ≠ 1 → σ' o = wr σ q j v o) (j1 : ∀ i, (i < 3 ∨ 6 < i) → σ' 1 i = wr σ q j v 1 i) (M : MT P τ1 f N (tE f N e)) (o2 : ∀ o, o ≠ 265 → τ1 o = τ o) (j2 : ∀ j, (j < 4 ∨ 7 < j) → τ1 265 j = τ 265 j) : QQ P σ' (wr τ1 267 m v) f N (tE f N e) q (zu d m v) ∧ CFr q σ σ' ∧ MFr τ (wr τ1 267 m v) := by
  have hq := Q.pr.hp
  have J1 : ∀ j, (j < 3 ∨ 6 < j) → σ' 1 j = σ 1 j := fun j hj => by rw [j1 j hj, wr_n (by omega)]
  have J2 : ∀ j, (j < 4 ∨ 7 < j) → wr τ1 267 m v 265 j = τ 265 j := fun j hj => by rw [wr_n (by omega), j2 j hj]
  have O1 : ∀ o, o ≠ 1 → o ≠ q → σ' o = σ o := fun o h1 h2 => by rw [o1 o h1, wr_o h2]
  have Z : ∀ j, j ≠ m → zu d m v j = d j := fun j hj => zu_n hj
  have m34 : m = 3 ∨ m = 4 := by omega
  have V : ∀ i, i ≠ j → σ' q i = σ q i := fun i hi => by rw [o1 q (by omega), wr_i hi]
  have V1 : σ' q j = v := by rw [o1 q (by omega), wr_s]
  have nn := Q.nn3
  have np := Q.np
  have n4 := Q.tv.n4
  have b5 := Q.tv.b 5
  have b6 := Q.tv.b 6
  have v0 := Q.pr.v0
  have v1 := Q.pr.v1
  have z3 : zu d m v 3 = if m = 3 then v else d 3 := by
    rcases m34 with rfl | rfl
    · rw [if_pos rfl, zu_s]
    · rw [if_neg (by omega), zu_n (by omega)]
  have z4 : zu d m v 4 = if m = 4 then v else d 4 := by
    rcases m34 with rfl | rfl
    · rw [if_neg (by omega), zu_n (by omega)]
    · rw [if_pos rfl, zu_s]
  have w0 : σ' q 0 = zu d m v 3 := by
    rcases hj with ⟨rfl, rfl, _⟩ | ⟨rfl, rfl, _⟩
    · rw [V1, zu_s]
    · rw [V 0 (by omega), zu_n (by omega)]; exact v0
  have w1 : σ' q 1 = zu d m v 4 := by
    rcases hj with ⟨rfl, rfl, _⟩ | ⟨rfl, rfl, _⟩
    · rw [V 1 (by omega), zu_n (by omega)]; exact v1
    · rw [V1, zu_s]
  have b3' : 0 ≤ zu d m v 3 ∧ zu d m v 3 ≤ 999 := by rw [z3]; split <;> omega
  have b4' : 1 ≤ zu d m v 4 ∧ zu d m v 4 ≤ 8 := by rw [z4]; split <;> omega
  refine ⟨⟨C, M.fr (fun j _ _ => wr_n (by omega)) (wr_o (by omega)), ?_, ?_, ?_, ?_, ?_, ?_, ?_, ?_, ?_, ?_, ?_, ?_, ?_, ?_, ?_, ?_⟩, ?_, ?_⟩
  · refine Q.pr.sca (fun i hi => V i (by omega)) (fun o h1 h2 => O1 o (by omega) (by omega)) w0 w1 ?_ ?_ (V 4 (by omega)) (V 5 (by omega)) (V 6 (by omega)) (fun i hi => Z i (by omega))
    · rw [V 2 (by omega), Z 5 (by omega)]; exact Q.pr.v2
    · rw [V 3 (by omega), Z 6 (by omega)]; exact Q.pr.v3
  · refine Q.tv.sca (fun i hi => Z i (by omega)) ⟨b3'.1, by omega⟩ b4' ?_ ?_
    · rw [Z 5 (by omega)]; omega
    · rw [Z 6 (by omega)]; omega
  · rw [J1 9 (by omega)]; exact Q.pl
  · rw [J1 11 (by omega)]; exact Q.n11
  · rw [J1 12 (by omega)]; exact Q.n12
  · rw [J1 13 (by omega)]; exact Q.n13
  · rw [J1 10 (by omega), J2 13 (by omega)]; exact Q.al
  · rw [J2 13 (by omega)]; exact Q.al2
  · rw [J2 10 (by omega)]; exact Q.m10
  · rw [J2 12 (by omega)]; exact Q.m12
  · intro j j0 j9
    by_cases z : j = m
    · subst z; rw [wr_s, zu_s]
    · rw [wr_i z, Z j z, o2 267 (by omega)]; exact Q.dd j j0 j9
  · rw [O1 13 (by omega) (by omega), wr_o (by omega), o2 269 (by omega), Z _ (by omega)]; exact Q.na0
  · rw [O1 14 (by omega) (by omega), wr_o (by omega), o2 269 (by omega), Z _ (by omega)]; exact Q.na1
  · rw [O1 15 (by omega) (by omega), wr_o (by omega), o2 269 (by omega), Z _ (by omega)]; exact Q.na2
  · rw [Z 5 (by omega), Z 6 (by omega)]; exact ⟨b3'.1, nn.2⟩
  · refine ⟨b3'.2, fun k k0 k1 => ?_⟩
    rw [Z 1 (by omega)] at k1
    omega
  · exact (CFr.wq (by omega) hq).tr (CFr.ad o1 j1 hq (by rw [wr_n (by omega)]; exact Q.ct.le C))
  · exact (MFr.ad o2 j2).tr (MFr.wo (by omega))
theorem headS2 (Q : QQ P σ τ f N e q d) (h1 : d 1 = 0) : ∃ σ' x, (∃ τ', (∀ K, headM2 P τ K = K τ') ∧ ((x = 1 ∧ ∃ e' d', QQ P σ' τ' f N e' q d' ∧ d' 1 = 0 ∧ CFr q σ σ' ∧ MFr τ τ') ∨ (x = 0 ∧ BAD q σ τ σ' τ'))) ∧ (onO P 5 1 <| cl (fX5_isNumberWithin P σ 1 1 8) fun (x11, s12) =>
          jne x11 0
            (
              gR P 5 s12 1 9 fun x13 =>
              gF P 5 s12 1 6 fun x14 =>
              pF P 4 s12 x13 1 x14 fun s15 =>
              onO P 5 1 <| cl (fX5_advance P s15 1) fun s16 =>
              onO P 5 1 <| cl (fX5_takeSemicolon P s16 1) fun (x18, s19) =>
              bz x18 (some ((x18 : Int), s19)))
            (bz 0 (some ((0 : Int), s12)))) = some (x, σ') := by
  have hq := Q.pr.hp
  have hq1 : ¬ (q = -1) := by omega
  have sh := Q.ct.rb.sh
  have p9 := Q.pl
  have m10 := Q.m10
  by_cases t2 : tT f N e = 2
  · by_cases i2 : 1 ≤ tV f N e ∧ tV f N e ≤ 8
    · have N2 : fX5_isNumberWithin P σ 1 1 8 = some (1, σ) := c_num1 Q.ct t2 rfl rfl i2.1 i2.2
      have s6 : σ 1 6 = tV f N e := Q.ct.vv (Or.inr t2)
      have hv := tV_in Q.ct.e0 Q.ct.e1 t2
      obtain ⟨τb, U2, Mb, ob, jb⟩ := m_read1 Q.mt t2 (a := 1) (b := 8) rfl rfl i2
      generalize hv1' : tV f N e = v1 at *
      obtain ⟨σb, rb, Cb, obc, jbc⟩ := c_adv (Q.ct.fr (s := wr σ q 1 v1) (fun j _ _ => wr_n (by omega)) (wr_o (by omega)))
      obtain ⟨Qb, Fb, Gb⟩ := Q.sc (j := 1) (m := 4) (v := v1) (Or.inr ⟨rfl, rfl, i2⟩) h1 Cb obc jbc Mb ob jb
      have e1 : zu d 4 v1 1 = 0 := (zu_n (by omega)).trans h1
      have tt := Qb.mt.tt
      have hT := tT_in (f := f) (N := N) (e := tE f N e)
      generalize tE f N e = eb at *
      by_cases c : tT f N eb = 3
      · obtain ⟨σ2, r2, C2, o2, j2⟩ := c_semi Qb.ct c
        obtain ⟨τ2, u2, M2, p2, l2⟩ := m_nxt Qb.mt
        rw [c] at tt
        refine ⟨σ2, 1, ⟨τ2, fun K => ?_, Or.inl ⟨rfl, _, _, Qb.tok C2 M2 o2 j2 p2 l2, e1, Fb.tr (CFr.ad o2 j2 hq (Qb.ct.le C2)), Gb.tr (MFr.ad p2 l2)⟩⟩, ?_⟩
        · simp (disch := first | omega | assumption) only [headM2, headM3, ↓z_lt, ↓z_ge, ↓z_gt, ↓z_le, ↓z_eq, ↓z_ne, ↓z_mx, ↓z_mn, ↓z_dv, ↓z_rm, ↓z_i2l, ↓z_lc, ↓z_sw, ↓z_sf, ↓z_sn, ↓z_bd, ↓z_nt, z_b0, z_b1, z_bi, z_bj, ↓z_gF, ↓z_gR, ↓z_pF, ↓z_pZ, ↓z_pR, ↓z_aI, ↓z_aR, ↓z_sI, ↓z_sZ, ↓z_on, z_cl, ↓reduceIte, Int.reduceEq, Int.reduceNeg, Int.reduceLT, Int.reduceLE, Int.reduceAdd, Int.reduceSub, Int.reduceMul, true_and, and_true, or_true, true_or, eq_self, iR_t, sO265 sh, sA267 sh, m10, ↓e_cl U2, tt, ↓m_must1' Qb.mt, ↓e_cl u2]
        · simp (disch := first | omega | assumption | (simp (disch := omega) only [ p9, s6 ]; done) | fail) only [↓z_lt, ↓z_ge, ↓z_gt, ↓z_le, ↓z_eq, ↓z_ne, ↓z_mx, ↓z_mn, ↓z_dv, ↓z_rm, ↓z_i2l, ↓z_lc, ↓z_sw, ↓z_sf, ↓z_sn, ↓z_bd, ↓z_nt, z_b0, z_b1, z_bi, z_bj, ↓z_gF, ↓z_gR, ↓z_pF, ↓z_pZ, ↓z_pR, ↓z_aI, ↓z_aR, ↓z_sI, ↓z_sZ, ↓z_on, z_cl, ↓reduceIte, Int.reduceEq, Int.reduceNeg, Int.reduceLT, Int.reduceLE, Int.reduceAdd, Int.reduceSub, Int.reduceMul, true_and, and_true, or_true, true_or, eq_self, iR_t, sO1 sh, pO sh hq, hq1, ↓e_cl N2, p9, s6, ↓e_g rb, ↓e_cl r2]
      · generalize htt : tT f N eb = t at *
        have c' : ¬ (tT f N eb = 3) := by omega
        refine ⟨clt σb 1, 0, ⟨mlt (wr τb 267 4 v1) 1, fun K => ?_, Or.inr ⟨rfl, BAD.flt hq Qb.ct Qb.mt Fb Gb (by omega)⟩⟩, ?_⟩
        · simp (disch := first | omega | assumption) only [headM2, headM3, ↓z_lt, ↓z_ge, ↓z_gt, ↓z_le, ↓z_eq, ↓z_ne, ↓z_mx, ↓z_mn, ↓z_dv, ↓z_rm, ↓z_i2l, ↓z_lc, ↓z_sw, ↓z_sf, ↓z_sn, ↓z_bd, ↓z_nt, z_b0, z_b1, z_bi, z_bj, ↓z_gF, ↓z_gR, ↓z_pF, ↓z_pZ, ↓z_pR, ↓z_aI, ↓z_aR, ↓z_sI, ↓z_sZ, ↓z_on, z_cl, ↓reduceIte, Int.reduceEq, Int.reduceNeg, Int.reduceLT, Int.reduceLE, Int.reduceAdd, Int.reduceSub, Int.reduceMul, true_and, and_true, or_true, true_or, eq_self, iR_t, sO265 sh, sA267 sh, m10, ↓e_cl U2, tt, c, ↓m_must0' Qb.mt]
        · simp (disch := first | omega | assumption | (simp (disch := omega) only [ p9, s6 ]; done) | fail) only [↓z_lt, ↓z_ge, ↓z_gt, ↓z_le, ↓z_eq, ↓z_ne, ↓z_mx, ↓z_mn, ↓z_dv, ↓z_rm, ↓z_i2l, ↓z_lc, ↓z_sw, ↓z_sf, ↓z_sn, ↓z_bd, ↓z_nt, z_b0, z_b1, z_bi, z_bj, ↓z_gF, ↓z_gR, ↓z_pF, ↓z_pZ, ↓z_pR, ↓z_aI, ↓z_aR, ↓z_sI, ↓z_sZ, ↓z_on, z_cl, ↓reduceIte, Int.reduceEq, Int.reduceNeg, Int.reduceLT, Int.reduceLE, Int.reduceAdd, Int.reduceSub, Int.reduceMul, true_and, and_true, or_true, true_or, eq_self, iR_t, sO1 sh, pO sh hq, hq1, ↓e_cl N2, p9, s6, ↓e_g rb, ↓c_semiS' Qb.ct c']
    · have N2 : fX5_isNumberWithin P σ 1 1 8 = some (0, clt σ 4) := c_num4 Q.ct t2 rfl rfl i2
      have U2 : fX8_read P τ 265 1 8 = some (1, mlt τ 4) := m_read4 Q.mt t2 rfl rfl i2
      have F0 := FS.mk Q.mt Q.m10 (k := 4) (by omega)
      have F1 := FS.wr7 (i := 4) (v := 1) F0
      refine ⟨clt σ 4, 0, ⟨wr (mlt τ 4) 267 4 1, fun K => ?_, Or.inr ⟨rfl, (BAD.flt hq Q.ct Q.mt CFr.rf MFr.rf (by omega)).wr7⟩⟩, ?_⟩
      · rw [← headF3 sh F1 K]
        simp (disch := first | omega | assumption) only [headM2, ↓z_lt, ↓z_ge, ↓z_gt, ↓z_le, ↓z_eq, ↓z_ne, ↓z_mx, ↓z_mn, ↓z_dv, ↓z_rm, ↓z_i2l, ↓z_lc, ↓z_sw, ↓z_sf, ↓z_sn, ↓z_bd, ↓z_nt, z_b0, z_b1, z_bi, z_bj, ↓z_gF, ↓z_gR, ↓z_pF, ↓z_pZ, ↓z_pR, ↓z_aI, ↓z_aR, ↓z_sI, ↓z_sZ, ↓z_on, z_cl, ↓reduceIte, Int.reduceEq, Int.reduceNeg, Int.reduceLT, Int.reduceLE, Int.reduceAdd, Int.reduceSub, Int.reduceMul, true_and, and_true, or_true, true_or, eq_self, iR_t, sO265 sh, sA267 sh, m10, ↓e_cl U2]
      · simp (disch := first | omega | assumption) only [↓z_lt, ↓z_ge, ↓z_gt, ↓z_le, ↓z_eq, ↓z_ne, ↓z_mx, ↓z_mn, ↓z_dv, ↓z_rm, ↓z_i2l, ↓z_lc, ↓z_sw, ↓z_sf, ↓z_sn, ↓z_bd, ↓z_nt, z_b0, z_b1, z_bi, z_bj, ↓z_gF, ↓z_gR, ↓z_pF, ↓z_pZ, ↓z_pR, ↓z_aI, ↓z_aR, ↓z_sI, ↓z_sZ, ↓z_on, z_cl, ↓reduceIte, Int.reduceEq, Int.reduceNeg, Int.reduceLT, Int.reduceLE, Int.reduceAdd, Int.reduceSub, Int.reduceMul, true_and, and_true, or_true, true_or, eq_self, iR_t, sO1 sh, ↓e_cl N2]
  · have N2 : fX5_isNumberWithin P σ 1 1 8 = some (0, clt σ 1) := c_numS Q.ct t2
    have U2 : fX8_read P τ 265 1 8 = some (1, mlt τ 1) := m_readS Q.mt t2
    have F0 := FS.mk Q.mt Q.m10 (k := 1) (by omega)
    have F1 := FS.wr7 (i := 4) (v := 1) F0
    refine ⟨clt σ 1, 0, ⟨wr (mlt τ 1) 267 4 1, fun K => ?_, Or.inr ⟨rfl, (BAD.flt hq Q.ct Q.mt CFr.rf MFr.rf (by omega)).wr7⟩⟩, ?_⟩
    · rw [← headF3 sh F1 K]
      simp (disch := first | omega | assumption) only [headM2, ↓z_lt, ↓z_ge, ↓z_gt, ↓z_le, ↓z_eq, ↓z_ne, ↓z_mx, ↓z_mn, ↓z_dv, ↓z_rm, ↓z_i2l, ↓z_lc, ↓z_sw, ↓z_sf, ↓z_sn, ↓z_bd, ↓z_nt, z_b0, z_b1, z_bi, z_bj, ↓z_gF, ↓z_gR, ↓z_pF, ↓z_pZ, ↓z_pR, ↓z_aI, ↓z_aR, ↓z_sI, ↓z_sZ, ↓z_on, z_cl, ↓reduceIte, Int.reduceEq, Int.reduceNeg, Int.reduceLT, Int.reduceLE, Int.reduceAdd, Int.reduceSub, Int.reduceMul, true_and, and_true, or_true, true_or, eq_self, iR_t, sO265 sh, sA267 sh, m10, ↓e_cl U2]
    · simp (disch := first | omega | assumption) only [↓z_lt, ↓z_ge, ↓z_gt, ↓z_le, ↓z_eq, ↓z_ne, ↓z_mx, ↓z_mn, ↓z_dv, ↓z_rm, ↓z_i2l, ↓z_lc, ↓z_sw, ↓z_sf, ↓z_sn, ↓z_bd, ↓z_nt, z_b0, z_b1, z_bi, z_bj, ↓z_gF, ↓z_gR, ↓z_pF, ↓z_pZ, ↓z_pR, ↓z_aI, ↓z_aR, ↓z_sI, ↓z_sZ, ↓z_on, z_cl, ↓reduceIte, Int.reduceEq, Int.reduceNeg, Int.reduceLT, Int.reduceLE, Int.reduceAdd, Int.reduceSub, Int.reduceMul, true_and, and_true, or_true, true_or, eq_self, iR_t, sO1 sh, ↓e_cl N2]
theorem BAD.pre (h1 : CFr q σ0 σ) (h2 : MFr τ0 τ) (h : BAD q σ τ σ' τ') : BAD q σ0 τ0 σ' τ' :=
  ⟨h1.tr h.cf, h2.tr h.mf, h.k1, h.k2, h.k3, h.k4, h.k5⟩
theorem sim_header (Q : QQ P σ τ f N e q d) (h1 : d 1 = 0) : ∃ σ' x τ', fX5_readHeader P σ 1 = some (x, σ') ∧ (∀ K, headM P τ K = K τ') ∧ ((x = 1 ∧ ∃ e' d', QQ P σ' τ' f N e' q d' ∧ CFr q σ σ' ∧ MFr τ τ') ∨ (x = 0 ∧ BAD q σ τ σ' τ')) := by
  have hq := Q.pr.hp
  have hq1 : ¬ (q = -1) := by omega
  have sh := Q.ct.rb.sh
  have w2 := c_isWord Q.ct (z := -2) (by omega)
  have m2 := m_isWord Q.mt (z := -2) (by omega)
  by_cases c2 : wdB f N e (-2) = true
  · rw [if_pos c2] at w2 m2
    obtain ⟨σ1, τ1, r1, u1, Q1, F1, G1⟩ := sim_adv Q
    have p9 := Q1.pl
    have m10 := Q1.m10
    generalize tE f N e = e1 at *
    by_cases t1 : tT f N e1 = 2
    · by_cases i1 : 1 ≤ tV f N e1 ∧ tV f N e1 ≤ 999
      · have N1 : fX5_isNumberWithin P σ1 1 1 999 = some (1, σ1) := c_num1 Q1.ct t1 rfl rfl i1.1 i1.2
        have s6 : σ1 1 6 = tV f N e1 := Q1.ct.vv (Or.inr t1)
        have hv := tV_in Q1.ct.e0 Q1.ct.e1 t1
        obtain ⟨τb, U2, Mb, ob, jb⟩ := m_read1 Q1.mt t1 (a := 1) (b := 999) rfl rfl i1
        generalize hv1' : tV f N e1 = v1 at *
        obtain ⟨σb, rb, Cb, obc, jbc⟩ := c_adv (Q1.ct.fr (s := wr σ1 q 0 v1) (fun j _ _ => wr_n (by omega)) (wr_o (by omega)))
        obtain ⟨Qb, Fb, Gb⟩ := Q1.sc (j := 0) (m := 3) (v := v1) (Or.inl ⟨rfl, rfl, i1⟩) h1 Cb obc jbc Mb ob jb
        have e1' : zu d 3 v1 1 = 0 := (zu_n (by omega)).trans h1
        obtain ⟨σ', x, ⟨τ', hM, hX⟩, hC⟩ := headS2 Qb e1'
        refine ⟨σ', x, τ', ?_, fun K => ?_, ?_⟩
        · rw [← hC]
          simp (disch := first | omega | assumption | (simp (disch := omega) only [ p9, s6 ]; done) | fail) only [fX5_readHeader, ↓z_lt, ↓z_ge, ↓z_gt, ↓z_le, ↓z_eq, ↓z_ne, ↓z_mx, ↓z_mn, ↓z_dv, ↓z_rm, ↓z_i2l, ↓z_lc, ↓z_sw, ↓z_sf, ↓z_sn, ↓z_bd, ↓z_nt, z_b0, z_b1, z_bi, z_bj, ↓z_gF, ↓z_gR, ↓z_pF, ↓z_pZ, ↓z_pR, ↓z_aI, ↓z_aR, ↓z_sI, ↓z_sZ, ↓z_on, z_cl, ↓reduceIte, Int.reduceEq, Int.reduceNeg, Int.reduceLT, Int.reduceLE, Int.reduceAdd, Int.reduceSub, Int.reduceMul, true_and, and_true, or_true, true_or, eq_self, iR_t, sO1 sh, pO sh hq, hq1, ↓e_cl w2, ↓e_cl r1, ↓e_cl N1, p9, s6, ↓e_g rb]
        · rw [← hM K]
          simp (disch := first | omega | assumption) only [headM, headM1, ↓z_lt, ↓z_ge, ↓z_gt, ↓z_le, ↓z_eq, ↓z_ne, ↓z_mx, ↓z_mn, ↓z_dv, ↓z_rm, ↓z_i2l, ↓z_lc, ↓z_sw, ↓z_sf, ↓z_sn, ↓z_bd, ↓z_nt, z_b0, z_b1, z_bi, z_bj, ↓z_gF, ↓z_gR, ↓z_pF, ↓z_pZ, ↓z_pR, ↓z_aI, ↓z_aR, ↓z_sI, ↓z_sZ, ↓z_on, z_cl, ↓reduceIte, Int.reduceEq, Int.reduceNeg, Int.reduceLT, Int.reduceLE, Int.reduceAdd, Int.reduceSub, Int.reduceMul, true_and, and_true, or_true, true_or, eq_self, iR_t, sO265 sh, sA267 sh, ↓e_cl m2, ↓m_must1' Q.mt, ↓e_cl u1, m10, ↓e_cl U2]
        · rcases hX with ⟨hx, e', d', Q', _, F', G'⟩ | ⟨hx, hB⟩
          · exact Or.inl ⟨hx, e', d', Q', (F1.tr Fb).tr F', (G1.tr Gb).tr G'⟩
          · exact Or.inr ⟨hx, hB.pre (F1.tr Fb) (G1.tr Gb)⟩
      · have N1 : fX5_isNumberWithin P σ1 1 1 999 = some (0, clt σ1 4) := c_num4 Q1.ct t1 rfl rfl i1
        have U2 : fX8_read P τ1 265 1 999 = some (1, mlt τ1 4) := m_read4 Q1.mt t1 rfl rfl i1
        have F0 := FS.mk Q1.mt Q1.m10 (k := 4) (by omega)
        have F1' := FS.wr7 (i := 3) (v := 1) F0
        refine ⟨clt σ1 4, 0, wr (wr (mlt τ1 4) 267 3 1) 267 4 1, ?_, fun K => ?_, Or.inr ⟨rfl, ((BAD.flt hq Q1.ct Q1.mt F1 G1 (by omega)).wr7).wr7⟩⟩
        · simp (disch := first | omega | assumption) only [fX5_readHeader, ↓z_lt, ↓z_ge, ↓z_gt, ↓z_le, ↓z_eq, ↓z_ne, ↓z_mx, ↓z_mn, ↓z_dv, ↓z_rm, ↓z_i2l, ↓z_lc, ↓z_sw, ↓z_sf, ↓z_sn, ↓z_bd, ↓z_nt, z_b0, z_b1, z_bi, z_bj, ↓z_gF, ↓z_gR, ↓z_pF, ↓z_pZ, ↓z_pR, ↓z_aI, ↓z_aR, ↓z_sI, ↓z_sZ, ↓z_on, z_cl, ↓reduceIte, Int.reduceEq, Int.reduceNeg, Int.reduceLT, Int.reduceLE, Int.reduceAdd, Int.reduceSub, Int.reduceMul, true_and, and_true, or_true, true_or, eq_self, iR_t, sO1 sh, ↓e_cl w2, ↓e_cl r1, ↓e_cl N1]
        · rw [← headF2 sh F1' K]
          simp (disch := first | omega | assumption) only [headM, headM1, ↓z_lt, ↓z_ge, ↓z_gt, ↓z_le, ↓z_eq, ↓z_ne, ↓z_mx, ↓z_mn, ↓z_dv, ↓z_rm, ↓z_i2l, ↓z_lc, ↓z_sw, ↓z_sf, ↓z_sn, ↓z_bd, ↓z_nt, z_b0, z_b1, z_bi, z_bj, ↓z_gF, ↓z_gR, ↓z_pF, ↓z_pZ, ↓z_pR, ↓z_aI, ↓z_aR, ↓z_sI, ↓z_sZ, ↓z_on, z_cl, ↓reduceIte, Int.reduceEq, Int.reduceNeg, Int.reduceLT, Int.reduceLE, Int.reduceAdd, Int.reduceSub, Int.reduceMul, true_and, and_true, or_true, true_or, eq_self, iR_t, sO265 sh, sA267 sh, ↓e_cl m2, ↓m_must1' Q.mt, ↓e_cl u1, m10, ↓e_cl U2]
    · have N1 : fX5_isNumberWithin P σ1 1 1 999 = some (0, clt σ1 1) := c_numS Q1.ct t1
      have U2 : fX8_read P τ1 265 1 999 = some (1, mlt τ1 1) := m_readS Q1.mt t1
      have F0 := FS.mk Q1.mt Q1.m10 (k := 1) (by omega)
      have F1' := FS.wr7 (i := 3) (v := 1) F0
      refine ⟨clt σ1 1, 0, wr (wr (mlt τ1 1) 267 3 1) 267 4 1, ?_, fun K => ?_, Or.inr ⟨rfl, ((BAD.flt hq Q1.ct Q1.mt F1 G1 (by omega)).wr7).wr7⟩⟩
      · simp (disch := first | omega | assumption) only [fX5_readHeader, ↓z_lt, ↓z_ge, ↓z_gt, ↓z_le, ↓z_eq, ↓z_ne, ↓z_mx, ↓z_mn, ↓z_dv, ↓z_rm, ↓z_i2l, ↓z_lc, ↓z_sw, ↓z_sf, ↓z_sn, ↓z_bd, ↓z_nt, z_b0, z_b1, z_bi, z_bj, ↓z_gF, ↓z_gR, ↓z_pF, ↓z_pZ, ↓z_pR, ↓z_aI, ↓z_aR, ↓z_sI, ↓z_sZ, ↓z_on, z_cl, ↓reduceIte, Int.reduceEq, Int.reduceNeg, Int.reduceLT, Int.reduceLE, Int.reduceAdd, Int.reduceSub, Int.reduceMul, true_and, and_true, or_true, true_or, eq_self, iR_t, sO1 sh, ↓e_cl w2, ↓e_cl r1, ↓e_cl N1]
      · rw [← headF2 sh F1' K]
        simp (disch := first | omega | assumption) only [headM, headM1, ↓z_lt, ↓z_ge, ↓z_gt, ↓z_le, ↓z_eq, ↓z_ne, ↓z_mx, ↓z_mn, ↓z_dv, ↓z_rm, ↓z_i2l, ↓z_lc, ↓z_sw, ↓z_sf, ↓z_sn, ↓z_bd, ↓z_nt, z_b0, z_b1, z_bi, z_bj, ↓z_gF, ↓z_gR, ↓z_pF, ↓z_pZ, ↓z_pR, ↓z_aI, ↓z_aR, ↓z_sI, ↓z_sZ, ↓z_on, z_cl, ↓reduceIte, Int.reduceEq, Int.reduceNeg, Int.reduceLT, Int.reduceLE, Int.reduceAdd, Int.reduceSub, Int.reduceMul, true_and, and_true, or_true, true_or, eq_self, iR_t, sO265 sh, sA267 sh, ↓e_cl m2, ↓m_must1' Q.mt, ↓e_cl u1, m10, ↓e_cl U2]
  · rw [if_neg c2] at w2 m2
    have F0 := FS.mk Q.mt Q.m10 (k := 1) (by omega)
    refine ⟨clt σ 1, 0, wr (wr (mlt τ 1) 267 3 1) 267 4 1, ?_, fun K => ?_, Or.inr ⟨rfl, ((BAD.flt hq Q.ct Q.mt CFr.rf MFr.rf (by omega)).wr7).wr7⟩⟩
    · simp (disch := first | omega | assumption) only [fX5_readHeader, ↓z_lt, ↓z_ge, ↓z_gt, ↓z_le, ↓z_eq, ↓z_ne, ↓z_mx, ↓z_mn, ↓z_dv, ↓z_rm, ↓z_i2l, ↓z_lc, ↓z_sw, ↓z_sf, ↓z_sn, ↓z_bd, ↓z_nt, z_b0, z_b1, z_bi, z_bj, ↓z_gF, ↓z_gR, ↓z_pF, ↓z_pZ, ↓z_pR, ↓z_aI, ↓z_aR, ↓z_sI, ↓z_sZ, ↓z_on, z_cl, ↓reduceIte, Int.reduceEq, Int.reduceNeg, Int.reduceLT, Int.reduceLE, Int.reduceAdd, Int.reduceSub, Int.reduceMul, true_and, and_true, or_true, true_or, eq_self, iR_t, sO1 sh, ↓e_cl w2, ↓c_fault' Q.ct]
    · rw [← headF1 sh F0 K]
      simp (disch := first | omega | assumption) only [headM, ↓z_lt, ↓z_ge, ↓z_gt, ↓z_le, ↓z_eq, ↓z_ne, ↓z_mx, ↓z_mn, ↓z_dv, ↓z_rm, ↓z_i2l, ↓z_lc, ↓z_sw, ↓z_sf, ↓z_sn, ↓z_bd, ↓z_nt, z_b0, z_b1, z_bi, z_bj, ↓z_gF, ↓z_gR, ↓z_pF, ↓z_pZ, ↓z_pR, ↓z_aI, ↓z_aR, ↓z_sI, ↓z_sZ, ↓z_on, z_cl, ↓reduceIte, Int.reduceEq, Int.reduceNeg, Int.reduceLT, Int.reduceLE, Int.reduceAdd, Int.reduceSub, Int.reduceMul, true_and, and_true, or_true, true_or, eq_self, iR_t, sO265 sh, ↓e_cl m2, ↓m_must0' Q.mt, ↓f_goOn' sh F0.1 F0.2.1]
/-- the model's defaults -/
theorem m_def0 (sh : ShpIs P 279 PL) (h10 : τ 265 10 = 267) (kE : St → Option St) : ∃ s, fX8_setDefaults_L2 P 265 kE 1000 0 τ = kE s ∧ (∀ o, o ≠ 267 → s o = τ o) ∧ ∀ j, 0 ≤ j → j < 107 → s 267 j = 0 := by
  obtain ⟨s, e1, i1, i2⟩ := loop_r (γ := Unit) (fun m k (s : St) => fX8_setDefaults_L2 P 265 kE m k s) kE 107 (fun _ a => a) (fun k s _ => (∀ o, o ≠ 267 → s o = τ o) ∧ ∀ j, 0 ≤ j → j < (k : Int) → s 267 j = 0)
    (fun k m s _ hk1 hI => by
      obtain ⟨i1, i2⟩ := hI
      have k1 : ¬ (107 ≤ (k : Int)) := by omega
      have s10 : s 265 10 = 267 := by rw [i1 265 (by omega)]; exact h10
      refine ⟨wr s 267 (k : Int) 0, ?_, fun o ho => by rw [wr_o ho]; exact i1 o ho, fun j j0 j1 => ?_⟩
      · simp (disch := first | omega | assumption) only [fX8_setDefaults_L2, ↓z_lt, ↓z_ge, ↓z_gt, ↓z_le, ↓z_eq, ↓z_ne, ↓z_mx, ↓z_mn, ↓z_dv, ↓z_rm, ↓z_i2l, ↓z_lc, ↓z_sw, ↓z_sf, ↓z_sn, ↓z_bd, ↓z_nt, z_b0, z_b1, z_bi, z_bj, ↓z_gF, ↓z_gR, ↓z_pF, ↓z_pZ, ↓z_pR, ↓z_aI, ↓z_aR, ↓z_sI, ↓z_sZ, ↓z_on, z_cl, ↓reduceIte, Int.reduceEq, Int.reduceNeg, Int.reduceLT, Int.reduceLE, Int.reduceAdd, Int.reduceSub, Int.reduceMul, true_and, and_true, or_true, true_or, eq_self, iR_t, sO265 sh, sA267 sh, s10, k1]
      · by_cases z : j = (k : Int)
        · subst z; rw [wr_s]
        · rw [wr_i z]; exact i2 j j0 (by push_cast at j1; omega))
    (fun m s _ hI => by
      have k1 : (107 : Int) ≤ (((107 : Nat)) : Int) := by decide
      show fX8_setDefaults_L2 P 265 kE (m + 1) (((107 : Nat)) : Int) s = kE s
      rw [fX8_setDefaults_L2, z_ge, if_pos (show iR (((107 : Nat)) : Int) = true from rfl), if_pos (show iR 107 = true from rfl), if_pos k1]) (m := 1000) (a := τ) (c := ()) (by omega) ⟨fun _ _ => rfl, fun j j0 j1 => by omega⟩
  exact ⟨s, e1, i1, fun j j0 j1 => i2 j j0 (by push_cast; omega)⟩
theorem m_defaults (sh : ShpIs P 279 PL) (h10 : τ 265 10 = 267) : ∃ τ', fX8_setDefaults P τ 265 = some τ' ∧ (∀ o, o ≠ 265 → o ≠ 267 → τ' o = τ o) ∧ (∀ j, j ≠ 13 → τ' 265 j = τ 265 j) ∧ τ' 265 13 = 0 ∧ (∀ j, 0 ≤ j → j < 107 → τ' 267 j = dF j) := by
  obtain ⟨s, e1, i1, i2⟩ := m_def0 sh h10 (fun s4 =>
      gR P 8 s4 265 10 fun x5 =>
      sI P 10 s4 x5 3 1 fun s6 =>
      gR P 8 s6 265 10 fun x7 =>
      sI P 10 s6 x7 4 1 fun s8 =>
      gR P 8 s8 265 10 fun x9 =>
      sI P 10 s8 x9 5 10 fun s10 =>
      gR P 8 s10 265 10 fun x11 =>
      sI P 10 s10 x11 6 5 fun s12 =>
      pZ P 8 s12 265 13 0 fun s13 =>
      some s13)
  have s10 : s 265 10 = 267 := by rw [i1 265 (by omega)]; exact h10
  refine ⟨wr (wr (wr (wr (wr s 267 3 1) 267 4 1) 267 5 10) 267 6 5) 265 13 0, ?_, ?_, ?_, ?_, ?_⟩
  · unfold fX8_setDefaults
    refine e1.trans ?_
    simp (disch := first | omega | assumption) only [↓z_lt, ↓z_ge, ↓z_gt, ↓z_le, ↓z_eq, ↓z_ne, ↓z_mx, ↓z_mn, ↓z_dv, ↓z_rm, ↓z_i2l, ↓z_lc, ↓z_sw, ↓z_sf, ↓z_sn, ↓z_bd, ↓z_nt, z_b0, z_b1, z_bi, z_bj, ↓z_gF, ↓z_gR, ↓z_pF, ↓z_pZ, ↓z_pR, ↓z_aI, ↓z_aR, ↓z_sI, ↓z_sZ, ↓z_on, z_cl, ↓reduceIte, Int.reduceEq, Int.reduceNeg, Int.reduceLT, Int.reduceLE, Int.reduceAdd, Int.reduceSub, Int.reduceMul, true_and, and_true, or_true, true_or, eq_self, iR_t, sO265 sh, sA267 sh, s10, wr_n]
  · intro o h1 h2
    rw [wr_o h1, wr_o h2, wr_o h2, wr_o h2, wr_o h2]; exact i1 o h2
  · intro j hj
    rw [wr_i hj, wr_n (by omega), wr_n (by omega), wr_n (by omega), wr_n (by omega), i1 265 (by omega)]
  · rw [wr_s]
  · intro j j0 j1
    have i3 := i2 j j0 j1
    unfold dF
    rw [wr_n (by omega)]
    by_cases c6 : j = 6
    · subst c6; rw [wr_s]; rfl
    · rw [wr_i c6]
      by_cases c5 : j = 5
      · subst c5; rw [wr_s]; rfl
      · rw [wr_i c5]
        by_cases c4 : j = 4
        · subst c4; rw [wr_s]; rfl
        · rw [wr_i c4]
          by_cases c3 : j = 3
          · subst c3; rw [wr_s]; rfl
          · rw [wr_i c3, if_neg c3, if_neg c4, if_neg c5, if_neg c6]; exact i3
end ZZA1
