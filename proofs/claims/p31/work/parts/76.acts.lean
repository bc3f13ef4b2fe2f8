/-! THE LAW ACTS: a change that can be made is made. -/
section ZP6
variable {P : Shp} {σ σ' σ1 σ2 σ3 s : St} {t f f' f2 g g' : Int → Int} {B B' : Int} {a b b' d k p q kind who m h j c x y i v w : Int} {n L : Nat} {xs : Nat → Int32}
theorem iand_m : 0 ≤ iand c 65535 ∧ iand c 65535 ≤ 65535 := by
  have key : ∀ z : Int32, 0 ≤ (z &&& 65535).toInt ∧ (z &&& 65535).toInt ≤ 65535 := by
    intro z
    have h1 : (z.toBitVec &&& 65535#32).toNat ≤ 65535 := by rw [BitVec.toNat_and]; exact Nat.and_le_right
    show 0 ≤ (z.toBitVec &&& 65535#32).toInt ∧ (z.toBitVec &&& 65535#32).toInt ≤ 65535
    rw [BitVec.toInt_eq_toNat_of_lt (by omega)]
    omega
  exact key (Int32.ofInt c)
theorem pick_in (hL : L ≤ 260) (h0 : 0 ≤ a) (h1 : a < 1000) (n0 : 1 ≤ x) (n1 : x < 10000) : ∃ v, fL_pick L xs P σ a x = some v ∧ 0 ≤ v ∧ v < x := by
  have key : ∃ c, fL_cell L xs P σ a = some c := by
    by_cases e : L = 0
    · subst e
      exact ⟨0, by simp (disch := first | omega | assumption) only [fL_cell, ↓z_lt, ↓z_ge, ↓z_gt, ↓z_le, ↓z_eq, ↓z_ne, ↓z_mx, ↓z_mn, ↓z_dv, ↓z_rm, ↓z_i2l, ↓z_lc, ↓z_sw, ↓z_sf, ↓z_sn, ↓z_bd, ↓z_nt, z_b0, z_b1, z_bi, z_bj, ↓z_gF, ↓z_gR, ↓z_pF, ↓z_pZ, ↓z_pR, ↓z_aI, ↓z_aR, ↓z_sI, ↓z_sZ, ↓z_on, z_cl, ↓reduceIte, Int.reduceEq, Int.reduceNeg, Int.reduceLT, Int.reduceLE, Int.reduceAdd, Int.reduceSub, Int.reduceMul, true_and, and_true, or_true, true_or, eq_self, iR_t, show ((0 : Nat) : Int) = 0 from rfl]⟩
    · have r1 : ¬ ((L : Int) = 0) := by omega
      have r2 := Int.emod_nonneg a (b := (L : Int)) (by omega)
      have r3 := Int.emod_lt_of_pos a (b := (L : Int)) (by omega)
      refine ⟨ixor (sc xs (a % (L : Int))) (40503 * (a / (L : Int))), ?_⟩
      simp (disch := first | omega | assumption) only [fL_cell, ↓z_lt, ↓z_ge, ↓z_gt, ↓z_le, ↓z_eq, ↓z_ne, ↓z_mx, ↓z_mn, ↓z_dv, ↓z_rm, ↓z_i2l, ↓z_lc, ↓z_sw, ↓z_sf, ↓z_sn, ↓z_bd, ↓z_nt, z_b0, z_b1, z_bi, z_bj, ↓z_gF, ↓z_gR, ↓z_pF, ↓z_pZ, ↓z_pR, ↓z_aI, ↓z_aR, ↓z_sI, ↓z_sZ, ↓z_on, z_cl, ↓reduceIte, Int.reduceEq, Int.reduceNeg, Int.reduceLT, Int.reduceLE, Int.reduceAdd, Int.reduceSub, Int.reduceMul, true_and, and_true, or_true, true_or, eq_self, iR_t, r1, tmod_nn, tdiv_nn, aS, r2, r3]
  obtain ⟨c, e⟩ := key
  have i1 : 0 ≤ iand c 65535 ∧ iand c 65535 ≤ 65535 := iand_m
  have i2 := Int.emod_nonneg (iand c 65535) (b := x) (by omega)
  have i3 := Int.emod_lt_of_pos (iand c 65535) (b := x) (by omega)
  have r1 : ¬ (x = 0) := by omega
  refine ⟨iand c 65535 % x, ?_, i2, i3⟩
  simp (disch := first | omega | assumption) only [fL_pick, ↓z_lt, ↓z_ge, ↓z_gt, ↓z_le, ↓z_eq, ↓z_ne, ↓z_mx, ↓z_mn, ↓z_dv, ↓z_rm, ↓z_i2l, ↓z_lc, ↓z_sw, ↓z_sf, ↓z_sn, ↓z_bd, ↓z_nt, z_b0, z_b1, z_bi, z_bj, ↓z_gF, ↓z_gR, ↓z_pF, ↓z_pZ, ↓z_pR, ↓z_aI, ↓z_aR, ↓z_sI, ↓z_sZ, ↓z_on, z_cl, ↓reduceIte, Int.reduceEq, Int.reduceNeg, Int.reduceLT, Int.reduceLE, Int.reduceAdd, Int.reduceSub, Int.reduceMul, true_and, and_true, or_true, true_or, eq_self, ↓e_g e, iR_t, r1, tmod_nn]
theorem acts_ok (hL : L ≤ 260) (G : GR P σ p t f g B) (I : IV t f) (PP0 : PT t) (h12 : 10000 ≤ B) (hB : B ≤ 1900000000) (a0 : 0 ≤ a) (a1 : a < 900) : ∃ σ2 f2 g2, fL_acts L xs P σ 0 a = some (1, σ2) ∧ Chg P σ σ2 p t f2 g2 (B + 12000) ∧ IV t f2 := by
  have C := G.cr; have T := G.tv; have F := G.fv; have V := G.cv; have n0 := T.n0; have n1 := T.n1; have n2 := T.n2
  have t1 := PP0.2.2.2.2.2
  have t4 := PP0.2.2.2.2.1
  obtain ⟨d, ed, d0, d1⟩ := pick_in (P := P) (σ := σ) (xs := xs) hL a0 (show a < 1000 by omega) (x := t 1) (by omega) (by omega)
  obtain ⟨u, eu, u0, u1⟩ := pick_in (P := P) (σ := σ) (xs := xs) hL (show 0 ≤ a + 1 by omega) (show a + 1 < 1000 by omega) (x := 6) (by omega) (by omega)
  obtain ⟨v, ev, v0, v1⟩ := pick_in (P := P) (σ := σ) (xs := xs) hL (show 0 ≤ a + 2 by omega) (show a + 2 < 1000 by omega) (x := 4) (by omega) (by omega)
  obtain ⟨w, ew, w0, w1⟩ := pick_in (P := P) (σ := σ) (xs := xs) hL (show 0 ≤ a + 3 by omega) (show a + 3 < 1000 by omega) (x := 7) (by omega) (by omega)
  -- frames
  have hF : ∃ σ2 f2 g2, (∃ r, fX7_frames P σ 0 (1 + w) = some (r, σ2) ∧ iR r = true ∧ ¬ (r < 0)) ∧ Chg P σ σ2 p t f2 g2 (B + 12000) ∧ IV t f2 := by
    obtain ⟨σ2, e, C2⟩ := ch_frames G h12 hB (a := 1 + w) (by omega) (by omega)
    have := resvF_in (f := (frsF t (1 + w).toNat (f, g)).1) T
    exact ⟨σ2, _, _, ⟨_, e, resv_iR T, by omega⟩, C2, I.frs T _⟩
  by_cases hp : f (14 + 28 * d + 0) = -1
  · by_cases c3 : u = 3
    · subst c3
      obtain ⟨σ2, e, C2⟩ := ch_plug G h12 hB d0 d1 hp d0 (show d < t 4 by omega) (apF_d T I d0 d1 hp)
      have hm := hmF_in (f := pluF t f d d) (d := d) T
      have r : ¬ (hmF t (pluF t f d d) d < 0) := by omega
      refine ⟨σ2, _, _, ?_, C2, I.plu T d0 d1⟩
      simp (disch := first | omega | assumption | (simp (disch := omega) only [G.x1, G.x2, C.h1, C.h0, C.p8, C.p9, C.e0, C.tm]; done) | fail) only [fL_acts, ↓z_lt, ↓z_ge, ↓z_gt, ↓z_le, ↓z_eq, ↓z_ne, ↓z_mx, ↓z_mn, ↓z_dv, ↓z_rm, ↓z_i2l, ↓z_lc, ↓z_sw, ↓z_sf, ↓z_sn, ↓z_bd, ↓z_nt, z_b0, z_b1, z_bi, z_bj, ↓z_gF, ↓z_gR, ↓z_pF, ↓z_pZ, ↓z_pR, ↓z_aI, ↓z_aR, ↓z_sI, ↓z_sZ, ↓z_on, z_cl, ↓reduceIte, Int.reduceEq, Int.reduceNeg, Int.reduceLT, Int.reduceLE, Int.reduceAdd, Int.reduceSub, Int.reduceMul, true_and, and_true, or_true, true_or, eq_self, G.x0, G.x1, G.x2, G.x3, G.x4, G.h0, sO0 C.sh, sO1 C.sh, sO45 C.sh, ↓e_g (size1 G), ↓e_g ed, ↓e_g eu, ↓e_g (dev0 G d0 d1), hp, ↓e_g e, r, iR_t, F.vr]
    · obtain ⟨σ2, f2, g2, ⟨r, e, r1, r2⟩, C2, I2⟩ := hF
      have ha := F.un d d0 d1 hp
      refine ⟨σ2, f2, g2, ?_, C2, I2⟩
      by_cases c4 : u = 4
      · subst c4
        simp (disch := first | omega | assumption | (simp (disch := omega) only [G.x1, G.x2, C.h1, C.h0, C.p8, C.p9, C.e0, C.tm]; done) | fail) only [fL_acts, ↓z_lt, ↓z_ge, ↓z_gt, ↓z_le, ↓z_eq, ↓z_ne, ↓z_mx, ↓z_mn, ↓z_dv, ↓z_rm, ↓z_i2l, ↓z_lc, ↓z_sw, ↓z_sf, ↓z_sn, ↓z_bd, ↓z_nt, z_b0, z_b1, z_bi, z_bj, ↓z_gF, ↓z_gR, ↓z_pF, ↓z_pZ, ↓z_pR, ↓z_aI, ↓z_aR, ↓z_sI, ↓z_sZ, ↓z_on, z_cl, ↓reduceIte, Int.reduceEq, Int.reduceNeg, Int.reduceLT, Int.reduceLE, Int.reduceAdd, Int.reduceSub, Int.reduceMul, true_and, and_true, or_true, true_or, eq_self, G.x0, G.x1, G.x2, G.x3, G.x4, G.h0, sO0 C.sh, sO1 C.sh, sO45 C.sh, ↓e_g (size1 G), ↓e_g ed, ↓e_g eu, ↓e_g ew, ↓e_g (dev0 G d0 d1), ↓e_g (dev2 G d0 d1), ha.1, hp, ↓e_g e, r1, r2, iR_t, F.vr]
      · by_cases c2 : 3 ≤ u
        · simp (disch := first | omega | assumption | (simp (disch := omega) only [G.x1, G.x2, C.h1, C.h0, C.p8, C.p9, C.e0, C.tm]; done) | fail) only [fL_acts, ↓z_lt, ↓z_ge, ↓z_gt, ↓z_le, ↓z_eq, ↓z_ne, ↓z_mx, ↓z_mn, ↓z_dv, ↓z_rm, ↓z_i2l, ↓z_lc, ↓z_sw, ↓z_sf, ↓z_sn, ↓z_bd, ↓z_nt, z_b0, z_b1, z_bi, z_bj, ↓z_gF, ↓z_gR, ↓z_pF, ↓z_pZ, ↓z_pR, ↓z_aI, ↓z_aR, ↓z_sI, ↓z_sZ, ↓z_on, z_cl, ↓reduceIte, Int.reduceEq, Int.reduceNeg, Int.reduceLT, Int.reduceLE, Int.reduceAdd, Int.reduceSub, Int.reduceMul, true_and, and_true, or_true, true_or, eq_self, G.x0, G.x1, G.x2, G.x3, G.x4, G.h0, sO0 C.sh, sO1 C.sh, sO45 C.sh, ↓e_g (size1 G), ↓e_g ed, ↓e_g eu, ↓e_g ew, ↓e_g (dev0 G d0 d1), c4, c3, c2, hp, ↓e_g e, r1, r2, iR_t, F.vr]
        · simp (disch := first | omega | assumption | (simp (disch := omega) only [G.x1, G.x2, C.h1, C.h0, C.p8, C.p9, C.e0, C.tm]; done) | fail) only [fL_acts, ↓z_lt, ↓z_ge, ↓z_gt, ↓z_le, ↓z_eq, ↓z_ne, ↓z_mx, ↓z_mn, ↓z_dv, ↓z_rm, ↓z_i2l, ↓z_lc, ↓z_sw, ↓z_sf, ↓z_sn, ↓z_bd, ↓z_nt, z_b0, z_b1, z_bi, z_bj, ↓z_gF, ↓z_gR, ↓z_pF, ↓z_pZ, ↓z_pR, ↓z_aI, ↓z_aR, ↓z_sI, ↓z_sZ, ↓z_on, z_cl, ↓reduceIte, Int.reduceEq, Int.reduceNeg, Int.reduceLT, Int.reduceLE, Int.reduceAdd, Int.reduceSub, Int.reduceMul, true_and, and_true, or_true, true_or, eq_self, G.x0, G.x1, G.x2, G.x3, G.x4, G.h0, sO0 C.sh, sO1 C.sh, sO45 C.sh, ↓e_g (size1 G), ↓e_g ed, ↓e_g eu, ↓e_g ew, ↓e_g (dev0 G d0 d1), c4, c3, c2, hp, ↓e_g e, r1, r2, iR_t, F.vr]
  · by_cases c2 : 3 ≤ u
    · by_cases c5 : u = 4 ∧ f (14 + 28 * d + 1) = 1
      · obtain ⟨c5, c6⟩ := c5
        subst c5
        obtain ⟨σ2, e, C2⟩ := ch_callOff G h12 hB d0 d1 c6
        have hm := hmF_in (f := offF t f d) (d := d) T
        have r : ¬ (hmF t (offF t f d) d < 0) := by omega
        refine ⟨σ2, _, _, ?_, C2, I.off T d0 d1⟩
        simp (disch := first | omega | assumption | (simp (disch := omega) only [G.x1, G.x2, C.h1, C.h0, C.p8, C.p9, C.e0, C.tm]; done) | fail) only [fL_acts, ↓z_lt, ↓z_ge, ↓z_gt, ↓z_le, ↓z_eq, ↓z_ne, ↓z_mx, ↓z_mn, ↓z_dv, ↓z_rm, ↓z_i2l, ↓z_lc, ↓z_sw, ↓z_sf, ↓z_sn, ↓z_bd, ↓z_nt, z_b0, z_b1, z_bi, z_bj, ↓z_gF, ↓z_gR, ↓z_pF, ↓z_pZ, ↓z_pR, ↓z_aI, ↓z_aR, ↓z_sI, ↓z_sZ, ↓z_on, z_cl, ↓reduceIte, Int.reduceEq, Int.reduceNeg, Int.reduceLT, Int.reduceLE, Int.reduceAdd, Int.reduceSub, Int.reduceMul, true_and, and_true, or_true, true_or, eq_self, G.x0, G.x1, G.x2, G.x3, G.x4, G.h0, sO0 C.sh, sO1 C.sh, sO45 C.sh, ↓e_g (size1 G), ↓e_g ed, ↓e_g eu, ↓e_g (dev0 G d0 d1), ↓e_g (dev2 G d0 d1), c6, hp, ↓e_g e, r, iR_t, F.vr]
      · obtain ⟨σ2, f2, g2, ⟨r, e, r1, r2⟩, C2, I2⟩ := hF
        refine ⟨σ2, f2, g2, ?_, C2, I2⟩
        by_cases c4 : u = 4
        · subst c4
          have c6 : ¬ (f (14 + 28 * d + 1) = 1) := fun q => c5 ⟨rfl, q⟩
          simp (disch := first | omega | assumption | (simp (disch := omega) only [G.x1, G.x2, C.h1, C.h0, C.p8, C.p9, C.e0, C.tm]; done) | fail) only [fL_acts, ↓z_lt, ↓z_ge, ↓z_gt, ↓z_le, ↓z_eq, ↓z_ne, ↓z_mx, ↓z_mn, ↓z_dv, ↓z_rm, ↓z_i2l, ↓z_lc, ↓z_sw, ↓z_sf, ↓z_sn, ↓z_bd, ↓z_nt, z_b0, z_b1, z_bi, z_bj, ↓z_gF, ↓z_gR, ↓z_pF, ↓z_pZ, ↓z_pR, ↓z_aI, ↓z_aR, ↓z_sI, ↓z_sZ, ↓z_on, z_cl, ↓reduceIte, Int.reduceEq, Int.reduceNeg, Int.reduceLT, Int.reduceLE, Int.reduceAdd, Int.reduceSub, Int.reduceMul, true_and, and_true, or_true, true_or, eq_self, G.x0, G.x1, G.x2, G.x3, G.x4, G.h0, sO0 C.sh, sO1 C.sh, sO45 C.sh, ↓e_g (size1 G), ↓e_g ed, ↓e_g eu, ↓e_g ew, ↓e_g (dev0 G d0 d1), ↓e_g (dev2 G d0 d1), c6, hp, ↓e_g e, r1, r2, iR_t, F.vr]
        · by_cases c3 : u = 3
          · subst c3
            simp (disch := first | omega | assumption | (simp (disch := omega) only [G.x1, G.x2, C.h1, C.h0, C.p8, C.p9, C.e0, C.tm]; done) | fail) only [fL_acts, ↓z_lt, ↓z_ge, ↓z_gt, ↓z_le, ↓z_eq, ↓z_ne, ↓z_mx, ↓z_mn, ↓z_dv, ↓z_rm, ↓z_i2l, ↓z_lc, ↓z_sw, ↓z_sf, ↓z_sn, ↓z_bd, ↓z_nt, z_b0, z_b1, z_bi, z_bj, ↓z_gF, ↓z_gR, ↓z_pF, ↓z_pZ, ↓z_pR, ↓z_aI, ↓z_aR, ↓z_sI, ↓z_sZ, ↓z_on, z_cl, ↓reduceIte, Int.reduceEq, Int.reduceNeg, Int.reduceLT, Int.reduceLE, Int.reduceAdd, Int.reduceSub, Int.reduceMul, true_and, and_true, or_true, true_or, eq_self, G.x0, G.x1, G.x2, G.x3, G.x4, G.h0, sO0 C.sh, sO1 C.sh, sO45 C.sh, ↓e_g (size1 G), ↓e_g ed, ↓e_g eu, ↓e_g ew, ↓e_g (dev0 G d0 d1), hp, ↓e_g e, r1, r2, iR_t, F.vr]
          · simp (disch := first | omega | assumption | (simp (disch := omega) only [G.x1, G.x2, C.h1, C.h0, C.p8, C.p9, C.e0, C.tm]; done) | fail) only [fL_acts, ↓z_lt, ↓z_ge, ↓z_gt, ↓z_le, ↓z_eq, ↓z_ne, ↓z_mx, ↓z_mn, ↓z_dv, ↓z_rm, ↓z_i2l, ↓z_lc, ↓z_sw, ↓z_sf, ↓z_sn, ↓z_bd, ↓z_nt, z_b0, z_b1, z_bi, z_bj, ↓z_gF, ↓z_gR, ↓z_pF, ↓z_pZ, ↓z_pR, ↓z_aI, ↓z_aR, ↓z_sI, ↓z_sZ, ↓z_on, z_cl, ↓reduceIte, Int.reduceEq, Int.reduceNeg, Int.reduceLT, Int.reduceLE, Int.reduceAdd, Int.reduceSub, Int.reduceMul, true_and, and_true, or_true, true_or, eq_self, G.x0, G.x1, G.x2, G.x3, G.x4, G.h0, sO0 C.sh, sO1 C.sh, sO45 C.sh, ↓e_g (size1 G), ↓e_g ed, ↓e_g eu, ↓e_g ew, ↓e_g (dev0 G d0 d1), c2, c3, c4, hp, ↓e_g e, r1, r2, iR_t, F.vr]
    · obtain ⟨σ2, e, C2⟩ := ch_fail G h12 hB d0 d1 hp v0 v1
      have sc := scoF_in (f := takF t f d v) (d := d) T
      have r : ¬ (scoF t (takF t f d v) d < 0) := by omega
      refine ⟨σ2, _, _, ?_, C2, I.tak T F V d0 d1⟩
      simp (disch := first | omega | assumption | (simp (disch := omega) only [G.x1, G.x2, C.h1, C.h0, C.p8, C.p9, C.e0, C.tm]; done) | fail) only [fL_acts, ↓z_lt, ↓z_ge, ↓z_gt, ↓z_le, ↓z_eq, ↓z_ne, ↓z_mx, ↓z_mn, ↓z_dv, ↓z_rm, ↓z_i2l, ↓z_lc, ↓z_sw, ↓z_sf, ↓z_sn, ↓z_bd, ↓z_nt, z_b0, z_b1, z_bi, z_bj, ↓z_gF, ↓z_gR, ↓z_pF, ↓z_pZ, ↓z_pR, ↓z_aI, ↓z_aR, ↓z_sI, ↓z_sZ, ↓z_on, z_cl, ↓reduceIte, Int.reduceEq, Int.reduceNeg, Int.reduceLT, Int.reduceLE, Int.reduceAdd, Int.reduceSub, Int.reduceMul, true_and, and_true, or_true, true_or, eq_self, G.x0, G.x1, G.x2, G.x3, G.x4, G.h0, sO0 C.sh, sO1 C.sh, sO45 C.sh, ↓e_g (size1 G), ↓e_g ed, ↓e_g eu, ↓e_g ev, ↓e_g (dev0 G d0 d1), c2, hp, ↓e_g e, r, iR_t, F.vr]
end ZP6
