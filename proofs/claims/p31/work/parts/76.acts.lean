/-! THE LAW ACTS: a change that can be made is made. -/
section ZP6
variable {P : Shp} {σ σ' σ1 σ2 σ3 s : St} {t f f' f2 g g' : Int → Int} {B B' : Int} {a b b' d k p q kind who m h j c x y i v w : Int} {n L : Nat} {xs : Nat → Int32}
theorem iand_m : 0 ≤ iand c 65535 ∧ iand c 65535 ≤ 65535 := by
  have key : ∀ z : Int32, 0 ≤ (z &&& 65535).toInt ∧ (z &&& 65535).toInt ≤ 65535 := by
    intro z
    have h1 : (z.toBitVec &&& 65535#32).toNat ≤ 65535 := by rw [BitVec.toNat_and]; exact Nat.and_le_right
    show 0 ≤ (z.toBitVec &&& 65535#32).toInt ∧ (z.toBitVec &&& 65535#32).toInt ≤ 65535
    rw [BitVec.toInt_eq_toNat_of_lt (by omega)]
    omega
  exact key (Int32.ofInt c)
theorem pick_in (hL : L ≤ 260) (h0 : 0 ≤ a) (h1 : a < 1000) (n0 : 1 ≤ x) (n1 : x < 10000) : ∃ v, fL_pick L xs P σ a x = some v ∧ 0 ≤ v ∧ v < x := by
  have key : ∃ c, fL_cell L xs P σ a = some c := by
    by_cases e : L = 0
    · subst e
      exact ⟨0, by simp (disch := first | omega | assumption) only [fL_cell, ↓z_lt, ↓z_ge, ↓z_gt, ↓z_le, ↓z_eq, ↓z_ne, ↓z_mx, ↓z_mn, ↓z_dv, ↓z_rm, ↓z_i2l, ↓z_lc, ↓z_sw, ↓z_sf, ↓z_sn, ↓z_bd, ↓z_nt, z_b0, z_b1, z_bi, z_bj, ↓z_gF, ↓z_gR, ↓z_pF, ↓z_pZ, ↓z_pR, ↓z_aI, ↓z_aR, ↓z_sI, ↓z_sZ, ↓z_on, z_cl, ↓reduceIte, Int.reduceEq, Int.reduceNeg, Int.reduceLT, Int.reduceLE, Int.reduceAdd, Int.reduceSub, Int.reduceMul, true_and, and_true, or_true, true_or, eq_self, iR_t, show ((0 : Nat) : Int) = 0 from rfl]⟩
    · have r1 : ¬ ((L : Int) = 0) := by omega
      have r2 := Int.emod_nonneg a (b := (L : Int)) (by omega)
      have r3 := Int.emod_lt_of_pos a (b := (L : Int)) (by omega)
      refine ⟨ixor (sc xs (a % (L : Int))) (40503 * (a / (L : Int))), ?_⟩
      simp (disch := first | omega | assumption) only [fL_cell, ↓z_lt, ↓z_ge, ↓z_gt, ↓z_le, ↓z_eq, ↓z_ne, ↓z_mx, ↓z_mn, ↓z_dv, ↓z_rm, ↓z_i2l, ↓z_lc, ↓z_sw, ↓z_sf, ↓z_sn, ↓z_bd, ↓z_nt, z_b0, z_b1, z_bi, z_bj, ↓z_gF, ↓z_gR, ↓z_pF, ↓z_pZ, ↓z_pR, ↓z_aI, ↓z_aR, ↓z_sI, ↓z_sZ, ↓z_on, z_cl, ↓reduceIte, Int.reduceEq, Int.reduceNeg, Int.reduceLT, Int.reduceLE, Int.reduceAdd, Int.reduceSub, Int.reduceMul, true_and, and_true, or_true, true_or, eq_self, iR_t, r1, tmod_nn, tdiv_nn, aS, r2, r3]
  obtain ⟨c, e⟩ := key
  have i1 : 0 ≤ iand c 65535 ∧ iand c 65535 ≤ 65535 := iand_m
  have i2 := Int.emod_nonneg (iand c 65535) (b := x) (by omega)
  have i3 := Int.emod_lt_of_pos (iand c 65535) (b := x) (by omega)
  have r1 : ¬ (x = 0) := by omega
  refine ⟨iand c 65535 % x, ?_, i2, i3⟩
  simp (disch := first | omega | assumption | with_reducible rfl | fail) only [fL_pick, ↓z_lt, ↓z_ge, ↓z_gt, ↓z_le, ↓z_eq, ↓z_ne, ↓z_mx, ↓z_mn, ↓z_dv, ↓z_rm, ↓z_i2l, ↓z_lc, ↓z_sw, ↓z_sf, ↓z_sn, ↓z_bd, ↓z_nt, z_b0, z_b1, z_bi, z_bj, ↓z_gF, ↓z_gR, ↓z_pF, ↓z_pZ, ↓z_pR, ↓z_aI, ↓z_aR, ↓z_sI, ↓z_sZ, ↓z_on, z_cl, ↓reduceIte, Int.reduceEq, Int.reduceNeg, Int.reduceLT, Int.reduceLE, Int.reduceAdd, Int.reduceSub, Int.reduceMul, true_and, and_true, or_true, true_or, eq_self, ↓e_g e, iR_t, r1, tmod_nn]
noncomputable def actW (L : Nat) (xs : Nat → Int32) (P : Shp) (s : St) (a0 : Int) (a2 : Int) : Option (Int × St) :=
  cl (fL_pick L xs P s (a2 + 3) 7) fun x6 =>
  onO P 7 a0 <| cl (fX7_frames P s a0 (1 + x6)) fun (x8, s9) =>
  jlt x8 0
    (bz 0 (some ((0 : Int), s9)))
    (bz 1 (some ((1 : Int), s9)))
noncomputable def act4 (L : Nat) (xs : Nat → Int32) (P : Shp) (s : St) (a0 : Int) (a2 : Int) (x2 x3 : Int) : Option (Int × St) :=
  jne x3 4
    (actW L xs P s a0 a2)
    (
      onO P 7 a0 <| cl (fX7_device P s a0 x2 2) fun x10 =>
      jne x10 1
        (actW L xs P s a0 a2)
        (
          onO P 7 a0 <| cl (fX7_callOff P s a0 x2) fun (x12, s13) =>
          jlt x12 0
            (bz 0 (some ((0 : Int), s13)))
            (bz 1 (some ((1 : Int), s13)))))
noncomputable def act3 (L : Nat) (xs : Nat → Int32) (P : Shp) (s : St) (a0 : Int) (a2 : Int) (x2 x3 x5 : Int) : Option (Int × St) :=
  jne x3 3
    (act4 L xs P s a0 a2 x2 x3)
    (
      jne x5 0
        (act4 L xs P s a0 a2 x2 x3)
        (
          onO P 7 a0 <| cl (fX7_plug P s a0 x2 x2) fun (x15, s16) =>
          jlt x15 0
            (bz 0 (some ((0 : Int), s16)))
            (bz 1 (some ((1 : Int), s16)))))
noncomputable def act0 (L : Nat) (xs : Nat → Int32) (P : Shp) (s : St) (a0 : Int) (a2 : Int) (x2 x3 x5 : Int) : Option (Int × St) :=
  jge x3 3
    (act3 L xs P s a0 a2 x2 x3 x5)
    (
      jeq x5 0
        (act3 L xs P s a0 a2 x2 x3 x5)
        (
          cl (fL_pick L xs P s (a2 + 2) 4) fun x17 =>
          onO P 7 a0 <| cl (fX7_fail P s a0 x2 x17) fun (x19, s20) =>
          jlt x19 0
            (bz 0 (some ((0 : Int), s20)))
            (bz 1 (some ((1 : Int), s20)))))
theorem acts_eq {a0 a2 : Int} : fL_acts L xs P s a0 a2 = (onO P 7 a0 <| cl (fX7_size P s a0 1) fun x1 =>
  cl (fL_pick L xs P s a2 x1) fun x2 =>
  cl (fL_pick L xs P s (a2 + 1) 6) fun x3 =>
  onO P 7 a0 <| cl (fX7_device P s a0 x2 0) fun x4 =>
  jeq x4 ((-1))
    (act0 L xs P s a0 a2 x2 x3 0)
    (act0 L xs P s a0 a2 x2 x3 1)) := rfl
/-- a change of the law's -/
def AOk (P : Shp) (σ : St) (p : Int) (t : Int → Int) (B : Int) (F : Option (Int × St)) : Prop := ∃ σ2 f2 g2, F = some (1, σ2) ∧ Chg P σ σ2 p t f2 g2 (B + 12000) ∧ IV t f2
theorem actW_ok (hL : L ≤ 260) (G : GR P σ p t f g B) (I : IV t f) (h12 : 10000 ≤ B) (hB : B ≤ 1900000000) (a0 : 0 ≤ a) (a1 : a < 900) : AOk P σ p t B (actW L xs P σ 0 a) := by
  have C := G.cr; have T := G.tv; have F := G.fv; have V := G.cv; have n0 := T.n0; have n1 := T.n1; have n2 := T.n2
  obtain ⟨w, ew, w0, w1⟩ := pick_in (P := P) (σ := σ) (xs := xs) hL (show 0 ≤ a + 3 by omega) (show a + 3 < 1000 by omega) (x := 7) (by omega) (by omega)
  obtain ⟨σ2, e, C2⟩ := ch_frames G h12 hB (a := 1 + w) (by omega) (by omega)
  have := resvF_in (f := (frsF t (1 + w).toNat (f, g)).1) T
  have r : ¬ (resvF t (frsF t (1 + w).toNat (f, g)).1 < 0) := by omega
  refine ⟨σ2, _, _, ?_, C2, I.frs T _⟩
  simp (disch := first | omega | assumption | (simp (disch := omega) only [G.x1, G.x2, C.h1, C.h0, C.p8, C.p9, C.e0, C.tm]; done) | fail) only [actW, ↓z_lt, ↓z_ge, ↓z_gt, ↓z_le, ↓z_eq, ↓z_ne, ↓z_mx, ↓z_mn, ↓z_dv, ↓z_rm, ↓z_i2l, ↓z_lc, ↓z_sw, ↓z_sf, ↓z_sn, ↓z_bd, ↓z_nt, z_b0, z_b1, z_bi, z_bj, ↓z_gF, ↓z_gR, ↓z_pF, ↓z_pZ, ↓z_pR, ↓z_aI, ↓z_aR, ↓z_sI, ↓z_sZ, ↓z_on, z_cl, ↓reduceIte, Int.reduceEq, Int.reduceNeg, Int.reduceLT, Int.reduceLE, Int.reduceAdd, Int.reduceSub, Int.reduceMul, true_and, and_true, or_true, true_or, eq_self, G.x0, G.x1, G.x2, G.x3, G.x4, G.h0, sO0 C.sh, sO1 C.sh, sO45 C.sh, ↓e_g ew, ↓e_g e, r, resv_iR T, iR_t]
theorem act4_ok (hL : L ≤ 260) (G : GR P σ p t f g B) (I : IV t f) (h12 : 10000 ≤ B) (hB : B ≤ 1900000000) (a0 : 0 ≤ a) (a1 : a < 900) (d0 : 0 ≤ d) (d1 : d < t 1) (u0 : 0 ≤ v) (u1 : v < 6) : AOk P σ p t B (act4 L xs P σ 0 a d v) := by
  have C := G.cr; have T := G.tv; have F := G.fv; have V := G.cv; have n0 := T.n0; have n1 := T.n1; have n2 := T.n2
  have hW := actW_ok (xs := xs) hL G I h12 hB a0 a1
  have q := dev2 G d0 d1
  by_cases c4 : v = 4
  · subst c4
    by_cases c6 : f (14 + 28 * d + 1) = 1
    · obtain ⟨σ2, e, C2⟩ := ch_callOff G h12 hB d0 d1 c6
      have hm := hmF_in (f := offF t f d) (d := d) T
      have r : ¬ (hmF t (offF t f d) d < 0) := by omega
      rw [if_pos c6] at q
      refine ⟨σ2, _, _, ?_, C2, I.off T d0 d1⟩
      simp (disch := first | omega | assumption | (simp (disch := omega) only [G.x1, G.x2, C.h1, C.h0, C.p8, C.p9, C.e0, C.tm]; done) | fail) only [act4, ↓z_lt, ↓z_ge, ↓z_gt, ↓z_le, ↓z_eq, ↓z_ne, ↓z_mx, ↓z_mn, ↓z_dv, ↓z_rm, ↓z_i2l, ↓z_lc, ↓z_sw, ↓z_sf, ↓z_sn, ↓z_bd, ↓z_nt, z_b0, z_b1, z_bi, z_bj, ↓z_gF, ↓z_gR, ↓z_pF, ↓z_pZ, ↓z_pR, ↓z_aI, ↓z_aR, ↓z_sI, ↓z_sZ, ↓z_on, z_cl, ↓reduceIte, Int.reduceEq, Int.reduceNeg, Int.reduceLT, Int.reduceLE, Int.reduceAdd, Int.reduceSub, Int.reduceMul, true_and, and_true, or_true, true_or, eq_self, G.x0, G.x1, G.x2, G.x3, G.x4, G.h0, sO0 C.sh, sO1 C.sh, sO45 C.sh, ↓e_g q, ↓e_g e, r, iR_t]
    · rw [if_neg c6] at q
      have e : act4 L xs P σ 0 a d 4 = actW L xs P σ 0 a := by
        simp (disch := first | omega | assumption | (simp (disch := omega) only [G.x1, G.x2, C.h1, C.h0, C.p8, C.p9, C.e0, C.tm]; done) | fail) only [act4, ↓z_lt, ↓z_ge, ↓z_gt, ↓z_le, ↓z_eq, ↓z_ne, ↓z_mx, ↓z_mn, ↓z_dv, ↓z_rm, ↓z_i2l, ↓z_lc, ↓z_sw, ↓z_sf, ↓z_sn, ↓z_bd, ↓z_nt, z_b0, z_b1, z_bi, z_bj, ↓z_gF, ↓z_gR, ↓z_pF, ↓z_pZ, ↓z_pR, ↓z_aI, ↓z_aR, ↓z_sI, ↓z_sZ, ↓z_on, z_cl, ↓reduceIte, Int.reduceEq, Int.reduceNeg, Int.reduceLT, Int.reduceLE, Int.reduceAdd, Int.reduceSub, Int.reduceMul, true_and, and_true, or_true, true_or, eq_self, G.x0, G.x1, G.x2, G.x3, G.x4, G.h0, sO0 C.sh, sO1 C.sh, sO45 C.sh, ↓e_g q, iR_t]
      rw [e]
      exact hW
  · have e : act4 L xs P σ 0 a d v = actW L xs P σ 0 a := by
      simp (disch := first | omega | assumption | (simp (disch := omega) only [G.x1, G.x2, C.h1, C.h0, C.p8, C.p9, C.e0, C.tm]; done) | fail) only [act4, ↓z_lt, ↓z_ge, ↓z_gt, ↓z_le, ↓z_eq, ↓z_ne, ↓z_mx, ↓z_mn, ↓z_dv, ↓z_rm, ↓z_i2l, ↓z_lc, ↓z_sw, ↓z_sf, ↓z_sn, ↓z_bd, ↓z_nt, z_b0, z_b1, z_bi, z_bj, ↓z_gF, ↓z_gR, ↓z_pF, ↓z_pZ, ↓z_pR, ↓z_aI, ↓z_aR, ↓z_sI, ↓z_sZ, ↓z_on, z_cl, ↓reduceIte, Int.reduceEq, Int.reduceNeg, Int.reduceLT, Int.reduceLE, Int.reduceAdd, Int.reduceSub, Int.reduceMul, true_and, and_true, or_true, true_or, eq_self, G.x0, G.x1, G.x2, G.x3, G.x4, G.h0, sO0 C.sh, sO1 C.sh, sO45 C.sh, c4, iR_t]
    rw [e]
    exact hW
theorem act3_ok (hL : L ≤ 260) (G : GR P σ p t f g B) (I : IV t f) (PP0 : PT t) (h12 : 10000 ≤ B) (hB : B ≤ 1900000000) (a0 : 0 ≤ a) (a1 : a < 900) (d0 : 0 ≤ d) (d1 : d < t 1) (u0 : 0 ≤ v) (u1 : v < 6) (hx : (x = 0 ∧ f (14 + 28 * d + 0) = -1) ∨ (x = 1 ∧ f (14 + 28 * d + 0) ≠ -1)) : AOk P σ p t B (act3 L xs P σ 0 a d v x) := by
  have C := G.cr; have T := G.tv; have F := G.fv; have V := G.cv; have n0 := T.n0; have n1 := T.n1; have n2 := T.n2
  have t4 := PP0.2.2.2.2.1
  have h4 := act4_ok (xs := xs) hL G I h12 hB a0 a1 d0 d1 u0 u1
  by_cases c3 : v = 3
  · subst c3
    rcases hx with ⟨rfl, hp⟩ | ⟨rfl, hp⟩
    · obtain ⟨σ2, e, C2⟩ := ch_plug G h12 hB d0 d1 hp d0 (show d < t 4 by omega) (apF_d T I d0 d1 hp)
      have hm := hmF_in (f := pluF t f d d) (d := d) T
      have r : ¬ (hmF t (pluF t f d d) d < 0) := by omega
      refine ⟨σ2, _, _, ?_, C2, I.plu T d0 d1⟩
      simp (disch := first | omega | assumption | (simp (disch := omega) only [G.x1, G.x2, C.h1, C.h0, C.p8, C.p9, C.e0, C.tm]; done) | fail) only [act3, ↓z_lt, ↓z_ge, ↓z_gt, ↓z_le, ↓z_eq, ↓z_ne, ↓z_mx, ↓z_mn, ↓z_dv, ↓z_rm, ↓z_i2l, ↓z_lc, ↓z_sw, ↓z_sf, ↓z_sn, ↓z_bd, ↓z_nt, z_b0, z_b1, z_bi, z_bj, ↓z_gF, ↓z_gR, ↓z_pF, ↓z_pZ, ↓z_pR, ↓z_aI, ↓z_aR, ↓z_sI, ↓z_sZ, ↓z_on, z_cl, ↓reduceIte, Int.reduceEq, Int.reduceNeg, Int.reduceLT, Int.reduceLE, Int.reduceAdd, Int.reduceSub, Int.reduceMul, true_and, and_true, or_true, true_or, eq_self, G.x0, G.x1, G.x2, G.x3, G.x4, G.h0, sO0 C.sh, sO1 C.sh, sO45 C.sh, ↓e_g e, r, iR_t]
    · have e : act3 L xs P σ 0 a d 3 1 = act4 L xs P σ 0 a d 3 := by
        simp (disch := first | omega | assumption | (simp (disch := omega) only [G.x1, G.x2, C.h1, C.h0, C.p8, C.p9, C.e0, C.tm]; done) | fail) only [act3, ↓z_lt, ↓z_ge, ↓z_gt, ↓z_le, ↓z_eq, ↓z_ne, ↓z_mx, ↓z_mn, ↓z_dv, ↓z_rm, ↓z_i2l, ↓z_lc, ↓z_sw, ↓z_sf, ↓z_sn, ↓z_bd, ↓z_nt, z_b0, z_b1, z_bi, z_bj, ↓z_gF, ↓z_gR, ↓z_pF, ↓z_pZ, ↓z_pR, ↓z_aI, ↓z_aR, ↓z_sI, ↓z_sZ, ↓z_on, z_cl, ↓reduceIte, Int.reduceEq, Int.reduceNeg, Int.reduceLT, Int.reduceLE, Int.reduceAdd, Int.reduceSub, Int.reduceMul, true_and, and_true, or_true, true_or, eq_self, G.x0, G.x1, G.x2, G.x3, G.x4, G.h0, sO0 C.sh, sO1 C.sh, sO45 C.sh, iR_t]
      rw [e]
      exact h4
  · have e : act3 L xs P σ 0 a d v x = act4 L xs P σ 0 a d v := by
      simp (disch := first | omega | assumption | (simp (disch := omega) only [G.x1, G.x2, C.h1, C.h0, C.p8, C.p9, C.e0, C.tm]; done) | fail) only [act3, ↓z_lt, ↓z_ge, ↓z_gt, ↓z_le, ↓z_eq, ↓z_ne, ↓z_mx, ↓z_mn, ↓z_dv, ↓z_rm, ↓z_i2l, ↓z_lc, ↓z_sw, ↓z_sf, ↓z_sn, ↓z_bd, ↓z_nt, z_b0, z_b1, z_bi, z_bj, ↓z_gF, ↓z_gR, ↓z_pF, ↓z_pZ, ↓z_pR, ↓z_aI, ↓z_aR, ↓z_sI, ↓z_sZ, ↓z_on, z_cl, ↓reduceIte, Int.reduceEq, Int.reduceNeg, Int.reduceLT, Int.reduceLE, Int.reduceAdd, Int.reduceSub, Int.reduceMul, true_and, and_true, or_true, true_or, eq_self, G.x0, G.x1, G.x2, G.x3, G.x4, G.h0, sO0 C.sh, sO1 C.sh, sO45 C.sh, c3, iR_t]
    rw [e]
    exact h4
theorem act0_ok (hL : L ≤ 260) (G : GR P σ p t f g B) (I : IV t f) (PP0 : PT t) (h12 : 10000 ≤ B) (hB : B ≤ 1900000000) (a0 : 0 ≤ a) (a1 : a < 900) (d0 : 0 ≤ d) (d1 : d < t 1) (u0 : 0 ≤ v) (u1 : v < 6) (hx : (x = 0 ∧ f (14 + 28 * d + 0) = -1) ∨ (x = 1 ∧ f (14 + 28 * d + 0) ≠ -1)) : AOk P σ p t B (act0 L xs P σ 0 a d v x) := by
  have C := G.cr; have T := G.tv; have F := G.fv; have V := G.cv; have n0 := T.n0; have n1 := T.n1; have n2 := T.n2
  have h3 := act3_ok (xs := xs) hL G I PP0 h12 hB a0 a1 d0 d1 u0 u1 hx
  by_cases c : 3 ≤ v
  · have e : act0 L xs P σ 0 a d v x = act3 L xs P σ 0 a d v x := by
      simp (disch := first | omega | assumption | (simp (disch := omega) only [G.x1, G.x2, C.h1, C.h0, C.p8, C.p9, C.e0, C.tm]; done) | fail) only [act0, ↓z_lt, ↓z_ge, ↓z_gt, ↓z_le, ↓z_eq, ↓z_ne, ↓z_mx, ↓z_mn, ↓z_dv, ↓z_rm, ↓z_i2l, ↓z_lc, ↓z_sw, ↓z_sf, ↓z_sn, ↓z_bd, ↓z_nt, z_b0, z_b1, z_bi, z_bj, ↓z_gF, ↓z_gR, ↓z_pF, ↓z_pZ, ↓z_pR, ↓z_aI, ↓z_aR, ↓z_sI, ↓z_sZ, ↓z_on, z_cl, ↓reduceIte, Int.reduceEq, Int.reduceNeg, Int.reduceLT, Int.reduceLE, Int.reduceAdd, Int.reduceSub, Int.reduceMul, true_and, and_true, or_true, true_or, eq_self, G.x0, G.x1, G.x2, G.x3, G.x4, G.h0, sO0 C.sh, sO1 C.sh, sO45 C.sh, c, iR_t]
    rw [e]
    exact h3
  · rcases hx with ⟨rfl, hp⟩ | ⟨rfl, hp⟩
    · have e : act0 L xs P σ 0 a d v 0 = act3 L xs P σ 0 a d v 0 := by
        simp (disch := first | omega | assumption | (simp (disch := omega) only [G.x1, G.x2, C.h1, C.h0, C.p8, C.p9, C.e0, C.tm]; done) | fail) only [act0, ↓z_lt, ↓z_ge, ↓z_gt, ↓z_le, ↓z_eq, ↓z_ne, ↓z_mx, ↓z_mn, ↓z_dv, ↓z_rm, ↓z_i2l, ↓z_lc, ↓z_sw, ↓z_sf, ↓z_sn, ↓z_bd, ↓z_nt, z_b0, z_b1, z_bi, z_bj, ↓z_gF, ↓z_gR, ↓z_pF, ↓z_pZ, ↓z_pR, ↓z_aI, ↓z_aR, ↓z_sI, ↓z_sZ, ↓z_on, z_cl, ↓reduceIte, Int.reduceEq, Int.reduceNeg, Int.reduceLT, Int.reduceLE, Int.reduceAdd, Int.reduceSub, Int.reduceMul, true_and, and_true, or_true, true_or, eq_self, G.x0, G.x1, G.x2, G.x3, G.x4, G.h0, sO0 C.sh, sO1 C.sh, sO45 C.sh, c, iR_t]
      rw [e]
      exact h3
    · obtain ⟨w, ew, w0, w1⟩ := pick_in (P := P) (σ := σ) (xs := xs) hL (show 0 ≤ a + 2 by omega) (show a + 2 < 1000 by omega) (x := 4) (by omega) (by omega)
      obtain ⟨σ2, e, C2⟩ := ch_fail G h12 hB d0 d1 hp w0 w1
      have sc := scoF_in (f := takF t f d w) (d := d) T
      have r : ¬ (scoF t (takF t f d w) d < 0) := by omega
      refine ⟨σ2, _, _, ?_, C2, I.tak T F V d0 d1⟩
      simp (disch := first | omega | assumption | (simp (disch := omega) only [G.x1, G.x2, C.h1, C.h0, C.p8, C.p9, C.e0, C.tm]; done) | fail) only [act0, ↓z_lt, ↓z_ge, ↓z_gt, ↓z_le, ↓z_eq, ↓z_ne, ↓z_mx, ↓z_mn, ↓z_dv, ↓z_rm, ↓z_i2l, ↓z_lc, ↓z_sw, ↓z_sf, ↓z_sn, ↓z_bd, ↓z_nt, z_b0, z_b1, z_bi, z_bj, ↓z_gF, ↓z_gR, ↓z_pF, ↓z_pZ, ↓z_pR, ↓z_aI, ↓z_aR, ↓z_sI, ↓z_sZ, ↓z_on, z_cl, ↓reduceIte, Int.reduceEq, Int.reduceNeg, Int.reduceLT, Int.reduceLE, Int.reduceAdd, Int.reduceSub, Int.reduceMul, true_and, and_true, or_true, true_or, eq_self, G.x0, G.x1, G.x2, G.x3, G.x4, G.h0, sO0 C.sh, sO1 C.sh, sO45 C.sh, ↓e_g ew, ↓e_g e, c, r, iR_t]
theorem acts_ok (hL : L ≤ 260) (G : GR P σ p t f g B) (I : IV t f) (PP0 : PT t) (h12 : 10000 ≤ B) (hB : B ≤ 1900000000) (a0 : 0 ≤ a) (a1 : a < 900) : ∃ σ2 f2 g2, fL_acts L xs P σ 0 a = some (1, σ2) ∧ Chg P σ σ2 p t f2 g2 (B + 12000) ∧ IV t f2 := by
  have C := G.cr; have T := G.tv; have F := G.fv; have V := G.cv; have n0 := T.n0; have n1 := T.n1; have n2 := T.n2
  have t1 := PP0.2.2.2.2.2
  obtain ⟨d, ed, d0, d1⟩ := pick_in (P := P) (σ := σ) (xs := xs) hL a0 (show a < 1000 by omega) (x := t 1) (by omega) (by omega)
  obtain ⟨u, eu, u0, u1⟩ := pick_in (P := P) (σ := σ) (xs := xs) hL (show 0 ≤ a + 1 by omega) (show a + 1 < 1000 by omega) (x := 6) (by omega) (by omega)
  rw [acts_eq]
  by_cases hp : f (14 + 28 * d + 0) = -1
  · obtain ⟨σ2, f2, g2, e, C2⟩ := act0_ok (xs := xs) hL G I PP0 h12 hB a0 a1 d0 d1 u0 u1 (Or.inl ⟨rfl, hp⟩)
    refine ⟨σ2, f2, g2, ?_, C2⟩
    simp (disch := first | omega | assumption | (simp (disch := omega) only [G.x1, G.x2, C.h1, C.h0, C.p8, C.p9, C.e0, C.tm]; done) | fail) only [↓z_lt, ↓z_ge, ↓z_gt, ↓z_le, ↓z_eq, ↓z_ne, ↓z_mx, ↓z_mn, ↓z_dv, ↓z_rm, ↓z_i2l, ↓z_lc, ↓z_sw, ↓z_sf, ↓z_sn, ↓z_bd, ↓z_nt, z_b0, z_b1, z_bi, z_bj, ↓z_gF, ↓z_gR, ↓z_pF, ↓z_pZ, ↓z_pR, ↓z_aI, ↓z_aR, ↓z_sI, ↓z_sZ, ↓z_on, z_cl, ↓reduceIte, Int.reduceEq, Int.reduceNeg, Int.reduceLT, Int.reduceLE, Int.reduceAdd, Int.reduceSub, Int.reduceMul, true_and, and_true, or_true, true_or, eq_self, G.x0, G.x1, G.x2, G.x3, G.x4, G.h0, sO0 C.sh, sO1 C.sh, sO45 C.sh, ↓e_g (size1 G), ↓e_g ed, ↓e_g eu, ↓e_g (dev0 G d0 d1), hp, e, iR_t]
  · obtain ⟨σ2, f2, g2, e, C2⟩ := act0_ok (xs := xs) hL G I PP0 h12 hB a0 a1 d0 d1 u0 u1 (Or.inr ⟨rfl, hp⟩)
    refine ⟨σ2, f2, g2, ?_, C2⟩
    simp (disch := first | omega | assumption | (simp (disch := omega) only [G.x1, G.x2, C.h1, C.h0, C.p8, C.p9, C.e0, C.tm]; done) | fail) only [↓z_lt, ↓z_ge, ↓z_gt, ↓z_le, ↓z_eq, ↓z_ne, ↓z_mx, ↓z_mn, ↓z_dv, ↓z_rm, ↓z_i2l, ↓z_lc, ↓z_sw, ↓z_sf, ↓z_sn, ↓z_bd, ↓z_nt, z_b0, z_b1, z_bi, z_bj, ↓z_gF, ↓z_gR, ↓z_pF, ↓z_pZ, ↓z_pR, ↓z_aI, ↓z_aR, ↓z_sI, ↓z_sZ, ↓z_on, z_cl, ↓reduceIte, Int.reduceEq, Int.reduceNeg, Int.reduceLT, Int.reduceLE, Int.reduceAdd, Int.reduceSub, Int.reduceMul, true_and, and_true, or_true, true_or, eq_self, G.x0, G.x1, G.x2, G.x3, G.x4, G.h0, sO0 C.sh, sO1 C.sh, sO45 C.sh, ↓e_g (size1 G), ↓e_g ed, ↓e_g eu, ↓e_g (dev0 G d0 d1), hp, F.vr, e, iR_t]
end ZP6
