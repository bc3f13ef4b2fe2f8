/-! THE LAW LOOKS whether all is within. -/
section ZP5
variable {P : Shp} {σ σ' σ1 σ2 s : St} {t f f' f2 g g' : Int → Int} {B B' : Int} {a b b' d k p q kind who m h j c x y i v w : Int} {n : Nat}
theorem hdx (F : FV B t f g) : ∀ k, 0 ≤ k → k < t 2 → f (238 + 3 * k) ≠ 0 → 0 ≤ f (238 + 3 * k + 1) ∧ f (238 + 3 * k + 1) < t 1 := fun k k0 k1 h => by
  have := F.ho k k0 k1
  omega
theorem isW_6 (G : GR P σ p t f g B) (I : IV t f) (h2 : t 2 ≤ 5) (kE75 : Int → Int → Option Int) (kE47 : Option Int) : fL_isWithin_L6 P σ 0 kE75 kE47 1000 0 0 0 = kE75 (resvF t f) (bitsF (hdU f (t 1)) (t 2).toNat) := by
  have C := G.cr; have T := G.tv; have F := G.fv; have V := G.cv; have n0 := T.n0; have n1 := T.n1; have n2 := T.n2
  have hN := T.n1N
  have hN2 := T.n2N
  have key := loop_v (fun m k (a : Int × Int) => fL_isWithin_L6 P σ 0 kE75 kE47 m a.1 a.2 k) (fun a => kE75 a.1 a.2) (t 1).toNat (fun k a => (a.1 + hrF t f k, ior a.2 (hbF t f k))) (fun k a => a = (ruF t f (k : Int), bitsF (hdU f (k : Int)) (t 2).toNat))
    (fun k m a hk hI => by
      have hk2 : ¬ (t 1 ≤ (k : Int)) := by omega
      have k0 : 0 ≤ (k : Int) := by omega
      have k1 : (k : Int) < t 1 := by omega
      subst hI
      have ea : iand (bitsF (hdU f (k : Int)) (t 2).toNat) (hbF t f (k : Int)) = 0 := by
        rw [hbF_b]
        exact bits_and (by omega) fun j => hdU_d j
      refine ⟨?_, ?_⟩
      · by_cases hp : f (14 + 28 * (k : Int) + 0) = -1
        · have hz := hbF_0 T (hdF_p I.1 hp)
          rw [hz] at ea
          simp (disch := first | omega | assumption | (simp (disch := omega) only [G.x1, G.x2, C.h1, C.h0, C.p8, C.p9, C.e0, C.tm]; done) | fail) only [fL_isWithin_L6, ↓z_lt, ↓z_ge, ↓z_gt, ↓z_le, ↓z_eq, ↓z_ne, ↓z_mx, ↓z_mn, ↓z_dv, ↓z_rm, ↓z_i2l, ↓z_lc, ↓z_sw, ↓z_sf, ↓z_sn, ↓z_bd, ↓z_nt, z_b0, z_b1, z_bi, z_bj, ↓z_gF, ↓z_gR, ↓z_pF, ↓z_pZ, ↓z_pR, ↓z_aI, ↓z_aR, ↓z_sI, ↓z_sZ, ↓z_on, z_cl, ↓reduceIte, Int.reduceEq, Int.reduceNeg, Int.reduceLT, Int.reduceLE, Int.reduceAdd, Int.reduceSub, Int.reduceMul, true_and, and_true, or_true, true_or, eq_self, G.x0, G.x1, G.x2, G.x3, G.x4, G.h0, sO0 C.sh, sO1 C.sh, sO45 C.sh, ↓e_g (size1 G), ↓e_g (dev6 G k0 k1), ↓e_g (dev0 G k0 k1), ↓e_g (dev7 G k0 k1), hk2, hz, ea, hp, iR_t, T.vr]
        · simp (disch := first | omega | assumption | (simp (disch := omega) only [G.x1, G.x2, C.h1, C.h0, C.p8, C.p9, C.e0, C.tm]; done) | fail) only [fL_isWithin_L6, ↓z_lt, ↓z_ge, ↓z_gt, ↓z_le, ↓z_eq, ↓z_ne, ↓z_mx, ↓z_mn, ↓z_dv, ↓z_rm, ↓z_i2l, ↓z_lc, ↓z_sw, ↓z_sf, ↓z_sn, ↓z_bd, ↓z_nt, z_b0, z_b1, z_bi, z_bj, ↓z_gF, ↓z_gR, ↓z_pF, ↓z_pZ, ↓z_pR, ↓z_aI, ↓z_aR, ↓z_sI, ↓z_sZ, ↓z_on, z_cl, ↓reduceIte, Int.reduceEq, Int.reduceNeg, Int.reduceLT, Int.reduceLE, Int.reduceAdd, Int.reduceSub, Int.reduceMul, true_and, and_true, or_true, true_or, eq_self, G.x0, G.x1, G.x2, G.x3, G.x4, G.h0, sO0 C.sh, sO1 C.sh, sO45 C.sh, ↓e_g (size1 G), ↓e_g (dev6 G k0 k1), ↓e_g (dev0 G k0 k1), ↓e_g (dev7 G k0 k1), hk2, ea, hp, iR_t, T.vr, F.vr]
      · show (_, _) = (_, _)
        rw [show ((k + 1 : Nat) : Int) = (k : Int) + 1 by push_cast; rfl, ruF_s, hbF_b, bits_or (by omega)]
        congr 2
        funext j
        exact (hdU_s j).symm)
    (fun m a hI => by
      subst hI
      simp (disch := first | omega | assumption | (simp (disch := omega) only [G.x1, G.x2, C.h1, C.h0, C.p8, C.p9, C.e0, C.tm]; done) | fail) only [fL_isWithin_L6, ↓z_lt, ↓z_ge, ↓z_gt, ↓z_le, ↓z_eq, ↓z_ne, ↓z_mx, ↓z_mn, ↓z_dv, ↓z_rm, ↓z_i2l, ↓z_lc, ↓z_sw, ↓z_sf, ↓z_sn, ↓z_bd, ↓z_nt, z_b0, z_b1, z_bi, z_bj, ↓z_gF, ↓z_gR, ↓z_pF, ↓z_pZ, ↓z_pR, ↓z_aI, ↓z_aR, ↓z_sI, ↓z_sZ, ↓z_on, z_cl, ↓reduceIte, Int.reduceEq, Int.reduceNeg, Int.reduceLT, Int.reduceLE, Int.reduceAdd, Int.reduceSub, Int.reduceMul, true_and, and_true, or_true, true_or, eq_self, G.x0, G.x1, G.x2, G.x3, G.x4, G.h0, sO0 C.sh, sO1 C.sh, sO45 C.sh, ↓e_g (size1 G), hN, Int.le_refl, iR_t, T.vr]) (m := 1000) (a := (0, 0)) (by omega) (by
      show (_, _) = (_, _)
      rw [show ((0 : Nat) : Int) = 0 from rfl, ruF_0 T fun k k0 k1 h => (hdx F k k0 k1 h).1, buF_0 fun k k0 k1 h => (hdx F k k0 (by omega) h).1])
  rw [key.2, hN] at key
  exact key.1.trans (by rw [ruF_e T fun k k0 k1 h => (hdx F k k0 k1 h).2])
theorem isW_77 (G : GR P σ p t f g B) (h2 : t 2 ≤ 5) (kE140 kE132 : Option Int) : fL_isWithin_L77 P σ 0 x (bitsF (hdU f (t 1)) (t 2).toNat) kE140 kE132 1000 0 = kE140 := by
  have C := G.cr; have T := G.tv; have F := G.fv; have V := G.cv; have n0 := T.n0; have n1 := T.n1; have n2 := T.n2
  have hN := T.n1N
  have hN2 := T.n2N
  refine (loop_v (fun m k (_ : Unit) => fL_isWithin_L77 P σ 0 x (bitsF (hdU f (t 1)) (t 2).toNat) kE140 kE132 m k) (fun _ => kE140) (t 2).toNat (fun _ u => u) (fun _ _ => True)
    (fun k m _ hk _ => ⟨?_, trivial⟩) (fun m _ _ => ?_) (m := 1000) (a := ()) (by omega) trivial).1
  · have hk2 : ¬ (t 2 ≤ (k : Int)) := by omega
    have k0 : 0 ≤ (k : Int) := by omega
    have k1 : (k : Int) < t 2 := by omega
    have eb := bits_at (k := (k : Int)) (n := (t 2).toNat) (hdU f (t 1)) (by omega) k0 (by omega)
    have dn := F.dn (k : Int) k0 k1
    have mo := F.mo (k : Int) k0 k1
    by_cases c : f (238 + 3 * (k : Int)) = 0
    · have hu : hdU f (t 1) (k : Int) = false := decide_eq_false (by omega)
      rw [hu, if_neg (by decide)] at eb
      simp (disch := first | omega | assumption | (simp (disch := omega) only [G.x1, G.x2, C.h1, C.h0, C.p8, C.p9, C.e0, C.tm]; done) | fail) only [fL_isWithin_L77, ↓z_lt, ↓z_ge, ↓z_gt, ↓z_le, ↓z_eq, ↓z_ne, ↓z_mx, ↓z_mn, ↓z_dv, ↓z_rm, ↓z_i2l, ↓z_lc, ↓z_sw, ↓z_sf, ↓z_sn, ↓z_bd, ↓z_nt, z_b0, z_b1, z_bi, z_bj, ↓z_gF, ↓z_gR, ↓z_pF, ↓z_pZ, ↓z_pR, ↓z_aI, ↓z_aR, ↓z_sI, ↓z_sZ, ↓z_on, z_cl, ↓reduceIte, Int.reduceEq, Int.reduceNeg, Int.reduceLT, Int.reduceLE, Int.reduceAdd, Int.reduceSub, Int.reduceMul, true_and, and_true, or_true, true_or, eq_self, G.x0, G.x1, G.x2, G.x3, G.x4, G.h0, sO0 C.sh, sO1 C.sh, sO45 C.sh, ↓e_g (size2 G), ↓e_g (str0 G k0 k1), ↓e_g (str5 G k0 k1), ↓e_g (str4 G k0 k1), hk2, eb, c, dn.2, iR_t, T.vr, F.vr]
    · have hu : hdU f (t 1) (k : Int) = true := decide_eq_true ⟨c, (hdx F (k : Int) k0 k1 c).2⟩
      rw [hu, if_pos rfl] at eb
      have c2 : ¬ (f (238 + 3 * (k : Int)) ≤ 0) := by omega
      simp (disch := first | omega | assumption | (simp (disch := omega) only [G.x1, G.x2, C.h1, C.h0, C.p8, C.p9, C.e0, C.tm]; done) | fail) only [fL_isWithin_L77, ↓z_lt, ↓z_ge, ↓z_gt, ↓z_le, ↓z_eq, ↓z_ne, ↓z_mx, ↓z_mn, ↓z_dv, ↓z_rm, ↓z_i2l, ↓z_lc, ↓z_sw, ↓z_sf, ↓z_sn, ↓z_bd, ↓z_nt, z_b0, z_b1, z_bi, z_bj, ↓z_gF, ↓z_gR, ↓z_pF, ↓z_pZ, ↓z_pR, ↓z_aI, ↓z_aR, ↓z_sI, ↓z_sZ, ↓z_on, z_cl, ↓reduceIte, Int.reduceEq, Int.reduceNeg, Int.reduceLT, Int.reduceLE, Int.reduceAdd, Int.reduceSub, Int.reduceMul, true_and, and_true, or_true, true_or, eq_self, G.x0, G.x1, G.x2, G.x3, G.x4, G.h0, sO0 C.sh, sO1 C.sh, sO45 C.sh, ↓e_g (size2 G), ↓e_g (str0 G k0 k1), ↓e_g (str5 G k0 k1), ↓e_g (str4 G k0 k1), hk2, eb, c2, dn.2, iR_t, T.vr, F.vr]
  · simp (disch := first | omega | assumption | (simp (disch := omega) only [G.x1, G.x2, C.h1, C.h0, C.p8, C.p9, C.e0, C.tm]; done) | fail) only [fL_isWithin_L77, ↓z_lt, ↓z_ge, ↓z_gt, ↓z_le, ↓z_eq, ↓z_ne, ↓z_mx, ↓z_mn, ↓z_dv, ↓z_rm, ↓z_i2l, ↓z_lc, ↓z_sw, ↓z_sf, ↓z_sn, ↓z_bd, ↓z_nt, z_b0, z_b1, z_bi, z_bj, ↓z_gF, ↓z_gR, ↓z_pF, ↓z_pZ, ↓z_pR, ↓z_aI, ↓z_aR, ↓z_sI, ↓z_sZ, ↓z_on, z_cl, ↓reduceIte, Int.reduceEq, Int.reduceNeg, Int.reduceLT, Int.reduceLE, Int.reduceAdd, Int.reduceSub, Int.reduceMul, true_and, and_true, or_true, true_or, eq_self, G.x0, G.x1, G.x2, G.x3, G.x4, G.h0, sO0 C.sh, sO1 C.sh, sO45 C.sh, ↓e_g (size2 G), hN2, Int.le_refl, iR_t, T.vr]
theorem isW_ok (G : GR P σ p t f g B) (I : IV t f) (h2 : t 2 ≤ 5) : fL_isWithin P σ 0 = some 1 := by
  have C := G.cr; have T := G.tv; have F := G.fv; have V := G.cv; have n0 := T.n0; have n1 := T.n1; have n2 := T.n2
  unfold fL_isWithin
  rw [isW_6 G I h2]
  show fL_isWithin_L77 P σ 0 _ _ _ _ 1000 0 = _
  rw [isW_77 G h2]
  have r := I.2.1
  have r2 : ¬ (t 3 < resvF t f) := by omega
  simp (disch := first | omega | assumption | (simp (disch := omega) only [G.x1, G.x2, C.h1, C.h0, C.p8, C.p9, C.e0, C.tm]; done) | fail) only [↓z_lt, ↓z_ge, ↓z_gt, ↓z_le, ↓z_eq, ↓z_ne, ↓z_mx, ↓z_mn, ↓z_dv, ↓z_rm, ↓z_i2l, ↓z_lc, ↓z_sw, ↓z_sf, ↓z_sn, ↓z_bd, ↓z_nt, z_b0, z_b1, z_bi, z_bj, ↓z_gF, ↓z_gR, ↓z_pF, ↓z_pZ, ↓z_pR, ↓z_aI, ↓z_aR, ↓z_sI, ↓z_sZ, ↓z_on, z_cl, ↓reduceIte, Int.reduceEq, Int.reduceNeg, Int.reduceLT, Int.reduceLE, Int.reduceAdd, Int.reduceSub, Int.reduceMul, true_and, and_true, or_true, true_or, eq_self, G.x0, G.x1, G.x2, G.x3, G.x4, G.h0, sO0 C.sh, sO1 C.sh, sO45 C.sh, ↓e_g (size6 G), ↓e_g (size3 G), resv_iR T, T.vr, r2]
end ZP5
