/-! THE LAW'S ROUNDS: what is foreseen, what is torn. -/
section ZP7
variable {P : Shp} {σ σ' σ1 σ2 σ3 s : St} {t f f' f2 g g' : Int → Int} {B B' B1 B2 : Int} {a b b' d k p q kind who m h j c x y i v w : Int} {n L : Nat} {xs : Nat → Int32}
theorem Chg.tr (h1 : Chg P σ σ1 p t f g B1) (h2 : Chg P σ1 σ2 p t f' g' B2) : Chg P σ σ2 p t f' g' B2 :=
  ⟨h2.1, fun j j0 j1 => (h2.2.1 j j0 j1).trans (h1.2.1 j j0 j1), fun j j0 => (h2.2.2 j j0).trans (h1.2.2 j j0)⟩
theorem GR.mono (G : GR P σ p t f g B) (h1 : B ≤ B') (h2 : B' ≤ 2000000000) : GR P σ p t f g B' :=
  ⟨G.cr, G.tv, G.fv.mono h1 h2, G.cv, G.x0, G.x1, G.x2, G.x3, G.x4, G.h0, G.hn, G.hk, G.hs, G.ss⟩
theorem Chg.mono (h : Chg P σ σ1 p t f g B) (h1 : B ≤ B') (h2 : B' ≤ 2000000000) : Chg P σ σ1 p t f g B' := ⟨h.1.mono h1 h2, h.2.1, h.2.2⟩
theorem FV.hh (F : FV B t f g) : ∀ k, 0 ≤ k → k < t 2 → f (238 + 3 * k) = 0 → f (238 + 3 * k + 1) = -1 := fun k k0 k1 h => by
  have := F.ho k k0 k1
  omega
/-- a wrong alarm is over -/
theorem off_o (T : TV t) (H : IV t f) (h0 : 0 ≤ d) (h1 : d < t 1) : offF t f d (14 + 28 * d + 0) = f (14 + 28 * d + 0) ∧ offF t f d (14 + 28 * d + 1) = 0 := by
  have n1 := T.n1
  have n2 := T.n2
  unfold offF calF
  have z12 : 0 ≤ zu (zu f (14 + 28 * d + 1) 0) (14 + 28 * d + 3) 0 12 := by rw [zu_n (by omega), zu_n (by omega)]; exact H.1.1
  have HH : HV t (hapF (zu (zu f (14 + 28 * d + 1) 0) (14 + 28 * d + 3) 0) 1 d) := (H.hapz T z12 (fun j _ hj hd => by have q := hd d h0 h1; rw [zu_n q.2.2, zu_n q.1]) (by omega) (by omega)).1
  obtain ⟨⟨S0, S1, S2⟩, _, _⟩ := settle T HH
  refine ⟨?_, ?_⟩
  · rw [S1 _ (by omega) (by omega) (by omega) (by omega) (by omega), hapF_q z12 (by omega) (by omega) (by omega) (by omega) (by omega), zu_n (by omega), zu_n (by omega)]
  · rw [S1 _ (by omega) (by omega) (by omega) (by omega) (by omega), hapF_q z12 (by omega) (by omega) (by omega) (by omega) (by omega), zu_n (by omega), zu_s]
/-- the last look -/
noncomputable def fseU (P : Shp) (a0 a1 x5 : Int) (s10 : St) : Option (Int × St) :=
  onO P 7 a0 <| cl (fX7_device P s10 a0 a1 6) fun x11 =>
  jne x11 0
    (bz 0 (some ((0 : Int), s10)))
    (
      onO P 7 a0 <| cl (fX7_atStake P s10 a0 a1) fun x12 =>
      jne x12 0
        (bz 0 (some ((0 : Int), s10)))
        (
          cl (fL_isWithin P s10 a0) fun x13 =>
          jne x13 0
            (
              onO P 7 a0 <| cl (fX7_unplug P s10 a0 a1) fun (x15, s16) =>
              jne x15 0
                (bz 0 (some ((0 : Int), s16)))
                (
                  onO P 7 a0 <| cl (fX7_account P s16 a0 2) fun x17 =>
                  i2l x17 fun x18 =>
                  lc x18 (x5 + 1) fun x19 =>
                  jne x19 0
                    (bz 0 (some ((0 : Int), s16)))
                    (
                      onO P 7 a0 <| cl (fX7_device P s16 a0 a1 5) fun x20 =>
                      jne x20 0
                        (bz 0 (some ((0 : Int), s16)))
                        (bz 1 (some ((1 : Int), s16))))))
            (bz 0 (some ((0 : Int), s10)))))
noncomputable def fseT (P : Shp) (a0 a1 : Int) (s2 : St) : Option (Int × St) :=
  onO P 7 a0 <| cl (fX7_framesToClear P s2 a0 a1) fun x3 =>
  onO P 7 a0 <| cl (fX7_account P s2 a0 2) fun x4 =>
  i2l x4 fun x5 =>
  onO P 7 a0 <| cl (fX7_warn P s2 a0 a1) fun (x7, s8) =>
  jne x7 x3
    (bz 0 (some ((0 : Int), s8)))
    (
      onO P 7 a0 <| cl (fX7_device P s8 a0 a1 2) fun x9 =>
      jeq x9 1
        (
          jle x3 0
            (fseU P a0 a1 x5 s8)
            (
              onO P 7 a0 <| cl (fX7_frames P s8 a0 x3) fun (x22, s23) =>
              fseU P a0 a1 x5 s23))
        (bz 0 (some ((0 : Int), s8))))
theorem fse_eq {a0 a1 : Int} : fL_isForeseen P s a0 a1 = (onO P 7 a0 <| cl (fX7_device P s a0 a1 2) fun x1 => jne x1 1 (fseT P a0 a1 s) (onO P 7 a0 <| cl (fX7_callOff P s a0 a1) fun (x25, s26) => fseT P a0 a1 s26)) := rfl
theorem fseU_ok (G : GR P σ p t f g B) (I : IV t f) (PP0 : PT t) (h12 : 10000 ≤ B) (hB : B ≤ 1900000000) (d0 : 0 ≤ d) (d1 : d < t 1) (hp : f (14 + 28 * d + 0) ≠ -1) (ha : f (14 + 28 * d + 1) = 1) (hn : ∀ k, 0 ≤ k → k < t 2 → hdF f k d = false) (hx : x = f 4) : ∃ σ2 f2 g2, fseU P 0 d x σ = some (1, σ2) ∧ Chg P σ σ2 p t f2 g2 (B + 200000) := by
  have C := G.cr; have T := G.tv; have F := G.fv; have V := G.cv; have n0 := T.n0; have n1 := T.n1; have n2 := T.n2
  have w0 := isW_ok G I PP0.2.2.2.1
  obtain ⟨σ2, e, C2⟩ := ch_unplug G h12 hB d0 d1 hp
  obtain ⟨I2, u0, u3, u4, u9, u10⟩ := unp_o (d := d) T I F.hh d0 d1
  have z1 := hbF_0 T hn
  have z2 := stF_0 T hn
  rw [z2] at e
  have G2 := C2.1
  have F2 := G2.fv
  have b4 := F.bl 4
  have i4 : iR (f 4 + 1) = true := iR_t (by omega) (by omega)
  have l4 : iL (f 4 + 1) = true := iL_t (by omega) (by omega)
  have irr : ¬ (f 4 + 1 < f 4 + 1) := by omega
  have u4 := u4 ha
  subst hx
  refine ⟨σ2, _, _, ?_, C2⟩
  have q1 := acct G2 (w := 2) (by omega) (by omega)
  rw [show (2 : Int) + 2 = 4 from rfl, u4] at q1
  have q2 := dev5 G2 d0 d1
  rw [u3] at q2
  simp (disch := first | omega | assumption | (simp (disch := omega) only [G.x1, G.x2, C.h1, C.h0, C.p8, C.p9, C.e0, C.tm]; done) | fail) only [fseU, ↓z_lt, ↓z_ge, ↓z_gt, ↓z_le, ↓z_eq, ↓z_ne, ↓z_mx, ↓z_mn, ↓z_dv, ↓z_rm, ↓z_i2l, ↓z_lc, ↓z_sw, ↓z_sf, ↓z_sn, ↓z_bd, ↓z_nt, z_b0, z_b1, z_bi, z_bj, ↓z_gF, ↓z_gR, ↓z_pF, ↓z_pZ, ↓z_pR, ↓z_aI, ↓z_aR, ↓z_sI, ↓z_sZ, ↓z_on, z_cl, ↓reduceIte, Int.reduceEq, Int.reduceNeg, Int.reduceLT, Int.reduceLE, Int.reduceAdd, Int.reduceSub, Int.reduceMul, true_and, and_true, or_true, true_or, eq_self, G.x0, G.x1, G.x2, G.x3, G.x4, G.h0, sO0 C.sh, sO1 C.sh, sO45 C.sh, ↓e_g (dev6 G d0 d1), z1, ↓e_g (ats G d0 d1), z2, ↓e_g w0, ↓e_g e, ↓e_g q1, ↓e_g q2, i4, l4, irr, iR_t]
theorem fseT_ok (G : GR P σ p t f g B) (I : IV t f) (PP0 : PT t) (h12 : 10000 ≤ B) (hB : B ≤ 1800000000) (d0 : 0 ≤ d) (d1 : d < t 1) (hp : f (14 + 28 * d + 0) ≠ -1) (ha : f (14 + 28 * d + 1) ≠ 1) : ∃ σ2 f2 g2, fseT P 0 d σ = some (1, σ2) ∧ Chg P σ σ2 p t f2 g2 (B + 300000) := by
  have C := G.cr; have T := G.tv; have F := G.fv; have V := G.cv; have n0 := T.n0; have n1 := T.n1; have n2 := T.n2
  have dn : ∀ k, 0 ≤ k → k < t 2 → 0 ≤ f (238 + 3 * k + 2) := fun k k0 k1 => (F.dn k k0 k1).1
  have ci := clF_in (d := d) T PP0 dn
  have cR : iR (clF t f d) = true := iR_t (by omega) (by omega)
  obtain ⟨σ1, e1, C1⟩ := ch_warn G h12 (by omega) d0 d1 hp ha
  have Q1 := QF.warn T I d0 d1 hp dn
  have I1 := I.ala T d0 d1
  have G1 := C1.1
  have a4 := ala_4 T I d0 d1
  have q0 := acct G (w := 2) (by omega) (by omega)
  rw [show (2 : Int) + 2 = 4 from rfl] at q0
  have q1 := dev2 G1 d0 d1
  rw [if_pos Q1.2.2.1] at q1
  have i4 := F.vr 4
  by_cases c : clF t f d ≤ 0
  · have cz : clF t f d = 0 := by omega
    have hn := QF.none (due := clF t f d) T (by rw [cz]; rw [cz] at Q1; exact Q1) (fun k k0 k1 => (G1.fv.dn k k0 k1).2)
    obtain ⟨σ2, f2, g2, e2, C2⟩ := fseU_ok (x := f 4) G1 I1 PP0 (by omega) (by omega) d0 d1 Q1.2.1 Q1.2.2.1 hn a4.symm
    refine ⟨σ2, f2, g2, ?_, (C1.tr C2).mono (by omega) (by omega)⟩
    simp (disch := first | omega | assumption | (simp (disch := omega) only [G.x1, G.x2, C.h1, C.h0, C.p8, C.p9, C.e0, C.tm]; done) | fail) only [fseT, ↓z_lt, ↓z_ge, ↓z_gt, ↓z_le, ↓z_eq, ↓z_ne, ↓z_mx, ↓z_mn, ↓z_dv, ↓z_rm, ↓z_i2l, ↓z_lc, ↓z_sw, ↓z_sf, ↓z_sn, ↓z_bd, ↓z_nt, z_b0, z_b1, z_bi, z_bj, ↓z_gF, ↓z_gR, ↓z_pF, ↓z_pZ, ↓z_pR, ↓z_aI, ↓z_aR, ↓z_sI, ↓z_sZ, ↓z_on, z_cl, ↓reduceIte, Int.reduceEq, Int.reduceNeg, Int.reduceLT, Int.reduceLE, Int.reduceAdd, Int.reduceSub, Int.reduceMul, true_and, and_true, or_true, true_or, eq_self, G.x0, G.x1, G.x2, G.x3, G.x4, G.h0, sO0 C.sh, sO1 C.sh, sO45 C.sh, ↓e_g (ftc G d0 d1), ↓e_g q0, i4, ↓e_g e1, ↓e_g q1, cR, c, e2, iR_t]
  · obtain ⟨σ2, e2, C2⟩ := ch_frames G1 (a := clF t f d) (by omega) (by omega) (by omega) (by omega)
    have G2 := C2.1
    have Q2 := QF.frs (g := g) T PP0 Q1 d0 d1 ci.2 (clF t f d).toNat (by omega)
    rw [show (((clF t f d).toNat : Nat) : Int) = clF t f d by omega] at Q2
    have hn := QF.none (due := clF t f d) T Q2 (fun k k0 k1 => (G2.fv.dn k k0 k1).2)
    have I2 := I1.frs (g := g) T (clF t f d).toNat
    have f4 := frs_4 (g := g) T I1 (clF t f d).toNat
    obtain ⟨σ3, f3, g3, e3, C3⟩ := fseU_ok (x := f 4) G2 I2 PP0 (by omega) (by omega) d0 d1 Q2.2.1 Q2.2.2.1 hn (f4.trans a4).symm
    refine ⟨σ3, f3, g3, ?_, ((C1.tr C2).tr C3).mono (by omega) (by omega)⟩
    simp (disch := first | omega | assumption | (simp (disch := omega) only [G.x1, G.x2, C.h1, C.h0, C.p8, C.p9, C.e0, C.tm]; done) | fail) only [fseT, ↓z_lt, ↓z_ge, ↓z_gt, ↓z_le, ↓z_eq, ↓z_ne, ↓z_mx, ↓z_mn, ↓z_dv, ↓z_rm, ↓z_i2l, ↓z_lc, ↓z_sw, ↓z_sf, ↓z_sn, ↓z_bd, ↓z_nt, z_b0, z_b1, z_bi, z_bj, ↓z_gF, ↓z_gR, ↓z_pF, ↓z_pZ, ↓z_pR, ↓z_aI, ↓z_aR, ↓z_sI, ↓z_sZ, ↓z_on, z_cl, ↓reduceIte, Int.reduceEq, Int.reduceNeg, Int.reduceLT, Int.reduceLE, Int.reduceAdd, Int.reduceSub, Int.reduceMul, true_and, and_true, or_true, true_or, eq_self, G.x0, G.x1, G.x2, G.x3, G.x4, G.h0, sO0 C.sh, sO1 C.sh, sO45 C.sh, ↓e_g (ftc G d0 d1), ↓e_g q0, i4, ↓e_g e1, ↓e_g q1, cR, c, ↓e_g e2, e3, iR_t]
theorem foreseen_ok (G : GR P σ p t f g B) (I : IV t f) (PP0 : PT t) (h12 : 10000 ≤ B) (hB : B ≤ 1700000000) (d0 : 0 ≤ d) (d1 : d < t 1) (hp : f (14 + 28 * d + 0) ≠ -1) : ∃ σ2 f2 g2, fL_isForeseen P σ 0 d = some (1, σ2) ∧ Chg P σ σ2 p t f2 g2 (B + 400000) := by
  have C := G.cr; have T := G.tv; have F := G.fv; have V := G.cv; have n0 := T.n0; have n1 := T.n1; have n2 := T.n2
  rw [fse_eq]
  by_cases c : f (14 + 28 * d + 1) = 1
  · obtain ⟨σ1, e1, C1⟩ := ch_callOff G h12 (by omega) d0 d1 c
    have o := off_o T I d0 d1
    obtain ⟨σ2, f2, g2, e2, C2⟩ := fseT_ok C1.1 (I.off T d0 d1) PP0 (by omega) (by omega) d0 d1 (by rw [o.1]; exact hp) (by rw [o.2]; decide)
    refine ⟨σ2, f2, g2, ?_, (C1.tr C2).mono (by omega) (by omega)⟩
    have q := dev2 G d0 d1
    rw [if_pos c] at q
    simp (disch := first | omega | assumption | (simp (disch := omega) only [G.x1, G.x2, C.h1, C.h0, C.p8, C.p9, C.e0, C.tm]; done) | fail) only [↓z_lt, ↓z_ge, ↓z_gt, ↓z_le, ↓z_eq, ↓z_ne, ↓z_mx, ↓z_mn, ↓z_dv, ↓z_rm, ↓z_i2l, ↓z_lc, ↓z_sw, ↓z_sf, ↓z_sn, ↓z_bd, ↓z_nt, z_b0, z_b1, z_bi, z_bj, ↓z_gF, ↓z_gR, ↓z_pF, ↓z_pZ, ↓z_pR, ↓z_aI, ↓z_aR, ↓z_sI, ↓z_sZ, ↓z_on, z_cl, ↓reduceIte, Int.reduceEq, Int.reduceNeg, Int.reduceLT, Int.reduceLE, Int.reduceAdd, Int.reduceSub, Int.reduceMul, true_and, and_true, or_true, true_or, eq_self, G.x0, G.x1, G.x2, G.x3, G.x4, G.h0, sO0 C.sh, sO1 C.sh, sO45 C.sh, ↓e_g q, ↓e_g e1, e2, iR_t]
  · obtain ⟨σ2, f2, g2, e2, C2⟩ := fseT_ok G I PP0 (by omega) (by omega) d0 d1 hp c
    refine ⟨σ2, f2, g2, ?_, C2.mono (by omega) (by omega)⟩
    have q := dev2 G d0 d1
    rw [if_neg c] at q
    simp (disch := first | omega | assumption | (simp (disch := omega) only [G.x1, G.x2, C.h1, C.h0, C.p8, C.p9, C.e0, C.tm]; done) | fail) only [↓z_lt, ↓z_ge, ↓z_gt, ↓z_le, ↓z_eq, ↓z_ne, ↓z_mx, ↓z_mn, ↓z_dv, ↓z_rm, ↓z_i2l, ↓z_lc, ↓z_sw, ↓z_sf, ↓z_sn, ↓z_bd, ↓z_nt, z_b0, z_b1, z_bi, z_bj, ↓z_gF, ↓z_gR, ↓z_pF, ↓z_pZ, ↓z_pR, ↓z_aI, ↓z_aR, ↓z_sI, ↓z_sZ, ↓z_on, z_cl, ↓reduceIte, Int.reduceEq, Int.reduceNeg, Int.reduceLT, Int.reduceLE, Int.reduceAdd, Int.reduceSub, Int.reduceMul, true_and, and_true, or_true, true_or, eq_self, G.x0, G.x1, G.x2, G.x3, G.x4, G.h0, sO0 C.sh, sO1 C.sh, sO45 C.sh, ↓e_g q, e2, iR_t]
theorem torn_in (T : TV t) : 0 ≤ tornF t f d ∧ tornF t f d ≤ 12 := by
  have n2 := T.n2
  have hN := T.n2N
  unfold tornF
  have key := forI_inv (F := fun k a => a + (if f (238 + 3 * k + 1) = d ∧ 0 < f (238 + 3 * k + 2) then 1 else 0)) (I := fun k a => 0 ≤ a ∧ a ≤ (k : Int)) (N := (t 2).toNat) (a := 0) (fun k a hk hI => by
    split <;> (constructor <;> push_cast <;> omega)) ⟨by omega, by omega⟩
  omega
theorem torn27 {c2 c3 c4 : Int} (G : GR P σ p t f g B) (d0 : 0 ≤ d) (d1 : d < t 1) (kE74 : Int → Option (Int × St)) : fL_isTorn_L27 P σ 0 d c2 c3 c4 kE74 1000 0 0 = kE74 (tornF t f d) := by
  have C := G.cr; have T := G.tv; have F := G.fv; have V := G.cv; have n0 := T.n0; have n1 := T.n1; have n2 := T.n2
  have hN2 := T.n2N
  unfold tornF
  refine (loop_v (fun m k a => fL_isTorn_L27 P σ 0 d c2 c3 c4 kE74 m a k) (fun a => kE74 a) (t 2).toNat (fun k a => a + (if f (238 + 3 * k + 1) = d ∧ 0 < f (238 + 3 * k + 2) then 1 else 0)) (fun _ _ => True)
    (fun k m a hk _ => ⟨?_, trivial⟩) (fun m a _ => ?_) (m := 1000) (a := 0) (by omega) trivial).1
  · have hk2 : ¬ (t 2 ≤ (k : Int)) := by omega
    have k0 : 0 ≤ (k : Int) := by omega
    have k1 : (k : Int) < t 2 := by omega
    by_cases c : f (238 + 3 * (k : Int) + 1) = d
    · by_cases z : f (238 + 3 * (k : Int) + 2) ≤ 0
      · have z2 : ¬ (0 < f (238 + 3 * (k : Int) + 2)) := by omega
        simp (disch := first | omega | assumption | (simp (disch := omega) only [G.x1, G.x2, C.h1, C.h0, C.p8, C.p9, C.e0, C.tm]; done) | fail) only [fL_isTorn_L27, ↓z_lt, ↓z_ge, ↓z_gt, ↓z_le, ↓z_eq, ↓z_ne, ↓z_mx, ↓z_mn, ↓z_dv, ↓z_rm, ↓z_i2l, ↓z_lc, ↓z_sw, ↓z_sf, ↓z_sn, ↓z_bd, ↓z_nt, z_b0, z_b1, z_bi, z_bj, ↓z_gF, ↓z_gR, ↓z_pF, ↓z_pZ, ↓z_pR, ↓z_aI, ↓z_aR, ↓z_sI, ↓z_sZ, ↓z_on, z_cl, ↓reduceIte, Int.reduceEq, Int.reduceNeg, Int.reduceLT, Int.reduceLE, Int.reduceAdd, Int.reduceSub, Int.reduceMul, true_and, and_true, or_true, true_or, eq_self, G.x0, G.x1, G.x2, G.x3, G.x4, G.h0, sO0 C.sh, sO1 C.sh, sO45 C.sh, ↓e_g (size2 G), ↓e_g (str1 G k0 k1), ↓e_g (str5 G k0 k1), hk2, c, z, z2, and_false, if_false, iR_t, T.vr, F.vr]
      · have z2 : 0 < f (238 + 3 * (k : Int) + 2) := by omega
        simp (disch := first | omega | assumption | (simp (disch := omega) only [G.x1, G.x2, C.h1, C.h0, C.p8, C.p9, C.e0, C.tm]; done) | fail) only [fL_isTorn_L27, ↓z_lt, ↓z_ge, ↓z_gt, ↓z_le, ↓z_eq, ↓z_ne, ↓z_mx, ↓z_mn, ↓z_dv, ↓z_rm, ↓z_i2l, ↓z_lc, ↓z_sw, ↓z_sf, ↓z_sn, ↓z_bd, ↓z_nt, z_b0, z_b1, z_bi, z_bj, ↓z_gF, ↓z_gR, ↓z_pF, ↓z_pZ, ↓z_pR, ↓z_aI, ↓z_aR, ↓z_sI, ↓z_sZ, ↓z_on, z_cl, ↓reduceIte, Int.reduceEq, Int.reduceNeg, Int.reduceLT, Int.reduceLE, Int.reduceAdd, Int.reduceSub, Int.reduceMul, true_and, and_true, or_true, true_or, eq_self, G.x0, G.x1, G.x2, G.x3, G.x4, G.h0, sO0 C.sh, sO1 C.sh, sO45 C.sh, ↓e_g (size2 G), ↓e_g (str1 G k0 k1), ↓e_g (str5 G k0 k1), hk2, c, z, z2, and_self, if_true, iR_t, T.vr, F.vr]
    · simp (disch := first | omega | assumption | (simp (disch := omega) only [G.x1, G.x2, C.h1, C.h0, C.p8, C.p9, C.e0, C.tm]; done) | fail) only [fL_isTorn_L27, ↓z_lt, ↓z_ge, ↓z_gt, ↓z_le, ↓z_eq, ↓z_ne, ↓z_mx, ↓z_mn, ↓z_dv, ↓z_rm, ↓z_i2l, ↓z_lc, ↓z_sw, ↓z_sf, ↓z_sn, ↓z_bd, ↓z_nt, z_b0, z_b1, z_bi, z_bj, ↓z_gF, ↓z_gR, ↓z_pF, ↓z_pZ, ↓z_pR, ↓z_aI, ↓z_aR, ↓z_sI, ↓z_sZ, ↓z_on, z_cl, ↓reduceIte, Int.reduceEq, Int.reduceNeg, Int.reduceLT, Int.reduceLE, Int.reduceAdd, Int.reduceSub, Int.reduceMul, true_and, and_true, or_true, true_or, eq_self, G.x0, G.x1, G.x2, G.x3, G.x4, G.h0, sO0 C.sh, sO1 C.sh, sO45 C.sh, ↓e_g (size2 G), ↓e_g (str1 G k0 k1), ↓e_g (str5 G k0 k1), hk2, c, false_and, if_false, iR_t, T.vr, F.vr]
  · simp (disch := first | omega | assumption | (simp (disch := omega) only [G.x1, G.x2, C.h1, C.h0, C.p8, C.p9, C.e0, C.tm]; done) | fail) only [fL_isTorn_L27, ↓z_lt, ↓z_ge, ↓z_gt, ↓z_le, ↓z_eq, ↓z_ne, ↓z_mx, ↓z_mn, ↓z_dv, ↓z_rm, ↓z_i2l, ↓z_lc, ↓z_sw, ↓z_sf, ↓z_sn, ↓z_bd, ↓z_nt, z_b0, z_b1, z_bi, z_bj, ↓z_gF, ↓z_gR, ↓z_pF, ↓z_pZ, ↓z_pR, ↓z_aI, ↓z_aR, ↓z_sI, ↓z_sZ, ↓z_on, z_cl, ↓reduceIte, Int.reduceEq, Int.reduceNeg, Int.reduceLT, Int.reduceLE, Int.reduceAdd, Int.reduceSub, Int.reduceMul, true_and, and_true, or_true, true_or, eq_self, G.x0, G.x1, G.x2, G.x3, G.x4, G.h0, sO0 C.sh, sO1 C.sh, sO45 C.sh, ↓e_g (size2 G), hN2, Int.le_refl, iR_t, T.vr]
theorem torn_ok (G : GR P σ p t f g B) (I : IV t f) (PP0 : PT t) (h12 : 10000 ≤ B) (hB : B ≤ 1700000000) (d0 : 0 ≤ d) (d1 : d < t 1) (hp : f (14 + 28 * d + 0) ≠ -1) : ∃ σ2 f2 g2, fL_isTorn P σ 0 d = some (1, σ2) ∧ Chg P σ σ2 p t f2 g2 (B + 200000) := by
  have C := G.cr; have T := G.tv; have F := G.fv; have V := G.cv; have n0 := T.n0; have n1 := T.n1; have n2 := T.n2
  obtain ⟨σ2, e, C2⟩ := ch_unplug G h12 (by omega) d0 d1 hp
  obtain ⟨I2, u0, u3, u4, u9, u10⟩ := unp_o (d := d) T I F.hh d0 d1
  have G2 := C2.1
  have w2 := isW_ok G2 I2 PP0.2.2.2.1
  have st := stF_in (d := d) T F
  have tr := torn_in (f := f) (d := d) T
  have b9 := F.bl 9
  have b10 := F.bl 10
  have q8 := acct G (w := 8) (by omega) (by omega)
  have q7 := acct G (w := 7) (by omega) (by omega)
  have q8' := acct G2 (w := 8) (by omega) (by omega)
  have q7' := acct G2 (w := 7) (by omega) (by omega)
  rw [show (2 : Int) + 8 = 10 from rfl] at q8 q8'
  rw [show (2 : Int) + 7 = 9 from rfl] at q7 q7'
  rw [u10] at q8'
  rw [u9] at q7'
  have qd := dev0 G2 d0 d1
  rw [u0] at qd
  have r1 : iR (f 10 + stF t f d) = true := iR_t (by omega) (by omega)
  have r2 : iR (f 9 + tornF t f d) = true := iR_t (by omega) (by omega)
  have r3 : iR (stF t f d) = true := iR_t (by omega) (by omega)
  refine ⟨σ2, _, _, ?_, C2⟩
  simp (disch := first | omega | assumption | (simp (disch := omega) only [G.x1, G.x2, C.h1, C.h0, C.p8, C.p9, C.e0, C.tm]; done) | fail) only [fL_isTorn, ↓z_lt, ↓z_ge, ↓z_gt, ↓z_le, ↓z_eq, ↓z_ne, ↓z_mx, ↓z_mn, ↓z_dv, ↓z_rm, ↓z_i2l, ↓z_lc, ↓z_sw, ↓z_sf, ↓z_sn, ↓z_bd, ↓z_nt, z_b0, z_b1, z_bi, z_bj, ↓z_gF, ↓z_gR, ↓z_pF, ↓z_pZ, ↓z_pR, ↓z_aI, ↓z_aR, ↓z_sI, ↓z_sZ, ↓z_on, z_cl, ↓reduceIte, Int.reduceEq, Int.reduceNeg, Int.reduceLT, Int.reduceLE, Int.reduceAdd, Int.reduceSub, Int.reduceMul, true_and, and_true, or_true, true_or, eq_self, G.x0, G.x1, G.x2, G.x3, G.x4, G.h0, sO0 C.sh, sO1 C.sh, sO45 C.sh, ↓e_g (ats G d0 d1), ↓e_g q8, ↓e_g q7, ↓torn27 G d0 d1, ↓e_g e, ↓e_g q8', ↓e_g q7', ↓e_g w2, ↓e_g qd, r1, r2, r3, iR_t]
/-- the snapshot is there still -/
theorem SN.chg (S : SN P σ t f' g' B') (C : Chg P σ σ2 p t f g B) : SN P σ2 t f' g' B' := S.to C.2.1
theorem law44 (hL : L ≤ 260) (kE152 kE73 kE144 : Shp → Nat → Nat → St → Option Unit) (PP0 : PT t) (hE : ∀ σ f g B, GR P σ p t f g B → IV t f → kE152 P n 1265 σ = some ()) : ∀ (j : Nat) (m : Nat) (k : Int) (σ : St) (f g : Int → Int) (B : Int), k = 9 - (j : Int) → j ≤ 9 → j < m → 10000 ≤ B → B + 200000 * (j : Int) ≤ 1700000000 → GR P σ p t f g B → IV t f → fL_law_L44 L xs 0 kE152 kE73 kE144 m k P n 1265 σ = some () := by
  intro j
  induction j with
  | zero =>
    intro m k σ f g B hk hj hm h12 hB G I
    obtain ⟨m, rfl⟩ : ∃ q, m = q + 1 := ⟨m - 1, by omega⟩
    have hk : k = 9 := by omega
    subst hk
    have e := hE σ f g B G I
    simp (disch := first | omega | assumption | with_reducible rfl | fail) only [fL_law_L44, ↓z_lt, ↓z_ge, ↓z_gt, ↓z_le, ↓z_eq, ↓z_ne, ↓z_mx, ↓z_mn, ↓z_dv, ↓z_rm, ↓z_i2l, ↓z_lc, ↓z_sw, ↓z_sf, ↓z_sn, ↓z_bd, ↓z_nt, z_b0, z_b1, z_bi, z_bj, ↓z_gF, ↓z_gR, ↓z_pF, ↓z_pZ, ↓z_pR, ↓z_aI, ↓z_aR, ↓z_sI, ↓z_sZ, ↓z_on, z_cl, ↓reduceIte, Int.reduceEq, Int.reduceNeg, Int.reduceLT, Int.reduceLE, Int.reduceAdd, Int.reduceSub, Int.reduceMul, true_and, and_true, or_true, true_or, eq_self, iR_t, e]
  | succ j ih =>
    intro m k σ f g B hk hj hm h12 hB G I
    obtain ⟨m, rfl⟩ : ∃ q, m = q + 1 := ⟨m - 1, by omega⟩
    have hk2 : ¬ (9 ≤ k) := by push_cast at hk; omega
    have k0 : 0 ≤ k := by push_cast at hk; omega
    have t1 := PP0.2.2.2.2.2
    have tn := G.tv.n1
    obtain ⟨σ1, f1, g1, e1, C1, I1⟩ := acts_ok (xs := xs) (a := 50 + 4 * k) hL G I PP0 h12 (by omega) (by omega) (by omega)
    have G1 := C1.1
    have w1 := isW_ok G1 I1 PP0.2.2.2.1
    obtain ⟨d, ed, d0, d1⟩ := pick_in (P := P) (σ := σ1) (xs := xs) hL (show 0 ≤ 90 + k by omega) (show 90 + k < 1000 by omega) (x := t 1) (by omega) (by omega)
    have qd := dev0 G1 d0 d1
    have hb : ∀ {K : Option Unit}, bul 1265 K = K := fun {K} => if_pos (by decide)
    have T := G.tv
    have F1 := G1.fv
    have sO := sO0 G1.cr.sh
    by_cases hp : f1 (14 + 28 * d + 0) = -1
    · have e9 := ih m (k + 1) σ1 f1 g1 (B + 12000) (by push_cast at hk; omega) (by omega) (by omega) (by omega) (by push_cast at hB; omega) G1 I1
      simp (disch := first | omega | assumption | with_reducible rfl | fail) only [fL_law_L44, ↓z_lt, ↓z_ge, ↓z_gt, ↓z_le, ↓z_eq, ↓z_ne, ↓z_mx, ↓z_mn, ↓z_dv, ↓z_rm, ↓z_i2l, ↓z_lc, ↓z_sw, ↓z_sf, ↓z_sn, ↓z_bd, ↓z_nt, z_b0, z_b1, z_bi, z_bj, ↓z_gF, ↓z_gR, ↓z_pF, ↓z_pZ, ↓z_pR, ↓z_aI, ↓z_aR, ↓z_sI, ↓z_sZ, ↓z_on, z_cl, ↓reduceIte, Int.reduceEq, Int.reduceNeg, Int.reduceLT, Int.reduceLE, Int.reduceAdd, Int.reduceSub, Int.reduceMul, true_and, and_true, or_true, true_or, eq_self, iR_t, hk2, hb, sO, ↓e_g e1, ↓e_g w1, ↓e_g (size1 G1), ↓e_g ed, ↓e_g qd, hp, e9]
    · obtain ⟨σ2, e2, G2, S2, z2⟩ := ch_save G1
      obtain ⟨σ3, f3, g3, e3, C3⟩ := foreseen_ok G2 I1 PP0 (by omega) (by omega) d0 d1 hp
      obtain ⟨σ4, e4, G4, S4, z4⟩ := ch_restore C3.1 (S2.chg C3)
      obtain ⟨σ5, f5, g5, e5, C5⟩ := torn_ok G4 I1 PP0 (by omega) (by omega) d0 d1 hp
      obtain ⟨σ6, e6, G6, S6, z6⟩ := ch_restore C5.1 (S4.chg C5)
      have e9 := ih m (k + 1) σ6 f1 g1 (B + 12000) (by push_cast at hk; omega) (by omega) (by omega) (by omega) (by push_cast at hB; omega) G6 I1
      simp (disch := first | omega | assumption | with_reducible rfl | fail) only [fL_law_L44, ↓z_lt, ↓z_ge, ↓z_gt, ↓z_le, ↓z_eq, ↓z_ne, ↓z_mx, ↓z_mn, ↓z_dv, ↓z_rm, ↓z_i2l, ↓z_lc, ↓z_sw, ↓z_sf, ↓z_sn, ↓z_bd, ↓z_nt, z_b0, z_b1, z_bi, z_bj, ↓z_gF, ↓z_gR, ↓z_pF, ↓z_pZ, ↓z_pR, ↓z_aI, ↓z_aR, ↓z_sI, ↓z_sZ, ↓z_on, z_cl, ↓reduceIte, Int.reduceEq, Int.reduceNeg, Int.reduceLT, Int.reduceLE, Int.reduceAdd, Int.reduceSub, Int.reduceMul, true_and, and_true, or_true, true_or, eq_self, iR_t, hk2, hb, sO, ↓e_g e1, ↓e_g w1, ↓e_g (size1 G1), ↓e_g ed, ↓e_g qd, hp, F1.vr, ↓e_g e2, ↓e_g e3, ↓e_g e4, ↓e_g e5, ↓e_g e6, e9]
end ZP7
