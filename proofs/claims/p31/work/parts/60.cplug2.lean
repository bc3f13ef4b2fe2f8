/-! THE CLASS'S PLUGS AND FRAMES, whole. -/
section ZU
variable {P : Shp} {σ σ' σ1 : St} {t f f' f2 g : Int → Int} {B : Int} {d k p q kind who m h j c x y i v w part : Int} {n : Nat}
theorem hdF_c (e0 : f' (238 + 3 * k) = f (238 + 3 * k)) (e1 : f' (238 + 3 * k + 1) = f (238 + 3 * k + 1)) : hdF f' k d = hdF f k d := by unfold hdF; rw [e0, e1]
theorem stF_c (T : TV t) (e : ∀ k, 0 ≤ k → k < t 2 → f' (238 + 3 * k) = f (238 + 3 * k) ∧ f' (238 + 3 * k + 1) = f (238 + 3 * k + 1) ∧ f' (238 + 3 * k + 2) = f (238 + 3 * k + 2)) : stF t f' d = stF t f d := by
  have n2 := T.n2
  unfold stF
  exact forI_congr fun k a hk => by
    obtain ⟨a0, a1, a2⟩ := e (k : Int) (by omega) (by omega)
    rw [hdF_c a0 a1, a2]
theorem un0F_s (T : TV t) (h12 : 0 ≤ f 12) (h0 : 0 ≤ d) (h1 : d < t 1) (k0 : 0 ≤ k) (k1 : k < t 2) : un0F f d (238 + 3 * k) = f (238 + 3 * k) ∧ un0F f d (238 + 3 * k + 1) = f (238 + 3 * k + 1) ∧ un0F f d (238 + 3 * k + 2) = f (238 + 3 * k + 2) := by
  have n1 := T.n1
  have n2 := T.n2
  have w0 : 0 ≤ (if f (14 + 28 * d + 1) = 1 then (2 : Int) else 3) := by split <;> omega
  have w1 : (if f (14 + 28 * d + 1) = 1 then (2 : Int) else 3) < 10 := by split <;> omega
  unfold un0F
  refine ⟨?_, ?_, ?_⟩ <;> (simp (disch := omega) only [zu_n]; rw [hapF_o h12 w0 w1 (by omega) (by omega)])
theorem FV.z10 (F : FV B t f g) (T : TV t) (hv : 0 ≤ v ∧ v ≤ 119988) (hB : B < 1999000000) : FV (B + 120000) t (zu f 10 (f 10 + v)) g := by
  have n1 := T.n1
  have n2 := T.n2
  have b0 := F.b0
  have q := F.bl 10
  refine ⟨by omega, bl_zu (fun j => by have := F.bl j; omega) (by omega), fun j => by have := F.bg j; omega, ?_, ?_, ?_, ?_, ?_, ?_, ?_, ?_, ?_⟩
  · simp (disch := omega) only [zu_n]; exact F.tq
  · simp (disch := omega) only [zu_n]; exact F.ev
  · intro e e0 e1; have := F.al e e0 e1; simp (disch := omega) only [zu_n]; exact this
  · intro e e0 e1; have := F.un e e0 e1; simp (disch := omega) only [zu_n]; exact this
  · intro e e0 e1; have := F.si e e0 e1; simp (disch := omega) only [zu_n]; exact this
  · intro e e0 e1; have := F.mn e e0 e1; simp (disch := omega) only [zu_n]; exact this
  · intro e e0 e1; have := F.mo e e0 e1; simp (disch := omega) only [zu_n]; exact this
  · intro e e0 e1; have := F.ho e e0 e1; simp (disch := omega) only [zu_n]; exact this
  · intro e e0 e1; have := F.dn e e0 e1; simp (disch := omega) only [zu_n]; exact this
theorem FV.un1 (F : FV B t f g) (T : TV t) (h0 : 0 ≤ d) (h1 : d < t 1) (h4 : 12 ≤ B) (hB : B < 1999000000) : FV (B + 13) t (un1F t f d) g := by
  have n2 := T.n2
  have F0 := F.un0 T h0 h1 h4 (by omega)
  have G := forI_inv (F := fun k a => undF a k d) (N := (t 2).toNat) (a := un0F f d) (I := fun k a => FV (B + 1 + (k : Int)) t a g) (fun k a hk G => by
    have := G.und T (k := (k : Int)) (d := d) (by omega) (by omega) (by omega) (by omega)
    rw [show B + 1 + ((k + 1 : Nat) : Int) = B + 1 + (k : Int) + 1 by push_cast; omega]; exact this) (F0.mono (by push_cast; omega) (by push_cast; omega))
  exact G.mono (by omega) (by omega)
theorem FV.unp (F : FV B t f g) (T : TV t) (h0 : 0 ≤ d) (h1 : d < t 1) (h4 : 12 ≤ B) (hB : B < 1998000000) : FV (B + 120100) t (unpF t f d) g := by
  unfold unpF
  have F1 := F.un1 T h0 h1 h4 (by omega)
  have F2 := F1.z10 T (stF_in (f := f) (d := d) T F) (by omega)
  exact (F2.set T (by omega) (by omega)).mono (by omega) (by omega)
theorem c_pullOut (C : CR P σ p t f g) (T : TV t) (F : FV B t f g) (V : CV f) (h0 : 0 ≤ d) (h1 : d < t 1) (h4 : 12 ≤ B) (hB : B < 1998000000) :
    ∃ σ', fX2_pullOut P σ 16 d = some (stF t f d, σ') ∧ CR P σ' p t (unpF t f d) g ∧ CV (unpF t f d) ∧ Fr σ σ' := by
  have n1 := T.n1; have n2 := T.n2; have MN := F.mn; have CL := V.le; have CI := fun c => couK_in (f := f) (c := c) V.c0
  have hN := T.n2N
  have w0 : 0 ≤ (if f (14 + 28 * d + 1) = 1 then (2 : Int) else 3) := by split <;> omega
  have w1 : (if f (14 + 28 * d + 1) = 1 then (2 : Int) else 3) < 10 := by split <;> omega
  obtain ⟨σ1, e1, C1, fr1⟩ := c_add C T F V (kind := if f (14 + 28 * d + 1) = 1 then 2 else 3) (who := d) w0 w1
  have F1 := F.hap T (by omega) (kind := if f (14 + 28 * d + 1) = 1 then 2 else 3) (who := d) w0 w1 (by omega) (by omega) h4
  have V1 := V.hap (kind := if f (14 + 28 * d + 1) = 1 then 2 else 3) (who := d) F.ev w0 w1
  have C2 : CR P (wr (wr (wr σ1 28 d (-1)) 29 d (-1)) 35 d 0) p t (un0F f d) g := C1.unp T F1 V1 h0 h1
  have F2 := F.un0 T h0 h1 h4 (by omega)
  have V2 : CV (un0F f d) := ((V1.zu (i := 14 + 28 * d + 0) (v := -1) (by omega)).zu (i := 14 + 28 * d + 1) (v := 0) (by omega)).zu (i := 14 + 28 * d + 3) (v := 0) (by omega)
  have fr2 : Fr σ (wr (wr (wr σ1 28 d (-1)) 29 d (-1)) 35 d 0) := fr1.tr fun o ho => by simp (disch := omega) only [wr_o]
  have hst : stF t f d = forI (fun k a => a + (if hdF (un0F f d) k d = true then un0F f d (238 + 3 * k + 2) else 0)) (t 2).toNat 0 := (stF_c T fun k k0 k1 => un0F_s T F.ev h0 h1 k0 k1).symm
  generalize hs2 : wr (wr (wr σ1 28 d (-1)) 29 d (-1)) 35 d 0 = σ2 at C2 fr2
  have l1 : ∀ kE : Int → St → Option (Int × St), ∃ σ3, fX2_pullOut_L76 P 16 d kE 1000 0 0 σ2 = kE (stF t f d) σ3 ∧ CR P σ3 p t (un1F t f d) g ∧ CV (un1F t f d) ∧ Fr σ σ3 := by
    intro kE
    obtain ⟨a', e, r1, r2, r3, r4, r5, r6⟩ := loop_r (fun m k (a : Int × St) => fX2_pullOut_L76 P 16 d kE m a.1 k a.2) (fun a => kE a.1 a.2) (t 2).toNat (fun k a => undF a k d) (fun k a c => CR P a.2 p t c g ∧ CV c ∧ Fr σ a.2 ∧ FV (B + 1 + (k : Int)) t c g ∧ a.1 = forI (fun k a => a + (if hdF (un0F f d) k d = true then un0F f d (238 + 3 * k + 2) else 0)) k 0 ∧ ∀ j, (k : Int) ≤ j → j < t 2 → c (238 + 3 * j) = un0F f d (238 + 3 * j) ∧ c (238 + 3 * j + 1) = un0F f d (238 + 3 * j + 1) ∧ c (238 + 3 * j + 2) = un0F f d (238 + 3 * j + 2))
      (fun k m a c hk hI => by
        obtain ⟨C, V, fr, G, hs, hj⟩ := hI
        obtain ⟨a1, s⟩ := a
        dsimp only at C fr hs
        have hk2 : ¬ (t 2 ≤ (k : Int)) := by omega
        have jk := hj (k : Int) (by omega) (by omega)
        have G2 := G.und T (k := (k : Int)) (d := d) (by omega) (by omega) (by omega) (by omega)
        rw [show B + 1 + (k : Int) + 1 = B + 1 + ((k + 1 : Nat) : Int) by push_cast; omega] at G2
        have V2 := V.und T (k := (k : Int)) (d := d) G.ev (by omega) (by omega)
        have hh := hdF_h T G (k := (k : Int)) (d := d) (by omega) (by omega) h0
        have hh2 := hdF_c (d := d) jk.1 jk.2.1
        have hj2 : ∀ j, (((k + 1 : Nat)) : Int) ≤ j → j < t 2 → undF c k d (238 + 3 * j) = un0F f d (238 + 3 * j) ∧ undF c k d (238 + 3 * j + 1) = un0F f d (238 + 3 * j + 1) ∧ undF c k d (238 + 3 * j + 2) = un0F f d (238 + 3 * j + 2) := by
          intro j j0 j1
          have jj := hj j (by push_cast at j0; omega) j1
          rw [undF_o T G.ev (by omega) (by omega) (by omega) (by omega) (by push_cast at j0; omega), undF_o T G.ev (by omega) (by omega) (by omega) (by omega) (by push_cast at j0; omega), undF_o T G.ev (by omega) (by omega) (by omega) (by omega) (by push_cast at j0; omega)]
          exact jj
        by_cases c1 : c (238 + 3 * (k : Int) + 1) = d
        · rw [decide_eq_true c1] at hh
          obtain ⟨s', e, C2, fr2⟩ := c_dropStream C T G V (k := (k : Int)) (d := d) (by omega) (by omega) hh (by omega) (by omega)
          refine ⟨(a1 + c (238 + 3 * (k : Int) + 2), s'), ?_, C2, V2, fr.tr fr2, G2, ?_, hj2⟩
          · simp (disch := first | omega | assumption) only [fX2_pullOut_L76, ↓z_lt, ↓z_ge, ↓z_gt, ↓z_le, ↓z_eq, ↓z_ne, ↓z_mx, ↓z_mn, ↓z_dv, ↓z_rm, ↓z_i2l, ↓z_lc, ↓z_sw, ↓z_sf, ↓z_sn, ↓z_bd, ↓z_nt, z_b0, z_b1, z_bi, z_bj, ↓z_gF, ↓z_gR, ↓z_pF, ↓z_pZ, ↓z_pR, ↓z_aI, ↓z_aR, ↓z_sI, ↓z_sZ, ↓z_on, z_cl, ↓reduceIte, Int.reduceEq, Int.reduceNeg, Int.reduceLT, Int.reduceLE, Int.reduceAdd, Int.reduceSub, Int.reduceMul, true_and, and_true, or_true, true_or, eq_self, C.h0, C.h1, C.p2, C.p3, C.p4, C.p5, C.p6, C.p7, C.p8, C.p9, C.e0, C.e1, C.e2, C.e4, C.e5, C.l2, C.l3, C.l4, C.l5, C.pr.r7, C.pr.r8, C.pr.r9, C.pr.r10, C.pr.r11, C.pr.r12, C.pr.r13, C.pr.r14, C.pr.r15, C.pr.v0, C.pr.v1, C.pr.v2, C.pr.v3, C.pr.v4, C.pr.v5, C.pr.v6, C.pr.we, C.pr.wi, C.pr.pe, C.pr.fp, C.pr.he, C.pr.ho, C.pr.ra, C.pr.pa, C.tm, C.sc, C.po, C.al, C.ho, C.mo, C.dn, C.se, C.ke, C.ca, C.co, sO16 C.sh, sO27 C.sh, sO34 C.sh, sO40 C.sh, sA28 C.sh, sA29 C.sh, sA30 C.sh, sA31 C.sh, sA32 C.sh, sA33 C.sh, sA35 C.sh, sA36 C.sh, sA37 C.sh, sA38 C.sh, sA39 C.sh, sA41 C.sh, sA42 C.sh, sA43 C.sh, sA44 C.sh, pO C.sh C.pr.hp, pA1 C.sh C.pr.hp, pA2 C.sh C.pr.hp, pA3 C.sh C.pr.hp, pA4 C.sh C.pr.hp, pA5 C.sh C.pr.hp, pA6 C.sh C.pr.hp, pA7 C.sh C.pr.hp, pA8 C.sh C.pr.hp, pA9 C.sh C.pr.hp, pN C.pr.hp, pN0 C.pr.hp, iR_t, Int.reduceAdd, hk2, c1, T.vr, G.vr, ↓e_cl e]
          · show a1 + _ = forI _ k 0 + (if hdF (un0F f d) k d = true then un0F f d (238 + 3 * k + 2) else 0)
            rw [← hh2, hh, if_pos rfl, hs, jk.2.2]
        · rw [decide_eq_false c1] at hh
          have eu : undF c k d = c := by unfold undF; rw [hh]; rfl
          rw [eu] at V2 G2 hj2 ⊢
          refine ⟨(a1, s), ?_, C, V2, fr, G2, ?_, hj2⟩
          · simp (disch := first | omega | assumption) only [fX2_pullOut_L76, ↓z_lt, ↓z_ge, ↓z_gt, ↓z_le, ↓z_eq, ↓z_ne, ↓z_mx, ↓z_mn, ↓z_dv, ↓z_rm, ↓z_i2l, ↓z_lc, ↓z_sw, ↓z_sf, ↓z_sn, ↓z_bd, ↓z_nt, z_b0, z_b1, z_bi, z_bj, ↓z_gF, ↓z_gR, ↓z_pF, ↓z_pZ, ↓z_pR, ↓z_aI, ↓z_aR, ↓z_sI, ↓z_sZ, ↓z_on, z_cl, ↓reduceIte, Int.reduceEq, Int.reduceNeg, Int.reduceLT, Int.reduceLE, Int.reduceAdd, Int.reduceSub, Int.reduceMul, true_and, and_true, or_true, true_or, eq_self, C.h0, C.h1, C.p2, C.p3, C.p4, C.p5, C.p6, C.p7, C.p8, C.p9, C.e0, C.e1, C.e2, C.e4, C.e5, C.l2, C.l3, C.l4, C.l5, C.pr.r7, C.pr.r8, C.pr.r9, C.pr.r10, C.pr.r11, C.pr.r12, C.pr.r13, C.pr.r14, C.pr.r15, C.pr.v0, C.pr.v1, C.pr.v2, C.pr.v3, C.pr.v4, C.pr.v5, C.pr.v6, C.pr.we, C.pr.wi, C.pr.pe, C.pr.fp, C.pr.he, C.pr.ho, C.pr.ra, C.pr.pa, C.tm, C.sc, C.po, C.al, C.ho, C.mo, C.dn, C.se, C.ke, C.ca, C.co, sO16 C.sh, sO27 C.sh, sO34 C.sh, sO40 C.sh, sA28 C.sh, sA29 C.sh, sA30 C.sh, sA31 C.sh, sA32 C.sh, sA33 C.sh, sA35 C.sh, sA36 C.sh, sA37 C.sh, sA38 C.sh, sA39 C.sh, sA41 C.sh, sA42 C.sh, sA43 C.sh, sA44 C.sh, pO C.sh C.pr.hp, pA1 C.sh C.pr.hp, pA2 C.sh C.pr.hp, pA3 C.sh C.pr.hp, pA4 C.sh C.pr.hp, pA5 C.sh C.pr.hp, pA6 C.sh C.pr.hp, pA7 C.sh C.pr.hp, pA8 C.sh C.pr.hp, pA9 C.sh C.pr.hp, pN C.pr.hp, pN0 C.pr.hp, iR_t, Int.reduceAdd, hk2, c1, T.vr, G.vr]
          · show a1 = forI _ k 0 + (if hdF (un0F f d) k d = true then un0F f d (238 + 3 * k + 2) else 0)
            rw [← hh2, hh, if_neg (by decide), hs, Int.add_zero])
      (fun m a c hI => by
        obtain ⟨C, V, fr, G, hs, hj⟩ := hI
        simp (disch := first | omega | assumption) only [fX2_pullOut_L76, ↓z_lt, ↓z_ge, ↓z_gt, ↓z_le, ↓z_eq, ↓z_ne, ↓z_mx, ↓z_mn, ↓z_dv, ↓z_rm, ↓z_i2l, ↓z_lc, ↓z_sw, ↓z_sf, ↓z_sn, ↓z_bd, ↓z_nt, z_b0, z_b1, z_bi, z_bj, ↓z_gF, ↓z_gR, ↓z_pF, ↓z_pZ, ↓z_pR, ↓z_aI, ↓z_aR, ↓z_sI, ↓z_sZ, ↓z_on, z_cl, ↓reduceIte, Int.reduceEq, Int.reduceNeg, Int.reduceLT, Int.reduceLE, Int.reduceAdd, Int.reduceSub, Int.reduceMul, true_and, and_true, or_true, true_or, eq_self, C.h0, C.h1, C.p2, C.p3, C.p4, C.p5, C.p6, C.p7, C.p8, C.p9, C.e0, C.e1, C.e2, C.e4, C.e5, C.l2, C.l3, C.l4, C.l5, C.pr.r7, C.pr.r8, C.pr.r9, C.pr.r10, C.pr.r11, C.pr.r12, C.pr.r13, C.pr.r14, C.pr.r15, C.pr.v0, C.pr.v1, C.pr.v2, C.pr.v3, C.pr.v4, C.pr.v5, C.pr.v6, C.pr.we, C.pr.wi, C.pr.pe, C.pr.fp, C.pr.he, C.pr.ho, C.pr.ra, C.pr.pa, C.tm, C.sc, C.po, C.al, C.ho, C.mo, C.dn, C.se, C.ke, C.ca, C.co, sO16 C.sh, sO27 C.sh, sO34 C.sh, sO40 C.sh, sA28 C.sh, sA29 C.sh, sA30 C.sh, sA31 C.sh, sA32 C.sh, sA33 C.sh, sA35 C.sh, sA36 C.sh, sA37 C.sh, sA38 C.sh, sA39 C.sh, sA41 C.sh, sA42 C.sh, sA43 C.sh, sA44 C.sh, pO C.sh C.pr.hp, pA1 C.sh C.pr.hp, pA2 C.sh C.pr.hp, pA3 C.sh C.pr.hp, pA4 C.sh C.pr.hp, pA5 C.sh C.pr.hp, pA6 C.sh C.pr.hp, pA7 C.sh C.pr.hp, pA8 C.sh C.pr.hp, pA9 C.sh C.pr.hp, pN C.pr.hp, pN0 C.pr.hp, iR_t, Int.reduceAdd, hN, Int.le_refl, T.vr]) (m := 1000) (a := (0, σ2)) (c := un0F f d) (by omega) ⟨C2, V2, fr2, F2.mono (by push_cast; omega) (by push_cast; omega), rfl, fun j _ _ => ⟨rfl, rfl, rfl⟩⟩
    exact ⟨a'.2, by rw [e, r5, ← hst], r1, r2, r3⟩
  obtain ⟨σ3, e3, C3, V3, fr3⟩ := l1 (fun x30 s31 =>
              gR P 2 s31 16 1 fun x32 =>
              gR P 6 s31 x32 9 fun x33 =>
              gR P 3 s31 x33 5 fun x34 =>
              aI P 10 s31 x34 8 fun x35 =>
              sI P 10 s31 x34 8 (x35 + x30) fun s36 =>
              onO P 2 16 <| cl (fX2_settle P s36 16) fun s37 =>
              some ((x30 : Int), s37))
  have F3 := F.un1 T h0 h1 h4 (by omega)
  have st := stF_in (f := f) (d := d) T F
  have C4 := C3.zto T F3 V3 (i := 8) (v := un1F t f d 10 + stF t f d) (by omega) (by omega)
  rw [show (2 : Int) + 8 = 10 from rfl] at C4
  have F4 := F3.z10 T st (by omega)
  have V4 := V3.zu (i := 10) (v := un1F t f d 10 + stF t f d) (by omega)
  obtain ⟨σ5, e5, C5, V5, fr5⟩ := c_settle C4 T F4 V4 (by omega) (by omega)
  refine ⟨σ5, ?_, C5, V5, fr3.tr (Fr.tr (fun o ho => by simp (disch := omega) only [wr_o]) fr5)⟩
  have fgt : fX0_forget P (wr (wr σ1 28 d (-1)) 29 d (-1)) 34 d = some (wr (wr (wr σ1 28 d (-1)) 29 d (-1)) 35 d 0) := by
    have r1 : ¬ (d < 0) := by omega
    have r2 : ¬ (8 ≤ d) := by omega
    simp (disch := first | omega | assumption) only [fX0_forget, ↓z_lt, ↓z_ge, ↓z_gt, ↓z_le, ↓z_eq, ↓z_ne, ↓z_mx, ↓z_mn, ↓z_dv, ↓z_rm, ↓z_i2l, ↓z_lc, ↓z_sw, ↓z_sf, ↓z_sn, ↓z_bd, ↓z_nt, z_b0, z_b1, z_bi, z_bj, ↓z_gF, ↓z_gR, ↓z_pF, ↓z_pZ, ↓z_pR, ↓z_aI, ↓z_aR, ↓z_sI, ↓z_sZ, ↓z_on, z_cl, ↓reduceIte, Int.reduceEq, Int.reduceNeg, Int.reduceLT, Int.reduceLE, Int.reduceAdd, Int.reduceSub, Int.reduceMul, true_and, and_true, or_true, true_or, eq_self, C.h0, C.h1, C.p2, C.p3, C.p4, C.p5, C.p6, C.p7, C.p8, C.p9, C.e0, C.e1, C.e2, C.e4, C.e5, C.l2, C.l3, C.l4, C.l5, C.pr.r7, C.pr.r8, C.pr.r9, C.pr.r10, C.pr.r11, C.pr.r12, C.pr.r13, C.pr.r14, C.pr.r15, C.pr.v0, C.pr.v1, C.pr.v2, C.pr.v3, C.pr.v4, C.pr.v5, C.pr.v6, C.pr.we, C.pr.wi, C.pr.pe, C.pr.fp, C.pr.he, C.pr.ho, C.pr.ra, C.pr.pa, C.tm, C.sc, C.po, C.al, C.ho, C.mo, C.dn, C.se, C.ke, C.ca, C.co, sO16 C.sh, sO27 C.sh, sO34 C.sh, sO40 C.sh, sA28 C.sh, sA29 C.sh, sA30 C.sh, sA31 C.sh, sA32 C.sh, sA33 C.sh, sA35 C.sh, sA36 C.sh, sA37 C.sh, sA38 C.sh, sA39 C.sh, sA41 C.sh, sA42 C.sh, sA43 C.sh, sA44 C.sh, pO C.sh C.pr.hp, pA1 C.sh C.pr.hp, pA2 C.sh C.pr.hp, pA3 C.sh C.pr.hp, pA4 C.sh C.pr.hp, pA5 C.sh C.pr.hp, pA6 C.sh C.pr.hp, pA7 C.sh C.pr.hp, pA8 C.sh C.pr.hp, pA9 C.sh C.pr.hp, pN C.pr.hp, pN0 C.pr.hp, iR_t, Int.reduceAdd, C1.e0, wr_n, r1, r2]
  have e3s := fun s (h : s = σ2) => (congrArg (fX2_pullOut_L76 P 16 d _ 1000 0 0) h).trans e3
  have e8 : σ3 44 8 = un1F t f d 10 := C3.to 8 (by omega) (by omega)
  rcases F.al d h0 h1 with ca | ca
  · have ca2 : (if f (14 + 28 * d + 1) = 1 then (2 : Int) else 3) = 3 := if_neg (by omega)
    rw [ca2] at e1
    simp (disch := first | omega | assumption | (simp (disch := omega) only [ C.h1, C.p9, C.tm, C1.h1, C1.p2, C1.p3, C1.p8, C1.e0, wr_n, hs2, C3.h1, C3.p9, C3.l5, e8 ]; done) | fail) only [fX2_pullOut, ↓z_lt, ↓z_ge, ↓z_gt, ↓z_le, ↓z_eq, ↓z_ne, ↓z_mx, ↓z_mn, ↓z_dv, ↓z_rm, ↓z_i2l, ↓z_lc, ↓z_sw, ↓z_sf, ↓z_sn, ↓z_bd, ↓z_nt, z_b0, z_b1, z_bi, z_bj, ↓z_gF, ↓z_gR, ↓z_pF, ↓z_pZ, ↓z_pR, ↓z_aI, ↓z_aR, ↓z_sI, ↓z_sZ, ↓z_on, z_cl, ↓reduceIte, Int.reduceEq, Int.reduceNeg, Int.reduceLT, Int.reduceLE, Int.reduceAdd, Int.reduceSub, Int.reduceMul, true_and, and_true, or_true, true_or, eq_self, C.h0, C.h1, C.p2, C.p3, C.p4, C.p5, C.p6, C.p7, C.p8, C.p9, C.e0, C.e1, C.e2, C.e4, C.e5, C.l2, C.l3, C.l4, C.l5, C.pr.r7, C.pr.r8, C.pr.r9, C.pr.r10, C.pr.r11, C.pr.r12, C.pr.r13, C.pr.r14, C.pr.r15, C.pr.v0, C.pr.v1, C.pr.v2, C.pr.v3, C.pr.v4, C.pr.v5, C.pr.v6, C.pr.we, C.pr.wi, C.pr.pe, C.pr.fp, C.pr.he, C.pr.ho, C.pr.ra, C.pr.pa, C.tm, C.sc, C.po, C.al, C.ho, C.mo, C.dn, C.se, C.ke, C.ca, C.co, sO16 C.sh, sO27 C.sh, sO34 C.sh, sO40 C.sh, sA28 C.sh, sA29 C.sh, sA30 C.sh, sA31 C.sh, sA32 C.sh, sA33 C.sh, sA35 C.sh, sA36 C.sh, sA37 C.sh, sA38 C.sh, sA39 C.sh, sA41 C.sh, sA42 C.sh, sA43 C.sh, sA44 C.sh, pO C.sh C.pr.hp, pA1 C.sh C.pr.hp, pA2 C.sh C.pr.hp, pA3 C.sh C.pr.hp, pA4 C.sh C.pr.hp, pA5 C.sh C.pr.hp, pA6 C.sh C.pr.hp, pA7 C.sh C.pr.hp, pA8 C.sh C.pr.hp, pA9 C.sh C.pr.hp, pN C.pr.hp, pN0 C.pr.hp, iR_t, Int.reduceAdd, ↓c_dev' C T h0 h1, ↓c_inAlarm' C T F h0 h1, ca, ↓e_g e1, C1.h1, C1.p2, C1.p3, C1.p8, C1.e0, wr_n, ↓e_g fgt, ↓e3s, C3.h1, C3.p9, C3.l5, e8, ↓e_g e5]
  · have ca2 : (if f (14 + 28 * d + 1) = 1 then (2 : Int) else 3) = 2 := if_pos ca
    rw [ca2] at e1
    simp (disch := first | omega | assumption | (simp (disch := omega) only [ C.h1, C.p9, C.tm, C1.h1, C1.p2, C1.p3, C1.p8, C1.e0, wr_n, hs2, C3.h1, C3.p9, C3.l5, e8 ]; done) | fail) only [fX2_pullOut, ↓z_lt, ↓z_ge, ↓z_gt, ↓z_le, ↓z_eq, ↓z_ne, ↓z_mx, ↓z_mn, ↓z_dv, ↓z_rm, ↓z_i2l, ↓z_lc, ↓z_sw, ↓z_sf, ↓z_sn, ↓z_bd, ↓z_nt, z_b0, z_b1, z_bi, z_bj, ↓z_gF, ↓z_gR, ↓z_pF, ↓z_pZ, ↓z_pR, ↓z_aI, ↓z_aR, ↓z_sI, ↓z_sZ, ↓z_on, z_cl, ↓reduceIte, Int.reduceEq, Int.reduceNeg, Int.reduceLT, Int.reduceLE, Int.reduceAdd, Int.reduceSub, Int.reduceMul, true_and, and_true, or_true, true_or, eq_self, C.h0, C.h1, C.p2, C.p3, C.p4, C.p5, C.p6, C.p7, C.p8, C.p9, C.e0, C.e1, C.e2, C.e4, C.e5, C.l2, C.l3, C.l4, C.l5, C.pr.r7, C.pr.r8, C.pr.r9, C.pr.r10, C.pr.r11, C.pr.r12, C.pr.r13, C.pr.r14, C.pr.r15, C.pr.v0, C.pr.v1, C.pr.v2, C.pr.v3, C.pr.v4, C.pr.v5, C.pr.v6, C.pr.we, C.pr.wi, C.pr.pe, C.pr.fp, C.pr.he, C.pr.ho, C.pr.ra, C.pr.pa, C.tm, C.sc, C.po, C.al, C.ho, C.mo, C.dn, C.se, C.ke, C.ca, C.co, sO16 C.sh, sO27 C.sh, sO34 C.sh, sO40 C.sh, sA28 C.sh, sA29 C.sh, sA30 C.sh, sA31 C.sh, sA32 C.sh, sA33 C.sh, sA35 C.sh, sA36 C.sh, sA37 C.sh, sA38 C.sh, sA39 C.sh, sA41 C.sh, sA42 C.sh, sA43 C.sh, sA44 C.sh, pO C.sh C.pr.hp, pA1 C.sh C.pr.hp, pA2 C.sh C.pr.hp, pA3 C.sh C.pr.hp, pA4 C.sh C.pr.hp, pA5 C.sh C.pr.hp, pA6 C.sh C.pr.hp, pA7 C.sh C.pr.hp, pA8 C.sh C.pr.hp, pA9 C.sh C.pr.hp, pN C.pr.hp, pN0 C.pr.hp, iR_t, Int.reduceAdd, ↓c_dev' C T h0 h1, ↓c_inAlarm' C T F h0 h1, ca, ↓e_g e1, C1.h1, C1.p2, C1.p3, C1.p8, C1.e0, wr_n, ↓e_g fgt, ↓e3s, C3.h1, C3.p9, C3.l5, e8, ↓e_g e5]
def pluF (t f : Int → Int) (d x : Int) : Int → Int := setF t (zu (zu f (14 + 28 * d + 0) x) (14 + 28 * d + 3) 0)
theorem c_putIn (C : CR P σ p t f g) (T : TV t) (F : FV B t f g) (V : CV f) (h0 : 0 ≤ d) (h1 : d < t 1) (hp : f (14 + 28 * d + 0) = -1) (x0 : 0 ≤ x) (x1 : x < 8) (h4 : 12 ≤ B) (hB : B < 1998000000) :
    ∃ σ', fX2_putIn P σ 16 d x = some σ' ∧ CR P σ' p t (pluF t f d x) g ∧ CV (pluF t f d x) ∧ Fr σ σ' ∧ FV (B + 24) t (pluF t f d x) g := by
  have n1 := T.n1; have n2 := T.n2; have MN := F.mn; have CL := V.le; have CI := fun c => couK_in (f := f) (c := c) V.c0
  have C2 := C.plu T F V h0 h1 hp (v := x)
  have F2 := F.plz T h0 h1 hp x0 x1 h4
  have V2 := (V.zu (i := 14 + 28 * d + 0) (v := x) (by omega)).zu (i := 14 + 28 * d + 3) (v := 0) (by omega)
  obtain ⟨σ', e, C3, V3, fr⟩ := c_settle C2 T F2 V2 h4 (by omega)
  refine ⟨σ', ?_, C3, V3, Fr.tr (fun o ho => by simp (disch := omega) only [wr_o]) fr, F2.set T h4 (by omega)⟩
  simp (disch := first | omega | assumption | (simp (disch := omega) only [ C.h1, C.p2, C.p3, wr_n ]; done) | fail) only [fX2_putIn, ↓z_lt, ↓z_ge, ↓z_gt, ↓z_le, ↓z_eq, ↓z_ne, ↓z_mx, ↓z_mn, ↓z_dv, ↓z_rm, ↓z_i2l, ↓z_lc, ↓z_sw, ↓z_sf, ↓z_sn, ↓z_bd, ↓z_nt, z_b0, z_b1, z_bi, z_bj, ↓z_gF, ↓z_gR, ↓z_pF, ↓z_pZ, ↓z_pR, ↓z_aI, ↓z_aR, ↓z_sI, ↓z_sZ, ↓z_on, z_cl, ↓reduceIte, Int.reduceEq, Int.reduceNeg, Int.reduceLT, Int.reduceLE, Int.reduceAdd, Int.reduceSub, Int.reduceMul, true_and, and_true, or_true, true_or, eq_self, C.h0, C.h1, C.p2, C.p3, C.p4, C.p5, C.p6, C.p7, C.p8, C.p9, C.e0, C.e1, C.e2, C.e4, C.e5, C.l2, C.l3, C.l4, C.l5, C.pr.r7, C.pr.r8, C.pr.r9, C.pr.r10, C.pr.r11, C.pr.r12, C.pr.r13, C.pr.r14, C.pr.r15, C.pr.v0, C.pr.v1, C.pr.v2, C.pr.v3, C.pr.v4, C.pr.v5, C.pr.v6, C.pr.we, C.pr.wi, C.pr.pe, C.pr.fp, C.pr.he, C.pr.ho, C.pr.ra, C.pr.pa, C.tm, C.sc, C.po, C.al, C.ho, C.mo, C.dn, C.se, C.ke, C.ca, C.co, sO16 C.sh, sO27 C.sh, sO34 C.sh, sO40 C.sh, sA28 C.sh, sA29 C.sh, sA30 C.sh, sA31 C.sh, sA32 C.sh, sA33 C.sh, sA35 C.sh, sA36 C.sh, sA37 C.sh, sA38 C.sh, sA39 C.sh, sA41 C.sh, sA42 C.sh, sA43 C.sh, sA44 C.sh, pO C.sh C.pr.hp, pA1 C.sh C.pr.hp, pA2 C.sh C.pr.hp, pA3 C.sh C.pr.hp, pA4 C.sh C.pr.hp, pA5 C.sh C.pr.hp, pA6 C.sh C.pr.hp, pA7 C.sh C.pr.hp, pA8 C.sh C.pr.hp, pA9 C.sh C.pr.hp, pN C.pr.hp, pN0 C.pr.hp, iR_t, Int.reduceAdd, ↓c_dev' C T h0 h1, wr_n, ↓e_g e]
theorem c_flow (C : CR P σ p t f g) (T : TV t) (F : FV B t f g) (V : CV f) (h0 : 0 ≤ k) (h1 : k < t 2) :
    (f (238 + 3 * k) = 1 → ∃ σ', fX2_sendOn P σ 16 k = some σ' ∧ CR P σ' p t (floF t f k) (floG t f g k) ∧ Fr σ σ') ∧ (f (238 + 3 * k) = 2 → ∃ σ', fX2_sendToPacketEnd P σ 16 k = some σ' ∧ CR P σ' p t (floF t f k) (floG t f g k) ∧ Fr σ σ') := by
  have n1 := T.n1; have n2 := T.n2; have MN := F.mn; have CL := V.le; have CI := fun c => couK_in (f := f) (c := c) V.c0
  have ra := T.ra k h0 h1
  have pa := T.pa k h0 h1
  have dn := F.dn k h0 h1
  have b1 := T.b (71 + 3 * k + 2)
  have di := div_in (x := f (238 + 3 * k + 2) + t (71 + 3 * k + 1)) (y := t (71 + 3 * k + 2)) (by omega) pa
  have ne0 : ¬ (t (71 + 3 * k + 2) = 0) := by omega
  have le0 : ¬ (t (71 + 3 * k + 2) ≤ 0) := by omega
  have MN := F.mn
  constructor
  · intro c1
    unfold floF floG
    rw [if_pos c1, if_pos c1]
    have C1 := (C.zse h0 h1 (h := g k + (f (238 + 3 * k + 2) + t (71 + 3 * k + 1)) / t (71 + 3 * k + 2)))
    refine ⟨_, ?_, C1.zdn T F V h0 h1 (h := (f (238 + 3 * k + 2) + t (71 + 3 * k + 1)) % t (71 + 3 * k + 2)), fun o ho => by simp (disch := omega) only [wr_o]⟩
    simp (disch := first | omega | assumption) only [fX2_sendOn, ↓z_lt, ↓z_ge, ↓z_gt, ↓z_le, ↓z_eq, ↓z_ne, ↓z_mx, ↓z_mn, ↓z_dv, ↓z_rm, ↓z_i2l, ↓z_lc, ↓z_sw, ↓z_sf, ↓z_sn, ↓z_bd, ↓z_nt, z_b0, z_b1, z_bi, z_bj, ↓z_gF, ↓z_gR, ↓z_pF, ↓z_pZ, ↓z_pR, ↓z_aI, ↓z_aR, ↓z_sI, ↓z_sZ, ↓z_on, z_cl, ↓reduceIte, Int.reduceEq, Int.reduceNeg, Int.reduceLT, Int.reduceLE, Int.reduceAdd, Int.reduceSub, Int.reduceMul, true_and, and_true, or_true, true_or, eq_self, C.h0, C.h1, C.p2, C.p3, C.p4, C.p5, C.p6, C.p7, C.p8, C.p9, C.e0, C.e1, C.e2, C.e4, C.e5, C.l2, C.l3, C.l4, C.l5, C.pr.r7, C.pr.r8, C.pr.r9, C.pr.r10, C.pr.r11, C.pr.r12, C.pr.r13, C.pr.r14, C.pr.r15, C.pr.v0, C.pr.v1, C.pr.v2, C.pr.v3, C.pr.v4, C.pr.v5, C.pr.v6, C.pr.we, C.pr.wi, C.pr.pe, C.pr.fp, C.pr.he, C.pr.ho, C.pr.ra, C.pr.pa, C.tm, C.sc, C.po, C.al, C.ho, C.mo, C.dn, C.se, C.ke, C.ca, C.co, sO16 C.sh, sO27 C.sh, sO34 C.sh, sO40 C.sh, sA28 C.sh, sA29 C.sh, sA30 C.sh, sA31 C.sh, sA32 C.sh, sA33 C.sh, sA35 C.sh, sA36 C.sh, sA37 C.sh, sA38 C.sh, sA39 C.sh, sA41 C.sh, sA42 C.sh, sA43 C.sh, sA44 C.sh, pO C.sh C.pr.hp, pA1 C.sh C.pr.hp, pA2 C.sh C.pr.hp, pA3 C.sh C.pr.hp, pA4 C.sh C.pr.hp, pA5 C.sh C.pr.hp, pA6 C.sh C.pr.hp, pA7 C.sh C.pr.hp, pA8 C.sh C.pr.hp, pA9 C.sh C.pr.hp, pN C.pr.hp, pN0 C.pr.hp, iR_t, Int.reduceAdd, ne0, le0, T.vr, F.vr, wr_n, tdiv_nn, tmod_nn]
  · intro c1
    have c0 : ¬ (f (238 + 3 * k) = 1) := by omega
    unfold floF floG
    rw [if_neg c0, if_neg c0, if_pos c1, if_pos c1]
    by_cases c3 : f (238 + 3 * k + 2) + t (71 + 3 * k + 1) < t (71 + 3 * k + 2)
    · rw [if_pos c3, if_pos c3]
      refine ⟨_, ?_, C.zdn T F V h0 h1 (h := f (238 + 3 * k + 2) + t (71 + 3 * k + 1)), fun o ho => by simp (disch := omega) only [wr_o]⟩
      simp (disch := first | omega | assumption) only [fX2_sendToPacketEnd, ↓z_lt, ↓z_ge, ↓z_gt, ↓z_le, ↓z_eq, ↓z_ne, ↓z_mx, ↓z_mn, ↓z_dv, ↓z_rm, ↓z_i2l, ↓z_lc, ↓z_sw, ↓z_sf, ↓z_sn, ↓z_bd, ↓z_nt, z_b0, z_b1, z_bi, z_bj, ↓z_gF, ↓z_gR, ↓z_pF, ↓z_pZ, ↓z_pR, ↓z_aI, ↓z_aR, ↓z_sI, ↓z_sZ, ↓z_on, z_cl, ↓reduceIte, Int.reduceEq, Int.reduceNeg, Int.reduceLT, Int.reduceLE, Int.reduceAdd, Int.reduceSub, Int.reduceMul, true_and, and_true, or_true, true_or, eq_self, C.h0, C.h1, C.p2, C.p3, C.p4, C.p5, C.p6, C.p7, C.p8, C.p9, C.e0, C.e1, C.e2, C.e4, C.e5, C.l2, C.l3, C.l4, C.l5, C.pr.r7, C.pr.r8, C.pr.r9, C.pr.r10, C.pr.r11, C.pr.r12, C.pr.r13, C.pr.r14, C.pr.r15, C.pr.v0, C.pr.v1, C.pr.v2, C.pr.v3, C.pr.v4, C.pr.v5, C.pr.v6, C.pr.we, C.pr.wi, C.pr.pe, C.pr.fp, C.pr.he, C.pr.ho, C.pr.ra, C.pr.pa, C.tm, C.sc, C.po, C.al, C.ho, C.mo, C.dn, C.se, C.ke, C.ca, C.co, sO16 C.sh, sO27 C.sh, sO34 C.sh, sO40 C.sh, sA28 C.sh, sA29 C.sh, sA30 C.sh, sA31 C.sh, sA32 C.sh, sA33 C.sh, sA35 C.sh, sA36 C.sh, sA37 C.sh, sA38 C.sh, sA39 C.sh, sA41 C.sh, sA42 C.sh, sA43 C.sh, sA44 C.sh, pO C.sh C.pr.hp, pA1 C.sh C.pr.hp, pA2 C.sh C.pr.hp, pA3 C.sh C.pr.hp, pA4 C.sh C.pr.hp, pA5 C.sh C.pr.hp, pA6 C.sh C.pr.hp, pA7 C.sh C.pr.hp, pA8 C.sh C.pr.hp, pA9 C.sh C.pr.hp, pN C.pr.hp, pN0 C.pr.hp, iR_t, Int.reduceAdd, c3, T.vr, F.vr, wr_n]
    · rw [if_neg c3, if_neg c3]
      have C1 := (C.zse h0 h1 (h := g k + 1))
      refine ⟨_, ?_, C1.zdn T F V h0 h1 (h := 0), fun o ho => by simp (disch := omega) only [wr_o]⟩
      simp (disch := first | omega | assumption) only [fX2_sendToPacketEnd, ↓z_lt, ↓z_ge, ↓z_gt, ↓z_le, ↓z_eq, ↓z_ne, ↓z_mx, ↓z_mn, ↓z_dv, ↓z_rm, ↓z_i2l, ↓z_lc, ↓z_sw, ↓z_sf, ↓z_sn, ↓z_bd, ↓z_nt, z_b0, z_b1, z_bi, z_bj, ↓z_gF, ↓z_gR, ↓z_pF, ↓z_pZ, ↓z_pR, ↓z_aI, ↓z_aR, ↓z_sI, ↓z_sZ, ↓z_on, z_cl, ↓reduceIte, Int.reduceEq, Int.reduceNeg, Int.reduceLT, Int.reduceLE, Int.reduceAdd, Int.reduceSub, Int.reduceMul, true_and, and_true, or_true, true_or, eq_self, C.h0, C.h1, C.p2, C.p3, C.p4, C.p5, C.p6, C.p7, C.p8, C.p9, C.e0, C.e1, C.e2, C.e4, C.e5, C.l2, C.l3, C.l4, C.l5, C.pr.r7, C.pr.r8, C.pr.r9, C.pr.r10, C.pr.r11, C.pr.r12, C.pr.r13, C.pr.r14, C.pr.r15, C.pr.v0, C.pr.v1, C.pr.v2, C.pr.v3, C.pr.v4, C.pr.v5, C.pr.v6, C.pr.we, C.pr.wi, C.pr.pe, C.pr.fp, C.pr.he, C.pr.ho, C.pr.ra, C.pr.pa, C.tm, C.sc, C.po, C.al, C.ho, C.mo, C.dn, C.se, C.ke, C.ca, C.co, sO16 C.sh, sO27 C.sh, sO34 C.sh, sO40 C.sh, sA28 C.sh, sA29 C.sh, sA30 C.sh, sA31 C.sh, sA32 C.sh, sA33 C.sh, sA35 C.sh, sA36 C.sh, sA37 C.sh, sA38 C.sh, sA39 C.sh, sA41 C.sh, sA42 C.sh, sA43 C.sh, sA44 C.sh, pO C.sh C.pr.hp, pA1 C.sh C.pr.hp, pA2 C.sh C.pr.hp, pA3 C.sh C.pr.hp, pA4 C.sh C.pr.hp, pA5 C.sh C.pr.hp, pA6 C.sh C.pr.hp, pA7 C.sh C.pr.hp, pA8 C.sh C.pr.hp, pA9 C.sh C.pr.hp, pN C.pr.hp, pN0 C.pr.hp, iR_t, Int.reduceAdd, c3, T.vr, F.vr, wr_n]
end ZU
