/-! THE PUBLIC METHODS that change, on a good state. -/
section ZZ4
variable {P : Shp} {σ σ' σ1 σ2 σ3 σ4 σ5 s : St} {t f f' f2 g g' : Int → Int} {B B' : Int} {a b b' d k p q kind who m h j c x y i v w part N K D : Int} {n : Nat}
/-- what a change does: the good state, the snapshots as they were -/
def Chg (P : Shp) (σ σ2 : St) (p : Int) (t f' g' : Int → Int) (B' : Int) : Prop := GR P σ2 p t f' g' B' ∧ (∀ j, 227 ≤ j → j < 265 → σ2 j = σ j) ∧ (∀ j, 265 ≤ j → σ2 j = σ j)
theorem Chg.of (G : GR P σ p t f g B) (kc : KC σ σ2 t f g) (C2 : CR P σ2 p t f' g') (F5 : FV B' t f' g') (V5 : CV f') : Chg P σ σ2 p t f' g' B' :=
  ⟨G.chg kc C2 F5 V5, fun j h0 h1 => kc_sn kc G h0 h1, fun j h0 => by have hn := G.hn; exact kc.o j (by omega) (by omega) (by omega)⟩
/-- frames pass -/
def frsF (t : Int → Int) (n : Nat) (q : (Int → Int) × (Int → Int)) : (Int → Int) × (Int → Int) := forI (fun _ q => frmF t q) n q
theorem FV.frs {q : (Int → Int) × (Int → Int)} (F : FV B t q.1 q.2) (T : TV t) (hn : n ≤ 200) (h4 : 10000 ≤ B) (hB : B < 1999000000) : FV (B + 60 * (n : Int)) t (frsF t n q).1 (frsF t n q).2 := by
  unfold frsF
  exact forI_inv (F := fun _ q => frmF t q) (N := n) (a := q) (I := fun k a => FV (B + 60 * (k : Int)) t a.1 a.2) (fun k a hk G => by
    have := G.frm T (by omega) (by omega)
    rw [show B + 60 * ((k + 1 : Nat) : Int) = B + 60 * (k : Int) + 60 by push_cast; omega]; exact this) (by simpa using F)
theorem c_framesL {q : (Int → Int) × (Int → Int)} (C : CR P σ p t q.1 q.2) (T : TV t) (F : FV B t q.1 q.2) (V : CV q.1) (y0 : okO P 7 0 = true) (y1 : σ 0 1 = 16) (h0 : 0 ≤ a) (h1 : a ≤ 200) (h4 : 10000 ≤ B) (hB : B < 1999000000) (kE : St → Option (Int × St)) : ∃ σ', fX7_frames_L38 P 0 a kE 1000 0 σ = kE σ' ∧ CR P σ' p t (frsF t a.toNat q).1 (frsF t a.toNat q).2 ∧ CV (frsF t a.toNat q).1 ∧ Fr σ σ' := by
  unfold frsF
  obtain ⟨s, e, r1, r2, r3, r4⟩ := loop_r (fun m k (s : St) => fX7_frames_L38 P 0 a kE m k s) kE a.toNat (fun _ q => frmF t q) (fun k s a' => CR P s p t a'.1 a'.2 ∧ CV a'.1 ∧ Fr σ s ∧ FV (B + 60 * (k : Int)) t a'.1 a'.2) (fun k m s a' hk hI => by
      obtain ⟨C, V, fr, G⟩ := hI
      have hk2 : ¬ (a ≤ (k : Int)) := by omega
      have z1 : s 0 1 = 16 := by rw [fr 0 (by omega)]; exact y1
      obtain ⟨s', e, C2, V2, fr2⟩ := c_passFrame C T G V (by omega) (by omega)
      have G2 := G.frm T (by omega) (by omega)
      refine ⟨s', ?_, C2, V2, fr.tr fr2, by rw [show B + 60 * ((k + 1 : Nat) : Int) = B + 60 * (k : Int) + 60 by push_cast; omega]; exact G2⟩
      simp (disch := first | omega | assumption | (simp (disch := omega) only [ z1 ]; done) | fail) only [fX7_frames_L38, ↓z_lt, ↓z_ge, ↓z_gt, ↓z_le, ↓z_eq, ↓z_ne, ↓z_mx, ↓z_mn, ↓z_dv, ↓z_rm, ↓z_i2l, ↓z_lc, ↓z_sw, ↓z_sf, ↓z_sn, ↓z_bd, ↓z_nt, z_b0, z_b1, z_bi, z_bj, ↓z_gF, ↓z_gR, ↓z_pF, ↓z_pZ, ↓z_pR, ↓z_aI, ↓z_aR, ↓z_sI, ↓z_sZ, ↓z_on, z_cl, ↓reduceIte, Int.reduceEq, Int.reduceNeg, Int.reduceLT, Int.reduceLE, Int.reduceAdd, Int.reduceSub, Int.reduceMul, true_and, and_true, or_true, true_or, eq_self, C.h0, C.h1, C.p2, C.p3, C.p4, C.p5, C.p6, C.p7, C.p8, C.p9, C.e0, C.e1, C.e2, C.e4, C.e5, C.l2, C.l3, C.l4, C.l5, C.pr.r7, C.pr.r8, C.pr.r9, C.pr.r10, C.pr.r11, C.pr.r12, C.pr.r13, C.pr.r14, C.pr.r15, C.pr.v0, C.pr.v1, C.pr.v2, C.pr.v3, C.pr.v4, C.pr.v5, C.pr.v6, C.pr.we, C.pr.wi, C.pr.pe, C.pr.fp, C.pr.he, C.pr.ho, C.pr.ra, C.pr.pa, C.tm, C.sc, C.po, C.al, C.ho, C.mo, C.dn, C.se, C.ke, C.ca, C.co, sO16 C.sh, sO27 C.sh, sO34 C.sh, sO40 C.sh, sA28 C.sh, sA29 C.sh, sA30 C.sh, sA31 C.sh, sA32 C.sh, sA33 C.sh, sA35 C.sh, sA36 C.sh, sA37 C.sh, sA38 C.sh, sA39 C.sh, sA41 C.sh, sA42 C.sh, sA43 C.sh, sA44 C.sh, pO C.sh C.pr.hp, pA1 C.sh C.pr.hp, pA2 C.sh C.pr.hp, pA3 C.sh C.pr.hp, pA4 C.sh C.pr.hp, pA5 C.sh C.pr.hp, pA6 C.sh C.pr.hp, pA7 C.sh C.pr.hp, pA8 C.sh C.pr.hp, pA9 C.sh C.pr.hp, pN C.pr.hp, pN0 C.pr.hp, iR_t, Int.reduceAdd, hk2, y0, z1, ↓e_g e])
      (fun m s a' hI => by
        have e : ((a.toNat : Nat) : Int) = a := by omega
        simp (disch := first | omega | assumption) only [fX7_frames_L38, ↓z_lt, ↓z_ge, ↓z_gt, ↓z_le, ↓z_eq, ↓z_ne, ↓z_mx, ↓z_mn, ↓z_dv, ↓z_rm, ↓z_i2l, ↓z_lc, ↓z_sw, ↓z_sf, ↓z_sn, ↓z_bd, ↓z_nt, z_b0, z_b1, z_bi, z_bj, ↓z_gF, ↓z_gR, ↓z_pF, ↓z_pZ, ↓z_pR, ↓z_aI, ↓z_aR, ↓z_sI, ↓z_sZ, ↓z_on, z_cl, ↓reduceIte, Int.reduceEq, Int.reduceNeg, Int.reduceLT, Int.reduceLE, Int.reduceAdd, Int.reduceSub, Int.reduceMul, true_and, and_true, or_true, true_or, eq_self, iR_t, e, Int.le_refl]) (m := 1000) (a := σ) (c := q) (by omega) ⟨C, V, Fr.rf, by simpa using F⟩
  exact ⟨s, e, r1, r2, r3⟩
theorem resv_iR (T : TV t) : iR (resvF t f) = true := by
  have := resvF_in (f := f) T
  exact iR_t (by omega) (by omega)
theorem ch_frames (G : GR P σ p t f g B) (h12 : 10000 ≤ B) (hB : B ≤ 1900000000) (c0 : 1 ≤ a) (c1 : a ≤ 200) : ∃ σ2, fX7_frames P σ 0 a = some (resvF t (frsF t a.toNat (f, g)).1, σ2) ∧ Chg P σ σ2 p t (frsF t a.toNat (f, g)).1 (frsF t a.toNat (f, g)).2 (B + 12000) := by
  have C := G.cr; have T := G.tv; have F := G.fv; have V := G.cv; have n0 := T.n0; have n1 := T.n1; have n2 := T.n2
  obtain ⟨σ1, e1, kc, C1⟩ := c_remember G
  obtain ⟨y1, y2⟩ := kc_01 kc G
  have r1 : ¬ (a < 1) := by omega
  obtain ⟨σ2, e2, C2, V2, fr2⟩ := c_framesL (q := (f, g)) C1 T F V (sO0 C.sh) y1 (by omega) c1 h12 (by omega) (fun s8 =>
            gR P 7 s8 0 1 fun x9 =>
            onO P 2 x9 <| cl (fX2_reserved P s8 x9) fun x10 =>
            some ((x10 : Int), s8))
  have F2 := FV.frs (q := (f, g)) (n := a.toNat) F T (by omega) h12 (by omega)
  have z1 : σ2 0 1 = 16 := by rw [fr2 0 (by omega)]; exact y1
  have z2 := z1
  have e2s := fun s (h : s = σ1) => (congrArg (fX7_frames_L38 P 0 a _ 1000 0) h).trans e2
  refine ⟨σ2, ?_, Chg.of G (kc.fr G.hn fr2) C2 (F2.mono (by omega) (by omega)) V2⟩
  simp (disch := first | omega | assumption | (simp (disch := omega) only [G.x1, G.x2, C.h1, y1, y2, z1, z2]; done) | fail) only [fX7_frames, ↓z_lt, ↓z_ge, ↓z_gt, ↓z_le, ↓z_eq, ↓z_ne, ↓z_mx, ↓z_mn, ↓z_dv, ↓z_rm, ↓z_i2l, ↓z_lc, ↓z_sw, ↓z_sf, ↓z_sn, ↓z_bd, ↓z_nt, z_b0, z_b1, z_bi, z_bj, ↓z_gF, ↓z_gR, ↓z_pF, ↓z_pZ, ↓z_pR, ↓z_aI, ↓z_aR, ↓z_sI, ↓z_sZ, ↓z_on, z_cl, ↓reduceIte, Int.reduceEq, Int.reduceNeg, Int.reduceLT, Int.reduceLE, Int.reduceAdd, Int.reduceSub, Int.reduceMul, true_and, and_true, or_true, true_or, eq_self, C.h0, C.h1, C.p2, C.p3, C.p4, C.p5, C.p6, C.p7, C.p8, C.p9, C.e0, C.e1, C.e2, C.e4, C.e5, C.l2, C.l3, C.l4, C.l5, C.pr.r7, C.pr.r8, C.pr.r9, C.pr.r10, C.pr.r11, C.pr.r12, C.pr.r13, C.pr.r14, C.pr.r15, C.pr.v0, C.pr.v1, C.pr.v2, C.pr.v3, C.pr.v4, C.pr.v5, C.pr.v6, C.pr.we, C.pr.wi, C.pr.pe, C.pr.fp, C.pr.he, C.pr.ho, C.pr.ra, C.pr.pa, C.tm, C.sc, C.po, C.al, C.ho, C.mo, C.dn, C.se, C.ke, C.ca, C.co, sO16 C.sh, sO27 C.sh, sO34 C.sh, sO40 C.sh, sA28 C.sh, sA29 C.sh, sA30 C.sh, sA31 C.sh, sA32 C.sh, sA33 C.sh, sA35 C.sh, sA36 C.sh, sA37 C.sh, sA38 C.sh, sA39 C.sh, sA41 C.sh, sA42 C.sh, sA43 C.sh, sA44 C.sh, pO C.sh C.pr.hp, pA1 C.sh C.pr.hp, pA2 C.sh C.pr.hp, pA3 C.sh C.pr.hp, pA4 C.sh C.pr.hp, pA5 C.sh C.pr.hp, pA6 C.sh C.pr.hp, pA7 C.sh C.pr.hp, pA8 C.sh C.pr.hp, pA9 C.sh C.pr.hp, pN C.pr.hp, pN0 C.pr.hp, iR_t, Int.reduceAdd, G.x0, G.x1, G.x2, G.x3, G.x4, G.h0, sO0 C.sh, sO1 C.sh, sO45 C.sh, iR_t, r1, c1, ↓e_g e1, ↓e2s, z1, ↓e_g (c_reserved C2 T F2)]
theorem ch_fail (G : GR P σ p t f g B) (h12 : 10000 ≤ B) (hB : B ≤ 1900000000) (h0 : 0 ≤ a) (h1 : a < t 1) (hp : f (14 + 28 * a + 0) ≠ -1) (k0 : 0 ≤ w) (k1 : w < 4) : ∃ σ2, fX7_fail P σ 0 a w = some (scoF t (takF t f a w) a, σ2) ∧ Chg P σ σ2 p t (takF t f a w) g (B + 12000) := by
  have C := G.cr; have T := G.tv; have F := G.fv; have V := G.cv; have n0 := T.n0; have n1 := T.n1; have n2 := T.n2
  obtain ⟨σ1, e1, kc, C1⟩ := c_remember G
  obtain ⟨y1, y2⟩ := kc_01 kc G
  obtain ⟨σ2, e2, C2, V2, fr2, F2⟩ := c_takeError C1 T F V h0 h1 hp k0 k1 (by omega) (by omega)
  have z1 : σ2 0 1 = 16 := by rw [fr2 0 (by omega)]; exact y1
  have z2 := z1
  refine ⟨σ2, ?_, Chg.of G (kc.fr G.hn fr2) C2 (F2.mono (by omega) (by omega)) V2⟩
  simp (disch := first | omega | assumption | (simp (disch := omega) only [G.x1, G.x2, C.h1, y1, y2, z1, z2]; done) | fail) only [fX7_fail, ↓z_lt, ↓z_ge, ↓z_gt, ↓z_le, ↓z_eq, ↓z_ne, ↓z_mx, ↓z_mn, ↓z_dv, ↓z_rm, ↓z_i2l, ↓z_lc, ↓z_sw, ↓z_sf, ↓z_sn, ↓z_bd, ↓z_nt, z_b0, z_b1, z_bi, z_bj, ↓z_gF, ↓z_gR, ↓z_pF, ↓z_pZ, ↓z_pR, ↓z_aI, ↓z_aR, ↓z_sI, ↓z_sZ, ↓z_on, z_cl, ↓reduceIte, Int.reduceEq, Int.reduceNeg, Int.reduceLT, Int.reduceLE, Int.reduceAdd, Int.reduceSub, Int.reduceMul, true_and, and_true, or_true, true_or, eq_self, C.h0, C.h1, C.p2, C.p3, C.p4, C.p5, C.p6, C.p7, C.p8, C.p9, C.e0, C.e1, C.e2, C.e4, C.e5, C.l2, C.l3, C.l4, C.l5, C.pr.r7, C.pr.r8, C.pr.r9, C.pr.r10, C.pr.r11, C.pr.r12, C.pr.r13, C.pr.r14, C.pr.r15, C.pr.v0, C.pr.v1, C.pr.v2, C.pr.v3, C.pr.v4, C.pr.v5, C.pr.v6, C.pr.we, C.pr.wi, C.pr.pe, C.pr.fp, C.pr.he, C.pr.ho, C.pr.ra, C.pr.pa, C.tm, C.sc, C.po, C.al, C.ho, C.mo, C.dn, C.se, C.ke, C.ca, C.co, sO16 C.sh, sO27 C.sh, sO34 C.sh, sO40 C.sh, sA28 C.sh, sA29 C.sh, sA30 C.sh, sA31 C.sh, sA32 C.sh, sA33 C.sh, sA35 C.sh, sA36 C.sh, sA37 C.sh, sA38 C.sh, sA39 C.sh, sA41 C.sh, sA42 C.sh, sA43 C.sh, sA44 C.sh, pO C.sh C.pr.hp, pA1 C.sh C.pr.hp, pA2 C.sh C.pr.hp, pA3 C.sh C.pr.hp, pA4 C.sh C.pr.hp, pA5 C.sh C.pr.hp, pA6 C.sh C.pr.hp, pA7 C.sh C.pr.hp, pA8 C.sh C.pr.hp, pA9 C.sh C.pr.hp, pN C.pr.hp, pN0 C.pr.hp, iR_t, Int.reduceAdd, G.x0, G.x1, G.x2, G.x3, G.x4, G.h0, sO0 C.sh, sO1 C.sh, sO45 C.sh, ↓e_g (rq_dev G h0 h1), ↓e_g (rq_kind (P := P) (σ := σ) k0 k1), ↓e_g (rq_plug G h0 h1 hp), ↓e_g e1, y1, z1, ↓e_g e2, ↓e_g (c_scoreOf C2 T F2 h0 h1)]
theorem ch_warn (G : GR P σ p t f g B) (h12 : 10000 ≤ B) (hB : B ≤ 1900000000) (h0 : 0 ≤ a) (h1 : a < t 1) (hp : f (14 + 28 * a + 0) ≠ -1) (ha : f (14 + 28 * a + 1) ≠ 1) : ∃ σ2, fX7_warn P σ 0 a = some (clF t f a, σ2) ∧ Chg P σ σ2 p t (alaF t f a) g (B + 12000) := by
  have C := G.cr; have T := G.tv; have F := G.fv; have V := G.cv; have n0 := T.n0; have n1 := T.n1; have n2 := T.n2
  obtain ⟨σ1, e1, kc, C1⟩ := c_remember G
  obtain ⟨y1, y2⟩ := kc_01 kc G
  obtain ⟨σ2, e2, C2, V2, fr2⟩ := c_beginAlarm C1 T F V h0 h1 hp (by omega) (by omega)
  have z1 : σ2 0 1 = 16 := by rw [fr2 0 (by omega)]; exact y1
  have z2 := z1
  have F2 := (F.dev T h0 h1 (Or.inr rfl) ⟨F.tm, (F.bl 0).2⟩ (fun _ => hp) (by omega)).1.hap T (kind := 0) (who := a) (by omega) (by omega) (by omega) (by omega) (by omega) (by omega)
  obtain ⟨σ3, e3, C3, V3, fr3⟩ := c_settle C2 T F2 V2 (by omega) (by omega)
  have F3 := F.ala T h0 h1 hp (by omega) (by omega)
  have ei := c_inAlarm C T F h0 h1
  rw [if_neg ha] at ei
  refine ⟨σ3, ?_, Chg.of G (kc.fr G.hn (fr2.tr fr3)) C3 (F3.mono (by omega) (by omega)) V3⟩
  simp (disch := first | omega | assumption | (simp (disch := omega) only [G.x1, G.x2, C.h1, y1, y2, z1, z2]; done) | fail) only [fX7_warn, ↓z_lt, ↓z_ge, ↓z_gt, ↓z_le, ↓z_eq, ↓z_ne, ↓z_mx, ↓z_mn, ↓z_dv, ↓z_rm, ↓z_i2l, ↓z_lc, ↓z_sw, ↓z_sf, ↓z_sn, ↓z_bd, ↓z_nt, z_b0, z_b1, z_bi, z_bj, ↓z_gF, ↓z_gR, ↓z_pF, ↓z_pZ, ↓z_pR, ↓z_aI, ↓z_aR, ↓z_sI, ↓z_sZ, ↓z_on, z_cl, ↓reduceIte, Int.reduceEq, Int.reduceNeg, Int.reduceLT, Int.reduceLE, Int.reduceAdd, Int.reduceSub, Int.reduceMul, true_and, and_true, or_true, true_or, eq_self, C.h0, C.h1, C.p2, C.p3, C.p4, C.p5, C.p6, C.p7, C.p8, C.p9, C.e0, C.e1, C.e2, C.e4, C.e5, C.l2, C.l3, C.l4, C.l5, C.pr.r7, C.pr.r8, C.pr.r9, C.pr.r10, C.pr.r11, C.pr.r12, C.pr.r13, C.pr.r14, C.pr.r15, C.pr.v0, C.pr.v1, C.pr.v2, C.pr.v3, C.pr.v4, C.pr.v5, C.pr.v6, C.pr.we, C.pr.wi, C.pr.pe, C.pr.fp, C.pr.he, C.pr.ho, C.pr.ra, C.pr.pa, C.tm, C.sc, C.po, C.al, C.ho, C.mo, C.dn, C.se, C.ke, C.ca, C.co, sO16 C.sh, sO27 C.sh, sO34 C.sh, sO40 C.sh, sA28 C.sh, sA29 C.sh, sA30 C.sh, sA31 C.sh, sA32 C.sh, sA33 C.sh, sA35 C.sh, sA36 C.sh, sA37 C.sh, sA38 C.sh, sA39 C.sh, sA41 C.sh, sA42 C.sh, sA43 C.sh, sA44 C.sh, pO C.sh C.pr.hp, pA1 C.sh C.pr.hp, pA2 C.sh C.pr.hp, pA3 C.sh C.pr.hp, pA4 C.sh C.pr.hp, pA5 C.sh C.pr.hp, pA6 C.sh C.pr.hp, pA7 C.sh C.pr.hp, pA8 C.sh C.pr.hp, pA9 C.sh C.pr.hp, pN C.pr.hp, pN0 C.pr.hp, iR_t, Int.reduceAdd, G.x0, G.x1, G.x2, G.x3, G.x4, G.h0, sO0 C.sh, sO1 C.sh, sO45 C.sh, ↓e_g (rq_dev G h0 h1), ↓e_g (rq_plug G h0 h1 hp), ↓e_g ei, ↓e_g e1, y1, z1, ↓e_g (c_clearingFrames C1 T F h0 h1), ↓e_g e2, ↓e_g e3]
theorem hm_iR (T : TV t) : iR (hmF t f d) = true := by
  have := hmF_in (f := f) (d := d) T
  exact iR_t (by omega) (by omega)
theorem bc_hb (T : TV t) : bcF (hbF t f d) = hmF t f d := by
  have n2 := T.n2
  rw [hbF_b, hmF_b]
  exact bits_cnt _ (by omega)
/-- an alarm is called off -/
def offF (t f : Int → Int) (d : Int) : Int → Int := setF t (calF f d)
theorem ch_callOff (G : GR P σ p t f g B) (h12 : 10000 ≤ B) (hB : B ≤ 1900000000) (h0 : 0 ≤ a) (h1 : a < t 1) (ha : f (14 + 28 * a + 1) = 1) : ∃ σ2, fX7_callOff P σ 0 a = some (hmF t (offF t f a) a, σ2) ∧ Chg P σ σ2 p t (offF t f a) g (B + 12000) := by
  have C := G.cr; have T := G.tv; have F := G.fv; have V := G.cv; have n0 := T.n0; have n1 := T.n1; have n2 := T.n2
  obtain ⟨σ1, e1, kc, C1⟩ := c_remember G
  obtain ⟨y1, y2⟩ := kc_01 kc G
  obtain ⟨σ2, e2, C2, V2, fr2⟩ := c_endWrongAlarm C1 T F V h0 h1 (by omega) (by omega)
  have z1 : σ2 0 1 = 16 := by rw [fr2 0 (by omega)]; exact y1
  have F2 := F.cal T h0 h1 (by omega) (by omega)
  obtain ⟨σ3, e3, C3, V3, fr3⟩ := c_settle C2 T F2 V2 (by omega) (by omega)
  have z2 : σ3 0 1 = 16 := by rw [fr3 0 (by omega)]; exact z1
  have F3 := F2.set T (by omega) (by omega)
  have hb := bc_hb (f := setF t (calF f a)) (d := a) T
  have hbi : iR (hbF t (setF t (calF f a)) a) = true := bitsF_R _ _
  have ei := c_inAlarm C T F h0 h1
  rw [if_pos ha] at ei
  refine ⟨σ3, ?_, Chg.of G (kc.fr G.hn (fr2.tr fr3)) C3 (F3.mono (by omega) (by omega)) V3⟩
  unfold offF
  simp (disch := first | omega | assumption | (simp (disch := omega) only [G.x1, G.x2, C.h1, y1, y2, z1, z2]; done) | fail) only [fX7_callOff, ↓z_lt, ↓z_ge, ↓z_gt, ↓z_le, ↓z_eq, ↓z_ne, ↓z_mx, ↓z_mn, ↓z_dv, ↓z_rm, ↓z_i2l, ↓z_lc, ↓z_sw, ↓z_sf, ↓z_sn, ↓z_bd, ↓z_nt, z_b0, z_b1, z_bi, z_bj, ↓z_gF, ↓z_gR, ↓z_pF, ↓z_pZ, ↓z_pR, ↓z_aI, ↓z_aR, ↓z_sI, ↓z_sZ, ↓z_on, z_cl, ↓reduceIte, Int.reduceEq, Int.reduceNeg, Int.reduceLT, Int.reduceLE, Int.reduceAdd, Int.reduceSub, Int.reduceMul, true_and, and_true, or_true, true_or, eq_self, C.h0, C.h1, C.p2, C.p3, C.p4, C.p5, C.p6, C.p7, C.p8, C.p9, C.e0, C.e1, C.e2, C.e4, C.e5, C.l2, C.l3, C.l4, C.l5, C.pr.r7, C.pr.r8, C.pr.r9, C.pr.r10, C.pr.r11, C.pr.r12, C.pr.r13, C.pr.r14, C.pr.r15, C.pr.v0, C.pr.v1, C.pr.v2, C.pr.v3, C.pr.v4, C.pr.v5, C.pr.v6, C.pr.we, C.pr.wi, C.pr.pe, C.pr.fp, C.pr.he, C.pr.ho, C.pr.ra, C.pr.pa, C.tm, C.sc, C.po, C.al, C.ho, C.mo, C.dn, C.se, C.ke, C.ca, C.co, sO16 C.sh, sO27 C.sh, sO34 C.sh, sO40 C.sh, sA28 C.sh, sA29 C.sh, sA30 C.sh, sA31 C.sh, sA32 C.sh, sA33 C.sh, sA35 C.sh, sA36 C.sh, sA37 C.sh, sA38 C.sh, sA39 C.sh, sA41 C.sh, sA42 C.sh, sA43 C.sh, sA44 C.sh, pO C.sh C.pr.hp, pA1 C.sh C.pr.hp, pA2 C.sh C.pr.hp, pA3 C.sh C.pr.hp, pA4 C.sh C.pr.hp, pA5 C.sh C.pr.hp, pA6 C.sh C.pr.hp, pA7 C.sh C.pr.hp, pA8 C.sh C.pr.hp, pA9 C.sh C.pr.hp, pN C.pr.hp, pN0 C.pr.hp, iR_t, Int.reduceAdd, G.x0, G.x1, G.x2, G.x3, G.x4, G.h0, sO0 C.sh, sO1 C.sh, sO45 C.sh, ↓e_g (rq_dev G h0 h1), ↓e_g ei, ↓e_g e1, y1, y2, z1, z2, ↓e_g e2, ↓e_g e3, ↓e_g (c_heldBits C3 T F3 h0 h1), ↓bc_f', hb, hbi]
theorem ch_unplug (G : GR P σ p t f g B) (h12 : 10000 ≤ B) (hB : B ≤ 1900000000) (h0 : 0 ≤ a) (h1 : a < t 1) (hp : f (14 + 28 * a + 0) ≠ -1) : ∃ σ2, fX7_unplug P σ 0 a = some (stF t f a, σ2) ∧ Chg P σ σ2 p t (unpF t f a) g (B + 200000) := by
  have C := G.cr; have T := G.tv; have F := G.fv; have V := G.cv; have n0 := T.n0; have n1 := T.n1; have n2 := T.n2
  obtain ⟨σ1, e1, kc, C1⟩ := c_remember G
  obtain ⟨y1, y2⟩ := kc_01 kc G
  obtain ⟨σ2, e2, C2, V2, fr2⟩ := c_pullOut C1 T F V h0 h1 (by omega) (by omega)
  have F2 := F.unp T h0 h1 (by omega) (by omega)
  have z1 := y1
  have z2 := y1
  refine ⟨σ2, ?_, Chg.of G (kc.fr G.hn fr2) C2 (F2.mono (by omega) (by omega)) V2⟩
  simp (disch := first | omega | assumption | (simp (disch := omega) only [G.x1, G.x2, C.h1, y1, y2, z1, z2]; done) | fail) only [fX7_unplug, ↓z_lt, ↓z_ge, ↓z_gt, ↓z_le, ↓z_eq, ↓z_ne, ↓z_mx, ↓z_mn, ↓z_dv, ↓z_rm, ↓z_i2l, ↓z_lc, ↓z_sw, ↓z_sf, ↓z_sn, ↓z_bd, ↓z_nt, z_b0, z_b1, z_bi, z_bj, ↓z_gF, ↓z_gR, ↓z_pF, ↓z_pZ, ↓z_pR, ↓z_aI, ↓z_aR, ↓z_sI, ↓z_sZ, ↓z_on, z_cl, ↓reduceIte, Int.reduceEq, Int.reduceNeg, Int.reduceLT, Int.reduceLE, Int.reduceAdd, Int.reduceSub, Int.reduceMul, true_and, and_true, or_true, true_or, eq_self, C.h0, C.h1, C.p2, C.p3, C.p4, C.p5, C.p6, C.p7, C.p8, C.p9, C.e0, C.e1, C.e2, C.e4, C.e5, C.l2, C.l3, C.l4, C.l5, C.pr.r7, C.pr.r8, C.pr.r9, C.pr.r10, C.pr.r11, C.pr.r12, C.pr.r13, C.pr.r14, C.pr.r15, C.pr.v0, C.pr.v1, C.pr.v2, C.pr.v3, C.pr.v4, C.pr.v5, C.pr.v6, C.pr.we, C.pr.wi, C.pr.pe, C.pr.fp, C.pr.he, C.pr.ho, C.pr.ra, C.pr.pa, C.tm, C.sc, C.po, C.al, C.ho, C.mo, C.dn, C.se, C.ke, C.ca, C.co, sO16 C.sh, sO27 C.sh, sO34 C.sh, sO40 C.sh, sA28 C.sh, sA29 C.sh, sA30 C.sh, sA31 C.sh, sA32 C.sh, sA33 C.sh, sA35 C.sh, sA36 C.sh, sA37 C.sh, sA38 C.sh, sA39 C.sh, sA41 C.sh, sA42 C.sh, sA43 C.sh, sA44 C.sh, pO C.sh C.pr.hp, pA1 C.sh C.pr.hp, pA2 C.sh C.pr.hp, pA3 C.sh C.pr.hp, pA4 C.sh C.pr.hp, pA5 C.sh C.pr.hp, pA6 C.sh C.pr.hp, pA7 C.sh C.pr.hp, pA8 C.sh C.pr.hp, pA9 C.sh C.pr.hp, pN C.pr.hp, pN0 C.pr.hp, iR_t, Int.reduceAdd, G.x0, G.x1, G.x2, G.x3, G.x4, G.h0, sO0 C.sh, sO1 C.sh, sO45 C.sh, ↓e_g (rq_dev G h0 h1), ↓e_g (rq_plug G h0 h1 hp), ↓e_g e1, y1, y2, ↓e_g e2]
theorem ch_plug (G : GR P σ p t f g B) (h12 : 10000 ≤ B) (hB : B ≤ 1900000000) (h0 : 0 ≤ a) (h1 : a < t 1) (hp : f (14 + 28 * a + 0) = -1) (w0 : 0 ≤ w) (w1 : w < t 4) (hw : apF t f w = -1) : ∃ σ2, fX7_plug P σ 0 a w = some (hmF t (pluF t f a w) a, σ2) ∧ Chg P σ σ2 p t (pluF t f a w) g (B + 12000) := by
  have C := G.cr; have T := G.tv; have F := G.fv; have V := G.cv; have n0 := T.n0; have n1 := T.n1; have n2 := T.n2
  have n4 := T.n4
  obtain ⟨σ1, e1, kc, C1⟩ := c_remember G
  obtain ⟨y1, y2⟩ := kc_01 kc G
  obtain ⟨σ2, e2, C2, V2, fr2, F2⟩ := c_putIn C1 T F V h0 h1 hp w0 (show w < 8 by omega) (by omega) (by omega)
  have z1 : σ2 0 1 = 16 := by rw [fr2 0 (by omega)]; exact y1
  have z2 := z1
  have hb := bc_hb (f := pluF t f a w) (d := a) T
  have hbi : iR (hbF t (pluF t f a w) a) = true := bitsF_R _ _
  have ei := c_isPluggedIn C T F h0 h1
  rw [if_pos hp] at ei
  have ew := c_pluggedInAt C T F (x := w) (iR_t (by omega) (by omega))
  rw [hw] at ew
  refine ⟨σ2, ?_, Chg.of G (kc.fr G.hn fr2) C2 (F2.mono (by omega) (by omega)) V2⟩
  simp (disch := first | omega | assumption | (simp (disch := omega) only [G.x1, G.x2, C.h1, y1, y2, z1, z2]; done) | fail) only [fX7_plug, ↓z_lt, ↓z_ge, ↓z_gt, ↓z_le, ↓z_eq, ↓z_ne, ↓z_mx, ↓z_mn, ↓z_dv, ↓z_rm, ↓z_i2l, ↓z_lc, ↓z_sw, ↓z_sf, ↓z_sn, ↓z_bd, ↓z_nt, z_b0, z_b1, z_bi, z_bj, ↓z_gF, ↓z_gR, ↓z_pF, ↓z_pZ, ↓z_pR, ↓z_aI, ↓z_aR, ↓z_sI, ↓z_sZ, ↓z_on, z_cl, ↓reduceIte, Int.reduceEq, Int.reduceNeg, Int.reduceLT, Int.reduceLE, Int.reduceAdd, Int.reduceSub, Int.reduceMul, true_and, and_true, or_true, true_or, eq_self, C.h0, C.h1, C.p2, C.p3, C.p4, C.p5, C.p6, C.p7, C.p8, C.p9, C.e0, C.e1, C.e2, C.e4, C.e5, C.l2, C.l3, C.l4, C.l5, C.pr.r7, C.pr.r8, C.pr.r9, C.pr.r10, C.pr.r11, C.pr.r12, C.pr.r13, C.pr.r14, C.pr.r15, C.pr.v0, C.pr.v1, C.pr.v2, C.pr.v3, C.pr.v4, C.pr.v5, C.pr.v6, C.pr.we, C.pr.wi, C.pr.pe, C.pr.fp, C.pr.he, C.pr.ho, C.pr.ra, C.pr.pa, C.tm, C.sc, C.po, C.al, C.ho, C.mo, C.dn, C.se, C.ke, C.ca, C.co, sO16 C.sh, sO27 C.sh, sO34 C.sh, sO40 C.sh, sA28 C.sh, sA29 C.sh, sA30 C.sh, sA31 C.sh, sA32 C.sh, sA33 C.sh, sA35 C.sh, sA36 C.sh, sA37 C.sh, sA38 C.sh, sA39 C.sh, sA41 C.sh, sA42 C.sh, sA43 C.sh, sA44 C.sh, pO C.sh C.pr.hp, pA1 C.sh C.pr.hp, pA2 C.sh C.pr.hp, pA3 C.sh C.pr.hp, pA4 C.sh C.pr.hp, pA5 C.sh C.pr.hp, pA6 C.sh C.pr.hp, pA7 C.sh C.pr.hp, pA8 C.sh C.pr.hp, pA9 C.sh C.pr.hp, pN C.pr.hp, pN0 C.pr.hp, iR_t, Int.reduceAdd, G.x0, G.x1, G.x2, G.x3, G.x4, G.h0, sO0 C.sh, sO1 C.sh, sO45 C.sh, ↓e_g (rq_dev G h0 h1), ↓e_g (rq_port G w0 w1), ↓e_g ei, ↓e_g ew, ↓e_g e1, y1, y2, z1, ↓e_g e2, ↓e_g (c_heldBits C2 T F2 h0 h1), ↓bc_f', hb, hbi]
/-- the snapshot of slot 0 -/
def SN (P : Shp) (σ : St) (t f g : Int → Int) (B : Int) : Prop := σ 228 0 = 1 ∧ SR σ 229 t f g ∧ FV B t f g ∧ CV f
theorem SN.to (h : SN P σ t f g B) (e : ∀ j, 227 ≤ j → j < 265 → σ2 j = σ j) : SN P σ2 t f g B :=
  ⟨by rw [e 228 (by omega) (by omega)]; exact h.1, h.2.1.fr fun o h1 h2 => e o (by omega) (by omega), h.2.2⟩
theorem ch_save (G : GR P σ p t f g B) : ∃ σ2, fX7_saveSnapshot P σ 0 0 = some (1, σ2) ∧ GR P σ2 p t f g B ∧ SN P σ2 t f g B ∧ (∀ j, 265 ≤ j → σ2 j = σ j) := by
  have C := G.cr; have T := G.tv; have F := G.fv; have V := G.cv; have n0 := T.n0; have n1 := T.n1; have n2 := T.n2
  have ss := G.ss 0 (by omega) (by omega)
  rw [show (229 : Int) + 18 * 0 = 229 from rfl] at ss
  have hb := isB_s (i := 0) (by omega) (by omega)
  rw [show (229 : Int) + 18 * 0 = 229 from rfl] at hb
  have hne : (27 : Int) ≠ 229 := by omega
  have ec := c_copyFrom C.sh isB_27 hb hne C.s.sp ss.2
  have SR2 := cpB_SR isB_27 hb hne T F V C.s ss.2
  have co : ∀ o, (o < 229 ∨ 246 < o) → cpB σ 27 229 o = σ o := fun o ho => cpB_o (by omega)
  have kx : cpB σ 27 229 0 4 = 228 := by rw [co 0 (by omega)]; exact G.x4
  generalize hcp : cpB σ 27 229 = σc at ec SR2 co kx
  refine ⟨wr σc 228 0 1, ?_, ?_, ?_, fun j hj => by rw [wr_o (by omega)]; exact co j (by omega)⟩
  · simp (disch := first | omega | assumption | (simp (disch := omega) only [G.x1, G.x2, G.x3, C.h1, ss.1]; done) | fail) only [fX7_saveSnapshot, ↓z_lt, ↓z_ge, ↓z_gt, ↓z_le, ↓z_eq, ↓z_ne, ↓z_mx, ↓z_mn, ↓z_dv, ↓z_rm, ↓z_i2l, ↓z_lc, ↓z_sw, ↓z_sf, ↓z_sn, ↓z_bd, ↓z_nt, z_b0, z_b1, z_bi, z_bj, ↓z_gF, ↓z_gR, ↓z_pF, ↓z_pZ, ↓z_pR, ↓z_aI, ↓z_aR, ↓z_sI, ↓z_sZ, ↓z_on, z_cl, ↓reduceIte, Int.reduceEq, Int.reduceNeg, Int.reduceLT, Int.reduceLE, Int.reduceAdd, Int.reduceSub, Int.reduceMul, true_and, and_true, or_true, true_or, eq_self, C.h0, C.h1, C.p2, C.p3, C.p4, C.p5, C.p6, C.p7, C.p8, C.p9, C.e0, C.e1, C.e2, C.e4, C.e5, C.l2, C.l3, C.l4, C.l5, C.pr.r7, C.pr.r8, C.pr.r9, C.pr.r10, C.pr.r11, C.pr.r12, C.pr.r13, C.pr.r14, C.pr.r15, C.pr.v0, C.pr.v1, C.pr.v2, C.pr.v3, C.pr.v4, C.pr.v5, C.pr.v6, C.pr.we, C.pr.wi, C.pr.pe, C.pr.fp, C.pr.he, C.pr.ho, C.pr.ra, C.pr.pa, C.tm, C.sc, C.po, C.al, C.ho, C.mo, C.dn, C.se, C.ke, C.ca, C.co, sO16 C.sh, sO27 C.sh, sO34 C.sh, sO40 C.sh, sA28 C.sh, sA29 C.sh, sA30 C.sh, sA31 C.sh, sA32 C.sh, sA33 C.sh, sA35 C.sh, sA36 C.sh, sA37 C.sh, sA38 C.sh, sA39 C.sh, sA41 C.sh, sA42 C.sh, sA43 C.sh, sA44 C.sh, pO C.sh C.pr.hp, pA1 C.sh C.pr.hp, pA2 C.sh C.pr.hp, pA3 C.sh C.pr.hp, pA4 C.sh C.pr.hp, pA5 C.sh C.pr.hp, pA6 C.sh C.pr.hp, pA7 C.sh C.pr.hp, pA8 C.sh C.pr.hp, pA9 C.sh C.pr.hp, pN C.pr.hp, pN0 C.pr.hp, iR_t, Int.reduceAdd, G.x0, G.x1, G.x2, G.x3, G.x4, G.h0, sO0 C.sh, sO1 C.sh, sO45 C.sh, iR_t, sA228 C.sh, sA227 C.sh, ss.1, hb.O0 C.sh, ↓e_g ec, kx]
  · have q : ∀ o, o ≠ 228 → (o < 229 ∨ 246 < o) → wr σc 228 0 1 o = σ o := fun o h1 h2 => by rw [wr_o h1]; exact co o h2
    have hp := C.pr.hp
    refine ⟨⟨C.sh, ?_, ?_, C.pr.ag fun o _ _ => q o (by omega) (by omega), C.s.fr fun o _ _ => q o (by omega) (by omega)⟩, T, F, V, ?_, ?_, ?_, ?_, ?_, ?_, ?_, ?_, ?_, ?_⟩
    · rw [q 16 (by omega) (by omega)]; exact C.h0
    · rw [q 16 (by omega) (by omega)]; exact C.h1
    · rw [q 0 (by omega) (by omega)]; exact G.x0
    · rw [q 0 (by omega) (by omega)]; exact G.x1
    · rw [q 0 (by omega) (by omega)]; exact G.x2
    · rw [q 0 (by omega) (by omega)]; exact G.x3
    · rw [q 0 (by omega) (by omega)]; exact G.x4
    · rw [q 45 (by omega) (by omega)]; exact G.h0
    · rw [q 45 (by omega) (by omega)]; exact G.hn
    · rw [q 45 (by omega) (by omega)]; exact G.hk
    · intro i i0 i1
      exact ⟨by rw [q 46 (by omega) (by omega)]; exact (G.hs i i0 i1).1, (G.hs i i0 i1).2.fr fun o h1 h2 => q o (by omega) (by omega)⟩
    · intro i i0 i1
      refine ⟨by rw [q 227 (by omega) (by omega)]; exact (G.ss i i0 i1).1, ?_⟩
      by_cases z : i = 0
      · subst z
        exact SR2.sp.fr fun o h1 h2 => wr_o (by omega)
      · exact (G.ss i i0 i1).2.fr fun o h1 h2 => q o (by omega) (by omega)
  · exact ⟨wr_s, SR2.fr fun o h1 h2 => wr_o (by omega), F, V⟩
theorem ch_restore (G : GR P σ p t f g B) (S : SN P σ t f' g' B') : ∃ σ2, fX7_restoreSnapshot P σ 0 0 = some (1, σ2) ∧ GR P σ2 p t f' g' B' ∧ SN P σ2 t f' g' B' ∧ (∀ j, 265 ≤ j → σ2 j = σ j) := by
  have C := G.cr; have T := G.tv; have F := G.fv; have V := G.cv; have n0 := T.n0; have n1 := T.n1; have n2 := T.n2
  have ss := G.ss 0 (by omega) (by omega)
  rw [show (229 : Int) + 18 * 0 = 229 from rfl] at ss
  have hb := isB_s (i := 0) (by omega) (by omega)
  rw [show (229 : Int) + 18 * 0 = 229 from rfl] at hb
  have hne : (229 : Int) ≠ 27 := by omega
  obtain ⟨c228, S0, F0, V0⟩ := S
  have ec := c_copyFrom C.sh hb isB_27 hne S0.sp C.s.sp
  have SR2 := cpB_SR hb isB_27 hne T F0 V0 S0 C.s.sp
  have co : ∀ o, (o < 27 ∨ 44 < o) → cpB σ 229 27 o = σ o := fun o ho => cpB_o (by omega)
  have kx : cpB σ 229 27 0 2 = 45 := by rw [co 0 (by omega)]; exact G.x2
  generalize hcp : cpB σ 229 27 = σc at ec SR2 co kx
  have q : ∀ o, o ≠ 45 → (o < 27 ∨ 44 < o) → wr σc 45 1 0 o = σ o := fun o h1 h2 => by rw [wr_o h1]; exact co o h2
  refine ⟨wr σc 45 1 0, ?_, ?_, ?_, fun j hj => q j (by omega) (by omega)⟩
  · simp (disch := first | omega | assumption | (simp (disch := omega) only [G.x1, G.x2, G.x3, C.h1, ss.1]; done) | fail) only [fX7_restoreSnapshot, fX1_clear, ↓z_lt, ↓z_ge, ↓z_gt, ↓z_le, ↓z_eq, ↓z_ne, ↓z_mx, ↓z_mn, ↓z_dv, ↓z_rm, ↓z_i2l, ↓z_lc, ↓z_sw, ↓z_sf, ↓z_sn, ↓z_bd, ↓z_nt, z_b0, z_b1, z_bi, z_bj, ↓z_gF, ↓z_gR, ↓z_pF, ↓z_pZ, ↓z_pR, ↓z_aI, ↓z_aR, ↓z_sI, ↓z_sZ, ↓z_on, z_cl, ↓reduceIte, Int.reduceEq, Int.reduceNeg, Int.reduceLT, Int.reduceLE, Int.reduceAdd, Int.reduceSub, Int.reduceMul, true_and, and_true, or_true, true_or, eq_self, C.h0, C.h1, C.p2, C.p3, C.p4, C.p5, C.p6, C.p7, C.p8, C.p9, C.e0, C.e1, C.e2, C.e4, C.e5, C.l2, C.l3, C.l4, C.l5, C.pr.r7, C.pr.r8, C.pr.r9, C.pr.r10, C.pr.r11, C.pr.r12, C.pr.r13, C.pr.r14, C.pr.r15, C.pr.v0, C.pr.v1, C.pr.v2, C.pr.v3, C.pr.v4, C.pr.v5, C.pr.v6, C.pr.we, C.pr.wi, C.pr.pe, C.pr.fp, C.pr.he, C.pr.ho, C.pr.ra, C.pr.pa, C.tm, C.sc, C.po, C.al, C.ho, C.mo, C.dn, C.se, C.ke, C.ca, C.co, sO16 C.sh, sO27 C.sh, sO34 C.sh, sO40 C.sh, sA28 C.sh, sA29 C.sh, sA30 C.sh, sA31 C.sh, sA32 C.sh, sA33 C.sh, sA35 C.sh, sA36 C.sh, sA37 C.sh, sA38 C.sh, sA39 C.sh, sA41 C.sh, sA42 C.sh, sA43 C.sh, sA44 C.sh, pO C.sh C.pr.hp, pA1 C.sh C.pr.hp, pA2 C.sh C.pr.hp, pA3 C.sh C.pr.hp, pA4 C.sh C.pr.hp, pA5 C.sh C.pr.hp, pA6 C.sh C.pr.hp, pA7 C.sh C.pr.hp, pA8 C.sh C.pr.hp, pA9 C.sh C.pr.hp, pN C.pr.hp, pN0 C.pr.hp, iR_t, Int.reduceAdd, G.x0, G.x1, G.x2, G.x3, G.x4, G.h0, sO0 C.sh, sO1 C.sh, sO45 C.sh, iR_t, sA228 C.sh, sA227 C.sh, c228, ss.1, hb.O0 C.sh, ↓e_g ec, kx]
  · have hp := C.pr.hp
    have hn := G.hn
    refine ⟨⟨C.sh, ?_, ?_, C.pr.ag fun o _ _ => q o (by omega) (by omega), SR2.fr fun o _ _ => wr_o (by omega)⟩, T, F0, V0, ?_, ?_, ?_, ?_, ?_, ?_, ?_, ?_, ?_, ?_⟩
    · rw [q 16 (by omega) (by omega)]; exact C.h0
    · rw [q 16 (by omega) (by omega)]; exact C.h1
    · rw [q 0 (by omega) (by omega)]; exact G.x0
    · rw [q 0 (by omega) (by omega)]; exact G.x1
    · rw [q 0 (by omega) (by omega)]; exact G.x2
    · rw [q 0 (by omega) (by omega)]; exact G.x3
    · rw [q 0 (by omega) (by omega)]; exact G.x4
    · rw [wr_i (by omega), co 45 (by omega)]; exact G.h0
    · rw [wr_i (by omega), co 45 (by omega)]; exact G.hn
    · rw [wr_s]; omega
    · intro i i0 i1
      exact ⟨by rw [q 46 (by omega) (by omega)]; exact (G.hs i i0 i1).1, (G.hs i i0 i1).2.fr fun o h1 h2 => q o (by omega) (by omega)⟩
    · intro i i0 i1
      exact ⟨by rw [q 227 (by omega) (by omega)]; exact (G.ss i i0 i1).1, (G.ss i i0 i1).2.fr fun o h1 h2 => q o (by omega) (by omega)⟩
  · exact ⟨by rw [q 228 (by omega) (by omega)]; exact c228, S0.fr fun o h1 h2 => q o (by omega) (by omega), F0, V0⟩
end ZZ4
