/-! THE CLASS'S FRAMES, ALARMS, PLUGS. -/
section ZS
variable {P : Shp} {σ σ' σ1 : St} {t f f' f2 g : Int → Int} {B : Int} {d k p q kind who m h j c x y i v w part : Int} {n : Nat}
theorem c_beginAlarm (C : CR P σ p t f g) (T : TV t) (F : FV B t f g) (V : CV f) (h0 : 0 ≤ d) (h1 : d < t 1) (hp : f (14 + 28 * d + 0) ≠ -1) (h4 : 12 ≤ B) (hB : B ≤ 1999999000) :
    ∃ σ', fX2_beginAlarm P σ 16 d = some σ' ∧ CR P σ' p t (hapF (zu (zu f (14 + 28 * d + 1) 1) (14 + 28 * d + 2) (f 0)) 0 d) g ∧ CV (hapF (zu (zu f (14 + 28 * d + 1) 1) (14 + 28 * d + 2) (f 0)) 0 d) ∧ Fr σ σ' := by
  have n1 := T.n1; have n2 := T.n2; have MN := F.mn; have CL := V.le; have CI := fun c => couK_in (f := f) (c := c) V.c0
  have C2 := C.al1 T F V h0 h1 (v := f 0)
  have F2 := (F.dev T h0 h1 (Or.inr rfl) ⟨F.tm, (F.bl 0).2⟩ (fun _ => hp) h4).1
  have V2 := (V.zu (i := 14 + 28 * d + 1) (v := 1) (by omega)).zu (i := 14 + 28 * d + 2) (v := f 0) (by omega)
  obtain ⟨σ', e, C3, fr⟩ := c_add C2 T F2 V2 (kind := 0) (who := d) (by omega) (by omega)
  rw [show zu (zu f (14 + 28 * d + 1) 1) (14 + 28 * d + 2) (f 0) 0 = f 0 by simp (disch := omega) only [zu_n]] at e
  refine ⟨σ', ?_, C3, V2.hap F2.ev (by omega) (by omega), Fr.tr (fun o ho => by simp (disch := omega) only [wr_o]) fr⟩
  simp (disch := first | omega | assumption) only [fX2_beginAlarm, ↓z_lt, ↓z_ge, ↓z_gt, ↓z_le, ↓z_eq, ↓z_ne, ↓z_mx, ↓z_mn, ↓z_dv, ↓z_rm, ↓z_i2l, ↓z_lc, ↓z_sw, ↓z_sf, ↓z_sn, ↓z_bd, ↓z_nt, z_b0, z_b1, z_bi, z_bj, ↓z_gF, ↓z_gR, ↓z_pF, ↓z_pZ, ↓z_pR, ↓z_aI, ↓z_aR, ↓z_sI, ↓z_sZ, ↓z_on, z_cl, ↓reduceIte, Int.reduceEq, Int.reduceNeg, Int.reduceLT, Int.reduceLE, Int.reduceAdd, Int.reduceSub, Int.reduceMul, true_and, and_true, or_true, true_or, eq_self, C.h0, C.h1, C.p2, C.p3, C.p4, C.p5, C.p6, C.p7, C.p8, C.p9, C.e0, C.e1, C.e2, C.e4, C.e5, C.l2, C.l3, C.l4, C.l5, C.pr.r7, C.pr.r8, C.pr.r9, C.pr.r10, C.pr.r11, C.pr.r12, C.pr.r13, C.pr.r14, C.pr.r15, C.pr.v0, C.pr.v1, C.pr.v2, C.pr.v3, C.pr.v4, C.pr.v5, C.pr.v6, C.pr.we, C.pr.wi, C.pr.pe, C.pr.fp, C.pr.he, C.pr.ho, C.pr.ra, C.pr.pa, C.tm, C.sc, C.po, C.al, C.ho, C.mo, C.dn, C.se, C.ke, C.ca, C.co, sO16 C.sh, sO27 C.sh, sO34 C.sh, sO40 C.sh, sA28 C.sh, sA29 C.sh, sA30 C.sh, sA31 C.sh, sA32 C.sh, sA33 C.sh, sA35 C.sh, sA36 C.sh, sA37 C.sh, sA38 C.sh, sA39 C.sh, sA41 C.sh, sA42 C.sh, sA43 C.sh, sA44 C.sh, pO C.sh C.pr.hp, pA1 C.sh C.pr.hp, pA2 C.sh C.pr.hp, pA3 C.sh C.pr.hp, pA4 C.sh C.pr.hp, pA5 C.sh C.pr.hp, pA6 C.sh C.pr.hp, pA7 C.sh C.pr.hp, pA8 C.sh C.pr.hp, pA9 C.sh C.pr.hp, pN C.pr.hp, pN0 C.pr.hp, iR_t, Int.reduceAdd, ↓c_dev' C T h0 h1, wr_n, ↓e_cl e]
theorem c_endWrongAlarm (C : CR P σ p t f g) (T : TV t) (F : FV B t f g) (V : CV f) (h0 : 0 ≤ d) (h1 : d < t 1) (h4 : 12 ≤ B) (hB : B ≤ 1999999000) :
    ∃ σ', fX2_endWrongAlarm P σ 16 d = some σ' ∧ CR P σ' p t (calF f d) g ∧ CV (calF f d) ∧ Fr σ σ' := by
  have n1 := T.n1; have n2 := T.n2; have MN := F.mn; have CL := V.le; have CI := fun c => couK_in (f := f) (c := c) V.c0
  have C2 := C.cal T F V h0 h1
  have F2 := (F.dev T h0 h1 (Or.inl rfl) ⟨Int.le_refl 0, by omega⟩ (fun h => by omega) h4).2
  have V2 := (V.zu (i := 14 + 28 * d + 1) (v := 0) (by omega)).zu (i := 14 + 28 * d + 3) (v := 0) (by omega)
  obtain ⟨σ', e, C3, fr⟩ := c_add C2 T F2 V2 (kind := 1) (who := d) (by omega) (by omega)
  rw [show zu (zu f (14 + 28 * d + 1) 0) (14 + 28 * d + 3) 0 0 = f 0 by simp (disch := omega) only [zu_n]] at e
  refine ⟨σ', ?_, C3, V2.hap F2.ev (by omega) (by omega), Fr.tr (fun o ho => by simp (disch := omega) only [wr_o]) fr⟩
  have r1 : ¬ (d < 0) := by omega
  have r2 : ¬ (8 ≤ d) := by omega
  simp (disch := first | omega | assumption) only [fX2_endWrongAlarm, fX0_forget, ↓z_lt, ↓z_ge, ↓z_gt, ↓z_le, ↓z_eq, ↓z_ne, ↓z_mx, ↓z_mn, ↓z_dv, ↓z_rm, ↓z_i2l, ↓z_lc, ↓z_sw, ↓z_sf, ↓z_sn, ↓z_bd, ↓z_nt, z_b0, z_b1, z_bi, z_bj, ↓z_gF, ↓z_gR, ↓z_pF, ↓z_pZ, ↓z_pR, ↓z_aI, ↓z_aR, ↓z_sI, ↓z_sZ, ↓z_on, z_cl, ↓reduceIte, Int.reduceEq, Int.reduceNeg, Int.reduceLT, Int.reduceLE, Int.reduceAdd, Int.reduceSub, Int.reduceMul, true_and, and_true, or_true, true_or, eq_self, C.h0, C.h1, C.p2, C.p3, C.p4, C.p5, C.p6, C.p7, C.p8, C.p9, C.e0, C.e1, C.e2, C.e4, C.e5, C.l2, C.l3, C.l4, C.l5, C.pr.r7, C.pr.r8, C.pr.r9, C.pr.r10, C.pr.r11, C.pr.r12, C.pr.r13, C.pr.r14, C.pr.r15, C.pr.v0, C.pr.v1, C.pr.v2, C.pr.v3, C.pr.v4, C.pr.v5, C.pr.v6, C.pr.we, C.pr.wi, C.pr.pe, C.pr.fp, C.pr.he, C.pr.ho, C.pr.ra, C.pr.pa, C.tm, C.sc, C.po, C.al, C.ho, C.mo, C.dn, C.se, C.ke, C.ca, C.co, sO16 C.sh, sO27 C.sh, sO34 C.sh, sO40 C.sh, sA28 C.sh, sA29 C.sh, sA30 C.sh, sA31 C.sh, sA32 C.sh, sA33 C.sh, sA35 C.sh, sA36 C.sh, sA37 C.sh, sA38 C.sh, sA39 C.sh, sA41 C.sh, sA42 C.sh, sA43 C.sh, sA44 C.sh, pO C.sh C.pr.hp, pA1 C.sh C.pr.hp, pA2 C.sh C.pr.hp, pA3 C.sh C.pr.hp, pA4 C.sh C.pr.hp, pA5 C.sh C.pr.hp, pA6 C.sh C.pr.hp, pA7 C.sh C.pr.hp, pA8 C.sh C.pr.hp, pA9 C.sh C.pr.hp, pN C.pr.hp, pN0 C.pr.hp, iR_t, Int.reduceAdd, ↓c_dev' C T h0 h1, wr_n, r1, r2, ↓e_cl e]
/-- an error comes -/
def takF (t f : Int → Int) (d kind : Int) : Int → Int :=
  if couF (keeF f d kind) (4 * d + kind) (14 + 28 * d + 1) = 1 then couF (keeF f d kind) (4 * d + kind)
  else if scoF t (couF (keeF f d kind) (4 * d + kind)) d < couF (keeF f d kind) (4 * d + kind) 1 then couF (keeF f d kind) (4 * d + kind)
  else alaF t (couF (keeF f d kind) (4 * d + kind)) d
theorem couF_o (V : CV f) (hj : j < 11 ∨ j = 12 ∨ (14 ≤ j ∧ j < 274)) : couF f c j = f j := by
  have c0 := V.c0
  have q := couK_in (c := c) c0
  unfold couF couP
  by_cases e : couK f c = f 13
  · rw [if_pos e]; simp (disch := omega) only [zu_n]
  · rw [if_neg e]; simp (disch := omega) only [zu_n]
theorem c_takeError (C : CR P σ p t f g) (T : TV t) (F : FV B t f g) (V : CV f) (h0 : 0 ≤ d) (h1 : d < t 1) (hp : f (14 + 28 * d + 0) ≠ -1) (k0 : 0 ≤ kind) (k1 : kind < 4) (h4 : 100 ≤ B) (hB : B ≤ 1999998000) :
    ∃ σ', fX2_takeError P σ 16 d kind = some σ' ∧ CR P σ' p t (takF t f d kind) g ∧ CV (takF t f d kind) ∧ Fr σ σ' ∧ FV (B + 26) t (takF t f d kind) g := by
  have n1 := T.n1; have n2 := T.n2; have MN := F.mn; have CL := V.le; have CI := fun c => couK_in (f := f) (c := c) V.c0
  have mn := F.mn d h0 h1
  obtain ⟨σ1, e1, C1, fr1⟩ := c_err C T F V h0 h1 hp k0 k1 (by omega)
  have F1 := F.kee T h0 h1 hp k0 k1 (by omega)
  have V1 := V.kee (kind := kind) T F h0 h1
  have F2 := F1.cou T V1 (c := 4 * d + kind) (by omega) (by omega) h4 (by omega)
  have V2 := V1.cou (c := 4 * d + kind) (by omega) (by omega)
  have hQ := couF_Q (c := 4 * d + kind) V1
  have hp2 : couF (keeF f d kind) (4 * d + kind) (14 + 28 * d + 0) ≠ -1 := by
    rw [couF_o V1 (by omega), keeF_o h0 mn.1 mn.2 (by omega)]; exact hp
  have VQ : CV (couQ (keeF f d kind) (4 * d + kind)) := V2.to fun j hj => by rw [hQ.1, zu_n (by omega)]
  have FQ : ∀ d', 0 ≤ d' → d' < t 1 → 0 ≤ couQ (keeF f d kind) (4 * d + kind) (14 + 28 * d' + 3) ∧ couQ (keeF f d kind) (4 * d + kind) (14 + 28 * d' + 3) ≤ 12 := by
    intro d' d0 d1
    have := F2.mn d' d0 d1
    rw [hQ.1, zu_n (by omega)] at this
    exact this
  have C2 : CR P (wr σ1 44 9 (σ1 44 9 + 1)) p t (couF (keeF f d kind) (4 * d + kind)) g := by
    have e9 : σ1 44 9 = keeF f d kind 11 := (C1.to 9 (by omega) (by omega)).trans hQ.2
    rw [hQ.1, ← e9]
    refine C1.fr (fun o ho => by simp (disch := omega) only [wr_o]) ?_
    have S := C1.s
    have V := VQ
    have MN := FQ
    have CL := VQ.le
    have CI := fun c => couK_in (f := couQ (keeF f d kind) (4 * d + kind)) (c := c) VQ.c0
    refine ⟨?_, ?_, ?_, ?_, ?_, ?_, ?_, ?_, ?_, ?_, ?_, ?_, ?_, ?_, ?_, ?_, ?_, ?_, ?_, ?_, ?_, ?_, ?_, ?_, ?_, ?_, ?_, ?_, ?_, ?_, ?_, ?_, ?_, ?_, ?_, ?_, ?_⟩
    · have q := S.p2; try simp (disch := omega) only [wr_n, zu_n, couK_zu V]
      exact q
    · have q := S.p3; try simp (disch := omega) only [wr_n, zu_n, couK_zu V]
      exact q
    · have q := S.p4; try simp (disch := omega) only [wr_n, zu_n, couK_zu V]
      exact q
    · have q := S.p5; try simp (disch := omega) only [wr_n, zu_n, couK_zu V]
      exact q
    · have q := S.p6; try simp (disch := omega) only [wr_n, zu_n, couK_zu V]
      exact q
    · have q := S.p7; try simp (disch := omega) only [wr_n, zu_n, couK_zu V]
      exact q
    · have q := S.p8; try simp (disch := omega) only [wr_n, zu_n, couK_zu V]
      exact q
    · have q := S.p9; try simp (disch := omega) only [wr_n, zu_n, couK_zu V]
      exact q
    · have q := S.e0; try simp (disch := omega) only [wr_n, zu_n, couK_zu V]
      exact q
    · have q := S.e1; try simp (disch := omega) only [wr_n, zu_n, couK_zu V]
      exact q
    · have q := S.e2; try simp (disch := omega) only [wr_n, zu_n, couK_zu V]
      exact q
    · have q := S.e4; try simp (disch := omega) only [wr_n, zu_n, couK_zu V]
      exact q
    · have q := S.e5; try simp (disch := omega) only [wr_n, zu_n, couK_zu V]
      exact q
    · exact (wr_n (by omega)).trans S.l2
    · exact (wr_n (by omega)).trans S.l3
    · exact (wr_n (by omega)).trans S.l4
    · exact (wr_n (by omega)).trans S.l5
    · have q := S.tm; try simp (disch := omega) only [wr_n, zu_n, couK_zu V]
      exact q
    · have q := S.sc; try simp (disch := omega) only [wr_n, zu_n, couK_zu V]
      exact q
    · intro e e0 e1; have q := S.po e e0 e1; try simp (disch := omega) only [wr_n, zu_n, couK_zu V]
      exact q
    · intro e e0 e1; have q := S.al e e0 e1; try simp (disch := omega) only [wr_n, zu_n, couK_zu V]
      exact q
    · intro e e0 e1; have q := S.ho e e0 e1; try simp (disch := omega) only [wr_n, zu_n, couK_zu V]
      exact q
    · intro e e0 e1; have q := S.mo e e0 e1; try simp (disch := omega) only [wr_n, zu_n, couK_zu V]
      exact q
    · intro e e0 e1; have q := S.dn e e0 e1; try simp (disch := omega) only [wr_n, zu_n, couK_zu V]
      exact q
    · intro e e0 e1; have q := S.se e e0 e1; try simp (disch := omega) only [wr_n, zu_n, couK_zu V]
      exact q
    · intro e e0 e1; have q := S.ke e e0 e1; try simp (disch := omega) only [wr_n, zu_n, couK_zu V]
      exact q
    · intro e u e0 e1 u0 u1; have mn := MN e e0 e1; try simp (disch := omega) only [wr_n, zu_n, couK_zu V] at u1
      have q := S.ki e u e0 e1 u0 u1; try simp (disch := omega) only [wr_n, zu_n, couK_zu V]
      exact q
    · intro e u e0 e1 u0 u1; have mn := MN e e0 e1; try simp (disch := omega) only [wr_n, zu_n, couK_zu V] at u1
      have q := S.ti e u e0 e1 u0 u1; try simp (disch := omega) only [wr_n, zu_n, couK_zu V]
      exact q
    · have q := S.ca; try simp (disch := omega) only [wr_n, zu_n, couK_zu V]
      exact q
    · intro e e0 e1; try simp (disch := omega) only [wr_n, zu_n, couK_zu V] at e1
      have q := S.co e e0 e1; have cl := CL; try simp (disch := omega) only [wr_n, zu_n, couK_zu V]
      exact q
    · intro e e0 e1; have ci := CI e; have cl := CL; have q := S.ct e e0 e1; try simp (disch := omega) only [wr_n, zu_n, couK_zu V]
      exact q
    · (rw [zu_n (by omega)]; simp (disch := omega) only [wr_n]; exact S.lk)
    · (rw [zu_n (by omega)]; simp (disch := omega) only [wr_n]; exact S.ln)
    · intro e e0 e1 e2; try simp (disch := omega) only [wr_n, zu_n, couK_zu V] at e2
      have q := S.lq e e0 e1 e2; try simp (disch := omega) only [wr_n, zu_n, couK_zu V]
      exact q
    · intro e e0 e1 e2; try simp (disch := omega) only [wr_n, zu_n, couK_zu V] at e2
      have q := S.li e e0 e1 e2; try simp (disch := omega) only [wr_n, zu_n, couK_zu V]
      exact q
    · intro e e0 e1 e2; try simp (disch := omega) only [wr_n, zu_n, couK_zu V] at e2
      have q := S.lt e e0 e1 e2; try simp (disch := omega) only [wr_n, zu_n, couK_zu V]
      exact q
    · intro e e0 e1; (by_cases z : e = 9; (subst z; rw [show (2 : Int) + 9 = 11 from rfl, zu_s]; exact wr_s); (rw [zu_n (by omega)]; exact (wr_i z).trans (S.to e e0 e1)))
  have fr2 : Fr σ (wr σ1 44 9 (σ1 44 9 + 1)) := fr1.tr fun o ho => by simp (disch := omega) only [wr_o]
  unfold takF
  have sc := scoF_in (f := couF (keeF f d kind) (4 * d + kind)) (d := d) T
  by_cases c1 : couF (keeF f d kind) (4 * d + kind) (14 + 28 * d + 1) = 1
  · rw [if_pos c1]
    refine ⟨_, ?_, C2, V2, fr2, F2.mono (by omega) (by omega)⟩
    have ea : fX2_takeError P σ 16 d kind = some (wr σ1 44 9 (σ1 44 9 + 1)) := by
      simp (disch := first | omega | assumption | (simp (disch := omega) only [C.h1, C.p8, C.tm, C1.h1, C1.p9, C1.l5]; done) | fail) only [fX2_takeError, ↓z_lt, ↓z_ge, ↓z_gt, ↓z_le, ↓z_eq, ↓z_ne, ↓z_mx, ↓z_mn, ↓z_dv, ↓z_rm, ↓z_i2l, ↓z_lc, ↓z_sw, ↓z_sf, ↓z_sn, ↓z_bd, ↓z_nt, z_b0, z_b1, z_bi, z_bj, ↓z_gF, ↓z_gR, ↓z_pF, ↓z_pZ, ↓z_pR, ↓z_aI, ↓z_aR, ↓z_sI, ↓z_sZ, ↓z_on, z_cl, ↓reduceIte, Int.reduceEq, Int.reduceNeg, Int.reduceLT, Int.reduceLE, Int.reduceAdd, Int.reduceSub, Int.reduceMul, true_and, and_true, or_true, true_or, eq_self, C.h0, C.h1, C.p2, C.p3, C.p4, C.p5, C.p6, C.p7, C.p8, C.p9, C.e0, C.e1, C.e2, C.e4, C.e5, C.l2, C.l3, C.l4, C.l5, C.pr.r7, C.pr.r8, C.pr.r9, C.pr.r10, C.pr.r11, C.pr.r12, C.pr.r13, C.pr.r14, C.pr.r15, C.pr.v0, C.pr.v1, C.pr.v2, C.pr.v3, C.pr.v4, C.pr.v5, C.pr.v6, C.pr.we, C.pr.wi, C.pr.pe, C.pr.fp, C.pr.he, C.pr.ho, C.pr.ra, C.pr.pa, C.tm, C.sc, C.po, C.al, C.ho, C.mo, C.dn, C.se, C.ke, C.ca, C.co, sO16 C.sh, sO27 C.sh, sO34 C.sh, sO40 C.sh, sA28 C.sh, sA29 C.sh, sA30 C.sh, sA31 C.sh, sA32 C.sh, sA33 C.sh, sA35 C.sh, sA36 C.sh, sA37 C.sh, sA38 C.sh, sA39 C.sh, sA41 C.sh, sA42 C.sh, sA43 C.sh, sA44 C.sh, pO C.sh C.pr.hp, pA1 C.sh C.pr.hp, pA2 C.sh C.pr.hp, pA3 C.sh C.pr.hp, pA4 C.sh C.pr.hp, pA5 C.sh C.pr.hp, pA6 C.sh C.pr.hp, pA7 C.sh C.pr.hp, pA8 C.sh C.pr.hp, pA9 C.sh C.pr.hp, pN C.pr.hp, pN0 C.pr.hp, iR_t, Int.reduceAdd, ↓e_g e1, C1.p9, C1.l5, C1.p8, C1.h1, sA44 C1.sh, ↓e_g (c_inAlarm C2 T F2 h0 h1), c1]
    exact ea
  · by_cases c2 : scoF t (couF (keeF f d kind) (4 * d + kind)) d < couF (keeF f d kind) (4 * d + kind) 1
    · rw [if_neg c1, if_pos c2]
      refine ⟨_, ?_, C2, V2, fr2, F2.mono (by omega) (by omega)⟩
      have ea : fX2_takeError P σ 16 d kind = some (wr σ1 44 9 (σ1 44 9 + 1)) := by
        simp (disch := first | omega | assumption | (simp (disch := omega) only [C.h1, C.p8, C.tm, C1.h1, C1.p9, C1.l5]; done) | fail) only [fX2_takeError, ↓z_lt, ↓z_ge, ↓z_gt, ↓z_le, ↓z_eq, ↓z_ne, ↓z_mx, ↓z_mn, ↓z_dv, ↓z_rm, ↓z_i2l, ↓z_lc, ↓z_sw, ↓z_sf, ↓z_sn, ↓z_bd, ↓z_nt, z_b0, z_b1, z_bi, z_bj, ↓z_gF, ↓z_gR, ↓z_pF, ↓z_pZ, ↓z_pR, ↓z_aI, ↓z_aR, ↓z_sI, ↓z_sZ, ↓z_on, z_cl, ↓reduceIte, Int.reduceEq, Int.reduceNeg, Int.reduceLT, Int.reduceLE, Int.reduceAdd, Int.reduceSub, Int.reduceMul, true_and, and_true, or_true, true_or, eq_self, C.h0, C.h1, C.p2, C.p3, C.p4, C.p5, C.p6, C.p7, C.p8, C.p9, C.e0, C.e1, C.e2, C.e4, C.e5, C.l2, C.l3, C.l4, C.l5, C.pr.r7, C.pr.r8, C.pr.r9, C.pr.r10, C.pr.r11, C.pr.r12, C.pr.r13, C.pr.r14, C.pr.r15, C.pr.v0, C.pr.v1, C.pr.v2, C.pr.v3, C.pr.v4, C.pr.v5, C.pr.v6, C.pr.we, C.pr.wi, C.pr.pe, C.pr.fp, C.pr.he, C.pr.ho, C.pr.ra, C.pr.pa, C.tm, C.sc, C.po, C.al, C.ho, C.mo, C.dn, C.se, C.ke, C.ca, C.co, sO16 C.sh, sO27 C.sh, sO34 C.sh, sO40 C.sh, sA28 C.sh, sA29 C.sh, sA30 C.sh, sA31 C.sh, sA32 C.sh, sA33 C.sh, sA35 C.sh, sA36 C.sh, sA37 C.sh, sA38 C.sh, sA39 C.sh, sA41 C.sh, sA42 C.sh, sA43 C.sh, sA44 C.sh, pO C.sh C.pr.hp, pA1 C.sh C.pr.hp, pA2 C.sh C.pr.hp, pA3 C.sh C.pr.hp, pA4 C.sh C.pr.hp, pA5 C.sh C.pr.hp, pA6 C.sh C.pr.hp, pA7 C.sh C.pr.hp, pA8 C.sh C.pr.hp, pA9 C.sh C.pr.hp, pN C.pr.hp, pN0 C.pr.hp, iR_t, Int.reduceAdd, ↓e_g e1, C1.p9, C1.l5, C1.p8, C1.h1, ↓e_g (c_inAlarm C2 T F2 h0 h1), ↓e_g (c_scoreOf C2 T F2 h0 h1), C2.h1, C2.sc, F2.vr, c1, c2]
      exact ea
    · rw [if_neg c1, if_neg c2]
      obtain ⟨σ3, e3, C3, V3, fr3⟩ := c_beginAlarm C2 T F2 V2 h0 h1 hp2 (by omega) (by omega)
      have F3 := (F2.dev T h0 h1 (Or.inr rfl) ⟨F2.tm, (F2.bl 0).2⟩ (fun _ => hp2) (by omega)).1.hap T (kind := 0) (who := d) (by omega) (by omega) (by omega) (by omega) (by omega) (by omega)
      obtain ⟨σ4, e4, C4, V4, fr4⟩ := c_settle C3 T F3 V3 (by omega) (by omega)
      refine ⟨σ4, ?_, C4, V4, fr2.tr (fr3.tr fr4), (F2.ala T h0 h1 hp2 (by omega) (by omega)).mono (by omega) (by omega)⟩
      simp (disch := first | omega | assumption | (simp (disch := omega) only [C.h1, C.p8, C.tm, C1.h1, C1.p9, C1.l5]; done) | fail) only [fX2_takeError, ↓z_lt, ↓z_ge, ↓z_gt, ↓z_le, ↓z_eq, ↓z_ne, ↓z_mx, ↓z_mn, ↓z_dv, ↓z_rm, ↓z_i2l, ↓z_lc, ↓z_sw, ↓z_sf, ↓z_sn, ↓z_bd, ↓z_nt, z_b0, z_b1, z_bi, z_bj, ↓z_gF, ↓z_gR, ↓z_pF, ↓z_pZ, ↓z_pR, ↓z_aI, ↓z_aR, ↓z_sI, ↓z_sZ, ↓z_on, z_cl, ↓reduceIte, Int.reduceEq, Int.reduceNeg, Int.reduceLT, Int.reduceLE, Int.reduceAdd, Int.reduceSub, Int.reduceMul, true_and, and_true, or_true, true_or, eq_self, C.h0, C.h1, C.p2, C.p3, C.p4, C.p5, C.p6, C.p7, C.p8, C.p9, C.e0, C.e1, C.e2, C.e4, C.e5, C.l2, C.l3, C.l4, C.l5, C.pr.r7, C.pr.r8, C.pr.r9, C.pr.r10, C.pr.r11, C.pr.r12, C.pr.r13, C.pr.r14, C.pr.r15, C.pr.v0, C.pr.v1, C.pr.v2, C.pr.v3, C.pr.v4, C.pr.v5, C.pr.v6, C.pr.we, C.pr.wi, C.pr.pe, C.pr.fp, C.pr.he, C.pr.ho, C.pr.ra, C.pr.pa, C.tm, C.sc, C.po, C.al, C.ho, C.mo, C.dn, C.se, C.ke, C.ca, C.co, sO16 C.sh, sO27 C.sh, sO34 C.sh, sO40 C.sh, sA28 C.sh, sA29 C.sh, sA30 C.sh, sA31 C.sh, sA32 C.sh, sA33 C.sh, sA35 C.sh, sA36 C.sh, sA37 C.sh, sA38 C.sh, sA39 C.sh, sA41 C.sh, sA42 C.sh, sA43 C.sh, sA44 C.sh, pO C.sh C.pr.hp, pA1 C.sh C.pr.hp, pA2 C.sh C.pr.hp, pA3 C.sh C.pr.hp, pA4 C.sh C.pr.hp, pA5 C.sh C.pr.hp, pA6 C.sh C.pr.hp, pA7 C.sh C.pr.hp, pA8 C.sh C.pr.hp, pA9 C.sh C.pr.hp, pN C.pr.hp, pN0 C.pr.hp, iR_t, Int.reduceAdd, ↓e_g e1, C1.p9, C1.l5, C1.p8, C1.h1, ↓e_g (c_inAlarm C2 T F2 h0 h1), ↓e_g (c_scoreOf C2 T F2 h0 h1), C2.h1, C2.sc, F2.vr, c1, c2, ↓e_g e3, ↓e_g e4]
end ZS
