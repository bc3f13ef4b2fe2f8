/-! THE CLASS'S ERRORS AND ALARMS, the rest. -/
section ZR
variable {P : Shp} {σ σ' σ1 : St} {t f f' f2 g : Int → Int} {B : Int} {d k p q kind who m h j c x y i v part : Int} {n : Nat}
theorem CV.kee (V : CV f) (T : TV t) (F : FV B t f g) (h0 : 0 ≤ d) (h1 : d < t 1) : CV (keeF f d kind) := by
  have mn := F.mn d h0 h1
  have n1 := T.n1
  exact V.to fun j hj => keeF_o h0 mn.1 mn.2 (by omega)
theorem c_err (C : CR P σ p t f g) (T : TV t) (F : FV B t f g) (V : CV f) (h0 : 0 ≤ d) (h1 : d < t 1) (hp : f (14 + 28 * d + 0) ≠ -1) (k0 : 0 ≤ kind) (k1 : kind < 4) (h4 : 12 ≤ B) :
    ∃ σ', fX0_add P σ 34 d kind (f 0) = some σ' ∧ CR P σ' p t (couQ (keeF f d kind) (4 * d + kind)) g ∧ Fr σ σ' := by
  have n1 := T.n1; have n2 := T.n2; have MN := F.mn; have CL := V.le; have CI := fun c => couK_in (f := f) (c := c) V.c0
  have mn := F.mn d h0 h1
  have F1 := F.kee T h0 h1 hp k0 k1 h4
  have V1 := V.kee (kind := kind) T F h0 h1
  have hA : ∀ (K : Int → Option St), aL P 10 36 K = K 96 := fun K => e_aL (len := 96) (shA C.sh 36 (by decide +kernel))
  have r1 : ¬ (d < 0) := by omega
  have r2 : ¬ (8 ≤ d) := by omega
  have r3 : ¬ (kind < 0) := by omega
  have r4 : d * 4 + kind = 4 * d + kind := by omega
  have key : ∃ σ1, (∀ σ', fX0_countCause P σ1 34 (4 * d + kind) = some σ' → fX0_add P σ 34 d kind (f 0) = some σ') ∧ CR P σ1 p t (keeF f d kind) g ∧ Fr σ σ1 := by
    by_cases c : f (14 + 28 * d + 3) = 12
    · obtain ⟨s, e, i0, i1, i2, i3⟩ := c_drop' C T h0 h1
      have g0 : s 34 0 = 35 := by rw [i0 34 (by omega)]; exact C.e0
      have g1 : s 34 1 = 36 := by rw [i0 34 (by omega)]; exact C.e1
      have g2 : s 34 2 = 37 := by rw [i0 34 (by omega)]; exact C.e2
      have g3 : s 35 d = 11 := by rw [i1, if_pos rfl]
      have r5 : ¬ (d * 12 + 11 < 0) := by omega
      have r6 : ¬ (96 ≤ d * 12 + 11) := by omega
      have r7 : ¬ ((12 : Int) < 12) := by omega
      have e1 : (if 11 < f (14 + 28 * d + 3) then (11 : Int) else f (14 + 28 * d + 3)) = 11 := if_pos (by omega)
      have e2 : (if 11 < f (14 + 28 * d + 3) then (1 : Int) else 0) = 1 := if_pos (by omega)
      have a0 : ∀ o, (o < 35 ∨ 37 < o) → (wr (wr (wr s 36 (d * 12 + 11) kind) 37 (d * 12 + 11) (f 0)) 35 d 12) o = σ o := fun o ho => by simp (disch := omega) only [wr_o]; exact i0 o ho
      refine ⟨wr (wr (wr s 36 (d * 12 + 11) kind) 37 (d * 12 + 11) (f 0)) 35 d 12, ?_, ?_, ?_⟩
      · intro σ' hc
        simp (disch := first | omega | assumption) only [fX0_add, ↓z_lt, ↓z_ge, ↓z_gt, ↓z_le, ↓z_eq, ↓z_ne, ↓z_mx, ↓z_mn, ↓z_dv, ↓z_rm, ↓z_i2l, ↓z_lc, ↓z_sw, ↓z_sf, ↓z_sn, ↓z_bd, ↓z_nt, z_b0, z_b1, z_bi, z_bj, ↓z_gF, ↓z_gR, ↓z_pF, ↓z_pZ, ↓z_pR, ↓z_aI, ↓z_aR, ↓z_sI, ↓z_sZ, ↓z_on, z_cl, ↓reduceIte, Int.reduceEq, Int.reduceNeg, Int.reduceLT, Int.reduceLE, Int.reduceAdd, Int.reduceSub, Int.reduceMul, true_and, and_true, or_true, true_or, eq_self, C.h0, C.h1, C.p2, C.p3, C.p4, C.p5, C.p6, C.p7, C.p8, C.p9, C.e0, C.e1, C.e2, C.e4, C.e5, C.l2, C.l3, C.l4, C.l5, C.pr.r7, C.pr.r8, C.pr.r9, C.pr.r10, C.pr.r11, C.pr.r12, C.pr.r13, C.pr.r14, C.pr.r15, C.pr.v0, C.pr.v1, C.pr.v2, C.pr.v3, C.pr.v4, C.pr.v5, C.pr.v6, C.pr.we, C.pr.wi, C.pr.pe, C.pr.fp, C.pr.he, C.pr.ho, C.pr.ra, C.pr.pa, C.tm, C.sc, C.po, C.al, C.ho, C.mo, C.dn, C.se, C.ke, C.ca, C.co, sO16 C.sh, sO27 C.sh, sO34 C.sh, sO40 C.sh, sA28 C.sh, sA29 C.sh, sA30 C.sh, sA31 C.sh, sA32 C.sh, sA33 C.sh, sA35 C.sh, sA36 C.sh, sA37 C.sh, sA38 C.sh, sA39 C.sh, sA41 C.sh, sA42 C.sh, sA43 C.sh, sA44 C.sh, pO C.sh C.pr.hp, pA1 C.sh C.pr.hp, pA2 C.sh C.pr.hp, pA3 C.sh C.pr.hp, pA4 C.sh C.pr.hp, pA5 C.sh C.pr.hp, pA6 C.sh C.pr.hp, pA7 C.sh C.pr.hp, pA8 C.sh C.pr.hp, pA9 C.sh C.pr.hp, pN C.pr.hp, pN0 C.pr.hp, iR_t, Int.reduceAdd, r1, r2, r3, k1, c, r7, ↓e_cl e, g0, g1, g2, g3, r5, r6, ↓hA, wr_n, ↓r4, ↓e_cl hc]
      · refine C.kee T F V h0 h1 a0 ?_ ?_ ?_
        · intro j; rw [e1]
          by_cases z : j = d
          · subst z; rw [wr_s, if_pos rfl]; rfl
          · rw [wr_i z, if_neg z]; simp (disch := omega) only [wr_n]; rw [i1, if_neg z]
        · intro j; rw [e1, e2]; simp (disch := omega) only [wr_n]
          by_cases z : j = d * 12 + 11
          · subst z; rw [wr_s, if_pos rfl]
          · rw [wr_i z, if_neg z]; exact i2 j
        · intro j; rw [e1, e2]; rw [wr_n (by omega)]
          by_cases z : j = d * 12 + 11
          · subst z; rw [wr_s, if_pos rfl]
          · rw [wr_i z, if_neg z]; simp (disch := omega) only [wr_n]; exact i3 j
      · exact fun o ho => a0 o (by omega)
    · have c2 : f (14 + 28 * d + 3) < 12 := by omega
      have r5 : ¬ (d * 12 + f (14 + 28 * d + 3) < 0) := by omega
      have r6 : ¬ (96 ≤ d * 12 + f (14 + 28 * d + 3)) := by omega
      have e1 : (if 11 < f (14 + 28 * d + 3) then (11 : Int) else f (14 + 28 * d + 3)) = f (14 + 28 * d + 3) := if_neg (by omega)
      have e2 : (if 11 < f (14 + 28 * d + 3) then (1 : Int) else 0) = 0 := if_neg (by omega)
      have a0 : ∀ o, (o < 35 ∨ 37 < o) → (wr (wr (wr σ 36 (d * 12 + f (14 + 28 * d + 3)) kind) 37 (d * 12 + f (14 + 28 * d + 3)) (f 0)) 35 d (f (14 + 28 * d + 3) + 1)) o = σ o := fun o ho => by simp (disch := omega) only [wr_o]
      refine ⟨wr (wr (wr σ 36 (d * 12 + f (14 + 28 * d + 3)) kind) 37 (d * 12 + f (14 + 28 * d + 3)) (f 0)) 35 d (f (14 + 28 * d + 3) + 1), ?_, ?_, ?_⟩
      · intro σ' hc
        simp (disch := first | omega | assumption) only [fX0_add, ↓z_lt, ↓z_ge, ↓z_gt, ↓z_le, ↓z_eq, ↓z_ne, ↓z_mx, ↓z_mn, ↓z_dv, ↓z_rm, ↓z_i2l, ↓z_lc, ↓z_sw, ↓z_sf, ↓z_sn, ↓z_bd, ↓z_nt, z_b0, z_b1, z_bi, z_bj, ↓z_gF, ↓z_gR, ↓z_pF, ↓z_pZ, ↓z_pR, ↓z_aI, ↓z_aR, ↓z_sI, ↓z_sZ, ↓z_on, z_cl, ↓reduceIte, Int.reduceEq, Int.reduceNeg, Int.reduceLT, Int.reduceLE, Int.reduceAdd, Int.reduceSub, Int.reduceMul, true_and, and_true, or_true, true_or, eq_self, C.h0, C.h1, C.p2, C.p3, C.p4, C.p5, C.p6, C.p7, C.p8, C.p9, C.e0, C.e1, C.e2, C.e4, C.e5, C.l2, C.l3, C.l4, C.l5, C.pr.r7, C.pr.r8, C.pr.r9, C.pr.r10, C.pr.r11, C.pr.r12, C.pr.r13, C.pr.r14, C.pr.r15, C.pr.v0, C.pr.v1, C.pr.v2, C.pr.v3, C.pr.v4, C.pr.v5, C.pr.v6, C.pr.we, C.pr.wi, C.pr.pe, C.pr.fp, C.pr.he, C.pr.ho, C.pr.ra, C.pr.pa, C.tm, C.sc, C.po, C.al, C.ho, C.mo, C.dn, C.se, C.ke, C.ca, C.co, sO16 C.sh, sO27 C.sh, sO34 C.sh, sO40 C.sh, sA28 C.sh, sA29 C.sh, sA30 C.sh, sA31 C.sh, sA32 C.sh, sA33 C.sh, sA35 C.sh, sA36 C.sh, sA37 C.sh, sA38 C.sh, sA39 C.sh, sA41 C.sh, sA42 C.sh, sA43 C.sh, sA44 C.sh, pO C.sh C.pr.hp, pA1 C.sh C.pr.hp, pA2 C.sh C.pr.hp, pA3 C.sh C.pr.hp, pA4 C.sh C.pr.hp, pA5 C.sh C.pr.hp, pA6 C.sh C.pr.hp, pA7 C.sh C.pr.hp, pA8 C.sh C.pr.hp, pA9 C.sh C.pr.hp, pN C.pr.hp, pN0 C.pr.hp, iR_t, Int.reduceAdd, r1, r2, r3, k1, c2, r5, r6, ↓hA, wr_n, ↓r4, ↓e_cl hc]
      · refine C.kee T F V h0 h1 a0 ?_ ?_ ?_
        · intro j; rw [e1]
          by_cases z : j = d
          · subst z; rw [wr_s, if_pos rfl]
          · rw [wr_i z, if_neg z]; simp (disch := omega) only [wr_n]
        · intro j; rw [e1, e2]; simp (disch := omega) only [wr_n]
          by_cases z : j = d * 12 + f (14 + 28 * d + 3)
          · subst z; rw [wr_s, if_pos rfl]
          · rw [wr_i z, if_neg z, Int.add_zero, ite_self]
        · intro j; rw [e1, e2]; rw [wr_n (by omega)]
          by_cases z : j = d * 12 + f (14 + 28 * d + 3)
          · subst z; rw [wr_s, if_pos rfl]
          · rw [wr_i z, if_neg z, Int.add_zero, ite_self]; simp (disch := omega) only [wr_n]
      · exact fun o ho => a0 o (by omega)
  obtain ⟨σ1, hk, C1, fr1⟩ := key
  obtain ⟨σ2, e2, C2, fr2⟩ := c_countCause C1 T F1 V1 (c := 4 * d + kind) (by omega) (by omega)
  exact ⟨σ2, hk σ2 e2, C2, fr1.tr fr2⟩
theorem CR.zto (C : CR P σ p t f g) (T : TV t) (F : FV B t f g) (V : CV f) (h0 : 0 ≤ i) (h1 : i < 10) : CR P (wr σ 44 i v) p t (zu f (2 + i) v) g := by
  have n1 := T.n1; have n2 := T.n2; have MN := F.mn; have CL := V.le; have CI := fun c => couK_in (f := f) (c := c) V.c0
  refine C.fr (fun o ho => by simp (disch := omega) only [wr_o]) ?_
  have S := C.s
  refine ⟨?_, ?_, ?_, ?_, ?_, ?_, ?_, ?_, ?_, ?_, ?_, ?_, ?_, ?_, ?_, ?_, ?_, ?_, ?_, ?_, ?_, ?_, ?_, ?_, ?_, ?_, ?_, ?_, ?_, ?_, ?_, ?_, ?_, ?_, ?_, ?_, ?_⟩
  · have q := S.p2; try simp (disch := omega) only [wr_n, zu_n, couK_zu V]
    exact q
  · have q := S.p3; try simp (disch := omega) only [wr_n, zu_n, couK_zu V]
    exact q
  · have q := S.p4; try simp (disch := omega) only [wr_n, zu_n, couK_zu V]
    exact q
  · have q := S.p5; try simp (disch := omega) only [wr_n, zu_n, couK_zu V]
    exact q
  · have q := S.p6; try simp (disch := omega) only [wr_n, zu_n, couK_zu V]
    exact q
  · have q := S.p7; try simp (disch := omega) only [wr_n, zu_n, couK_zu V]
    exact q
  · have q := S.p8; try simp (disch := omega) only [wr_n, zu_n, couK_zu V]
    exact q
  · have q := S.p9; try simp (disch := omega) only [wr_n, zu_n, couK_zu V]
    exact q
  · have q := S.e0; try simp (disch := omega) only [wr_n, zu_n, couK_zu V]
    exact q
  · have q := S.e1; try simp (disch := omega) only [wr_n, zu_n, couK_zu V]
    exact q
  · have q := S.e2; try simp (disch := omega) only [wr_n, zu_n, couK_zu V]
    exact q
  · have q := S.e4; try simp (disch := omega) only [wr_n, zu_n, couK_zu V]
    exact q
  · have q := S.e5; try simp (disch := omega) only [wr_n, zu_n, couK_zu V]
    exact q
  · exact (wr_n (by omega)).trans S.l2
  · exact (wr_n (by omega)).trans S.l3
  · exact (wr_n (by omega)).trans S.l4
  · exact (wr_n (by omega)).trans S.l5
  · have q := S.tm; try simp (disch := omega) only [wr_n, zu_n, couK_zu V]
    exact q
  · have q := S.sc; try simp (disch := omega) only [wr_n, zu_n, couK_zu V]
    exact q
  · intro e e0 e1; have q := S.po e e0 e1; try simp (disch := omega) only [wr_n, zu_n, couK_zu V]
    exact q
  · intro e e0 e1; have q := S.al e e0 e1; try simp (disch := omega) only [wr_n, zu_n, couK_zu V]
    exact q
  · intro e e0 e1; have q := S.ho e e0 e1; try simp (disch := omega) only [wr_n, zu_n, couK_zu V]
    exact q
  · intro e e0 e1; have q := S.mo e e0 e1; try simp (disch := omega) only [wr_n, zu_n, couK_zu V]
    exact q
  · intro e e0 e1; have q := S.dn e e0 e1; try simp (disch := omega) only [wr_n, zu_n, couK_zu V]
    exact q
  · intro e e0 e1; have q := S.se e e0 e1; try simp (disch := omega) only [wr_n, zu_n, couK_zu V]
    exact q
  · intro e e0 e1; have q := S.ke e e0 e1; try simp (disch := omega) only [wr_n, zu_n, couK_zu V]
    exact q
  · intro e u e0 e1 u0 u1; have mn := MN e e0 e1; try simp (disch := omega) only [wr_n, zu_n, couK_zu V] at u1
    have q := S.ki e u e0 e1 u0 u1; try simp (disch := omega) only [wr_n, zu_n, couK_zu V]
    exact q
  · intro e u e0 e1 u0 u1; have mn := MN e e0 e1; try simp (disch := omega) only [wr_n, zu_n, couK_zu V] at u1
    have q := S.ti e u e0 e1 u0 u1; try simp (disch := omega) only [wr_n, zu_n, couK_zu V]
    exact q
  · have q := S.ca; try simp (disch := omega) only [wr_n, zu_n, couK_zu V]
    exact q
  · intro e e0 e1; try simp (disch := omega) only [wr_n, zu_n, couK_zu V] at e1
    have q := S.co e e0 e1; have cl := CL; try simp (disch := omega) only [wr_n, zu_n, couK_zu V]
    exact q
  · intro e e0 e1; have ci := CI e; have cl := CL; have q := S.ct e e0 e1; try simp (disch := omega) only [wr_n, zu_n, couK_zu V]
    exact q
  · (rw [zu_n (by omega)]; simp (disch := omega) only [wr_n]; exact S.lk)
  · (rw [zu_n (by omega)]; simp (disch := omega) only [wr_n]; exact S.ln)
  · intro e e0 e1 e2; try simp (disch := omega) only [wr_n, zu_n, couK_zu V] at e2
    have q := S.lq e e0 e1 e2; try simp (disch := omega) only [wr_n, zu_n, couK_zu V]
    exact q
  · intro e e0 e1 e2; try simp (disch := omega) only [wr_n, zu_n, couK_zu V] at e2
    have q := S.li e e0 e1 e2; try simp (disch := omega) only [wr_n, zu_n, couK_zu V]
    exact q
  · intro e e0 e1 e2; try simp (disch := omega) only [wr_n, zu_n, couK_zu V] at e2
    have q := S.lt e e0 e1 e2; try simp (disch := omega) only [wr_n, zu_n, couK_zu V]
    exact q
  · intro e e0 e1; (by_cases z : e = i; (subst z; rw [zu_s]; exact wr_s); (rw [zu_n (by omega)]; exact (wr_i z).trans (S.to e e0 e1)))
theorem CR.ztm (C : CR P σ p t f g) (T : TV t) (F : FV B t f g) (V : CV f) : CR P (wr σ 27 0 v) p t (zu f 0 v) g := by
  have n1 := T.n1; have n2 := T.n2; have MN := F.mn; have CL := V.le; have CI := fun c => couK_in (f := f) (c := c) V.c0
  refine C.fr (fun o ho => by simp (disch := omega) only [wr_o]) ?_
  have S := C.s
  refine ⟨?_, ?_, ?_, ?_, ?_, ?_, ?_, ?_, ?_, ?_, ?_, ?_, ?_, ?_, ?_, ?_, ?_, ?_, ?_, ?_, ?_, ?_, ?_, ?_, ?_, ?_, ?_, ?_, ?_, ?_, ?_, ?_, ?_, ?_, ?_, ?_, ?_⟩
  · have q := S.p2; try simp (disch := omega) only [wr_n, wr_i, zu_n, couK_zu V]
    exact q
  · have q := S.p3; try simp (disch := omega) only [wr_n, wr_i, zu_n, couK_zu V]
    exact q
  · have q := S.p4; try simp (disch := omega) only [wr_n, wr_i, zu_n, couK_zu V]
    exact q
  · have q := S.p5; try simp (disch := omega) only [wr_n, wr_i, zu_n, couK_zu V]
    exact q
  · have q := S.p6; try simp (disch := omega) only [wr_n, wr_i, zu_n, couK_zu V]
    exact q
  · have q := S.p7; try simp (disch := omega) only [wr_n, wr_i, zu_n, couK_zu V]
    exact q
  · have q := S.p8; try simp (disch := omega) only [wr_n, wr_i, zu_n, couK_zu V]
    exact q
  · have q := S.p9; try simp (disch := omega) only [wr_n, wr_i, zu_n, couK_zu V]
    exact q
  · have q := S.e0; try simp (disch := omega) only [wr_n, wr_i, zu_n, couK_zu V]
    exact q
  · have q := S.e1; try simp (disch := omega) only [wr_n, wr_i, zu_n, couK_zu V]
    exact q
  · have q := S.e2; try simp (disch := omega) only [wr_n, wr_i, zu_n, couK_zu V]
    exact q
  · have q := S.e4; try simp (disch := omega) only [wr_n, wr_i, zu_n, couK_zu V]
    exact q
  · have q := S.e5; try simp (disch := omega) only [wr_n, wr_i, zu_n, couK_zu V]
    exact q
  · have q := S.l2; try simp (disch := omega) only [wr_n, wr_i, zu_n, couK_zu V]
    exact q
  · have q := S.l3; try simp (disch := omega) only [wr_n, wr_i, zu_n, couK_zu V]
    exact q
  · have q := S.l4; try simp (disch := omega) only [wr_n, wr_i, zu_n, couK_zu V]
    exact q
  · have q := S.l5; try simp (disch := omega) only [wr_n, wr_i, zu_n, couK_zu V]
    exact q
  · (rw [zu_s]; exact wr_s)
  · have q := S.sc; try simp (disch := omega) only [wr_n, wr_i, zu_n, couK_zu V]
    exact q
  · intro e e0 e1; have q := S.po e e0 e1; try simp (disch := omega) only [wr_n, wr_i, zu_n, couK_zu V]
    exact q
  · intro e e0 e1; have q := S.al e e0 e1; try simp (disch := omega) only [wr_n, wr_i, zu_n, couK_zu V]
    exact q
  · intro e e0 e1; have q := S.ho e e0 e1; try simp (disch := omega) only [wr_n, wr_i, zu_n, couK_zu V]
    exact q
  · intro e e0 e1; have q := S.mo e e0 e1; try simp (disch := omega) only [wr_n, wr_i, zu_n, couK_zu V]
    exact q
  · intro e e0 e1; have q := S.dn e e0 e1; try simp (disch := omega) only [wr_n, wr_i, zu_n, couK_zu V]
    exact q
  · intro e e0 e1; have q := S.se e e0 e1; try simp (disch := omega) only [wr_n, wr_i, zu_n, couK_zu V]
    exact q
  · intro e e0 e1; have q := S.ke e e0 e1; try simp (disch := omega) only [wr_n, wr_i, zu_n, couK_zu V]
    exact q
  · intro e u e0 e1 u0 u1; have mn := MN e e0 e1; try simp (disch := omega) only [wr_n, wr_i, zu_n, couK_zu V] at u1
    have q := S.ki e u e0 e1 u0 u1; try simp (disch := omega) only [wr_n, wr_i, zu_n, couK_zu V]
    exact q
  · intro e u e0 e1 u0 u1; have mn := MN e e0 e1; try simp (disch := omega) only [wr_n, wr_i, zu_n, couK_zu V] at u1
    have q := S.ti e u e0 e1 u0 u1; try simp (disch := omega) only [wr_n, wr_i, zu_n, couK_zu V]
    exact q
  · have q := S.ca; try simp (disch := omega) only [wr_n, wr_i, zu_n, couK_zu V]
    exact q
  · intro e e0 e1; try simp (disch := omega) only [wr_n, wr_i, zu_n, couK_zu V] at e1
    have q := S.co e e0 e1; have cl := CL; try simp (disch := omega) only [wr_n, wr_i, zu_n, couK_zu V]
    exact q
  · intro e e0 e1; have ci := CI e; have cl := CL; have q := S.ct e e0 e1; try simp (disch := omega) only [wr_n, wr_i, zu_n, couK_zu V]
    exact q
  · have q := S.lk; try simp (disch := omega) only [wr_n, wr_i, zu_n, couK_zu V]
    exact q
  · have q := S.ln; try simp (disch := omega) only [wr_n, wr_i, zu_n, couK_zu V]
    exact q
  · intro e e0 e1 e2; try simp (disch := omega) only [wr_n, wr_i, zu_n, couK_zu V] at e2
    have q := S.lq e e0 e1 e2; try simp (disch := omega) only [wr_n, wr_i, zu_n, couK_zu V]
    exact q
  · intro e e0 e1 e2; try simp (disch := omega) only [wr_n, wr_i, zu_n, couK_zu V] at e2
    have q := S.li e e0 e1 e2; try simp (disch := omega) only [wr_n, wr_i, zu_n, couK_zu V]
    exact q
  · intro e e0 e1 e2; try simp (disch := omega) only [wr_n, wr_i, zu_n, couK_zu V] at e2
    have q := S.lt e e0 e1 e2; try simp (disch := omega) only [wr_n, wr_i, zu_n, couK_zu V]
    exact q
  · intro e e0 e1; have q := S.to e e0 e1; try simp (disch := omega) only [wr_n, wr_i, zu_n, couK_zu V]
    exact q
theorem CR.zsc (C : CR P σ p t f g) (T : TV t) (F : FV B t f g) (V : CV f) : CR P (wr σ 27 1 v) p t (zu f 1 v) g := by
  have n1 := T.n1; have n2 := T.n2; have MN := F.mn; have CL := V.le; have CI := fun c => couK_in (f := f) (c := c) V.c0
  refine C.fr (fun o ho => by simp (disch := omega) only [wr_o]) ?_
  have S := C.s
  refine ⟨?_, ?_, ?_, ?_, ?_, ?_, ?_, ?_, ?_, ?_, ?_, ?_, ?_, ?_, ?_, ?_, ?_, ?_, ?_, ?_, ?_, ?_, ?_, ?_, ?_, ?_, ?_, ?_, ?_, ?_, ?_, ?_, ?_, ?_, ?_, ?_, ?_⟩
  · have q := S.p2; try simp (disch := omega) only [wr_n, wr_i, zu_n, couK_zu V]
    exact q
  · have q := S.p3; try simp (disch := omega) only [wr_n, wr_i, zu_n, couK_zu V]
    exact q
  · have q := S.p4; try simp (disch := omega) only [wr_n, wr_i, zu_n, couK_zu V]
    exact q
  · have q := S.p5; try simp (disch := omega) only [wr_n, wr_i, zu_n, couK_zu V]
    exact q
  · have q := S.p6; try simp (disch := omega) only [wr_n, wr_i, zu_n, couK_zu V]
    exact q
  · have q := S.p7; try simp (disch := omega) only [wr_n, wr_i, zu_n, couK_zu V]
    exact q
  · have q := S.p8; try simp (disch := omega) only [wr_n, wr_i, zu_n, couK_zu V]
    exact q
  · have q := S.p9; try simp (disch := omega) only [wr_n, wr_i, zu_n, couK_zu V]
    exact q
  · have q := S.e0; try simp (disch := omega) only [wr_n, wr_i, zu_n, couK_zu V]
    exact q
  · have q := S.e1; try simp (disch := omega) only [wr_n, wr_i, zu_n, couK_zu V]
    exact q
  · have q := S.e2; try simp (disch := omega) only [wr_n, wr_i, zu_n, couK_zu V]
    exact q
  · have q := S.e4; try simp (disch := omega) only [wr_n, wr_i, zu_n, couK_zu V]
    exact q
  · have q := S.e5; try simp (disch := omega) only [wr_n, wr_i, zu_n, couK_zu V]
    exact q
  · have q := S.l2; try simp (disch := omega) only [wr_n, wr_i, zu_n, couK_zu V]
    exact q
  · have q := S.l3; try simp (disch := omega) only [wr_n, wr_i, zu_n, couK_zu V]
    exact q
  · have q := S.l4; try simp (disch := omega) only [wr_n, wr_i, zu_n, couK_zu V]
    exact q
  · have q := S.l5; try simp (disch := omega) only [wr_n, wr_i, zu_n, couK_zu V]
    exact q
  · have q := S.tm; try simp (disch := omega) only [wr_n, wr_i, zu_n, couK_zu V]
    exact q
  · (rw [zu_s]; exact wr_s)
  · intro e e0 e1; have q := S.po e e0 e1; try simp (disch := omega) only [wr_n, wr_i, zu_n, couK_zu V]
    exact q
  · intro e e0 e1; have q := S.al e e0 e1; try simp (disch := omega) only [wr_n, wr_i, zu_n, couK_zu V]
    exact q
  · intro e e0 e1; have q := S.ho e e0 e1; try simp (disch := omega) only [wr_n, wr_i, zu_n, couK_zu V]
    exact q
  · intro e e0 e1; have q := S.mo e e0 e1; try simp (disch := omega) only [wr_n, wr_i, zu_n, couK_zu V]
    exact q
  · intro e e0 e1; have q := S.dn e e0 e1; try simp (disch := omega) only [wr_n, wr_i, zu_n, couK_zu V]
    exact q
  · intro e e0 e1; have q := S.se e e0 e1; try simp (disch := omega) only [wr_n, wr_i, zu_n, couK_zu V]
    exact q
  · intro e e0 e1; have q := S.ke e e0 e1; try simp (disch := omega) only [wr_n, wr_i, zu_n, couK_zu V]
    exact q
  · intro e u e0 e1 u0 u1; have mn := MN e e0 e1; try simp (disch := omega) only [wr_n, wr_i, zu_n, couK_zu V] at u1
    have q := S.ki e u e0 e1 u0 u1; try simp (disch := omega) only [wr_n, wr_i, zu_n, couK_zu V]
    exact q
  · intro e u e0 e1 u0 u1; have mn := MN e e0 e1; try simp (disch := omega) only [wr_n, wr_i, zu_n, couK_zu V] at u1
    have q := S.ti e u e0 e1 u0 u1; try simp (disch := omega) only [wr_n, wr_i, zu_n, couK_zu V]
    exact q
  · have q := S.ca; try simp (disch := omega) only [wr_n, wr_i, zu_n, couK_zu V]
    exact q
  · intro e e0 e1; try simp (disch := omega) only [wr_n, wr_i, zu_n, couK_zu V] at e1
    have q := S.co e e0 e1; have cl := CL; try simp (disch := omega) only [wr_n, wr_i, zu_n, couK_zu V]
    exact q
  · intro e e0 e1; have ci := CI e; have cl := CL; have q := S.ct e e0 e1; try simp (disch := omega) only [wr_n, wr_i, zu_n, couK_zu V]
    exact q
  · have q := S.lk; try simp (disch := omega) only [wr_n, wr_i, zu_n, couK_zu V]
    exact q
  · have q := S.ln; try simp (disch := omega) only [wr_n, wr_i, zu_n, couK_zu V]
    exact q
  · intro e e0 e1 e2; try simp (disch := omega) only [wr_n, wr_i, zu_n, couK_zu V] at e2
    have q := S.lq e e0 e1 e2; try simp (disch := omega) only [wr_n, wr_i, zu_n, couK_zu V]
    exact q
  · intro e e0 e1 e2; try simp (disch := omega) only [wr_n, wr_i, zu_n, couK_zu V] at e2
    have q := S.li e e0 e1 e2; try simp (disch := omega) only [wr_n, wr_i, zu_n, couK_zu V]
    exact q
  · intro e e0 e1 e2; try simp (disch := omega) only [wr_n, wr_i, zu_n, couK_zu V] at e2
    have q := S.lt e e0 e1 e2; try simp (disch := omega) only [wr_n, wr_i, zu_n, couK_zu V]
    exact q
  · intro e e0 e1; have q := S.to e e0 e1; try simp (disch := omega) only [wr_n, wr_i, zu_n, couK_zu V]
    exact q
theorem CR.al1 (C : CR P σ p t f g) (T : TV t) (F : FV B t f g) (V : CV f) (h0 : 0 ≤ d) (h1 : d < t 1) : CR P (wr σ 29 d v) p t (zu (zu f (14 + 28 * d + 1) 1) (14 + 28 * d + 2) v) g := by
  have n1 := T.n1; have n2 := T.n2; have MN := F.mn; have CL := V.le; have CI := fun c => couK_in (f := f) (c := c) V.c0
  refine C.fr (fun o ho => by simp (disch := omega) only [wr_o]) ?_
  have S := C.s
  have V2 := V.zu (i := 14 + 28 * d + 1) (v := 1) (by omega)
  refine ⟨?_, ?_, ?_, ?_, ?_, ?_, ?_, ?_, ?_, ?_, ?_, ?_, ?_, ?_, ?_, ?_, ?_, ?_, ?_, ?_, ?_, ?_, ?_, ?_, ?_, ?_, ?_, ?_, ?_, ?_, ?_, ?_, ?_, ?_, ?_, ?_, ?_⟩
  · have q := S.p2; try simp (disch := omega) only [wr_n, wr_i, zu_n, couK_zu V2, couK_zu V]
    exact q
  · have q := S.p3; try simp (disch := omega) only [wr_n, wr_i, zu_n, couK_zu V2, couK_zu V]
    exact q
  · have q := S.p4; try simp (disch := omega) only [wr_n, wr_i, zu_n, couK_zu V2, couK_zu V]
    exact q
  · have q := S.p5; try simp (disch := omega) only [wr_n, wr_i, zu_n, couK_zu V2, couK_zu V]
    exact q
  · have q := S.p6; try simp (disch := omega) only [wr_n, wr_i, zu_n, couK_zu V2, couK_zu V]
    exact q
  · have q := S.p7; try simp (disch := omega) only [wr_n, wr_i, zu_n, couK_zu V2, couK_zu V]
    exact q
  · have q := S.p8; try simp (disch := omega) only [wr_n, wr_i, zu_n, couK_zu V2, couK_zu V]
    exact q
  · have q := S.p9; try simp (disch := omega) only [wr_n, wr_i, zu_n, couK_zu V2, couK_zu V]
    exact q
  · have q := S.e0; try simp (disch := omega) only [wr_n, wr_i, zu_n, couK_zu V2, couK_zu V]
    exact q
  · have q := S.e1; try simp (disch := omega) only [wr_n, wr_i, zu_n, couK_zu V2, couK_zu V]
    exact q
  · have q := S.e2; try simp (disch := omega) only [wr_n, wr_i, zu_n, couK_zu V2, couK_zu V]
    exact q
  · have q := S.e4; try simp (disch := omega) only [wr_n, wr_i, zu_n, couK_zu V2, couK_zu V]
    exact q
  · have q := S.e5; try simp (disch := omega) only [wr_n, wr_i, zu_n, couK_zu V2, couK_zu V]
    exact q
  · have q := S.l2; try simp (disch := omega) only [wr_n, wr_i, zu_n, couK_zu V2, couK_zu V]
    exact q
  · have q := S.l3; try simp (disch := omega) only [wr_n, wr_i, zu_n, couK_zu V2, couK_zu V]
    exact q
  · have q := S.l4; try simp (disch := omega) only [wr_n, wr_i, zu_n, couK_zu V2, couK_zu V]
    exact q
  · have q := S.l5; try simp (disch := omega) only [wr_n, wr_i, zu_n, couK_zu V2, couK_zu V]
    exact q
  · have q := S.tm; try simp (disch := omega) only [wr_n, wr_i, zu_n, couK_zu V2, couK_zu V]
    exact q
  · have q := S.sc; try simp (disch := omega) only [wr_n, wr_i, zu_n, couK_zu V2, couK_zu V]
    exact q
  · intro e e0 e1; have q := S.po e e0 e1; try simp (disch := omega) only [wr_n, wr_i, zu_n, couK_zu V2, couK_zu V]
    exact q
  · intro e e0 e1; (by_cases z : e = d; (subst z; rw [zu_n (by omega), zu_s, if_neg (by omega), zu_s]; exact wr_s); (simp (disch := omega) only [zu_n]; exact (wr_i z).trans (S.al e e0 e1)))
  · intro e e0 e1; have q := S.ho e e0 e1; try simp (disch := omega) only [wr_n, wr_i, zu_n, couK_zu V2, couK_zu V]
    exact q
  · intro e e0 e1; have q := S.mo e e0 e1; try simp (disch := omega) only [wr_n, wr_i, zu_n, couK_zu V2, couK_zu V]
    exact q
  · intro e e0 e1; have q := S.dn e e0 e1; try simp (disch := omega) only [wr_n, wr_i, zu_n, couK_zu V2, couK_zu V]
    exact q
  · intro e e0 e1; have q := S.se e e0 e1; try simp (disch := omega) only [wr_n, wr_i, zu_n, couK_zu V2, couK_zu V]
    exact q
  · intro e e0 e1; have q := S.ke e e0 e1; try simp (disch := omega) only [wr_n, wr_i, zu_n, couK_zu V2, couK_zu V]
    exact q
  · intro e u e0 e1 u0 u1; have mn := MN e e0 e1; try simp (disch := omega) only [wr_n, wr_i, zu_n, couK_zu V2, couK_zu V] at u1
    have q := S.ki e u e0 e1 u0 u1; try simp (disch := omega) only [wr_n, wr_i, zu_n, couK_zu V2, couK_zu V]
    exact q
  · intro e u e0 e1 u0 u1; have mn := MN e e0 e1; try simp (disch := omega) only [wr_n, wr_i, zu_n, couK_zu V2, couK_zu V] at u1
    have q := S.ti e u e0 e1 u0 u1; try simp (disch := omega) only [wr_n, wr_i, zu_n, couK_zu V2, couK_zu V]
    exact q
  · have q := S.ca; try simp (disch := omega) only [wr_n, wr_i, zu_n, couK_zu V2, couK_zu V]
    exact q
  · intro e e0 e1; try simp (disch := omega) only [wr_n, wr_i, zu_n, couK_zu V2, couK_zu V] at e1
    have q := S.co e e0 e1; have cl := CL; try simp (disch := omega) only [wr_n, wr_i, zu_n, couK_zu V2, couK_zu V]
    exact q
  · intro e e0 e1; have ci := CI e; have cl := CL; have q := S.ct e e0 e1; try simp (disch := omega) only [wr_n, wr_i, zu_n, couK_zu V2, couK_zu V]
    exact q
  · have q := S.lk; try simp (disch := omega) only [wr_n, wr_i, zu_n, couK_zu V2, couK_zu V]
    exact q
  · have q := S.ln; try simp (disch := omega) only [wr_n, wr_i, zu_n, couK_zu V2, couK_zu V]
    exact q
  · intro e e0 e1 e2; try simp (disch := omega) only [wr_n, wr_i, zu_n, couK_zu V2, couK_zu V] at e2
    have q := S.lq e e0 e1 e2; try simp (disch := omega) only [wr_n, wr_i, zu_n, couK_zu V2, couK_zu V]
    exact q
  · intro e e0 e1 e2; try simp (disch := omega) only [wr_n, wr_i, zu_n, couK_zu V2, couK_zu V] at e2
    have q := S.li e e0 e1 e2; try simp (disch := omega) only [wr_n, wr_i, zu_n, couK_zu V2, couK_zu V]
    exact q
  · intro e e0 e1 e2; try simp (disch := omega) only [wr_n, wr_i, zu_n, couK_zu V2, couK_zu V] at e2
    have q := S.lt e e0 e1 e2; try simp (disch := omega) only [wr_n, wr_i, zu_n, couK_zu V2, couK_zu V]
    exact q
  · intro e e0 e1; have q := S.to e e0 e1; try simp (disch := omega) only [wr_n, wr_i, zu_n, couK_zu V2, couK_zu V]
    exact q
theorem CR.cal (C : CR P σ p t f g) (T : TV t) (F : FV B t f g) (V : CV f) (h0 : 0 ≤ d) (h1 : d < t 1) : CR P (wr (wr σ 29 d (-1)) 35 d 0) p t (zu (zu f (14 + 28 * d + 1) 0) (14 + 28 * d + 3) 0) g := by
  have n1 := T.n1; have n2 := T.n2; have MN := F.mn; have CL := V.le; have CI := fun c => couK_in (f := f) (c := c) V.c0
  refine C.fr (fun o ho => by simp (disch := omega) only [wr_o]) ?_
  have S := C.s
  have V2 := V.zu (i := 14 + 28 * d + 1) (v := 0) (by omega)
  refine ⟨?_, ?_, ?_, ?_, ?_, ?_, ?_, ?_, ?_, ?_, ?_, ?_, ?_, ?_, ?_, ?_, ?_, ?_, ?_, ?_, ?_, ?_, ?_, ?_, ?_, ?_, ?_, ?_, ?_, ?_, ?_, ?_, ?_, ?_, ?_, ?_, ?_⟩
  · have q := S.p2; try simp (disch := omega) only [wr_n, wr_i, zu_n, couK_zu V2, couK_zu V]
    exact q
  · have q := S.p3; try simp (disch := omega) only [wr_n, wr_i, zu_n, couK_zu V2, couK_zu V]
    exact q
  · have q := S.p4; try simp (disch := omega) only [wr_n, wr_i, zu_n, couK_zu V2, couK_zu V]
    exact q
  · have q := S.p5; try simp (disch := omega) only [wr_n, wr_i, zu_n, couK_zu V2, couK_zu V]
    exact q
  · have q := S.p6; try simp (disch := omega) only [wr_n, wr_i, zu_n, couK_zu V2, couK_zu V]
    exact q
  · have q := S.p7; try simp (disch := omega) only [wr_n, wr_i, zu_n, couK_zu V2, couK_zu V]
    exact q
  · have q := S.p8; try simp (disch := omega) only [wr_n, wr_i, zu_n, couK_zu V2, couK_zu V]
    exact q
  · have q := S.p9; try simp (disch := omega) only [wr_n, wr_i, zu_n, couK_zu V2, couK_zu V]
    exact q
  · have q := S.e0; try simp (disch := omega) only [wr_n, wr_i, zu_n, couK_zu V2, couK_zu V]
    exact q
  · have q := S.e1; try simp (disch := omega) only [wr_n, wr_i, zu_n, couK_zu V2, couK_zu V]
    exact q
  · have q := S.e2; try simp (disch := omega) only [wr_n, wr_i, zu_n, couK_zu V2, couK_zu V]
    exact q
  · have q := S.e4; try simp (disch := omega) only [wr_n, wr_i, zu_n, couK_zu V2, couK_zu V]
    exact q
  · have q := S.e5; try simp (disch := omega) only [wr_n, wr_i, zu_n, couK_zu V2, couK_zu V]
    exact q
  · have q := S.l2; try simp (disch := omega) only [wr_n, wr_i, zu_n, couK_zu V2, couK_zu V]
    exact q
  · have q := S.l3; try simp (disch := omega) only [wr_n, wr_i, zu_n, couK_zu V2, couK_zu V]
    exact q
  · have q := S.l4; try simp (disch := omega) only [wr_n, wr_i, zu_n, couK_zu V2, couK_zu V]
    exact q
  · have q := S.l5; try simp (disch := omega) only [wr_n, wr_i, zu_n, couK_zu V2, couK_zu V]
    exact q
  · have q := S.tm; try simp (disch := omega) only [wr_n, wr_i, zu_n, couK_zu V2, couK_zu V]
    exact q
  · have q := S.sc; try simp (disch := omega) only [wr_n, wr_i, zu_n, couK_zu V2, couK_zu V]
    exact q
  · intro e e0 e1; have q := S.po e e0 e1; try simp (disch := omega) only [wr_n, wr_i, zu_n, couK_zu V2, couK_zu V]
    exact q
  · intro e e0 e1; (rw [wr_n (by omega)]; by_cases z : e = d; (subst z; rw [zu_n (by omega), zu_s, if_pos rfl]; exact wr_s); (simp (disch := omega) only [zu_n]; exact (wr_i z).trans (S.al e e0 e1)))
  · intro e e0 e1; have q := S.ho e e0 e1; try simp (disch := omega) only [wr_n, wr_i, zu_n, couK_zu V2, couK_zu V]
    exact q
  · intro e e0 e1; have q := S.mo e e0 e1; try simp (disch := omega) only [wr_n, wr_i, zu_n, couK_zu V2, couK_zu V]
    exact q
  · intro e e0 e1; have q := S.dn e e0 e1; try simp (disch := omega) only [wr_n, wr_i, zu_n, couK_zu V2, couK_zu V]
    exact q
  · intro e e0 e1; have q := S.se e e0 e1; try simp (disch := omega) only [wr_n, wr_i, zu_n, couK_zu V2, couK_zu V]
    exact q
  · intro e e0 e1; (by_cases z : e = d; (subst z; rw [zu_s]; exact wr_s); (simp (disch := omega) only [zu_n]; refine (wr_i z).trans ?_; rw [wr_n (by omega)]; exact S.ke e e0 e1))
  · intro e u e0 e1 u0 u1; (have mn := MN e e0 e1; by_cases z : e = d; (subst z; rw [zu_s] at u1; omega); (simp (disch := omega) only [zu_n] at u1; simp (disch := omega) only [zu_n, wr_n]; exact S.ki e u e0 e1 u0 u1))
  · intro e u e0 e1 u0 u1; (have mn := MN e e0 e1; by_cases z : e = d; (subst z; rw [zu_s] at u1; omega); (simp (disch := omega) only [zu_n] at u1; simp (disch := omega) only [zu_n, wr_n]; exact S.ti e u e0 e1 u0 u1))
  · have q := S.ca; try simp (disch := omega) only [wr_n, wr_i, zu_n, couK_zu V2, couK_zu V]
    exact q
  · intro e e0 e1; try simp (disch := omega) only [wr_n, wr_i, zu_n, couK_zu V2, couK_zu V] at e1
    have q := S.co e e0 e1; have cl := CL; try simp (disch := omega) only [wr_n, wr_i, zu_n, couK_zu V2, couK_zu V]
    exact q
  · intro e e0 e1; have ci := CI e; have cl := CL; have q := S.ct e e0 e1; try simp (disch := omega) only [wr_n, wr_i, zu_n, couK_zu V2, couK_zu V]
    exact q
  · have q := S.lk; try simp (disch := omega) only [wr_n, wr_i, zu_n, couK_zu V2, couK_zu V]
    exact q
  · have q := S.ln; try simp (disch := omega) only [wr_n, wr_i, zu_n, couK_zu V2, couK_zu V]
    exact q
  · intro e e0 e1 e2; try simp (disch := omega) only [wr_n, wr_i, zu_n, couK_zu V2, couK_zu V] at e2
    have q := S.lq e e0 e1 e2; try simp (disch := omega) only [wr_n, wr_i, zu_n, couK_zu V2, couK_zu V]
    exact q
  · intro e e0 e1 e2; try simp (disch := omega) only [wr_n, wr_i, zu_n, couK_zu V2, couK_zu V] at e2
    have q := S.li e e0 e1 e2; try simp (disch := omega) only [wr_n, wr_i, zu_n, couK_zu V2, couK_zu V]
    exact q
  · intro e e0 e1 e2; try simp (disch := omega) only [wr_n, wr_i, zu_n, couK_zu V2, couK_zu V] at e2
    have q := S.lt e e0 e1 e2; try simp (disch := omega) only [wr_n, wr_i, zu_n, couK_zu V2, couK_zu V]
    exact q
  · intro e e0 e1; have q := S.to e e0 e1; try simp (disch := omega) only [wr_n, wr_i, zu_n, couK_zu V2, couK_zu V]
    exact q
theorem CR.unp (C : CR P σ p t f g) (T : TV t) (F : FV B t f g) (V : CV f) (h0 : 0 ≤ d) (h1 : d < t 1) : CR P (wr (wr (wr σ 28 d (-1)) 29 d (-1)) 35 d 0) p t (zu (zu (zu f (14 + 28 * d + 0) (-1)) (14 + 28 * d + 1) 0) (14 + 28 * d + 3) 0) g := by
  have n1 := T.n1; have n2 := T.n2; have MN := F.mn; have CL := V.le; have CI := fun c => couK_in (f := f) (c := c) V.c0
  refine C.fr (fun o ho => by simp (disch := omega) only [wr_o]) ?_
  have S := C.s
  have V2 := V.zu (i := 14 + 28 * d + 0) (v := -1) (by omega)
  have V3 := V2.zu (i := 14 + 28 * d + 1) (v := 0) (by omega)
  refine ⟨?_, ?_, ?_, ?_, ?_, ?_, ?_, ?_, ?_, ?_, ?_, ?_, ?_, ?_, ?_, ?_, ?_, ?_, ?_, ?_, ?_, ?_, ?_, ?_, ?_, ?_, ?_, ?_, ?_, ?_, ?_, ?_, ?_, ?_, ?_, ?_, ?_⟩
  · have q := S.p2; try simp (disch := omega) only [wr_n, wr_i, zu_n, couK_zu V3, couK_zu V2, couK_zu V]
    exact q
  · have q := S.p3; try simp (disch := omega) only [wr_n, wr_i, zu_n, couK_zu V3, couK_zu V2, couK_zu V]
    exact q
  · have q := S.p4; try simp (disch := omega) only [wr_n, wr_i, zu_n, couK_zu V3, couK_zu V2, couK_zu V]
    exact q
  · have q := S.p5; try simp (disch := omega) only [wr_n, wr_i, zu_n, couK_zu V3, couK_zu V2, couK_zu V]
    exact q
  · have q := S.p6; try simp (disch := omega) only [wr_n, wr_i, zu_n, couK_zu V3, couK_zu V2, couK_zu V]
    exact q
  · have q := S.p7; try simp (disch := omega) only [wr_n, wr_i, zu_n, couK_zu V3, couK_zu V2, couK_zu V]
    exact q
  · have q := S.p8; try simp (disch := omega) only [wr_n, wr_i, zu_n, couK_zu V3, couK_zu V2, couK_zu V]
    exact q
  · have q := S.p9; try simp (disch := omega) only [wr_n, wr_i, zu_n, couK_zu V3, couK_zu V2, couK_zu V]
    exact q
  · have q := S.e0; try simp (disch := omega) only [wr_n, wr_i, zu_n, couK_zu V3, couK_zu V2, couK_zu V]
    exact q
  · have q := S.e1; try simp (disch := omega) only [wr_n, wr_i, zu_n, couK_zu V3, couK_zu V2, couK_zu V]
    exact q
  · have q := S.e2; try simp (disch := omega) only [wr_n, wr_i, zu_n, couK_zu V3, couK_zu V2, couK_zu V]
    exact q
  · have q := S.e4; try simp (disch := omega) only [wr_n, wr_i, zu_n, couK_zu V3, couK_zu V2, couK_zu V]
    exact q
  · have q := S.e5; try simp (disch := omega) only [wr_n, wr_i, zu_n, couK_zu V3, couK_zu V2, couK_zu V]
    exact q
  · have q := S.l2; try simp (disch := omega) only [wr_n, wr_i, zu_n, couK_zu V3, couK_zu V2, couK_zu V]
    exact q
  · have q := S.l3; try simp (disch := omega) only [wr_n, wr_i, zu_n, couK_zu V3, couK_zu V2, couK_zu V]
    exact q
  · have q := S.l4; try simp (disch := omega) only [wr_n, wr_i, zu_n, couK_zu V3, couK_zu V2, couK_zu V]
    exact q
  · have q := S.l5; try simp (disch := omega) only [wr_n, wr_i, zu_n, couK_zu V3, couK_zu V2, couK_zu V]
    exact q
  · have q := S.tm; try simp (disch := omega) only [wr_n, wr_i, zu_n, couK_zu V3, couK_zu V2, couK_zu V]
    exact q
  · have q := S.sc; try simp (disch := omega) only [wr_n, wr_i, zu_n, couK_zu V3, couK_zu V2, couK_zu V]
    exact q
  · intro e e0 e1; (rw [wr_n (by omega), wr_n (by omega)]; by_cases z : e = d; (subst z; rw [zu_n (by omega), zu_n (by omega), zu_s]; exact wr_s); (simp (disch := omega) only [zu_n]; exact (wr_i z).trans (S.po e e0 e1)))
  · intro e e0 e1; (rw [wr_n (by omega)]; by_cases z : e = d; (subst z; rw [zu_n (by omega), zu_s, if_pos rfl]; exact wr_s); (simp (disch := omega) only [zu_n]; refine (wr_i z).trans ?_; rw [wr_n (by omega)]; exact S.al e e0 e1))
  · intro e e0 e1; have q := S.ho e e0 e1; try simp (disch := omega) only [wr_n, wr_i, zu_n, couK_zu V3, couK_zu V2, couK_zu V]
    exact q
  · intro e e0 e1; have q := S.mo e e0 e1; try simp (disch := omega) only [wr_n, wr_i, zu_n, couK_zu V3, couK_zu V2, couK_zu V]
    exact q
  · intro e e0 e1; have q := S.dn e e0 e1; try simp (disch := omega) only [wr_n, wr_i, zu_n, couK_zu V3, couK_zu V2, couK_zu V]
    exact q
  · intro e e0 e1; have q := S.se e e0 e1; try simp (disch := omega) only [wr_n, wr_i, zu_n, couK_zu V3, couK_zu V2, couK_zu V]
    exact q
  · intro e e0 e1; (by_cases z : e = d; (subst z; rw [zu_s]; exact wr_s); (simp (disch := omega) only [zu_n]; refine (wr_i z).trans ?_; rw [wr_n (by omega), wr_n (by omega)]; exact S.ke e e0 e1))
  · intro e u e0 e1 u0 u1; (have mn := MN e e0 e1; by_cases z : e = d; (subst z; rw [zu_s] at u1; omega); (simp (disch := omega) only [zu_n] at u1; simp (disch := omega) only [zu_n, wr_n]; exact S.ki e u e0 e1 u0 u1))
  · intro e u e0 e1 u0 u1; (have mn := MN e e0 e1; by_cases z : e = d; (subst z; rw [zu_s] at u1; omega); (simp (disch := omega) only [zu_n] at u1; simp (disch := omega) only [zu_n, wr_n]; exact S.ti e u e0 e1 u0 u1))
  · have q := S.ca; try simp (disch := omega) only [wr_n, wr_i, zu_n, couK_zu V3, couK_zu V2, couK_zu V]
    exact q
  · intro e e0 e1; try simp (disch := omega) only [wr_n, wr_i, zu_n, couK_zu V3, couK_zu V2, couK_zu V] at e1
    have q := S.co e e0 e1; have cl := CL; try simp (disch := omega) only [wr_n, wr_i, zu_n, couK_zu V3, couK_zu V2, couK_zu V]
    exact q
  · intro e e0 e1; have ci := CI e; have cl := CL; have q := S.ct e e0 e1; try simp (disch := omega) only [wr_n, wr_i, zu_n, couK_zu V3, couK_zu V2, couK_zu V]
    exact q
  · have q := S.lk; try simp (disch := omega) only [wr_n, wr_i, zu_n, couK_zu V3, couK_zu V2, couK_zu V]
    exact q
  · have q := S.ln; try simp (disch := omega) only [wr_n, wr_i, zu_n, couK_zu V3, couK_zu V2, couK_zu V]
    exact q
  · intro e e0 e1 e2; try simp (disch := omega) only [wr_n, wr_i, zu_n, couK_zu V3, couK_zu V2, couK_zu V] at e2
    have q := S.lq e e0 e1 e2; try simp (disch := omega) only [wr_n, wr_i, zu_n, couK_zu V3, couK_zu V2, couK_zu V]
    exact q
  · intro e e0 e1 e2; try simp (disch := omega) only [wr_n, wr_i, zu_n, couK_zu V3, couK_zu V2, couK_zu V] at e2
    have q := S.li e e0 e1 e2; try simp (disch := omega) only [wr_n, wr_i, zu_n, couK_zu V3, couK_zu V2, couK_zu V]
    exact q
  · intro e e0 e1 e2; try simp (disch := omega) only [wr_n, wr_i, zu_n, couK_zu V3, couK_zu V2, couK_zu V] at e2
    have q := S.lt e e0 e1 e2; try simp (disch := omega) only [wr_n, wr_i, zu_n, couK_zu V3, couK_zu V2, couK_zu V]
    exact q
  · intro e e0 e1; have q := S.to e e0 e1; try simp (disch := omega) only [wr_n, wr_i, zu_n, couK_zu V3, couK_zu V2, couK_zu V]
    exact q
theorem CR.plu (C : CR P σ p t f g) (T : TV t) (F : FV B t f g) (V : CV f) (h0 : 0 ≤ d) (h1 : d < t 1) (hp : f (14 + 28 * d + 0) = -1) : CR P (wr (wr σ 28 d v) 29 d (-1)) p t (zu (zu f (14 + 28 * d + 0) v) (14 + 28 * d + 3) 0) g := by
  have n1 := T.n1; have n2 := T.n2; have MN := F.mn; have CL := V.le; have CI := fun c => couK_in (f := f) (c := c) V.c0
  have un := F.un d h0 h1 hp
  refine C.fr (fun o ho => by simp (disch := omega) only [wr_o]) ?_
  have S := C.s
  have V2 := V.zu (i := 14 + 28 * d + 0) (v := v) (by omega)
  refine ⟨?_, ?_, ?_, ?_, ?_, ?_, ?_, ?_, ?_, ?_, ?_, ?_, ?_, ?_, ?_, ?_, ?_, ?_, ?_, ?_, ?_, ?_, ?_, ?_, ?_, ?_, ?_, ?_, ?_, ?_, ?_, ?_, ?_, ?_, ?_, ?_, ?_⟩
  · have q := S.p2; try simp (disch := omega) only [wr_n, wr_i, zu_n, couK_zu V2, couK_zu V]
    exact q
  · have q := S.p3; try simp (disch := omega) only [wr_n, wr_i, zu_n, couK_zu V2, couK_zu V]
    exact q
  · have q := S.p4; try simp (disch := omega) only [wr_n, wr_i, zu_n, couK_zu V2, couK_zu V]
    exact q
  · have q := S.p5; try simp (disch := omega) only [wr_n, wr_i, zu_n, couK_zu V2, couK_zu V]
    exact q
  · have q := S.p6; try simp (disch := omega) only [wr_n, wr_i, zu_n, couK_zu V2, couK_zu V]
    exact q
  · have q := S.p7; try simp (disch := omega) only [wr_n, wr_i, zu_n, couK_zu V2, couK_zu V]
    exact q
  · have q := S.p8; try simp (disch := omega) only [wr_n, wr_i, zu_n, couK_zu V2, couK_zu V]
    exact q
  · have q := S.p9; try simp (disch := omega) only [wr_n, wr_i, zu_n, couK_zu V2, couK_zu V]
    exact q
  · have q := S.e0; try simp (disch := omega) only [wr_n, wr_i, zu_n, couK_zu V2, couK_zu V]
    exact q
  · have q := S.e1; try simp (disch := omega) only [wr_n, wr_i, zu_n, couK_zu V2, couK_zu V]
    exact q
  · have q := S.e2; try simp (disch := omega) only [wr_n, wr_i, zu_n, couK_zu V2, couK_zu V]
    exact q
  · have q := S.e4; try simp (disch := omega) only [wr_n, wr_i, zu_n, couK_zu V2, couK_zu V]
    exact q
  · have q := S.e5; try simp (disch := omega) only [wr_n, wr_i, zu_n, couK_zu V2, couK_zu V]
    exact q
  · have q := S.l2; try simp (disch := omega) only [wr_n, wr_i, zu_n, couK_zu V2, couK_zu V]
    exact q
  · have q := S.l3; try simp (disch := omega) only [wr_n, wr_i, zu_n, couK_zu V2, couK_zu V]
    exact q
  · have q := S.l4; try simp (disch := omega) only [wr_n, wr_i, zu_n, couK_zu V2, couK_zu V]
    exact q
  · have q := S.l5; try simp (disch := omega) only [wr_n, wr_i, zu_n, couK_zu V2, couK_zu V]
    exact q
  · have q := S.tm; try simp (disch := omega) only [wr_n, wr_i, zu_n, couK_zu V2, couK_zu V]
    exact q
  · have q := S.sc; try simp (disch := omega) only [wr_n, wr_i, zu_n, couK_zu V2, couK_zu V]
    exact q
  · intro e e0 e1; (rw [wr_n (by omega)]; by_cases z : e = d; (subst z; rw [zu_n (by omega), zu_s]; exact wr_s); (simp (disch := omega) only [zu_n]; exact (wr_i z).trans (S.po e e0 e1)))
  · intro e e0 e1; (by_cases z : e = d; (subst z; rw [zu_n (by omega), zu_n (by omega), un.1, if_pos rfl]; exact wr_s); (simp (disch := omega) only [zu_n]; refine (wr_i z).trans ?_; rw [wr_n (by omega)]; exact S.al e e0 e1))
  · intro e e0 e1; have q := S.ho e e0 e1; try simp (disch := omega) only [wr_n, wr_i, zu_n, couK_zu V2, couK_zu V]
    exact q
  · intro e e0 e1; have q := S.mo e e0 e1; try simp (disch := omega) only [wr_n, wr_i, zu_n, couK_zu V2, couK_zu V]
    exact q
  · intro e e0 e1; have q := S.dn e e0 e1; try simp (disch := omega) only [wr_n, wr_i, zu_n, couK_zu V2, couK_zu V]
    exact q
  · intro e e0 e1; have q := S.se e e0 e1; try simp (disch := omega) only [wr_n, wr_i, zu_n, couK_zu V2, couK_zu V]
    exact q
  · intro e e0 e1; (by_cases z : e = d; (subst z; rw [zu_s, wr_n (by omega), wr_n (by omega)]; exact (S.ke e e0 e1).trans un.2); (simp (disch := omega) only [zu_n, wr_n]; exact S.ke e e0 e1))
  · intro e u e0 e1 u0 u1; (have mn := MN e e0 e1; by_cases z : e = d; (subst z; rw [zu_s] at u1; omega); (simp (disch := omega) only [zu_n] at u1; simp (disch := omega) only [zu_n, wr_n]; exact S.ki e u e0 e1 u0 u1))
  · intro e u e0 e1 u0 u1; (have mn := MN e e0 e1; by_cases z : e = d; (subst z; rw [zu_s] at u1; omega); (simp (disch := omega) only [zu_n] at u1; simp (disch := omega) only [zu_n, wr_n]; exact S.ti e u e0 e1 u0 u1))
  · have q := S.ca; try simp (disch := omega) only [wr_n, wr_i, zu_n, couK_zu V2, couK_zu V]
    exact q
  · intro e e0 e1; try simp (disch := omega) only [wr_n, wr_i, zu_n, couK_zu V2, couK_zu V] at e1
    have q := S.co e e0 e1; have cl := CL; try simp (disch := omega) only [wr_n, wr_i, zu_n, couK_zu V2, couK_zu V]
    exact q
  · intro e e0 e1; have ci := CI e; have cl := CL; have q := S.ct e e0 e1; try simp (disch := omega) only [wr_n, wr_i, zu_n, couK_zu V2, couK_zu V]
    exact q
  · have q := S.lk; try simp (disch := omega) only [wr_n, wr_i, zu_n, couK_zu V2, couK_zu V]
    exact q
  · have q := S.ln; try simp (disch := omega) only [wr_n, wr_i, zu_n, couK_zu V2, couK_zu V]
    exact q
  · intro e e0 e1 e2; try simp (disch := omega) only [wr_n, wr_i, zu_n, couK_zu V2, couK_zu V] at e2
    have q := S.lq e e0 e1 e2; try simp (disch := omega) only [wr_n, wr_i, zu_n, couK_zu V2, couK_zu V]
    exact q
  · intro e e0 e1 e2; try simp (disch := omega) only [wr_n, wr_i, zu_n, couK_zu V2, couK_zu V] at e2
    have q := S.li e e0 e1 e2; try simp (disch := omega) only [wr_n, wr_i, zu_n, couK_zu V2, couK_zu V]
    exact q
  · intro e e0 e1 e2; try simp (disch := omega) only [wr_n, wr_i, zu_n, couK_zu V2, couK_zu V] at e2
    have q := S.lt e e0 e1 e2; try simp (disch := omega) only [wr_n, wr_i, zu_n, couK_zu V2, couK_zu V]
    exact q
  · intro e e0 e1; have q := S.to e e0 e1; try simp (disch := omega) only [wr_n, wr_i, zu_n, couK_zu V2, couK_zu V]
    exact q
end ZR
