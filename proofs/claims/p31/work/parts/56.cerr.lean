/-! THE CLASS'S ERRORS AND ALARMS. -/
section ZQ
variable {P : Shp} {σ σ' σ1 : St} {t f f' f2 g : Int → Int} {B : Int} {d k p q kind who m h j c x y i v part : Int} {n : Nat}
theorem CR.kee (C : CR P σ p t f g) (T : TV t) (F : FV B t f g) (V : CV f) (h0 : 0 ≤ d) (h1 : d < t 1)
    (a0 : ∀ o, (o < 35 ∨ 37 < o) → σ1 o = σ o)
    (a5 : ∀ j, σ1 35 j = if j = d then (if 11 < f (14 + 28 * d + 3) then 11 else f (14 + 28 * d + 3)) + 1 else σ 35 j)
    (a6 : ∀ j, σ1 36 j = if j = d * 12 + (if 11 < f (14 + 28 * d + 3) then 11 else f (14 + 28 * d + 3)) then kind else if d * 12 ≤ j ∧ j < d * 12 + (if 11 < f (14 + 28 * d + 3) then 11 else f (14 + 28 * d + 3)) then σ 36 (j + (if 11 < f (14 + 28 * d + 3) then 1 else 0)) else σ 36 j)
    (a7 : ∀ j, σ1 37 j = if j = d * 12 + (if 11 < f (14 + 28 * d + 3) then 11 else f (14 + 28 * d + 3)) then f 0 else if d * 12 ≤ j ∧ j < d * 12 + (if 11 < f (14 + 28 * d + 3) then 11 else f (14 + 28 * d + 3)) then σ 37 (j + (if 11 < f (14 + 28 * d + 3) then 1 else 0)) else σ 37 j) : CR P σ1 p t (keeF f d kind) g := by
  have n1 := T.n1; have n2 := T.n2; have MN := F.mn; have CL := V.le; have CI := fun c => couK_in (f := f) (c := c) V.c0
  have mn := F.mn d h0 h1
  have ko : ∀ j, (j < 14 + 28 * d + 3 ∨ 14 + 28 * d + 28 ≤ j) → keeF f d kind j = f j := fun j hj => keeF_o h0 mn.1 mn.2 hj
  have km := keeF_m (kind := kind) h0 mn.1 mn.2
  have ki := fun i (i0 : 0 ≤ i) (i1 : i < (if 11 < f (14 + 28 * d + 3) then 11 else f (14 + 28 * d + 3))) => keeF_i (kind := kind) h0 mn.1 mn.2 i0 i1
  have kl := keeF_l (kind := kind) h0 mn.1 mn.2
  have ek : ∀ x, couK (keeF f d kind) x = couK f x := fun x => couK_c V.c0 (ko 13 (by omega)) fun j j0 j1 => ko _ (by omega)
  refine C.fr (fun o ho => a0 o (by omega)) ?_
  have S := C.s
  have en : (if 11 < f (14 + 28 * d + 3) then 11 else f (14 + 28 * d + 3)) + 1 = if f (14 + 28 * d + 3) = 12 then 12 else f (14 + 28 * d + 3) + 1 := by split <;> split <;> omega
  generalize hN : (if 11 < f (14 + 28 * d + 3) then 11 else f (14 + 28 * d + 3)) = N at *
  generalize hO : (if 11 < f (14 + 28 * d + 3) then (1 : Int) else 0) = O at *
  have hNO : 0 ≤ N ∧ N ≤ 11 ∧ N + O = f (14 + 28 * d + 3) ∧ 0 ≤ O := by subst hN hO; split <;> omega
  refine ⟨?_, ?_, ?_, ?_, ?_, ?_, ?_, ?_, ?_, ?_, ?_, ?_, ?_, ?_, ?_, ?_, ?_, ?_, ?_, ?_, ?_, ?_, ?_, ?_, ?_, ?_, ?_, ?_, ?_, ?_, ?_, ?_, ?_, ?_, ?_, ?_, ?_⟩
  · have q := S.p2; try simp (disch := omega) only [a0, ko, ek]
    exact q
  · have q := S.p3; try simp (disch := omega) only [a0, ko, ek]
    exact q
  · have q := S.p4; try simp (disch := omega) only [a0, ko, ek]
    exact q
  · have q := S.p5; try simp (disch := omega) only [a0, ko, ek]
    exact q
  · have q := S.p6; try simp (disch := omega) only [a0, ko, ek]
    exact q
  · have q := S.p7; try simp (disch := omega) only [a0, ko, ek]
    exact q
  · have q := S.p8; try simp (disch := omega) only [a0, ko, ek]
    exact q
  · have q := S.p9; try simp (disch := omega) only [a0, ko, ek]
    exact q
  · have q := S.e0; try simp (disch := omega) only [a0, ko, ek]
    exact q
  · have q := S.e1; try simp (disch := omega) only [a0, ko, ek]
    exact q
  · have q := S.e2; try simp (disch := omega) only [a0, ko, ek]
    exact q
  · have q := S.e4; try simp (disch := omega) only [a0, ko, ek]
    exact q
  · have q := S.e5; try simp (disch := omega) only [a0, ko, ek]
    exact q
  · have q := S.l2; try simp (disch := omega) only [a0, ko, ek]
    exact q
  · have q := S.l3; try simp (disch := omega) only [a0, ko, ek]
    exact q
  · have q := S.l4; try simp (disch := omega) only [a0, ko, ek]
    exact q
  · have q := S.l5; try simp (disch := omega) only [a0, ko, ek]
    exact q
  · have q := S.tm; try simp (disch := omega) only [a0, ko, ek]
    exact q
  · have q := S.sc; try simp (disch := omega) only [a0, ko, ek]
    exact q
  · intro e e0 e1; have q := S.po e e0 e1; try simp (disch := omega) only [a0, ko, ek]
    exact q
  · intro e e0 e1; have q := S.al e e0 e1; try simp (disch := omega) only [a0, ko, ek]
    exact q
  · intro e e0 e1; have q := S.ho e e0 e1; try simp (disch := omega) only [a0, ko, ek]
    exact q
  · intro e e0 e1; have q := S.mo e e0 e1; try simp (disch := omega) only [a0, ko, ek]
    exact q
  · intro e e0 e1; have q := S.dn e e0 e1; try simp (disch := omega) only [a0, ko, ek]
    exact q
  · intro e e0 e1; have q := S.se e e0 e1; try simp (disch := omega) only [a0, ko, ek]
    exact q
  · intro e e0 e1; (rw [show (27 : Int) + 8 = 35 from rfl, a5 e]; by_cases z : e = d; (subst z; rw [if_pos rfl, km, en]); (rw [if_neg z, ko _ (by omega)]; exact S.ke e e0 e1))
  · intro e u e0 e1 u0 u1; (rw [show (27 : Int) + 9 = 36 from rfl, a6]; by_cases z : e = d; (subst z; rw [km, ← en] at u1; by_cases y : u = N; (subst y; rw [if_pos rfl]; exact kl.1.symm); (rw [if_neg (by omega), if_pos (by omega), (ki u u0 (by omega)).1]; have q := S.ki e (u + O) e0 e1 (by omega) (by omega); rw [show e * 12 + u + O = e * 12 + (u + O) by omega]; exact q)); (rw [ko _ (by omega)] at u1; have mn2 := MN e e0 e1; rw [if_neg (by omega), if_neg (by omega), ko _ (by omega)]; exact S.ki e u e0 e1 u0 u1))
  · intro e u e0 e1 u0 u1; (rw [show (27 : Int) + 10 = 37 from rfl, a7]; by_cases z : e = d; (subst z; rw [km, ← en] at u1; by_cases y : u = N; (subst y; rw [if_pos rfl]; exact kl.2.symm); (rw [if_neg (by omega), if_pos (by omega), (ki u u0 (by omega)).2]; have q := S.ti e (u + O) e0 e1 (by omega) (by omega); rw [show e * 12 + u + O = e * 12 + (u + O) by omega]; exact q)); (rw [ko _ (by omega)] at u1; have mn2 := MN e e0 e1; rw [if_neg (by omega), if_neg (by omega), ko _ (by omega)]; exact S.ti e u e0 e1 u0 u1))
  · have q := S.ca; try simp (disch := omega) only [a0, ko, ek]
    exact q
  · intro e e0 e1; try simp (disch := omega) only [a0, ko, ek] at e1
    have q := S.co e e0 e1; have cl := CL; try simp (disch := omega) only [a0, ko, ek]
    exact q
  · intro e e0 e1; have ci := CI e; have cl := CL; have q := S.ct e e0 e1; try simp (disch := omega) only [a0, ko, ek]
    exact q
  · have q := S.lk; try simp (disch := omega) only [a0, ko, ek]
    exact q
  · have q := S.ln; try simp (disch := omega) only [a0, ko, ek]
    exact q
  · intro e e0 e1 e2; try simp (disch := omega) only [a0, ko, ek] at e2
    have q := S.lq e e0 e1 e2; try simp (disch := omega) only [a0, ko, ek]
    exact q
  · intro e e0 e1 e2; try simp (disch := omega) only [a0, ko, ek] at e2
    have q := S.li e e0 e1 e2; try simp (disch := omega) only [a0, ko, ek]
    exact q
  · intro e e0 e1 e2; try simp (disch := omega) only [a0, ko, ek] at e2
    have q := S.lt e e0 e1 e2; try simp (disch := omega) only [a0, ko, ek]
    exact q
  · intro e e0 e1; have q := S.to e e0 e1; try simp (disch := omega) only [a0, ko, ek]
    exact q
theorem c_drop' (C : CR P σ p t f g) (T : TV t) (h0 : 0 ≤ d) (h1 : d < t 1) : ∃ σ', fX0_dropOldest P σ 34 d = some σ' ∧ (∀ o, (o < 35 ∨ 37 < o) → σ' o = σ o) ∧ (∀ j, σ' 35 j = if j = d then 11 else σ 35 j) ∧
    (∀ j, σ' 36 j = if d * 12 ≤ j ∧ j < d * 12 + 11 then σ 36 (j + 1) else σ 36 j) ∧ (∀ j, σ' 37 j = if d * 12 ≤ j ∧ j < d * 12 + 11 then σ 37 (j + 1) else σ 37 j) := by
  have n1 := T.n1
  have l1 := loop_r (γ := Unit) (fun m k (s : St) => fX0_dropOldest_L7 P 34 d (d * 12) (fun s11 =>
      gR P 0 s11 34 0 fun x12 =>
      sI P 10 s11 x12 d 11 fun s13 =>
      some s13) m (d * 12 + k) s) (fun s11 =>
      gR P 0 s11 34 0 fun x12 =>
      sI P 10 s11 x12 d 11 fun s13 =>
      some s13) 11 (fun _ a => a) (fun k s _ => (∀ o, (o < 36 ∨ 37 < o) → s o = σ o) ∧ (∀ j, s 36 j = if d * 12 ≤ j ∧ j < d * 12 + (k : Int) then σ 36 (j + 1) else σ 36 j) ∧ (∀ j, s 37 j = if d * 12 ≤ j ∧ j < d * 12 + (k : Int) then σ 37 (j + 1) else σ 37 j))
    (fun k m s c hk hI => by
      obtain ⟨i1, i2, i3⟩ := hI
      have hk2 : ¬ (d * 12 + 12 - 1 ≤ d * 12 + (k : Int)) := by omega
      have g1 : s 34 1 = 36 := by rw [i1 34 (by omega)]; exact C.e1
      have g2 : s 34 2 = 37 := by rw [i1 34 (by omega)]; exact C.e2
      refine ⟨wr (wr s 36 (d * 12 + k) (s 36 (d * 12 + k + 1))) 37 (d * 12 + k) (s 37 (d * 12 + k + 1)), ?_, ?_, ?_, ?_⟩
      · have e : d * 12 + ((k : Int) + 1) = d * 12 + (k : Int) + 1 := by omega
        simp (disch := first | omega | assumption) only [fX0_dropOldest_L7, ↓z_lt, ↓z_ge, ↓z_gt, ↓z_le, ↓z_eq, ↓z_ne, ↓z_mx, ↓z_mn, ↓z_dv, ↓z_rm, ↓z_i2l, ↓z_lc, ↓z_sw, ↓z_sf, ↓z_sn, ↓z_bd, ↓z_nt, z_b0, z_b1, z_bi, z_bj, ↓z_gF, ↓z_gR, ↓z_pF, ↓z_pZ, ↓z_pR, ↓z_aI, ↓z_aR, ↓z_sI, ↓z_sZ, ↓z_on, z_cl, ↓reduceIte, Int.reduceEq, Int.reduceNeg, Int.reduceLT, Int.reduceLE, Int.reduceAdd, Int.reduceSub, Int.reduceMul, true_and, and_true, or_true, true_or, eq_self, C.h0, C.h1, C.p2, C.p3, C.p4, C.p5, C.p6, C.p7, C.p8, C.p9, C.e0, C.e1, C.e2, C.e4, C.e5, C.l2, C.l3, C.l4, C.l5, C.pr.r7, C.pr.r8, C.pr.r9, C.pr.r10, C.pr.r11, C.pr.r12, C.pr.r13, C.pr.r14, C.pr.r15, C.pr.v0, C.pr.v1, C.pr.v2, C.pr.v3, C.pr.v4, C.pr.v5, C.pr.v6, C.pr.we, C.pr.wi, C.pr.pe, C.pr.fp, C.pr.he, C.pr.ho, C.pr.ra, C.pr.pa, C.tm, C.sc, C.po, C.al, C.ho, C.mo, C.dn, C.se, C.ke, C.ca, C.co, sO16 C.sh, sO27 C.sh, sO34 C.sh, sO40 C.sh, sA28 C.sh, sA29 C.sh, sA30 C.sh, sA31 C.sh, sA32 C.sh, sA33 C.sh, sA35 C.sh, sA36 C.sh, sA37 C.sh, sA38 C.sh, sA39 C.sh, sA41 C.sh, sA42 C.sh, sA43 C.sh, sA44 C.sh, pO C.sh C.pr.hp, pA1 C.sh C.pr.hp, pA2 C.sh C.pr.hp, pA3 C.sh C.pr.hp, pA4 C.sh C.pr.hp, pA5 C.sh C.pr.hp, pA6 C.sh C.pr.hp, pA7 C.sh C.pr.hp, pA8 C.sh C.pr.hp, pA9 C.sh C.pr.hp, pN C.pr.hp, pN0 C.pr.hp, iR_t, Int.reduceAdd, hk2, g1, g2, wr_n, e]
      · intro o ho; simp (disch := omega) only [wr_o]; exact i1 o (by omega)
      · intro j
        rw [wr_n (by omega)]
        by_cases z : j = d * 12 + (k : Int)
        · subst z; rw [wr_s, i2, if_neg (by omega), if_pos (by push_cast; omega)]
        · rw [wr_i z, i2]
          by_cases y : d * 12 ≤ j ∧ j < d * 12 + (k : Int)
          · rw [if_pos y, if_pos (by push_cast; omega)]
          · rw [if_neg y, if_neg (by push_cast; omega)]
      · intro j
        by_cases z : j = d * 12 + (k : Int)
        · subst z; rw [wr_s, i3, if_neg (by omega), if_pos (by push_cast; omega)]
        · rw [wr_i z, wr_n (by omega), i3]
          by_cases y : d * 12 ≤ j ∧ j < d * 12 + (k : Int)
          · rw [if_pos y, if_pos (by push_cast; omega)]
          · rw [if_neg y, if_neg (by push_cast; omega)])
    (fun m s c hI => by
      have e : d * 12 + 12 - 1 = d * 12 + ((11 : Nat) : Int) := by push_cast; omega
      simp (disch := first | omega | assumption) only [fX0_dropOldest_L7, ↓z_lt, ↓z_ge, ↓z_gt, ↓z_le, ↓z_eq, ↓z_ne, ↓z_mx, ↓z_mn, ↓z_dv, ↓z_rm, ↓z_i2l, ↓z_lc, ↓z_sw, ↓z_sf, ↓z_sn, ↓z_bd, ↓z_nt, z_b0, z_b1, z_bi, z_bj, ↓z_gF, ↓z_gR, ↓z_pF, ↓z_pZ, ↓z_pR, ↓z_aI, ↓z_aR, ↓z_sI, ↓z_sZ, ↓z_on, z_cl, ↓reduceIte, Int.reduceEq, Int.reduceNeg, Int.reduceLT, Int.reduceLE, Int.reduceAdd, Int.reduceSub, Int.reduceMul, true_and, and_true, or_true, true_or, eq_self, C.h0, C.h1, C.p2, C.p3, C.p4, C.p5, C.p6, C.p7, C.p8, C.p9, C.e0, C.e1, C.e2, C.e4, C.e5, C.l2, C.l3, C.l4, C.l5, C.pr.r7, C.pr.r8, C.pr.r9, C.pr.r10, C.pr.r11, C.pr.r12, C.pr.r13, C.pr.r14, C.pr.r15, C.pr.v0, C.pr.v1, C.pr.v2, C.pr.v3, C.pr.v4, C.pr.v5, C.pr.v6, C.pr.we, C.pr.wi, C.pr.pe, C.pr.fp, C.pr.he, C.pr.ho, C.pr.ra, C.pr.pa, C.tm, C.sc, C.po, C.al, C.ho, C.mo, C.dn, C.se, C.ke, C.ca, C.co, sO16 C.sh, sO27 C.sh, sO34 C.sh, sO40 C.sh, sA28 C.sh, sA29 C.sh, sA30 C.sh, sA31 C.sh, sA32 C.sh, sA33 C.sh, sA35 C.sh, sA36 C.sh, sA37 C.sh, sA38 C.sh, sA39 C.sh, sA41 C.sh, sA42 C.sh, sA43 C.sh, sA44 C.sh, pO C.sh C.pr.hp, pA1 C.sh C.pr.hp, pA2 C.sh C.pr.hp, pA3 C.sh C.pr.hp, pA4 C.sh C.pr.hp, pA5 C.sh C.pr.hp, pA6 C.sh C.pr.hp, pA7 C.sh C.pr.hp, pA8 C.sh C.pr.hp, pA9 C.sh C.pr.hp, pN C.pr.hp, pN0 C.pr.hp, iR_t, Int.reduceAdd, e, Int.le_refl]) (m := 1000) (a := σ) (c := ()) (by omega) ⟨fun _ _ => rfl, fun j => by rw [if_neg (by push_cast; omega)], fun j => by rw [if_neg (by push_cast; omega)]⟩
  obtain ⟨s, e1, i1, i2, i3⟩ := l1
  have g1 : s 34 0 = 35 := by rw [i1 34 (by omega)]; exact C.e0
  refine ⟨wr s 35 d 11, ?_, ?_, ?_, ?_, ?_⟩
  · unfold fX0_dropOldest
    simp only [↓z_bd]
    rw [show d * 12 = d * 12 + 0 by omega] at e1
    rw [show fX0_dropOldest_L7 P 34 d (d * 12) _ 1000 (d * 12) σ = _ from (by simpa only [Int.add_zero] using e1)]
    simp (disch := first | omega | assumption) only [↓z_lt, ↓z_ge, ↓z_gt, ↓z_le, ↓z_eq, ↓z_ne, ↓z_mx, ↓z_mn, ↓z_dv, ↓z_rm, ↓z_i2l, ↓z_lc, ↓z_sw, ↓z_sf, ↓z_sn, ↓z_bd, ↓z_nt, z_b0, z_b1, z_bi, z_bj, ↓z_gF, ↓z_gR, ↓z_pF, ↓z_pZ, ↓z_pR, ↓z_aI, ↓z_aR, ↓z_sI, ↓z_sZ, ↓z_on, z_cl, ↓reduceIte, Int.reduceEq, Int.reduceNeg, Int.reduceLT, Int.reduceLE, Int.reduceAdd, Int.reduceSub, Int.reduceMul, true_and, and_true, or_true, true_or, eq_self, C.h0, C.h1, C.p2, C.p3, C.p4, C.p5, C.p6, C.p7, C.p8, C.p9, C.e0, C.e1, C.e2, C.e4, C.e5, C.l2, C.l3, C.l4, C.l5, C.pr.r7, C.pr.r8, C.pr.r9, C.pr.r10, C.pr.r11, C.pr.r12, C.pr.r13, C.pr.r14, C.pr.r15, C.pr.v0, C.pr.v1, C.pr.v2, C.pr.v3, C.pr.v4, C.pr.v5, C.pr.v6, C.pr.we, C.pr.wi, C.pr.pe, C.pr.fp, C.pr.he, C.pr.ho, C.pr.ra, C.pr.pa, C.tm, C.sc, C.po, C.al, C.ho, C.mo, C.dn, C.se, C.ke, C.ca, C.co, sO16 C.sh, sO27 C.sh, sO34 C.sh, sO40 C.sh, sA28 C.sh, sA29 C.sh, sA30 C.sh, sA31 C.sh, sA32 C.sh, sA33 C.sh, sA35 C.sh, sA36 C.sh, sA37 C.sh, sA38 C.sh, sA39 C.sh, sA41 C.sh, sA42 C.sh, sA43 C.sh, sA44 C.sh, pO C.sh C.pr.hp, pA1 C.sh C.pr.hp, pA2 C.sh C.pr.hp, pA3 C.sh C.pr.hp, pA4 C.sh C.pr.hp, pA5 C.sh C.pr.hp, pA6 C.sh C.pr.hp, pA7 C.sh C.pr.hp, pA8 C.sh C.pr.hp, pA9 C.sh C.pr.hp, pN C.pr.hp, pN0 C.pr.hp, iR_t, Int.reduceAdd, g1]
  · intro o ho; simp (disch := omega) only [wr_o]; exact i1 o (by omega)
  · intro j
    by_cases z : j = d
    · subst z; rw [wr_s, if_pos rfl]
    · rw [wr_i z, if_neg z, i1 35 (by omega)]
  · intro j; rw [wr_n (by omega)]; exact i2 j
  · intro j; rw [wr_n (by omega)]; exact i3 j
theorem couK_new (V : CV f) (e : couK f c = f 13) (a13 : f2 13 = f 13 + 1) (ae : ∀ j, 0 ≤ j → j < f 13 → f2 (274 + 2 * j) = f (274 + 2 * j)) (an : f2 (274 + 2 * f 13) = c) (x : Int) : couK f2 x = if x = c then f 13 else if couK f x = f 13 then f 13 + 1 else couK f x := by
  have c0 := V.c0
  by_cases hx : x = c
  · rw [if_pos hx]; subst hx
    exact couK_is (by omega) c0 (by omega) an fun j j0 j1 => by rw [ae j j0 j1]; exact couK_no c0 e j0 j1
  · rw [if_neg hx]
    rcases couK_in (c := x) c0 with q | ⟨q0, q1, q2⟩
    · rw [if_pos q, ← a13]
      refine couK_nn (by omega) fun j j0 j1 => ?_
      by_cases z : j = f 13
      · subst z; rw [an]; exact fun w => hx w.symm
      · rw [ae j j0 (by omega)]; exact couK_no c0 q j0 (by omega)
    · rw [if_neg (by omega)]
      exact couK_is (by omega) q0 (by omega) (by rw [ae _ q0 q1]; exact q2) fun j j0 j1 => by rw [ae j j0 (by omega)]; exact couK_lt c0 j0 j1
def couQ (f : Int → Int) (c : Int) : Int → Int :=
  zu (if couK f c = f 13 then zu (zu (zu f (274 + 2 * couK f c) c) (274 + 2 * couK f c + 1) 0) 13 (f 13 + 1) else f) (274 + 2 * couK f c + 1) ((if couK f c = f 13 then zu (zu (zu f (274 + 2 * couK f c) c) (274 + 2 * couK f c + 1) 0) 13 (f 13 + 1) else f) (274 + 2 * couK f c + 1) + 1)
theorem couF_Q (V : CV f) : couF f c = zu (couQ f c) 11 (f 11 + 1) ∧ couQ f c 11 = f 11 := by
  have c0 := V.c0
  have q := couK_in (c := c) c0
  unfold couF couP couQ
  by_cases e : couK f c = f 13
  · simp only [if_pos e]
    simp (disch := omega) only [zu_n, and_self]
  · simp only [if_neg e]
    simp (disch := omega) only [zu_n, and_self]
theorem c_countCause (C : CR P σ p t f g) (T : TV t) (F : FV B t f g) (V : CV f) (h0 : 0 ≤ c) (h1 : c < 32) : ∃ σ', fX0_countCause P σ 34 c = some σ' ∧ CR P σ' p t (couQ f c) g ∧ Fr σ σ' := by
  have n1 := T.n1; have n2 := T.n2; have MN := F.mn; have CL := V.le; have CI := fun c => couK_in (f := f) (c := c) V.c0
  have c0 := V.c0
  have ct := C.ct c h0 h1
  have ca := C.ca
  have k1 : ¬ (c < 0) := by omega
  have MN := F.mn
  by_cases e : couK f c = f 13
  · have n32 := V.lt h0 h1 e
    have k2 : ¬ (32 ≤ f 13) := by omega
    rw [if_pos e] at ct
    have ht : couQ f c = zu (zu (zu (zu f (274 + 2 * f 13) c) (274 + 2 * f 13 + 1) 0) 13 (f 13 + 1)) (274 + 2 * f 13 + 1) 1 := by
      unfold couQ; rw [if_pos e, e]; simp (disch := omega) only [zu_n, zu_s]; rfl
    refine ⟨wr (wr (wr σ 38 (f 13) c) 34 3 (f 13 + 1)) 39 c 1, ?_, ?_, ?_⟩
    · simp (disch := first | omega | assumption) only [fX0_countCause, ↓z_lt, ↓z_ge, ↓z_gt, ↓z_le, ↓z_eq, ↓z_ne, ↓z_mx, ↓z_mn, ↓z_dv, ↓z_rm, ↓z_i2l, ↓z_lc, ↓z_sw, ↓z_sf, ↓z_sn, ↓z_bd, ↓z_nt, z_b0, z_b1, z_bi, z_bj, ↓z_gF, ↓z_gR, ↓z_pF, ↓z_pZ, ↓z_pR, ↓z_aI, ↓z_aR, ↓z_sI, ↓z_sZ, ↓z_on, z_cl, ↓reduceIte, Int.reduceEq, Int.reduceNeg, Int.reduceLT, Int.reduceLE, Int.reduceAdd, Int.reduceSub, Int.reduceMul, true_and, and_true, or_true, true_or, eq_self, C.h0, C.h1, C.p2, C.p3, C.p4, C.p5, C.p6, C.p7, C.p8, C.p9, C.e0, C.e1, C.e2, C.e4, C.e5, C.l2, C.l3, C.l4, C.l5, C.pr.r7, C.pr.r8, C.pr.r9, C.pr.r10, C.pr.r11, C.pr.r12, C.pr.r13, C.pr.r14, C.pr.r15, C.pr.v0, C.pr.v1, C.pr.v2, C.pr.v3, C.pr.v4, C.pr.v5, C.pr.v6, C.pr.we, C.pr.wi, C.pr.pe, C.pr.fp, C.pr.he, C.pr.ho, C.pr.ra, C.pr.pa, C.tm, C.sc, C.po, C.al, C.ho, C.mo, C.dn, C.se, C.ke, C.ca, C.co, sO16 C.sh, sO27 C.sh, sO34 C.sh, sO40 C.sh, sA28 C.sh, sA29 C.sh, sA30 C.sh, sA31 C.sh, sA32 C.sh, sA33 C.sh, sA35 C.sh, sA36 C.sh, sA37 C.sh, sA38 C.sh, sA39 C.sh, sA41 C.sh, sA42 C.sh, sA43 C.sh, sA44 C.sh, pO C.sh C.pr.hp, pA1 C.sh C.pr.hp, pA2 C.sh C.pr.hp, pA3 C.sh C.pr.hp, pA4 C.sh C.pr.hp, pA5 C.sh C.pr.hp, pA6 C.sh C.pr.hp, pA7 C.sh C.pr.hp, pA8 C.sh C.pr.hp, pA9 C.sh C.pr.hp, pN C.pr.hp, pN0 C.pr.hp, iR_t, Int.reduceAdd, h1, k1, k2, ct, wr_n, wr_i, wr_s, F.vr]
    · have a13 : couQ f c 13 = f 13 + 1 := by rw [ht]; simp (disch := omega) only [zu_n, zu_s]
      have an : couQ f c (274 + 2 * f 13) = c := by rw [ht]; simp (disch := omega) only [zu_n, zu_s]
      have am : couQ f c (274 + 2 * f 13 + 1) = 1 := by rw [ht]; simp (disch := omega) only [zu_n, zu_s]
      have ao : ∀ j, j ≠ 13 → j ≠ 274 + 2 * f 13 → j ≠ 274 + 2 * f 13 + 1 → couQ f c j = f j := by intro j j1 j2 j3; rw [ht]; simp (disch := omega) only [zu_n]
      have nk := couK_new (f2 := couQ f c) V e a13 (fun j j0 j1 => ao _ (by omega) (by omega) (by omega)) an
      generalize couQ f c = f2 at a13 an am ao nk
      refine C.fr (fun o ho => by simp (disch := omega) only [wr_o]) ?_
      have S := C.s
      refine ⟨?_, ?_, ?_, ?_, ?_, ?_, ?_, ?_, ?_, ?_, ?_, ?_, ?_, ?_, ?_, ?_, ?_, ?_, ?_, ?_, ?_, ?_, ?_, ?_, ?_, ?_, ?_, ?_, ?_, ?_, ?_, ?_, ?_, ?_, ?_, ?_, ?_⟩
      · have q := S.p2; try simp (disch := omega) only [wr_n, wr_i, ao]
        exact q
      · have q := S.p3; try simp (disch := omega) only [wr_n, wr_i, ao]
        exact q
      · have q := S.p4; try simp (disch := omega) only [wr_n, wr_i, ao]
        exact q
      · have q := S.p5; try simp (disch := omega) only [wr_n, wr_i, ao]
        exact q
      · have q := S.p6; try simp (disch := omega) only [wr_n, wr_i, ao]
        exact q
      · have q := S.p7; try simp (disch := omega) only [wr_n, wr_i, ao]
        exact q
      · have q := S.p8; try simp (disch := omega) only [wr_n, wr_i, ao]
        exact q
      · have q := S.p9; try simp (disch := omega) only [wr_n, wr_i, ao]
        exact q
      · have q := S.e0; try simp (disch := omega) only [wr_n, wr_i, ao]
        exact q
      · have q := S.e1; try simp (disch := omega) only [wr_n, wr_i, ao]
        exact q
      · have q := S.e2; try simp (disch := omega) only [wr_n, wr_i, ao]
        exact q
      · have q := S.e4; try simp (disch := omega) only [wr_n, wr_i, ao]
        exact q
      · have q := S.e5; try simp (disch := omega) only [wr_n, wr_i, ao]
        exact q
      · have q := S.l2; try simp (disch := omega) only [wr_n, wr_i, ao]
        exact q
      · have q := S.l3; try simp (disch := omega) only [wr_n, wr_i, ao]
        exact q
      · have q := S.l4; try simp (disch := omega) only [wr_n, wr_i, ao]
        exact q
      · have q := S.l5; try simp (disch := omega) only [wr_n, wr_i, ao]
        exact q
      · have q := S.tm; try simp (disch := omega) only [wr_n, wr_i, ao]
        exact q
      · have q := S.sc; try simp (disch := omega) only [wr_n, wr_i, ao]
        exact q
      · intro e e0 e1; have q := S.po e e0 e1; try simp (disch := omega) only [wr_n, wr_i, ao]
        exact q
      · intro e e0 e1; have q := S.al e e0 e1; try simp (disch := omega) only [wr_n, wr_i, ao]
        exact q
      · intro e e0 e1; have q := S.ho e e0 e1; try simp (disch := omega) only [wr_n, wr_i, ao]
        exact q
      · intro e e0 e1; have q := S.mo e e0 e1; try simp (disch := omega) only [wr_n, wr_i, ao]
        exact q
      · intro e e0 e1; have q := S.dn e e0 e1; try simp (disch := omega) only [wr_n, wr_i, ao]
        exact q
      · intro e e0 e1; have q := S.se e e0 e1; try simp (disch := omega) only [wr_n, wr_i, ao]
        exact q
      · intro e e0 e1; have q := S.ke e e0 e1; try simp (disch := omega) only [wr_n, wr_i, ao]
        exact q
      · intro e u e0 e1 u0 u1; have mn := MN e e0 e1; try simp (disch := omega) only [wr_n, wr_i, ao] at u1
        have q := S.ki e u e0 e1 u0 u1; try simp (disch := omega) only [wr_n, wr_i, ao]
        exact q
      · intro e u e0 e1 u0 u1; have mn := MN e e0 e1; try simp (disch := omega) only [wr_n, wr_i, ao] at u1
        have q := S.ti e u e0 e1 u0 u1; try simp (disch := omega) only [wr_n, wr_i, ao]
        exact q
      · (simp (disch := omega) only [wr_n]; exact wr_s.trans a13.symm)
      · intro e e0 e1; (rw [a13] at e1; rw [wr_n (by omega), wr_n (by omega)]; by_cases z : e = f 13; (rw [z, an]; exact wr_s); (rw [ao _ (by omega) (by omega) (by omega)]; exact (wr_i z).trans (S.co e e0 (by omega))))
      · intro e e0 e1; (rw [nk, a13]; by_cases z : e = c; (rw [if_pos z, if_neg (by omega), am, z]; exact wr_s); (have ci := CI e; have q := C.ct e e0 e1; rw [if_neg z]; refine (wr_i z).trans ?_; rw [wr_n (by omega), wr_n (by omega), q]; by_cases y : couK f e = f 13; (rw [if_pos y, if_pos y, if_pos rfl]); (rw [if_neg y, if_neg y, if_neg (by omega), ao _ (by omega) (by omega) (by omega)])))
      · have q := S.lk; try simp (disch := omega) only [wr_n, wr_i, ao]
        exact q
      · have q := S.ln; try simp (disch := omega) only [wr_n, wr_i, ao]
        exact q
      · intro e e0 e1 e2; try simp (disch := omega) only [wr_n, wr_i, ao] at e2
        have q := S.lq e e0 e1 e2; try simp (disch := omega) only [wr_n, wr_i, ao]
        exact q
      · intro e e0 e1 e2; try simp (disch := omega) only [wr_n, wr_i, ao] at e2
        have q := S.li e e0 e1 e2; try simp (disch := omega) only [wr_n, wr_i, ao]
        exact q
      · intro e e0 e1 e2; try simp (disch := omega) only [wr_n, wr_i, ao] at e2
        have q := S.lt e e0 e1 e2; try simp (disch := omega) only [wr_n, wr_i, ao]
        exact q
      · intro e e0 e1; have q := S.to e e0 e1; try simp (disch := omega) only [wr_n, wr_i, ao]
        exact q
    · intro o ho; simp (disch := omega) only [wr_o]
  · have q := CI c
    have cr := V.cr (couK f c) (by omega) (by omega)
    rw [if_neg e] at ct
    have ht : couQ f c = zu f (274 + 2 * couK f c + 1) (f (274 + 2 * couK f c + 1) + 1) := by unfold couQ; simp only [if_neg e]
    have k2 : ¬ (f (274 + 2 * couK f c + 1) = 0) := by omega
    refine ⟨wr σ 39 c (f (274 + 2 * couK f c + 1) + 1), ?_, ?_, ?_⟩
    · simp (disch := first | omega | assumption) only [fX0_countCause, ↓z_lt, ↓z_ge, ↓z_gt, ↓z_le, ↓z_eq, ↓z_ne, ↓z_mx, ↓z_mn, ↓z_dv, ↓z_rm, ↓z_i2l, ↓z_lc, ↓z_sw, ↓z_sf, ↓z_sn, ↓z_bd, ↓z_nt, z_b0, z_b1, z_bi, z_bj, ↓z_gF, ↓z_gR, ↓z_pF, ↓z_pZ, ↓z_pR, ↓z_aI, ↓z_aR, ↓z_sI, ↓z_sZ, ↓z_on, z_cl, ↓reduceIte, Int.reduceEq, Int.reduceNeg, Int.reduceLT, Int.reduceLE, Int.reduceAdd, Int.reduceSub, Int.reduceMul, true_and, and_true, or_true, true_or, eq_self, C.h0, C.h1, C.p2, C.p3, C.p4, C.p5, C.p6, C.p7, C.p8, C.p9, C.e0, C.e1, C.e2, C.e4, C.e5, C.l2, C.l3, C.l4, C.l5, C.pr.r7, C.pr.r8, C.pr.r9, C.pr.r10, C.pr.r11, C.pr.r12, C.pr.r13, C.pr.r14, C.pr.r15, C.pr.v0, C.pr.v1, C.pr.v2, C.pr.v3, C.pr.v4, C.pr.v5, C.pr.v6, C.pr.we, C.pr.wi, C.pr.pe, C.pr.fp, C.pr.he, C.pr.ho, C.pr.ra, C.pr.pa, C.tm, C.sc, C.po, C.al, C.ho, C.mo, C.dn, C.se, C.ke, C.ca, C.co, sO16 C.sh, sO27 C.sh, sO34 C.sh, sO40 C.sh, sA28 C.sh, sA29 C.sh, sA30 C.sh, sA31 C.sh, sA32 C.sh, sA33 C.sh, sA35 C.sh, sA36 C.sh, sA37 C.sh, sA38 C.sh, sA39 C.sh, sA41 C.sh, sA42 C.sh, sA43 C.sh, sA44 C.sh, pO C.sh C.pr.hp, pA1 C.sh C.pr.hp, pA2 C.sh C.pr.hp, pA3 C.sh C.pr.hp, pA4 C.sh C.pr.hp, pA5 C.sh C.pr.hp, pA6 C.sh C.pr.hp, pA7 C.sh C.pr.hp, pA8 C.sh C.pr.hp, pA9 C.sh C.pr.hp, pN C.pr.hp, pN0 C.pr.hp, iR_t, Int.reduceAdd, h1, k1, k2, ct, F.vr]
    · have am : couQ f c (274 + 2 * couK f c + 1) = f (274 + 2 * couK f c + 1) + 1 := by rw [ht, zu_s]
      have ao : ∀ j, j ≠ 274 + 2 * couK f c + 1 → couQ f c j = f j := by intro j j1; rw [ht, zu_n j1]
      have ek : ∀ x, couK (couQ f c) x = couK f x := fun x => couK_c V.c0 (ao 13 (by omega)) fun j j0 j1 => ao _ (by omega)
      generalize couQ f c = f2 at am ao ek
      refine C.fr (fun o ho => by simp (disch := omega) only [wr_o]) ?_
      have S := C.s
      refine ⟨?_, ?_, ?_, ?_, ?_, ?_, ?_, ?_, ?_, ?_, ?_, ?_, ?_, ?_, ?_, ?_, ?_, ?_, ?_, ?_, ?_, ?_, ?_, ?_, ?_, ?_, ?_, ?_, ?_, ?_, ?_, ?_, ?_, ?_, ?_, ?_, ?_⟩
      · have q := S.p2; try simp (disch := omega) only [wr_n, ao, ek]
        exact q
      · have q := S.p3; try simp (disch := omega) only [wr_n, ao, ek]
        exact q
      · have q := S.p4; try simp (disch := omega) only [wr_n, ao, ek]
        exact q
      · have q := S.p5; try simp (disch := omega) only [wr_n, ao, ek]
        exact q
      · have q := S.p6; try simp (disch := omega) only [wr_n, ao, ek]
        exact q
      · have q := S.p7; try simp (disch := omega) only [wr_n, ao, ek]
        exact q
      · have q := S.p8; try simp (disch := omega) only [wr_n, ao, ek]
        exact q
      · have q := S.p9; try simp (disch := omega) only [wr_n, ao, ek]
        exact q
      · have q := S.e0; try simp (disch := omega) only [wr_n, ao, ek]
        exact q
      · have q := S.e1; try simp (disch := omega) only [wr_n, ao, ek]
        exact q
      · have q := S.e2; try simp (disch := omega) only [wr_n, ao, ek]
        exact q
      · have q := S.e4; try simp (disch := omega) only [wr_n, ao, ek]
        exact q
      · have q := S.e5; try simp (disch := omega) only [wr_n, ao, ek]
        exact q
      · have q := S.l2; try simp (disch := omega) only [wr_n, ao, ek]
        exact q
      · have q := S.l3; try simp (disch := omega) only [wr_n, ao, ek]
        exact q
      · have q := S.l4; try simp (disch := omega) only [wr_n, ao, ek]
        exact q
      · have q := S.l5; try simp (disch := omega) only [wr_n, ao, ek]
        exact q
      · have q := S.tm; try simp (disch := omega) only [wr_n, ao, ek]
        exact q
      · have q := S.sc; try simp (disch := omega) only [wr_n, ao, ek]
        exact q
      · intro e e0 e1; have q := S.po e e0 e1; try simp (disch := omega) only [wr_n, ao, ek]
        exact q
      · intro e e0 e1; have q := S.al e e0 e1; try simp (disch := omega) only [wr_n, ao, ek]
        exact q
      · intro e e0 e1; have q := S.ho e e0 e1; try simp (disch := omega) only [wr_n, ao, ek]
        exact q
      · intro e e0 e1; have q := S.mo e e0 e1; try simp (disch := omega) only [wr_n, ao, ek]
        exact q
      · intro e e0 e1; have q := S.dn e e0 e1; try simp (disch := omega) only [wr_n, ao, ek]
        exact q
      · intro e e0 e1; have q := S.se e e0 e1; try simp (disch := omega) only [wr_n, ao, ek]
        exact q
      · intro e e0 e1; have q := S.ke e e0 e1; try simp (disch := omega) only [wr_n, ao, ek]
        exact q
      · intro e u e0 e1 u0 u1; have mn := MN e e0 e1; try simp (disch := omega) only [wr_n, ao, ek] at u1
        have q := S.ki e u e0 e1 u0 u1; try simp (disch := omega) only [wr_n, ao, ek]
        exact q
      · intro e u e0 e1 u0 u1; have mn := MN e e0 e1; try simp (disch := omega) only [wr_n, ao, ek] at u1
        have q := S.ti e u e0 e1 u0 u1; try simp (disch := omega) only [wr_n, ao, ek]
        exact q
      · have q := S.ca; try simp (disch := omega) only [wr_n, ao, ek]
        exact q
      · intro e e0 e1; try simp (disch := omega) only [wr_n, ao, ek] at e1
        have q := S.co e e0 e1; have cl := CL; try simp (disch := omega) only [wr_n, ao, ek]
        exact q
      · intro e e0 e1; (rw [ek, ao 13 (by omega)]; by_cases z : e = c; (subst z; rw [if_neg (by omega), am]; exact wr_s); (have ci := CI e; have qq := C.ct e e0 e1; refine (wr_i z).trans ?_; rw [qq]; by_cases y : couK f e = f 13; (rw [if_pos y, if_pos y]); (rw [if_neg y, if_neg y, ao _ (fun w => z (by rw [show couK f e = couK f c by omega] at ci; omega))])))
      · have q := S.lk; try simp (disch := omega) only [wr_n, ao, ek]
        exact q
      · have q := S.ln; try simp (disch := omega) only [wr_n, ao, ek]
        exact q
      · intro e e0 e1 e2; try simp (disch := omega) only [wr_n, ao, ek] at e2
        have q := S.lq e e0 e1 e2; try simp (disch := omega) only [wr_n, ao, ek]
        exact q
      · intro e e0 e1 e2; try simp (disch := omega) only [wr_n, ao, ek] at e2
        have q := S.li e e0 e1 e2; try simp (disch := omega) only [wr_n, ao, ek]
        exact q
      · intro e e0 e1 e2; try simp (disch := omega) only [wr_n, ao, ek] at e2
        have q := S.lt e e0 e1 e2; try simp (disch := omega) only [wr_n, ao, ek]
        exact q
      · intro e e0 e1; have q := S.to e e0 e1; try simp (disch := omega) only [wr_n, ao, ek]
        exact q
    · intro o ho; simp (disch := omega) only [wr_o]
end ZQ
