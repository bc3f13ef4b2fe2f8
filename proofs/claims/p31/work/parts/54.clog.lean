/-! THE CLASS'S LOG. -/
section ZO
variable {P : Shp} {σ σ' : St} {t f f' g : Int → Int} {B : Int} {d k p q kind who m h j c x y i part : Int} {n : Nat}
theorem fmA : ∀ n : Nat, n < 61 → iR (ixor ((n : Int) - 30) 24) = true ∧ (if 0 ≤ ixor ((n : Int) - 30) 24 then ((n : Int) - 30).tmod 24 else if ((n : Int) - 30).tmod 24 = 0 then ((n : Int) - 30).tmod 24 else ((n : Int) - 30).tmod 24 + 24) = ((n : Int) - 30) % 24 := by decide +kernel
theorem fmB : ∀ n : Nat, n < 61 → iR (ixor ((n : Int) - 30) 10) = true ∧ (if 0 ≤ ixor ((n : Int) - 30) 10 then ((n : Int) - 30).tmod 10 else if ((n : Int) - 30).tmod 10 = 0 then ((n : Int) - 30).tmod 10 else ((n : Int) - 30).tmod 10 + 10) = ((n : Int) - 30) % 10 := by decide +kernel
theorem tmod_iR24 (h1 : -100 ≤ x) (h2 : x ≤ 100) : iR (x.tmod 24) = true := by
  by_cases c : 0 ≤ x
  · rw [Int.tmod_eq_emod_of_nonneg c]; exact iR_t (by omega) (by omega)
  · have h5 : (-x).tmod 24 = - (x.tmod 24) := Int.neg_tmod x 24
    rw [Int.tmod_eq_emod_of_nonneg (show 0 ≤ -x by omega)] at h5
    exact iR_t (by omega) (by omega)
theorem tmod_iR10 (h1 : -100 ≤ x) (h2 : x ≤ 100) : iR (x.tmod 10) = true := by
  by_cases c : 0 ≤ x
  · rw [Int.tmod_eq_emod_of_nonneg c]; exact iR_t (by omega) (by omega)
  · have h5 : (-x).tmod 10 = - (x.tmod 10) := Int.neg_tmod x 10
    rw [Int.tmod_eq_emod_of_nonneg (show 0 ≤ -x by omega)] at h5
    exact iR_t (by omega) (by omega)
theorem c_floorMod24' {ω : Type} {K : _ → Option ω} (h0 : -30 ≤ x) (h1 : x ≤ 30) : cl (fJ9_floorMod_7cf53 P σ x 24) K = K (x % 24) := by
  have e := fmA (x + 30).toNat (by omega)
  rw [show (((x + 30).toNat : Nat) : Int) - 30 = x by omega] at e
  have r := tmod_iR24 (x := x) (by omega) (by omega)
  refine e_cl ?_
  rw [← e.2]
  by_cases c1 : 0 ≤ ixor x 24 <;> by_cases c2 : x.tmod 24 = 0 <;> simp (disch := first | omega | assumption) only [fJ9_floorMod_7cf53, ↓z_lt, ↓z_ge, ↓z_gt, ↓z_le, ↓z_eq, ↓z_ne, ↓z_mx, ↓z_mn, ↓z_dv, ↓z_rm, ↓z_i2l, ↓z_lc, ↓z_sw, ↓z_sf, ↓z_sn, ↓z_bd, ↓z_nt, z_b0, z_b1, z_bi, z_bj, ↓z_gF, ↓z_gR, ↓z_pF, ↓z_pZ, ↓z_pR, ↓z_aI, ↓z_aR, ↓z_sI, ↓z_sZ, ↓z_on, z_cl, ↓reduceIte, Int.reduceEq, Int.reduceNeg, Int.reduceLT, Int.reduceLE, Int.reduceAdd, Int.reduceSub, Int.reduceMul, true_and, and_true, or_true, true_or, eq_self, iR_t, e.1, c1, c2, r]
theorem c_floorMod10' {ω : Type} {K : _ → Option ω} (h0 : -30 ≤ x) (h1 : x ≤ 30) : cl (fJ9_floorMod_7cf53 P σ x 10) K = K (x % 10) := by
  have e := fmB (x + 30).toNat (by omega)
  rw [show (((x + 30).toNat : Nat) : Int) - 30 = x by omega] at e
  have r := tmod_iR10 (x := x) (by omega) (by omega)
  refine e_cl ?_
  rw [← e.2]
  by_cases c1 : 0 ≤ ixor x 10 <;> by_cases c2 : x.tmod 10 = 0 <;> simp (disch := first | omega | assumption) only [fJ9_floorMod_7cf53, ↓z_lt, ↓z_ge, ↓z_gt, ↓z_le, ↓z_eq, ↓z_ne, ↓z_mx, ↓z_mn, ↓z_dv, ↓z_rm, ↓z_i2l, ↓z_lc, ↓z_sw, ↓z_sf, ↓z_sn, ↓z_bd, ↓z_nt, z_b0, z_b1, z_bi, z_bj, ↓z_gF, ↓z_gR, ↓z_pF, ↓z_pZ, ↓z_pR, ↓z_aI, ↓z_aR, ↓z_sI, ↓z_sZ, ↓z_on, z_cl, ↓reduceIte, Int.reduceEq, Int.reduceNeg, Int.reduceLT, Int.reduceLE, Int.reduceAdd, Int.reduceSub, Int.reduceMul, true_and, and_true, or_true, true_or, eq_self, iR_t, e.1, c1, c2, r]
def evtF (f : Int → Int) (k part : Int) : Int := if 0 ≤ k ∧ k < (if f 12 < 24 then f 12 else 24) then f (338 + 3 * ((f 12 - 1 - k) % 24) + part) else -1
def cauF (f : Int → Int) (k part : Int) : Int := if 0 ≤ k ∧ k < f 13 then (if part = 0 then f (274 + 2 * k) / 4 else if part = 1 then f (274 + 2 * k) % 4 else f (274 + 2 * k + 1)) else -1
theorem hapF_k (h12 : 0 ≤ f 12) (h0 : 0 ≤ kind) (h1 : kind < 10) (j0 : 0 ≤ j) (j1 : j < 10) : hapF f kind who (2 + j) = if j = kind then f (2 + j) + 1 else f (2 + j) := by
  unfold hapF
  by_cases e : j = kind
  · subst e; rw [if_pos rfl, zu_s]
  · rw [if_neg e]; simp (disch := omega) only [zu_n]
theorem hapF_e (h12 : 0 ≤ f 12) (h0 : 0 ≤ kind) (h1 : kind < 10) (j0 : 0 ≤ j) (j1 : j < 24) :
    hapF f kind who (338 + 3 * j) = (if j = f 12 % 24 then kind else f (338 + 3 * j)) ∧ hapF f kind who (338 + 3 * j + 1) = (if j = f 12 % 24 then who else f (338 + 3 * j + 1)) ∧ hapF f kind who (338 + 3 * j + 2) = (if j = f 12 % 24 then f 0 else f (338 + 3 * j + 2)) := by
  unfold hapF
  by_cases e : j = f 12 % 24
  · subst e; simp (disch := omega) only [zu_n, zu_s, if_true, and_self]
  · simp only [e, if_false]; simp (disch := omega) only [zu_n, and_self]
theorem hapF_cK (V : CV f) (h12 : 0 ≤ f 12) (h0 : 0 ≤ kind) (h1 : kind < 10) : couK (hapF f kind who) c = couK f c := by
  have c0 := V.c0
  have cle := V.le
  exact couK_c c0 (hapF_o h12 h0 h1 (by omega) (by omega)) fun j j0 j1 => hapF_o h12 h0 h1 (by omega) (by omega)
theorem SR_log (S : SR σ 27 t f g) (T : TV t) (V : CV f) (MN : ∀ d, 0 ≤ d → d < t 1 → 0 ≤ f (14 + 28 * d + 3) ∧ f (14 + 28 * d + 3) ≤ 12) (h12 : 0 ≤ f 12) (h0 : 0 ≤ kind) (h1 : kind < 10)
    (a0 : ∀ o, (o < 40 ∨ 44 < o) → σ' o = σ o) (a1 : ∀ j, 2 ≤ j → σ' 40 j = σ 40 j)
    (a2 : σ' 40 0 = if f 12 < 24 then f 12 + 1 else 24) (a3 : σ' 40 1 = f 12 % 24 + 1)
    (a4 : ∀ j, σ' 41 j = if j = f 12 % 24 then kind else σ 41 j) (a5 : ∀ j, σ' 42 j = if j = f 12 % 24 then who else σ 42 j) (a6 : ∀ j, σ' 43 j = if j = f 12 % 24 then f 0 else σ 43 j)
    (a7 : ∀ j, σ' 44 j = if j = kind then σ 44 j + 1 else σ 44 j) : SR σ' 27 t (hapF f kind who) g := by
  have n1 := T.n1
  have n2 := T.n2
  have c0 := V.c0
  have cle := V.le
  have cin := fun c => couK_in (f := f) (c := c) c0
  refine ⟨?_, ?_, ?_, ?_, ?_, ?_, ?_, ?_, ?_, ?_, ?_, ?_, ?_, ?_, ?_, ?_, ?_, ?_, ?_, ?_, ?_, ?_, ?_, ?_, ?_, ?_, ?_, ?_, ?_, ?_, ?_, ?_, ?_, ?_, ?_, ?_, ?_⟩
  · have q := S.p2; try simp (disch := omega) only [a0, hapF_o]
    exact q
  · have q := S.p3; try simp (disch := omega) only [a0, hapF_o]
    exact q
  · have q := S.p4; try simp (disch := omega) only [a0, hapF_o]
    exact q
  · have q := S.p5; try simp (disch := omega) only [a0, hapF_o]
    exact q
  · have q := S.p6; try simp (disch := omega) only [a0, hapF_o]
    exact q
  · have q := S.p7; try simp (disch := omega) only [a0, hapF_o]
    exact q
  · have q := S.p8; try simp (disch := omega) only [a0, hapF_o]
    exact q
  · have q := S.p9; try simp (disch := omega) only [a0, hapF_o]
    exact q
  · have q := S.e0; try simp (disch := omega) only [a0, hapF_o]
    exact q
  · have q := S.e1; try simp (disch := omega) only [a0, hapF_o]
    exact q
  · have q := S.e2; try simp (disch := omega) only [a0, hapF_o]
    exact q
  · have q := S.e4; try simp (disch := omega) only [a0, hapF_o]
    exact q
  · have q := S.e5; try simp (disch := omega) only [a0, hapF_o]
    exact q
  · exact (a1 _ (by omega)).trans S.l2
  · exact (a1 _ (by omega)).trans S.l3
  · exact (a1 _ (by omega)).trans S.l4
  · exact (a1 _ (by omega)).trans S.l5
  · have q := S.tm; try simp (disch := omega) only [a0, hapF_o]
    exact q
  · have q := S.sc; try simp (disch := omega) only [a0, hapF_o]
    exact q
  · intro e e0 e1; have q := S.po e e0 e1; try simp (disch := omega) only [a0, hapF_o]
    exact q
  · intro e e0 e1; have q := S.al e e0 e1; try simp (disch := omega) only [a0, hapF_o]
    exact q
  · intro e e0 e1; have q := S.ho e e0 e1; try simp (disch := omega) only [a0, hapF_o]
    exact q
  · intro e e0 e1; have q := S.mo e e0 e1; try simp (disch := omega) only [a0, hapF_o]
    exact q
  · intro e e0 e1; have q := S.dn e e0 e1; try simp (disch := omega) only [a0, hapF_o]
    exact q
  · intro e e0 e1; have q := S.se e e0 e1; try simp (disch := omega) only [a0, hapF_o]
    exact q
  · intro e e0 e1; have q := S.ke e e0 e1; try simp (disch := omega) only [a0, hapF_o]
    exact q
  · intro e u e0 e1 u0 u1; have mn := MN e e0 e1; try simp (disch := omega) only [a0, hapF_o] at u1
    have q := S.ki e u e0 e1 u0 u1; try simp (disch := omega) only [a0, hapF_o]
    exact q
  · intro e u e0 e1 u0 u1; have mn := MN e e0 e1; try simp (disch := omega) only [a0, hapF_o] at u1
    have q := S.ti e u e0 e1 u0 u1; try simp (disch := omega) only [a0, hapF_o]
    exact q
  · have q := S.ca; try simp (disch := omega) only [a0, hapF_o]
    exact q
  · intro e e0 e1; (rw [hapF_o h12 h0 h1 (by omega) (by omega)] at e1; rw [a0 _ (by omega), hapF_o h12 h0 h1 (by omega) (by omega)]; exact S.co e e0 e1)
  · intro e e0 e1; (have ci := cin e; rw [hapF_cK V h12 h0 h1, hapF_o h12 h0 h1 (by omega) (by omega), a0 _ (by omega), S.ct e e0 e1]; by_cases z : couK f e = f 13; (rw [if_pos z, if_pos z]); (rw [if_neg z, if_neg z, hapF_o h12 h0 h1 (by omega) (by omega)]))
  · (rw [hapF_12 h12 h0 h1]; refine a2.trans ?_; split <;> split <;> omega)
  · (rw [hapF_12 h12 h0 h1, show (27 : Int) + 13 = 40 from rfl, a3]; omega)
  · intro e e0 e1 e2; (rw [hapF_12 h12 h0 h1] at e2; rw [(hapF_e h12 h0 h1 e0 e1).1]; refine (a4 e).trans ?_; by_cases z : e = f 12 % 24; (rw [if_pos z, if_pos z]); (rw [if_neg z, if_neg z]; exact S.lq e e0 e1 (by omega)))
  · intro e e0 e1 e2; (rw [hapF_12 h12 h0 h1] at e2; rw [(hapF_e h12 h0 h1 e0 e1).2.1]; refine (a5 e).trans ?_; by_cases z : e = f 12 % 24; (rw [if_pos z, if_pos z]); (rw [if_neg z, if_neg z]; exact S.li e e0 e1 (by omega)))
  · intro e e0 e1 e2; (rw [hapF_12 h12 h0 h1] at e2; rw [(hapF_e h12 h0 h1 e0 e1).2.2]; refine (a6 e).trans ?_; by_cases z : e = f 12 % 24; (rw [if_pos z, if_pos z]); (rw [if_neg z, if_neg z]; exact S.lt e e0 e1 (by omega)))
  · intro e e0 e1; (rw [hapF_k h12 h0 h1 e0 e1]; refine (a7 e).trans ?_; rw [show σ 44 e = f (2 + e) from S.to e e0 e1])
theorem c_add (C : CR P σ p t f g) (T : TV t) (F : FV B t f g) (V : CV f) (h0 : 0 ≤ kind) (h1 : kind < 10) : ∃ σ', fX3_add P σ 40 kind who (f 0) = some σ' ∧ CR P σ' p t (hapF f kind who) g ∧ Fr σ σ' := by
  have ln := C.ln
  have lk := C.lk
  have ev := F.ev
  have k1 : ¬ (kind < 0) := by omega
  have k2 : ¬ (10 ≤ kind) := by omega
  have n0 : ¬ (σ 40 1 < 0) := by omega
  have b0 := F.b0
  have b12 := F.bl 12
  have lk2 : 0 ≤ σ 40 0 ∧ σ 40 0 ≤ 24 := by rw [lk]; split <;> omega
  by_cases hn : σ 40 1 < 24
  · have e : fX3_add P σ 40 kind who (f 0) = some (wr (wr (wr (wr (wr (wr σ 44 kind (σ 44 kind + 1)) 41 (σ 40 1) kind) 42 (σ 40 1) who) 43 (σ 40 1) (f 0)) 40 1 (σ 40 1 + 1)) 40 0 (if 24 < σ 40 0 + 1 then 24 else σ 40 0 + 1)) := by
      simp (disch := first | omega | assumption) only [fX3_add, ↓z_lt, ↓z_ge, ↓z_gt, ↓z_le, ↓z_eq, ↓z_ne, ↓z_mx, ↓z_mn, ↓z_dv, ↓z_rm, ↓z_i2l, ↓z_lc, ↓z_sw, ↓z_sf, ↓z_sn, ↓z_bd, ↓z_nt, z_b0, z_b1, z_bi, z_bj, ↓z_gF, ↓z_gR, ↓z_pF, ↓z_pZ, ↓z_pR, ↓z_aI, ↓z_aR, ↓z_sI, ↓z_sZ, ↓z_on, z_cl, ↓reduceIte, Int.reduceEq, Int.reduceNeg, Int.reduceLT, Int.reduceLE, Int.reduceAdd, Int.reduceSub, Int.reduceMul, true_and, and_true, or_true, true_or, eq_self, C.h0, C.h1, C.p2, C.p3, C.p4, C.p5, C.p6, C.p7, C.p8, C.p9, C.e0, C.e1, C.e2, C.e4, C.e5, C.l2, C.l3, C.l4, C.l5, C.pr.r7, C.pr.r8, C.pr.r9, C.pr.r10, C.pr.r11, C.pr.r12, C.pr.r13, C.pr.r14, C.pr.r15, C.pr.v0, C.pr.v1, C.pr.v2, C.pr.v3, C.pr.v4, C.pr.v5, C.pr.v6, C.pr.we, C.pr.wi, C.pr.pe, C.pr.fp, C.pr.he, C.pr.ho, C.pr.ra, C.pr.pa, C.tm, C.sc, C.po, C.al, C.ho, C.mo, C.dn, C.se, C.ke, C.ca, C.co, sO16 C.sh, sO27 C.sh, sO34 C.sh, sO40 C.sh, sA28 C.sh, sA29 C.sh, sA30 C.sh, sA31 C.sh, sA32 C.sh, sA33 C.sh, sA35 C.sh, sA36 C.sh, sA37 C.sh, sA38 C.sh, sA39 C.sh, sA41 C.sh, sA42 C.sh, sA43 C.sh, sA44 C.sh, pO C.sh C.pr.hp, pA1 C.sh C.pr.hp, pA2 C.sh C.pr.hp, pA3 C.sh C.pr.hp, pA4 C.sh C.pr.hp, pA5 C.sh C.pr.hp, pA6 C.sh C.pr.hp, pA7 C.sh C.pr.hp, pA8 C.sh C.pr.hp, pA9 C.sh C.pr.hp, pN C.pr.hp, pN0 C.pr.hp, iR_t, Int.reduceAdd, k1, k2, n0, hn, wr_n, wr_i, wr_s]
    have fr : Fr σ (wr (wr (wr (wr (wr (wr σ 44 kind (σ 44 kind + 1)) 41 (σ 40 1) kind) 42 (σ 40 1) who) 43 (σ 40 1) (f 0)) 40 1 (σ 40 1 + 1)) 40 0 (if 24 < σ 40 0 + 1 then 24 else σ 40 0 + 1)) := by
      intro o ho
      simp (disch := omega) only [wr_o]
    have e2 : σ 40 1 = f 12 % 24 := by omega
    refine ⟨_, e, C.fr fr (SR_log C.s T V F.mn ev h0 h1 ?_ ?_ ?_ ?_ ?_ ?_ ?_ ?_), fr⟩
    · intro o ho; simp (disch := omega) only [wr_o]
    · intro j hj; simp (disch := omega) only [wr_n, wr_i]
    · rw [wr_s, lk]; split <;> split <;> omega
    · simp (disch := omega) only [wr_n, wr_i, wr_s]; omega
    · intro j; simp (disch := omega) only [wr_n]; rw [e2]; by_cases z : j = f 12 % 24; (subst z; rw [wr_s, if_pos rfl]); (rw [wr_i z, if_neg z, wr_n (by omega)])
    · intro j; simp (disch := omega) only [wr_n]; rw [e2]; by_cases z : j = f 12 % 24; (subst z; rw [wr_s, if_pos rfl]); (rw [wr_i z, if_neg z, wr_n (by omega), wr_n (by omega)])
    · intro j; simp (disch := omega) only [wr_n]; rw [e2]; by_cases z : j = f 12 % 24; (subst z; rw [wr_s, if_pos rfl]); (rw [wr_i z, if_neg z, wr_n (by omega), wr_n (by omega), wr_n (by omega)])
    · intro j; simp (disch := omega) only [wr_n]; by_cases z : j = kind; (subst z; rw [wr_s, if_pos rfl]); (rw [wr_i z, if_neg z])
  · have e3 : σ 40 1 = 24 := by omega
    have e : fX3_add P σ 40 kind who (f 0) = some (wr (wr (wr (wr (wr (wr (wr σ 44 kind (σ 44 kind + 1)) 40 1 0) 41 0 kind) 42 0 who) 43 0 (f 0)) 40 1 1) 40 0 (if 24 < σ 40 0 + 1 then 24 else σ 40 0 + 1)) := by
      simp (disch := first | omega | assumption) only [fX3_add, ↓z_lt, ↓z_ge, ↓z_gt, ↓z_le, ↓z_eq, ↓z_ne, ↓z_mx, ↓z_mn, ↓z_dv, ↓z_rm, ↓z_i2l, ↓z_lc, ↓z_sw, ↓z_sf, ↓z_sn, ↓z_bd, ↓z_nt, z_b0, z_b1, z_bi, z_bj, ↓z_gF, ↓z_gR, ↓z_pF, ↓z_pZ, ↓z_pR, ↓z_aI, ↓z_aR, ↓z_sI, ↓z_sZ, ↓z_on, z_cl, ↓reduceIte, Int.reduceEq, Int.reduceNeg, Int.reduceLT, Int.reduceLE, Int.reduceAdd, Int.reduceSub, Int.reduceMul, true_and, and_true, or_true, true_or, eq_self, C.h0, C.h1, C.p2, C.p3, C.p4, C.p5, C.p6, C.p7, C.p8, C.p9, C.e0, C.e1, C.e2, C.e4, C.e5, C.l2, C.l3, C.l4, C.l5, C.pr.r7, C.pr.r8, C.pr.r9, C.pr.r10, C.pr.r11, C.pr.r12, C.pr.r13, C.pr.r14, C.pr.r15, C.pr.v0, C.pr.v1, C.pr.v2, C.pr.v3, C.pr.v4, C.pr.v5, C.pr.v6, C.pr.we, C.pr.wi, C.pr.pe, C.pr.fp, C.pr.he, C.pr.ho, C.pr.ra, C.pr.pa, C.tm, C.sc, C.po, C.al, C.ho, C.mo, C.dn, C.se, C.ke, C.ca, C.co, sO16 C.sh, sO27 C.sh, sO34 C.sh, sO40 C.sh, sA28 C.sh, sA29 C.sh, sA30 C.sh, sA31 C.sh, sA32 C.sh, sA33 C.sh, sA35 C.sh, sA36 C.sh, sA37 C.sh, sA38 C.sh, sA39 C.sh, sA41 C.sh, sA42 C.sh, sA43 C.sh, sA44 C.sh, pO C.sh C.pr.hp, pA1 C.sh C.pr.hp, pA2 C.sh C.pr.hp, pA3 C.sh C.pr.hp, pA4 C.sh C.pr.hp, pA5 C.sh C.pr.hp, pA6 C.sh C.pr.hp, pA7 C.sh C.pr.hp, pA8 C.sh C.pr.hp, pA9 C.sh C.pr.hp, pN C.pr.hp, pN0 C.pr.hp, iR_t, Int.reduceAdd, k1, k2, n0, hn, wr_n, wr_i, wr_s]
    have fr : Fr σ (wr (wr (wr (wr (wr (wr (wr σ 44 kind (σ 44 kind + 1)) 40 1 0) 41 0 kind) 42 0 who) 43 0 (f 0)) 40 1 1) 40 0 (if 24 < σ 40 0 + 1 then 24 else σ 40 0 + 1)) := by
      intro o ho
      simp (disch := omega) only [wr_o]
    have e2 : f 12 % 24 = 0 := by omega
    refine ⟨_, e, C.fr fr (SR_log C.s T V F.mn ev h0 h1 ?_ ?_ ?_ ?_ ?_ ?_ ?_ ?_), fr⟩
    · intro o ho; simp (disch := omega) only [wr_o]
    · intro j hj; simp (disch := omega) only [wr_n, wr_i]
    · rw [wr_s, lk]; split <;> split <;> omega
    · simp (disch := omega) only [wr_n, wr_i, wr_s]; omega
    · intro j; simp (disch := omega) only [wr_n]; rw [e2]; by_cases z : j = 0; (subst z; rw [wr_s, if_pos rfl]); (rw [wr_i z, if_neg z, wr_n (by omega), wr_n (by omega)])
    · intro j; simp (disch := omega) only [wr_n]; rw [e2]; by_cases z : j = 0; (subst z; rw [wr_s, if_pos rfl]); (rw [wr_i z, if_neg z, wr_n (by omega), wr_n (by omega), wr_n (by omega)])
    · intro j; simp (disch := omega) only [wr_n]; rw [e2]; by_cases z : j = 0; (subst z; rw [wr_s, if_pos rfl]); (rw [wr_i z, if_neg z, wr_n (by omega), wr_n (by omega), wr_n (by omega), wr_n (by omega)])
    · intro j; simp (disch := omega) only [wr_n]; by_cases z : j = kind; (subst z; rw [wr_s, if_pos rfl]); (rw [wr_i z, if_neg z])
end ZO
