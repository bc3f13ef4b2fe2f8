/-! THE WHOLE TEXT is read. -/
section ZR7
variable {P : Shp} {σ σ' σ1 σ2 s μ μ' ν : St} {f t g : Int → Int} {a b c d e i j x y z v N cnt kd o w c2 c4 : Int} {R sp T : List Int} {n m r k L : Nat} {xs : Nat → Int32}
/-- the plan that the law writes -/
def TL (L : Nat) (xs : Nat → Int32) (t : Int → Int) (np nd ns : Nat) : Prop :=
  (t 0 = (np : Int)) ∧
  (t 1 = (nd : Int)) ∧
  (t 2 = (ns : Int)) ∧
  (t 4 = 5) ∧
  (t 6 = 40) ∧
  (10 ≤ t 3 ∧ t 3 ≤ 39) ∧
  (1 ≤ np ∧ np ≤ 3) ∧
  (3 ≤ nd ∧ nd ≤ 4) ∧
  (1 ≤ ns ∧ ns ≤ 5) ∧
  (t 5 = 3 + pkV L xs 45 12) ∧
  (∀ k : Nat, k < np → t (7 + 8 * (k : Int)) = 1 + pkV L xs (4 + (k : Int)) 9) ∧
  (∀ k : Nat, k < np → t (7 + 8 * (k : Int) + 1) = 5 + pkV L xs (7 + (k : Int)) 20) ∧
  (∀ k : Nat, k < np → t (7 + 8 * (k : Int) + 2) = pkV L xs (10 + (k : Int)) 3 + 1) ∧
  (∀ k : Nat, k < np → ∀ j, 0 ≤ j → j < 3 → t (7 + 8 * (k : Int) + 3 + j) = pkV L xs (13 + 3 * (k : Int) + j) 4) ∧
  (∀ i, 0 ≤ i → i < (nd : Int) → t (55 + i) = i) ∧
  (∀ k : Nat, k < nd → t (63 + (k : Int)) = if 0 < (k : Int) ∧ 0 < pkV L xs (22 + (k : Int)) 3 then pkV L xs (26 + (k : Int)) (k : Int) else -1) ∧
  (∀ k : Nat, k < ns → t (71 + 3 * (k : Int)) = pkV L xs (30 + (k : Int)) (nd : Int)) ∧
  (∀ k : Nat, k < ns → t (71 + 3 * (k : Int) + 1) = 2 + pkV L xs (35 + (k : Int)) (t 3 - 1)) ∧
  (∀ k : Nat, k < ns → t (71 + 3 * (k : Int) + 2) = 1 + pkV L xs (40 + (k : Int)) 60)
theorem TL.t0 {L : Nat} {xs : Nat → Int32} {t : Int → Int} {np nd ns : Nat} (h : TL L xs t np nd ns) : t 0 = (np : Int) := h.1
theorem TL.t1 {L : Nat} {xs : Nat → Int32} {t : Int → Int} {np nd ns : Nat} (h : TL L xs t np nd ns) : t 1 = (nd : Int) := h.2.1
theorem TL.t2 {L : Nat} {xs : Nat → Int32} {t : Int → Int} {np nd ns : Nat} (h : TL L xs t np nd ns) : t 2 = (ns : Int) := h.2.2.1
theorem TL.t4 {L : Nat} {xs : Nat → Int32} {t : Int → Int} {np nd ns : Nat} (h : TL L xs t np nd ns) : t 4 = 5 := h.2.2.2.1
theorem TL.t6 {L : Nat} {xs : Nat → Int32} {t : Int → Int} {np nd ns : Nat} (h : TL L xs t np nd ns) : t 6 = 40 := h.2.2.2.2.1
theorem TL.w3 {L : Nat} {xs : Nat → Int32} {t : Int → Int} {np nd ns : Nat} (h : TL L xs t np nd ns) : 10 ≤ t 3 ∧ t 3 ≤ 39 := h.2.2.2.2.2.1
theorem TL.l0 {L : Nat} {xs : Nat → Int32} {t : Int → Int} {np nd ns : Nat} (h : TL L xs t np nd ns) : 1 ≤ np ∧ np ≤ 3 := h.2.2.2.2.2.2.1
theorem TL.l1 {L : Nat} {xs : Nat → Int32} {t : Int → Int} {np nd ns : Nat} (h : TL L xs t np nd ns) : 3 ≤ nd ∧ nd ≤ 4 := h.2.2.2.2.2.2.2.1
theorem TL.l2 {L : Nat} {xs : Nat → Int32} {t : Int → Int} {np nd ns : Nat} (h : TL L xs t np nd ns) : 1 ≤ ns ∧ ns ≤ 5 := h.2.2.2.2.2.2.2.2.1
theorem TL.sc {L : Nat} {xs : Nat → Int32} {t : Int → Int} {np nd ns : Nat} (h : TL L xs t np nd ns) : t 5 = 3 + pkV L xs 45 12 := h.2.2.2.2.2.2.2.2.2.1
theorem TL.pw {L : Nat} {xs : Nat → Int32} {t : Int → Int} {np nd ns : Nat} (h : TL L xs t np nd ns) : ∀ k : Nat, k < np → t (7 + 8 * (k : Int)) = 1 + pkV L xs (4 + (k : Int)) 9 := h.2.2.2.2.2.2.2.2.2.2.1
theorem TL.pi {L : Nat} {xs : Nat → Int32} {t : Int → Int} {np nd ns : Nat} (h : TL L xs t np nd ns) : ∀ k : Nat, k < np → t (7 + 8 * (k : Int) + 1) = 5 + pkV L xs (7 + (k : Int)) 20 := h.2.2.2.2.2.2.2.2.2.2.2.1
theorem TL.pe {L : Nat} {xs : Nat → Int32} {t : Int → Int} {np nd ns : Nat} (h : TL L xs t np nd ns) : ∀ k : Nat, k < np → t (7 + 8 * (k : Int) + 2) = pkV L xs (10 + (k : Int)) 3 + 1 := h.2.2.2.2.2.2.2.2.2.2.2.2.1
theorem TL.pk {L : Nat} {xs : Nat → Int32} {t : Int → Int} {np nd ns : Nat} (h : TL L xs t np nd ns) : ∀ k : Nat, k < np → ∀ j, 0 ≤ j → j < 3 → t (7 + 8 * (k : Int) + 3 + j) = pkV L xs (13 + 3 * (k : Int) + j) 4 := h.2.2.2.2.2.2.2.2.2.2.2.2.2.1
theorem TL.fp {L : Nat} {xs : Nat → Int32} {t : Int → Int} {np nd ns : Nat} (h : TL L xs t np nd ns) : ∀ i, 0 ≤ i → i < (nd : Int) → t (55 + i) = i := h.2.2.2.2.2.2.2.2.2.2.2.2.2.2.1
theorem TL.he {L : Nat} {xs : Nat → Int32} {t : Int → Int} {np nd ns : Nat} (h : TL L xs t np nd ns) : ∀ k : Nat, k < nd → t (63 + (k : Int)) = if 0 < (k : Int) ∧ 0 < pkV L xs (22 + (k : Int)) 3 then pkV L xs (26 + (k : Int)) (k : Int) else -1 := h.2.2.2.2.2.2.2.2.2.2.2.2.2.2.2.1
theorem TL.ho {L : Nat} {xs : Nat → Int32} {t : Int → Int} {np nd ns : Nat} (h : TL L xs t np nd ns) : ∀ k : Nat, k < ns → t (71 + 3 * (k : Int)) = pkV L xs (30 + (k : Int)) (nd : Int) := h.2.2.2.2.2.2.2.2.2.2.2.2.2.2.2.2.1
theorem TL.ra {L : Nat} {xs : Nat → Int32} {t : Int → Int} {np nd ns : Nat} (h : TL L xs t np nd ns) : ∀ k : Nat, k < ns → t (71 + 3 * (k : Int) + 1) = 2 + pkV L xs (35 + (k : Int)) (t 3 - 1) := h.2.2.2.2.2.2.2.2.2.2.2.2.2.2.2.2.2.1
theorem TL.pa {L : Nat} {xs : Nat → Int32} {t : Int → Int} {np nd ns : Nat} (h : TL L xs t np nd ns) : ∀ k : Nat, k < ns → t (71 + 3 * (k : Int) + 2) = 1 + pkV L xs (40 + (k : Int)) 60 := h.2.2.2.2.2.2.2.2.2.2.2.2.2.2.2.2.2.2
theorem r48 (Q : LPp P σ f N e R μ) (ht : tT f N e = 1) (p0 : 0 ≤ a) (p1 : a ≤ 600) (h : fX5_readStatement P σ 1 = some (1, σ')) (kA kB kC : St → Option (Int × St)) (m : Nat) : fX5_read_L48 P 1 kA kB kC (m + 1) a σ = fX5_read_L48 P 1 kA kB kC m (a + 1) σ' := by
  have sh := Q.sh
  have s4 : σ 1 4 = 1 := by rw [Q.ct.tt, ht]
  have k1 : ¬ (600 < a) := by omega
  rw [fX5_read_L48]
  simp (disch := first | omega | assumption | with_reducible rfl | fail) only [↓z_lt, ↓z_ge, ↓z_gt, ↓z_le, ↓z_eq, ↓z_ne, ↓z_mx, ↓z_mn, ↓z_dv, ↓z_rm, ↓z_i2l, ↓z_lc, ↓z_sw, ↓z_sf, ↓z_sn, ↓z_bd, ↓z_nt, z_b0, z_b1, z_bi, z_bj, ↓z_gF, ↓z_gR, ↓z_pF, ↓z_pZ, ↓z_pR, ↓z_aI, ↓z_aR, ↓z_sI, ↓z_sZ, ↓z_on, z_cl, ↓reduceIte, Int.reduceEq, Int.reduceNeg, Int.reduceLT, Int.reduceLE, Int.reduceAdd, Int.reduceSub, Int.reduceMul, true_and, and_true, or_true, true_or, eq_self, iR_t, sO1 sh, k1, s4, ↓e_g h]
theorem ht_pat (Q : LPp P σ f N e (patT L xs k ++ R) μ) : tT f N e = 1 := by
  rw [patT_w] at Q
  exact (Q.head (w := wPat) (by decide +kernel) (by decide) (by decide) (s32 _)).2.2
theorem ht_dev (Q : LPp P σ f N e (devT L xs k ++ R) μ) : tT f N e = 1 := by
  rw [devT_w] at Q
  exact (Q.head (w := wDev) (by decide +kernel) (by decide) (by decide) (s32 _)).2.2
theorem ht_str (Q : LPp P σ f N e (strT L xs c2 c4 k ++ R) μ) : tT f N e = 1 := by
  rw [strT_w] at Q
  exact (Q.head (w := wStr) (by decide +kernel) (by decide) (by decide) (s32 _)).2.2
theorem ht_ala (Q : LPp P σ f N e (alaT L xs ++ R) μ) : tT f N e = 1 := by
  rw [alaT_w] at Q
  exact (Q.head (w := wAla) (by decide +kernel) (by decide) (by decide) (s32 _)).2.2
/-- what reading lines leaves alone -/
def FRD (σ σ' μ μ' : St) : Prop := (∀ j, (j < 3 ∨ 6 < j) → σ' 1 j = σ 1 j) ∧ (∀ o, (o < 3 ∨ 15 < o) → μ' o = μ o)
theorem lp_pats {np nd ns : Nat} (H : TL L xs t np nd ns) : ∀ (r k m : Nat) (p2 : Int) (σ μ : St) (e : Int), LPp P σ f N e (segL (patT L xs) k r ++ R) μ → PQ μ t (k : Int) b c → k + r = np → 0 ≤ p2 → p2 + (r : Int) ≤ 100 →
    ∃ σ' e' μ', (∀ kA kB kC, fX5_read_L48 P 1 kA kB kC (m + r) p2 σ = fX5_read_L48 P 1 kA kB kC m (p2 + (r : Int)) σ') ∧ LPp P σ' f N e' R μ' ∧ PQ μ' t (np : Int) b c ∧ FRD σ σ' μ μ' := by
  intro r
  induction r with
  | zero =>
    intro k m p2 σ μ e Q M hk h0 h1
    have : k = np := by omega
    subst this
    exact ⟨σ, e, μ, fun kA kB kC => by rw [show p2 + ((0 : Nat) : Int) = p2 by simp]; rfl, Q, M, fun _ _ => rfl, fun _ _ => rfl⟩
  | succ r ih =>
    intro k m p2 σ μ e Q M hk h0 h1
    have l0 := H.l0
    push_cast at h1
    rw [segL, List.append_assoc] at Q
    obtain ⟨σ1, e1, μ1, E1, Q1, M1, j1, o1⟩ := rd_pat Q (by omega) M (H.pw k (by omega)) (H.pi k (by omega)) (H.pe k (by omega)) (H.pk k (by omega))
    obtain ⟨σ2, e2, μ2, E2, Q2, M2, j2, o2⟩ := ih (k + 1) m (p2 + 1) σ1 μ1 e1 Q1 (by push_cast; exact M1) (by omega) (by omega) (by omega)
    refine ⟨σ2, e2, μ2, fun kA kB kC => ?_, Q2, M2, fun j hj => (j2 j hj).trans (j1 j hj), fun o ho => (o2 o ho).trans (o1 o ho)⟩
    rw [show m + (r + 1) = m + r + 1 by omega, r48 Q (ht_pat Q) h0 (by omega) E1, E2 kA kB kC]
    congr 1
    push_cast
    omega
theorem lp_devs {np nd ns : Nat} (H : TL L xs t np nd ns) : ∀ (r k m : Nat) (p2 : Int) (σ μ : St) (e : Int), LPp P σ f N e (segL (devT L xs) k r ++ R) μ → PQ μ t a (k : Int) c → k + r = nd → 0 ≤ p2 → p2 + (r : Int) ≤ 100 →
    ∃ σ' e' μ', (∀ kA kB kC, fX5_read_L48 P 1 kA kB kC (m + r) p2 σ = fX5_read_L48 P 1 kA kB kC m (p2 + (r : Int)) σ') ∧ LPp P σ' f N e' R μ' ∧ PQ μ' t a (nd : Int) c ∧ FRD σ σ' μ μ' := by
  intro r
  induction r with
  | zero =>
    intro k m p2 σ μ e Q M hk h0 h1
    have : k = nd := by omega
    subst this
    exact ⟨σ, e, μ, fun kA kB kC => by rw [show p2 + ((0 : Nat) : Int) = p2 by simp]; rfl, Q, M, fun _ _ => rfl, fun _ _ => rfl⟩
  | succ r ih =>
    intro k m p2 σ μ e Q M hk h0 h1
    have l1 := H.l1
    push_cast at h1
    rw [segL, List.append_assoc] at Q
    obtain ⟨σ1, e1, μ1, E1, Q1, M1, j1, o1⟩ := rd_dev Q (by omega) M (fun i i0 i1 => H.fp i i0 (by omega)) (H.he k (by omega))
    obtain ⟨σ2, e2, μ2, E2, Q2, M2, j2, o2⟩ := ih (k + 1) m (p2 + 1) σ1 μ1 e1 Q1 (by push_cast; exact M1) (by omega) (by omega) (by omega)
    refine ⟨σ2, e2, μ2, fun kA kB kC => ?_, Q2, M2, fun j hj => (j2 j hj).trans (j1 j hj), fun o ho => (o2 o ho).trans (o1 o ho)⟩
    rw [show m + (r + 1) = m + r + 1 by omega, r48 Q (ht_dev Q) h0 (by omega) E1, E2 kA kB kC]
    congr 1
    push_cast
    omega
theorem lp_strs {np nd ns : Nat} (H : TL L xs t np nd ns) : ∀ (r k m : Nat) (p2 : Int) (σ μ : St) (e : Int), LPp P σ f N e (segL (strT L xs (nd : Int) (t 3)) k r ++ R) μ → PQ μ t a (nd : Int) (k : Int) → k + r = ns → 0 ≤ p2 → p2 + (r : Int) ≤ 100 →
    ∃ σ' e' μ', (∀ kA kB kC, fX5_read_L48 P 1 kA kB kC (m + r) p2 σ = fX5_read_L48 P 1 kA kB kC m (p2 + (r : Int)) σ') ∧ LPp P σ' f N e' R μ' ∧ PQ μ' t a (nd : Int) (ns : Int) ∧ FRD σ σ' μ μ' := by
  intro r
  induction r with
  | zero =>
    intro k m p2 σ μ e Q M hk h0 h1
    have : k = ns := by omega
    subst this
    exact ⟨σ, e, μ, fun kA kB kC => by rw [show p2 + ((0 : Nat) : Int) = p2 by simp]; rfl, Q, M, fun _ _ => rfl, fun _ _ => rfl⟩
  | succ r ih =>
    intro k m p2 σ μ e Q M hk h0 h1
    have l1 := H.l1
    have l2 := H.l2
    push_cast at h1
    rw [segL, List.append_assoc] at Q
    obtain ⟨σ1, e1, μ1, E1, Q1, M1, j1, o1⟩ := rd_str Q (by omega) M (by omega) H.w3 rfl (H.ho k (by omega)) (H.ra k (by omega)) (H.pa k (by omega))
    obtain ⟨σ2, e2, μ2, E2, Q2, M2, j2, o2⟩ := ih (k + 1) m (p2 + 1) σ1 μ1 e1 Q1 (by push_cast; exact M1) (by omega) (by omega) (by omega)
    refine ⟨σ2, e2, μ2, fun kA kB kC => ?_, Q2, M2, fun j hj => (j2 j hj).trans (j1 j hj), fun o ho => (o2 o ho).trans (o1 o ho)⟩
    rw [show m + (r + 1) = m + r + 1 by omega, r48 Q (ht_str Q) h0 (by omega) E1, E2 kA kB kC]
    congr 1
    push_cast
    omega
/-- all lines -/
theorem lp_all {np nd ns : Nat} (H : TL L xs t np nd ns) (Q : LPp P σ f N e (segL (patT L xs) 0 np ++ (segL (devT L xs) 0 nd ++ (segL (strT L xs (nd : Int) (t 3)) 0 ns ++ alaT L xs))) μ) (M : PQ μ t 0 0 0) (h10 : σ 1 10 = 0) (kA kB kC : St → Option (Int × St)) :
    ∃ σ' e' μ', fX5_read_L48 P 1 kA kB kC 1000 0 σ = kB σ' ∧ LPp P σ' f N e' [] μ' ∧ PQ μ' t (np : Int) (nd : Int) (ns : Int) ∧ μ' 3 2 = t 5 ∧ μ' 3 3 = t 6 ∧ (∀ j, (j < 3 ∨ 6 < j) → j ≠ 10 → σ' 1 j = σ 1 j) ∧ (∀ o, (o < 3 ∨ 15 < o) → μ' o = μ o) := by
  have l0 := H.l0
  have l1 := H.l1
  have l2 := H.l2
  obtain ⟨σ1, e1, μ1, E1, Q1, M1, F1⟩ := lp_pats H np 0 (1000 - np) 0 σ μ e Q M (by omega) (Int.le_refl _) (by omega)
  obtain ⟨σ2, e2, μ2, E2, Q2, M2, F2⟩ := lp_devs H nd 0 (1000 - np - nd) (0 + (np : Int)) σ1 μ1 e1 Q1 M1 (by omega) (by omega) (by omega)
  obtain ⟨σ3, e3, μ3, E3, Q3, M3, F3⟩ := lp_strs H ns 0 (1000 - np - nd - ns) (0 + (np : Int) + (nd : Int)) σ2 μ2 e2 Q2 M2 (by omega) (by omega) (by omega)
  have Q3' : LPp P σ3 f N e3 (alaT L xs ++ []) μ3 := by rw [List.append_nil]; exact Q3
  obtain ⟨σ4, e4, μ4, E4, Q4, M4, q2, q3, j4, o4⟩ := rd_ala Q3' M3 (by rw [F3.1 10 (by omega), F2.1 10 (by omega), F1.1 10 (by omega)]; exact h10) H.sc H.t6
  refine ⟨σ4, e4, μ4, ?_, Q4, M4, q2, q3, fun j hj h => by rw [j4 j hj h, F3.1 j hj, F2.1 j hj, F1.1 j hj], fun o ho => by rw [o4 o ho, F3.2 o ho, F2.2 o ho, F1.2 o ho]⟩
  have a1 := E1 kA kB kC
  rw [show 1000 - np + np = 1000 by omega] at a1
  have a2 := E2 kA kB kC
  rw [show 1000 - np - nd + nd = 1000 - np by omega] at a2
  have a3 := E3 kA kB kC
  rw [show 1000 - np - nd - ns + ns = 1000 - np - nd by omega] at a3
  rw [a1, a2, a3]
  obtain ⟨m, hm⟩ : ∃ m, 1000 - np - nd - ns = m + 2 := ⟨998 - np - nd - ns, by omega⟩
  rw [hm, r48 Q3' (ht_ala Q3') (by omega) (by omega) E4]
  have s4 : σ4 1 4 = 0 := by rw [Q4.ct.tt, tk_e Q4.at']
  have k1 : ¬ (600 < 0 + (np : Int) + (nd : Int) + (ns : Int) + 1) := by omega
  rw [fX5_read_L48]
  simp (disch := first | omega | assumption | with_reducible rfl | fail) only [↓z_lt, ↓z_ge, ↓z_gt, ↓z_le, ↓z_eq, ↓z_ne, ↓z_mx, ↓z_mn, ↓z_dv, ↓z_rm, ↓z_i2l, ↓z_lc, ↓z_sw, ↓z_sf, ↓z_sn, ↓z_bd, ↓z_nt, z_b0, z_b1, z_bi, z_bj, ↓z_gF, ↓z_gR, ↓z_pF, ↓z_pZ, ↓z_pR, ↓z_aI, ↓z_aR, ↓z_sI, ↓z_sZ, ↓z_on, z_cl, ↓reduceIte, Int.reduceEq, Int.reduceNeg, Int.reduceLT, Int.reduceLE, Int.reduceAdd, Int.reduceSub, Int.reduceMul, true_and, and_true, or_true, true_or, eq_self, iR_t, sO1 Q4.sh, k1, s4]
theorem PQ.pr {np nd ns : Nat} (H : TL L xs t np nd ns) (M : PQ μ t (np : Int) (nd : Int) (ns : Int)) (h2 : μ 3 2 = t 5) (h3 : μ 3 3 = t 6) : PR μ 3 t := by
  have p := M.pp
  refine ⟨Or.inl rfl, p.r7, p.r8, p.r9, p.r10, p.r11, p.r12, p.r13, p.r14, p.r15, M.v0, by rw [M.v1, H.t4], h2, h3, by rw [M.v4, H.t0], by rw [M.v5, H.t1], by rw [M.v6, H.t2], ?_, ?_, ?_, ?_, ?_, ?_, ?_, ?_, ?_⟩
  · intro i i0 i1; rw [H.t0] at i1; exact (M.we i i0 i1).1
  · intro i i0 i1; rw [H.t0] at i1; exact (M.we i i0 i1).2.1
  · intro i i0 i1; rw [H.t0] at i1; exact (M.we i i0 i1).2.2.1
  · intro i j i0 i1 j0 j1
    rw [H.t0] at i1
    have q := (M.we i i0 i1).2.2.2 j j0 j1
    first | exact q | (rw [show i * 5 + j = 5 * i + j by omega]; exact q)
  · intro i i0 i1; rw [H.t1] at i1; exact (M.de i i0 i1).1
  · intro i i0 i1; rw [H.t1] at i1; exact (M.de i i0 i1).2
  · intro i i0 i1; rw [H.t2] at i1; exact (M.st i i0 i1).1
  · intro i i0 i1; rw [H.t2] at i1; exact (M.st i i0 i1).2.1
  · intro i i0 i1; rw [H.t2] at i1; exact (M.st i i0 i1).2.2
end ZR7
