/-! A DEVICE's line. -/
section ZR5
variable {P : Shp} {σ σ' σ1 σ2 s μ μ' ν : St} {f t g : Int → Int} {a b c d e i j x y z v N cnt kd o w : Int} {R sp T : List Int} {n m r k L : Nat} {xs : Nat → Int32}
theorem PQ.oth (M : PQ μ t a b c) (p : ∀ j, j ≠ 4 → j ≠ 5 → j ≠ 6 → ν 3 j = μ 3 j) (p4 : ν 3 4 = a) (p5 : ν 3 5 = d) (p6 : ν 3 6 = e) (o1 : ∀ o, (4 ≤ o ∧ o ≤ 7) ∨ o = 13 → ν o = μ o) (de : ∀ i, 0 ≤ i → i < d → ν 8 i = t (55 + i) ∧ ν 9 i = t (63 + i)) (st : ∀ i, 0 ≤ i → i < e → ν 10 i = t (71 + 3 * i) ∧ ν 11 i = t (71 + 3 * i + 1) ∧ ν 12 i = t (71 + 3 * i + 2)) (nb : ∀ i, 0 ≤ i → i < d → ν 14 i = 109 + i) (nc : ∀ i, 0 ≤ i → i < e → ν 15 i = 514 + i) : PQ ν t a d e := by
  have q := M.pp
  refine ⟨⟨by rw [p 7 (by omega) (by omega) (by omega)]; exact q.r7, by rw [p 8 (by omega) (by omega) (by omega)]; exact q.r8, by rw [p 9 (by omega) (by omega) (by omega)]; exact q.r9, by rw [p 10 (by omega) (by omega) (by omega)]; exact q.r10, by rw [p 11 (by omega) (by omega) (by omega)]; exact q.r11, by rw [p 12 (by omega) (by omega) (by omega)]; exact q.r12, by rw [p 13 (by omega) (by omega) (by omega)]; exact q.r13, by rw [p 14 (by omega) (by omega) (by omega)]; exact q.r14, by rw [p 15 (by omega) (by omega) (by omega)]; exact q.r15⟩, p4, p5, p6, by rw [p 0 (by omega) (by omega) (by omega)]; exact M.v0, by rw [p 1 (by omega) (by omega) (by omega)]; exact M.v1, fun i i0 i1 => ?_, de, st, fun i i0 i1 => by rw [o1 13 (by omega)]; exact M.na i i0 i1, nb, nc, M.p5⟩
  rw [o1 4 (by omega), o1 5 (by omega), o1 6 (by omega), o1 7 (by omega)]
  exact M.we i i0 i1
/-- no port is taken twice -/
theorem rd_taken (Q : LPp P σ f N e R μ) (M : PQ μ t a b c) (h : ∀ i, 0 ≤ i → i < b → t (55 + i) = i) (b0 : 0 ≤ b) (b8 : b ≤ 8) (hx : x = b) : fX5_isTakenPort P σ 1 x = some 0 := by
  have sh := Q.sh
  have p9 := Q.p9
  have q35 : σ 3 5 = b := by rw [Q.mm 3 (by omega)]; exact M.v5
  have q311 : σ 3 11 = 8 := by rw [Q.mm 3 (by omega)]; exact M.pp.r11
  have key := loop_f (fun m k => fX5_isTakenPort_L2 P σ 1 x (bz 0 (some (0 : Int))) (bz 1 (some (1 : Int))) m k) (bz 0 (some (0 : Int))) (fun i => if i = -1 then bz 0 (some (0 : Int)) else bz 1 (some (1 : Int))) b.toNat (fun _ => false) (fun k m hk1 => by
    have k1 : ¬ (b ≤ (k : Int)) := by omega
    have k8 : ¬ (8 ≤ (k : Int)) := by omega
    have kx : ¬ ((k : Int) = x) := by omega
    have q8 : σ 8 (k : Int) = (k : Int) := by rw [Q.mm 8 (by omega), (M.de (k : Int) (by omega) (by omega)).1]; exact h _ (by omega) (by omega)
    have o8 : okA P 10 8 (k : Int) = true := sA8 sh (by omega) (by omega)
    rw [if_neg (by decide)]
    simp (disch := first | omega | assumption | with_reducible rfl | fail) only [fX5_isTakenPort_L2, ↓z_lt, ↓z_ge, ↓z_gt, ↓z_le, ↓z_eq, ↓z_ne, ↓z_mx, ↓z_mn, ↓z_dv, ↓z_rm, ↓z_i2l, ↓z_lc, ↓z_sw, ↓z_sf, ↓z_sn, ↓z_bd, ↓z_nt, z_b0, z_b1, z_bi, z_bj, ↓z_gF, ↓z_gR, ↓z_pF, ↓z_pZ, ↓z_pR, ↓z_aI, ↓z_aR, ↓z_sI, ↓z_sZ, ↓z_on, z_cl, ↓reduceIte, Int.reduceEq, Int.reduceNeg, Int.reduceLT, Int.reduceLE, Int.reduceAdd, Int.reduceSub, Int.reduceMul, true_and, and_true, or_true, true_or, eq_self, iR_t, sO1 sh, sO3 sh, p9, q35, q311, k1, k8, o8, q8, kx]) (fun m => by
    have k1 : b ≤ ((b.toNat : Nat) : Int) := by omega
    simp (disch := first | omega | assumption | with_reducible rfl | fail) only [fX5_isTakenPort_L2, ↓z_lt, ↓z_ge, ↓z_gt, ↓z_le, ↓z_eq, ↓z_ne, ↓z_mx, ↓z_mn, ↓z_dv, ↓z_rm, ↓z_i2l, ↓z_lc, ↓z_sw, ↓z_sf, ↓z_sn, ↓z_bd, ↓z_nt, z_b0, z_b1, z_bi, z_bj, ↓z_gF, ↓z_gR, ↓z_pF, ↓z_pZ, ↓z_pR, ↓z_aI, ↓z_aR, ↓z_sI, ↓z_sZ, ↓z_on, z_cl, ↓reduceIte, Int.reduceEq, Int.reduceNeg, Int.reduceLT, Int.reduceLE, Int.reduceAdd, Int.reduceSub, Int.reduceMul, true_and, and_true, or_true, true_or, eq_self, iR_t, sO1 sh, sO3 sh, p9, q35, k1]) (m := 1000) (by omega) (if_pos rfl)
  unfold fX5_isTakenPort
  refine key.trans ?_
  have e : fstI (fun _ : Int => false) b.toNat 0 = -1 := by
    rcases fstI_in (p := fun _ : Int => false) b.toNat 0 with q | q
    · exact q
    · exact absurd q.2.2 (by decide)
  rw [e, if_pos rfl]
  rfl
/-- an heir, or none -/
theorem rd_heir (Q : LPp P σ f N e (heiT L xs k ++ ([59] ++ R)) μ) (hk : k < 8) (h9 : μ 9 (k : Int) = -1) (p : PP μ 3) (h5 : μ 3 5 = (k : Int)) (nb : ∀ j, 0 ≤ j → j < (k : Int) → μ 14 j = 109 + j) : ∃ σ' e', LPp P σ' f N e' ([59] ++ R) (wr μ 9 (k : Int) (if 0 < (k : Int) ∧ 0 < pkV L xs (22 + (k : Int)) 3 then pkV L xs (26 + (k : Int)) (k : Int) else -1)) ∧ (∀ j, (j < 3 ∨ 6 < j) → σ' 1 j = σ 1 j) ∧
    ((fX5_isWord P σ 1 (-7) = some 0 ∧ σ' = σ) ∨ (∃ σ1 σ2, fX5_isWord P σ 1 (-7) = some 1 ∧ fX5_advance P σ 1 = some σ1 ∧ fX5_isKnownDevice P σ1 1 = some (1, σ1) ∧ σ1 1 9 = 3 ∧ σ1 3 12 = 9 ∧ σ1 1 12 = 14 ∧ fX5_indexOfWord P σ1 1 14 (k : Int) = some (pkV L xs (26 + (k : Int)) (k : Int)) ∧ fX5_advance P (wr σ1 9 (k : Int) (pkV L xs (26 + (k : Int)) (k : Int))) 1 = some σ2 ∧ σ' = σ2)) := by
  have sh := Q.sh
  by_cases hh : 0 < (k : Int) ∧ 0 < pkV L xs (22 + (k : Int)) 3
  · rw [if_pos hh]
    rw [heiT_w hh] at Q
    have vx := pkV_in (L := L) (xs := xs) (a := 26 + (k : Int)) (x := (k : Int)) (by omega)
    obtain ⟨iw, a1, _⟩ := LPp.word (w := wHei) Q (Or.inr rfl) (lw_of _ (by decide +kernel)) (by decide) (by decide) (s32 _)
    have w7 := iw (-7) (by omega)
    rw [if_pos (by decide +kernel)] at w7
    obtain ⟨σ1, e1, L1, j1⟩ := Q.adv a1
    obtain ⟨ix, a2, kn⟩ := LPp.known (b := (k : Int)) L1 (Or.inr rfl) (s59 _) vx.1 vx.2 (by omega) nb
    obtain ⟨σ2, e2, L2, j2⟩ := (L1.wrt (o := 9) (i := (k : Int)) (v := pkV L xs (26 + (k : Int)) (k : Int)) (by omega) (by omega)).adv a2
    exact ⟨σ2, _, L2, fun j hj => by rw [j2 j hj, wr_n (by omega), j1 j hj], Or.inr ⟨σ1, σ2, w7, e1, kn h5, L1.p9, by rw [L1.mm 3 (by omega)]; exact p.r12, L1.n12, ix, e2, rfl⟩⟩
  · rw [if_neg hh]
    unfold heiT at Q
    rw [if_neg hh] at Q
    have Q' : LPp P σ f N e ([59] ++ R) μ := Q
    have ht := (tk_s Q'.at').1
    have w7 := Q'.nword (z := -7) (by omega) (by omega)
    have e9 : wr μ 9 (k : Int) (-1) = μ := by
      funext o j
      by_cases c1 : o = 9
      · subst c1
        by_cases c2 : j = (k : Int)
        · subst c2; rw [wr_s, h9]
        · rw [wr_i c2]
      · rw [wr_o c1]
    rw [e9]
    exact ⟨σ, e, Q', fun _ _ => rfl, Or.inl ⟨w7, rfl⟩⟩
set_option maxHeartbeats 4000000 in
theorem ev_dev {s0 s1 s2 s3 s4 : St} (sh : ShpIs P 279 PL) (k0 : 0 ≤ y) (k6 : y < 8) (p90 : s0 1 9 = 3) (q35 : s0 3 5 = y) (e1 : fX5_advance P s0 1 = some s1) (n12 : s1 1 12 = 14) (e2 : fX5_takeNewName P s1 1 14 y = some (1, s2)) (p92 : s2 1 9 = 3) (q31 : s2 3 1 = 5) (n2 : fX5_isNumberWithin P s2 1 0 (5 - 1) = some (1, s2)) (v2 : s2 1 6 = y) (tk : fX5_isTakenPort P s2 1 y = some 0) (q311 : s2 3 11 = 8) (e3 : fX5_advance P (wr s2 8 y y) 1 = some s3) (p93 : s3 1 9 = 3) (q312 : s3 3 12 = 9) (p94 : wr s3 9 y (-1) 1 9 = 3)
    (hX : (fX5_isWord P (wr s3 9 y (-1)) 1 (-7) = some 0 ∧ s4 = wr s3 9 y (-1)) ∨ (∃ σ1 σ2, fX5_isWord P (wr s3 9 y (-1)) 1 (-7) = some 1 ∧ fX5_advance P (wr s3 9 y (-1)) 1 = some σ1 ∧ fX5_isKnownDevice P σ1 1 = some (1, σ1) ∧ σ1 1 9 = 3 ∧ σ1 3 12 = 9 ∧ σ1 1 12 = 14 ∧ fX5_indexOfWord P σ1 1 14 y = some x ∧ fX5_advance P (wr σ1 9 y x) 1 = some σ2 ∧ s4 = σ2)) (p95 : s4 1 9 = 3) : fX5_readDevice P s0 1 = some (1, wr s4 3 5 (y + 1)) := by
  have o8 : okA P 10 8 y = true := sA8 sh k0 k6
  have o9 : okA P 10 9 y = true := sA9 sh k0 k6
  rcases hX with ⟨w7, rfl⟩ | ⟨s1, s2, w7, r1, kn, p9, p12, p14, ix, r2, rfl⟩
  · simp (disch := first | omega | assumption | (simp (disch := omega) only [ p90, p92, p93, p94, n12, q35, q31, q311, q312, v2 ]; done) | fail) only [fX5_readDevice, ↓z_lt, ↓z_ge, ↓z_gt, ↓z_le, ↓z_eq, ↓z_ne, ↓z_mx, ↓z_mn, ↓z_dv, ↓z_rm, ↓z_i2l, ↓z_lc, ↓z_sw, ↓z_sf, ↓z_sn, ↓z_bd, ↓z_nt, z_b0, z_b1, z_bi, z_bj, ↓z_gF, ↓z_gR, ↓z_pF, ↓z_pZ, ↓z_pR, ↓z_aI, ↓z_aR, ↓z_sI, ↓z_sZ, ↓z_on, z_cl, ↓reduceIte, Int.reduceEq, Int.reduceNeg, Int.reduceLT, Int.reduceLE, Int.reduceAdd, Int.reduceSub, Int.reduceMul, true_and, and_true, or_true, true_or, eq_self, iR_t, sO1 sh, sO3 sh, p90, q35, k6, ↓e_g e1, n12, ↓e_g e2, p92, q31, ↓e_g n2, v2, ↓e_g tk, q311, o8, ↓e_g e3, p93, q312, o9, ↓e_g w7, p94]
  · simp (disch := first | omega | assumption | (simp (disch := omega) only [ p90, p92, p93, p95, n12, q35, q31, q311, q312, v2, p9, p12, p14 ]; done) | fail) only [fX5_readDevice, ↓z_lt, ↓z_ge, ↓z_gt, ↓z_le, ↓z_eq, ↓z_ne, ↓z_mx, ↓z_mn, ↓z_dv, ↓z_rm, ↓z_i2l, ↓z_lc, ↓z_sw, ↓z_sf, ↓z_sn, ↓z_bd, ↓z_nt, z_b0, z_b1, z_bi, z_bj, ↓z_gF, ↓z_gR, ↓z_pF, ↓z_pZ, ↓z_pR, ↓z_aI, ↓z_aR, ↓z_sI, ↓z_sZ, ↓z_on, z_cl, ↓reduceIte, Int.reduceEq, Int.reduceNeg, Int.reduceLT, Int.reduceLE, Int.reduceAdd, Int.reduceSub, Int.reduceMul, true_and, and_true, or_true, true_or, eq_self, iR_t, sO1 sh, sO3 sh, p90, q35, k6, ↓e_g e1, n12, ↓e_g e2, p92, q31, ↓e_g n2, v2, ↓e_g tk, q311, o8, ↓e_g e3, p93, q312, o9, ↓e_g w7, ↓e_g r1, ↓e_g kn, p9, p12, p14, ↓e_g ix, ↓e_g r2, p95]
theorem rd_dev (Q : LPp P σ f N e (devT L xs k ++ R) μ) (hk : k < 4) (M : PQ μ t a (k : Int) c) (h0 : ∀ i, 0 ≤ i → i ≤ (k : Int) → t (55 + i) = i) (h1 : t (63 + (k : Int)) = if 0 < (k : Int) ∧ 0 < pkV L xs (22 + (k : Int)) 3 then pkV L xs (26 + (k : Int)) (k : Int) else -1) :
    ∃ σ' e' μ', fX5_readStatement P σ 1 = some (1, σ') ∧ LPp P σ' f N e' R μ' ∧ PQ μ' t a ((k : Int) + 1) c ∧ (∀ j, (j < 3 ∨ 6 < j) → σ' 1 j = σ 1 j) ∧ (∀ o, (o < 3 ∨ 15 < o) → μ' o = μ o) := by
  rw [devT_w] at Q
  have sh := Q.sh
  obtain ⟨iw, a1, _⟩ := Q.head (w := wDev) (by decide +kernel) (by decide) (by decide) (s32 _)
  have w3 := iw (-3) (by omega)
  rw [if_neg (by decide +kernel)] at w3
  have w4 := iw (-4) (by omega)
  rw [if_pos (by decide +kernel)] at w4
  obtain ⟨σ1, e1, L1, j1⟩ := Q.adv a1
  have nb := M.nb
  obtain ⟨σ2, e2, L2, j2⟩ := LPp.newName (o := 14) (kd := 1) (k := (k : Int)) L1 (Or.inr rfl) (by unfold isLt; omega) (s32 _) rfl (Or.inr (Or.inl rfl)) (by omega) (by omega) (fun j j0 j1 => (nb j j0 j1).trans (by omega))
  have n109 : (27 : Int) * (100 - 96) + 1 + (k : Int) = 109 + (k : Int) := by omega
  rw [n109] at L2
  have hS : ¬ isDg (gL (heiT L xs k ++ ([59] ++ R)) 0) := by
    by_cases hh : 0 < (k : Int) ∧ 0 < pkV L xs (22 + (k : Int)) 3
    · rw [heiT_w hh]; exact s32d _
    · unfold heiT; rw [if_neg hh]; exact s59d _
  obtain ⟨n2, v2, a2⟩ := LPp.num (a := 0) (b := 4) L2 (Or.inr rfl) (by omega) (by omega) hS rfl rfl (by omega) (by omega)
  have M2 : PQ (wr μ 14 (k : Int) (109 + (k : Int))) t a (k : Int) c := M.oth (fun j _ _ _ => wr_n (by omega)) (by rw [wr_n (by omega)]; exact M.v4) (by rw [wr_n (by omega)]; exact M.v5) (by rw [wr_n (by omega)]; exact M.v6) (fun o ho => wr_o (by omega)) (fun i i0 i1 => by rw [wr_n (by omega), wr_n (by omega)]; exact M.de i i0 i1) (fun i i0 i1 => by rw [wr_n (by omega), wr_n (by omega), wr_n (by omega)]; exact M.st i i0 i1) (fun i i0 i1 => by rw [wr_i (by omega)]; exact M.nb i i0 i1) (fun i i0 i1 => by rw [wr_n (by omega)]; exact M.nc i i0 i1)
  have tk := rd_taken (x := (k : Int)) L2 M2 (fun i i0 i1 => h0 i i0 (by omega)) (by omega) (by omega) rfl
  obtain ⟨σ3, e3, L3, j3⟩ := (L2.wrt (o := 8) (i := (k : Int)) (v := (k : Int)) (by omega) (by omega)).adv a2
  have L4 := L3.wrt (o := 9) (i := (k : Int)) (v := -1) (by omega) (by omega)
  have q3 : ∀ j, wr (wr (wr μ 14 (k : Int) (109 + (k : Int))) 8 (k : Int) (k : Int)) 9 (k : Int) (-1) 3 j = μ 3 j := fun j => by rw [wr_n (by omega), wr_n (by omega), wr_n (by omega)]
  have pp4 : PP (wr (wr (wr μ 14 (k : Int) (109 + (k : Int))) 8 (k : Int) (k : Int)) 9 (k : Int) (-1)) 3 := M.pp.fr (funext q3)
  obtain ⟨σ4, e4, L5, j4, hX⟩ := rd_heir L4 (by omega) wr_s pp4 (by rw [q3]; exact M.v5) (fun j j0 j1 => by rw [wr_n (by omega), wr_n (by omega), wr_i (by omega)]; exact M.nb j j0 j1)
  have L6 := L5.wrt (o := 3) (i := 5) (v := (k : Int) + 1) (by omega) (by omega)
  obtain ⟨σ6, e6, L7, j6⟩ := L6.semi
  have p90 := Q.p9
  have p92 := L2.p9
  have p93 := L3.p9
  have p95 := L5.p9
  have p94 : wr σ3 9 (k : Int) (-1) 1 9 = 3 := L4.p9
  have n12 := L1.n12
  have q35 : σ 3 5 = (k : Int) := by rw [Q.mm 3 (by omega)]; exact M.v5
  have q31 : σ2 3 1 = 5 := by rw [L2.mm 3 (by omega), wr_n (by omega)]; exact M.v1
  have q311 : σ2 3 11 = 8 := by rw [L2.mm 3 (by omega), wr_n (by omega)]; exact M.pp.r11
  have q312 : σ3 3 12 = 9 := by rw [L3.mm 3 (by omega), wr_n (by omega), wr_n (by omega)]; exact M.pp.r12
  have eP : fX5_readDevice P σ 1 = some (1, wr σ4 3 5 ((k : Int) + 1)) := ev_dev sh (by omega) (by omega) p90 q35 e1 n12 e2 p92 q31 n2 v2 tk q311 e3 p93 q312 p94 hX p95
  refine ⟨σ6, _, _, ?_, L7, ?_, fun j hj => by rw [j6 j hj, wr_n (by omega), j4 j hj, wr_n (by omega), j3 j hj, wr_n (by omega), j2 j hj, j1 j hj], fun o ho => by rw [wr_o (by omega), wr_o (by omega), wr_o (by omega), wr_o (by omega), wr_o (by omega)]⟩
  · simp (disch := first | omega | assumption | with_reducible rfl | fail) only [fX5_readStatement, ↓z_lt, ↓z_ge, ↓z_gt, ↓z_le, ↓z_eq, ↓z_ne, ↓z_mx, ↓z_mn, ↓z_dv, ↓z_rm, ↓z_i2l, ↓z_lc, ↓z_sw, ↓z_sf, ↓z_sn, ↓z_bd, ↓z_nt, z_b0, z_b1, z_bi, z_bj, ↓z_gF, ↓z_gR, ↓z_pF, ↓z_pZ, ↓z_pR, ↓z_aI, ↓z_aR, ↓z_sI, ↓z_sZ, ↓z_on, z_cl, ↓reduceIte, Int.reduceEq, Int.reduceNeg, Int.reduceLT, Int.reduceLE, Int.reduceAdd, Int.reduceSub, Int.reduceMul, true_and, and_true, or_true, true_or, eq_self, iR_t, sO1 sh, ↓e_g w3, ↓e_g w4, ↓e_g eP, ↓e_g e6]
  · refine M.oth (fun j j4 j5 j6 => by rw [wr_i j5, wr_n (by omega)]; exact q3 j) (by rw [wr_i (by omega), wr_n (by omega), q3]; exact M.v4) wr_s (by rw [wr_i (by omega), wr_n (by omega), q3]; exact M.v6) (fun o ho => by rw [wr_o (by omega), wr_o (by omega), wr_o (by omega), wr_o (by omega), wr_o (by omega)]) (fun i i0 i1 => ?_) (fun i i0 i1 => ?_) (fun i i0 i1 => ?_) (fun i i0 i1 => ?_)
    · by_cases w : i = (k : Int)
      · subst w
        rw [wr_n (by omega), wr_n (by omega), wr_n (by omega), wr_s, wr_n (by omega), wr_s, h0 _ i0 (by omega), h1]
        exact ⟨rfl, rfl⟩
      · have q := M.de i i0 (by omega)
        rw [wr_n (by omega), wr_n (by omega), wr_n (by omega), wr_i w, wr_n (by omega), wr_n (by omega), wr_i w, wr_i w, wr_n (by omega), wr_n (by omega)]
        exact q
    · have q := M.st i i0 i1
      simp (disch := omega) only [wr_n]
      exact q
    · by_cases w : i = (k : Int)
      · subst w
        rw [wr_n (by omega), wr_n (by omega), wr_n (by omega), wr_n (by omega), wr_s]
      · rw [wr_n (by omega), wr_n (by omega), wr_n (by omega), wr_n (by omega), wr_i w]; exact M.nb i i0 (by omega)
    · have q := M.nc i i0 i1
      simp (disch := omega) only [wr_n]
      exact q
end ZR5
