/-! A STREAM's line, the alarm's line. -/
section ZR6
variable {P : Shp} {σ σ' σ1 σ2 s μ μ' ν : St} {f t g : Int → Int} {a b c d e i j x y z v N cnt kd o w c2 c4 : Int} {R sp T : List Int} {n m r k L : Nat} {xs : Nat → Int32}
set_option maxHeartbeats 4000000 in
theorem ev_str {s0 s1 s2 s3 s4 s5 : St} {H Ra Pa : Int} (sh : ShpIs P 279 PL) (k0 : 0 ≤ y) (k6 : y < 12) (p90 : s0 1 9 = 3) (q36 : s0 3 6 = y) (e1 : fX5_advance P s0 1 = some s1) (n13 : s1 1 13 = 15) (e2 : fX5_takeNewName P s1 1 15 y = some (1, s2)) (kn : fX5_isKnownDevice P s2 1 = some (1, s2)) (p92 : s2 1 9 = 3) (q313 : s2 3 13 = 10) (n12 : s2 1 12 = 14) (q35 : s2 3 5 = z) (ix : fX5_indexOfWord P s2 1 14 z = some H) (e3 : fX5_advance P (wr s2 10 y H) 1 = some s3) (p93 : s3 1 9 = 3) (q30 : s3 3 0 = x) (n3 : fX5_isNumberWithin P s3 1 1 x = some (1, s3)) (q314 : s3 3 14 = 11) (v3 : s3 1 6 = Ra) (e4 : fX5_advance P (wr s3 11 y Ra) 1 = some s4) (n4 : fX5_isNumberWithin P s4 1 1 9999 = some (1, s4)) (p94 : s4 1 9 = 3) (q315 : s4 3 15 = 12) (v4 : s4 1 6 = Pa) (e5 : fX5_advance P (wr s4 12 y Pa) 1 = some s5) (p95 : s5 1 9 = 3) : fX5_readStream P s0 1 = some (1, wr s5 3 6 (y + 1)) := by
  have oA : okA P 10 10 y = true := sA10 sh k0 k6
  have oB : okA P 10 11 y = true := sA11 sh k0 k6
  have oC : okA P 10 12 y = true := sA12 sh k0 k6
  simp (disch := first | omega | assumption | (simp (disch := omega) only [ p90, p92, p93, p94, p95, n12, n13, q36, q35, q313, q30, q314, q315, v3, v4 ]; done) | fail) only [fX5_readStream, ↓z_lt, ↓z_ge, ↓z_gt, ↓z_le, ↓z_eq, ↓z_ne, ↓z_mx, ↓z_mn, ↓z_dv, ↓z_rm, ↓z_i2l, ↓z_lc, ↓z_sw, ↓z_sf, ↓z_sn, ↓z_bd, ↓z_nt, z_b0, z_b1, z_bi, z_bj, ↓z_gF, ↓z_gR, ↓z_pF, ↓z_pZ, ↓z_pR, ↓z_aI, ↓z_aR, ↓z_sI, ↓z_sZ, ↓z_on, z_cl, ↓reduceIte, Int.reduceEq, Int.reduceNeg, Int.reduceLT, Int.reduceLE, Int.reduceAdd, Int.reduceSub, Int.reduceMul, true_and, and_true, or_true, true_or, eq_self, iR_t, sO1 sh, sO3 sh, p90, q36, k6, ↓e_g e1, n13, ↓e_g e2, ↓e_g kn, p92, q313, n12, q35, ↓e_g ix, oA, ↓e_g e3, p93, q30, ↓e_g n3, q314, v3, oB, ↓e_g e4, ↓e_g n4, p94, q315, v4, oC, ↓e_g e5, p95]
theorem pq_str {H Ra Pa : Int} (M : PQ μ t a c2 (k : Int)) (h0 : t (71 + 3 * (k : Int)) = H) (h1 : t (71 + 3 * (k : Int) + 1) = Ra) (h2 : t (71 + 3 * (k : Int) + 2) = Pa) : PQ (wr (wr (wr (wr (wr μ 15 (k : Int) (514 + (k : Int))) 10 (k : Int) H) 11 (k : Int) Ra) 12 (k : Int) Pa) 3 6 ((k : Int) + 1)) t a c2 ((k : Int) + 1) := by
  have q3 : ∀ j, j ≠ 6 → wr (wr (wr (wr (wr μ 15 (k : Int) (514 + (k : Int))) 10 (k : Int) H) 11 (k : Int) Ra) 12 (k : Int) Pa) 3 6 ((k : Int) + 1) 3 j = μ 3 j := fun j hj => by
    rw [wr_i hj, wr_n (by omega), wr_n (by omega), wr_n (by omega), wr_n (by omega)]
  refine M.oth (fun j _ _ j6 => q3 j j6) (by rw [q3 4 (by omega)]; exact M.v4) (by rw [q3 5 (by omega)]; exact M.v5) wr_s (fun o ho => by rw [wr_o (by omega), wr_o (by omega), wr_o (by omega), wr_o (by omega), wr_o (by omega)]) (fun i i0 i1 => ?_) (fun i i0 i1 => ?_) (fun i i0 i1 => ?_) (fun i i0 i1 => ?_)
  · have q := M.de i i0 i1
    simp (disch := omega) only [wr_n]
    exact q
  · by_cases w : i = (k : Int)
    · subst w
      rw [h0, h1, h2]
      refine ⟨?_, ?_, ?_⟩
      · rw [wr_n (by omega), wr_n (by omega), wr_n (by omega), wr_s]
      · rw [wr_n (by omega), wr_n (by omega), wr_s]
      · rw [wr_n (by omega), wr_s]
    · have q := M.st i i0 (by omega)
      refine ⟨?_, ?_, ?_⟩
      · rw [wr_n (by omega), wr_n (by omega), wr_n (by omega), wr_i w, wr_n (by omega)]; exact q.1
      · rw [wr_n (by omega), wr_n (by omega), wr_i w, wr_n (by omega), wr_n (by omega)]; exact q.2.1
      · rw [wr_n (by omega), wr_i w, wr_n (by omega), wr_n (by omega), wr_n (by omega)]; exact q.2.2
  · have q := M.nb i i0 i1
    simp (disch := omega) only [wr_n]
    exact q
  · by_cases w : i = (k : Int)
    · subst w
      rw [wr_n (by omega), wr_n (by omega), wr_n (by omega), wr_n (by omega), wr_s]
    · rw [wr_n (by omega), wr_n (by omega), wr_n (by omega), wr_n (by omega), wr_i w]; exact M.nc i i0 (by omega)
theorem rd_str (Q : LPp P σ f N e (strT L xs c2 c4 k ++ R) μ) (hk : k < 5) (M : PQ μ t a c2 (k : Int)) (hc2 : 3 ≤ c2 ∧ c2 ≤ 4) (hc4 : 10 ≤ c4 ∧ c4 ≤ 39) (ht : t 3 = c4) (h0 : t (71 + 3 * (k : Int)) = pkV L xs (30 + (k : Int)) c2) (h1 : t (71 + 3 * (k : Int) + 1) = 2 + pkV L xs (35 + (k : Int)) (c4 - 1)) (h2 : t (71 + 3 * (k : Int) + 2) = 1 + pkV L xs (40 + (k : Int)) 60) :
    ∃ σ' e' μ', fX5_readStatement P σ 1 = some (1, σ') ∧ LPp P σ' f N e' R μ' ∧ PQ μ' t a c2 ((k : Int) + 1) ∧ (∀ j, (j < 3 ∨ 6 < j) → σ' 1 j = σ 1 j) ∧ (∀ o, (o < 3 ∨ 15 < o) → μ' o = μ o) := by
  rw [strT_w] at Q
  have sh := Q.sh
  have va := pkV_in (L := L) (xs := xs) (a := 30 + (k : Int)) (x := c2) (by omega)
  have vb := pkV_in (L := L) (xs := xs) (a := 35 + (k : Int)) (x := c4 - 1) (by omega)
  have vc := pkV_in (L := L) (xs := xs) (a := 40 + (k : Int)) (x := 60) (by omega)
  generalize pkV L xs (30 + (k : Int)) c2 = H at *
  generalize hRa : 2 + pkV L xs (35 + (k : Int)) (c4 - 1) = Ra at *
  generalize hPa : 1 + pkV L xs (40 + (k : Int)) 60 = Pa at *
  obtain ⟨iw, a1, _⟩ := Q.head (w := wStr) (by decide +kernel) (by decide) (by decide) (s32 _)
  have w3 := iw (-3) (by omega)
  rw [if_neg (by decide +kernel)] at w3
  have w4 := iw (-4) (by omega)
  rw [if_neg (by decide +kernel)] at w4
  have w5 := iw (-5) (by omega)
  rw [if_pos (by decide +kernel)] at w5
  obtain ⟨σ1, e1, L1, j1⟩ := Q.adv a1
  have nc := M.nc
  obtain ⟨σ2, e2, L2, j2⟩ := LPp.newName (o := 15) (kd := 2) (k := (k : Int)) L1 (Or.inr rfl) (by unfold isLt; omega) (s32 _) rfl (Or.inr (Or.inr rfl)) (by omega) (by omega) (fun j j0 j1 => (nc j j0 j1).trans (by omega))
  have n514 : (27 : Int) * (115 - 96) + 1 + (k : Int) = 514 + (k : Int) := by omega
  rw [n514] at L2
  obtain ⟨ix, a2, kn⟩ := LPp.known (b := c2) L2 (Or.inr rfl) (s32 _) va.1 va.2 (by omega) (fun j j0 j1 => by rw [wr_n (by omega)]; exact M.nb j j0 j1)
  have kn := kn (by rw [wr_n (by omega)]; exact M.v5)
  obtain ⟨σ3, e3, L3, j3⟩ := (L2.wrt (o := 10) (i := (k : Int)) (v := H) (by omega) (by omega)).adv a2
  obtain ⟨n3, v3, a3⟩ := LPp.num (a := 1) (b := c4) L3 (Or.inr rfl) (by omega) (by omega) (s32d _) (iR_t (by omega) (by omega)) rfl (by omega) (by omega)
  obtain ⟨σ4, e4, L4, j4⟩ := (L3.wrt (o := 11) (i := (k : Int)) (v := Ra) (by omega) (by omega)).adv a3
  obtain ⟨n4, v4, a4⟩ := LPp.num (a := 1) (b := 9999) L4 (Or.inr rfl) (by omega) (by omega) (s59d _) rfl rfl (by omega) (by omega)
  obtain ⟨σ5, e5, L5, j5⟩ := (L4.wrt (o := 12) (i := (k : Int)) (v := Pa) (by omega) (by omega)).adv a4
  have L6 := L5.wrt (o := 3) (i := 6) (v := (k : Int) + 1) (by omega) (by omega)
  obtain ⟨σ6, e6, L7, j6⟩ := L6.semi
  have p90 := Q.p9
  have p92 := L2.p9
  have p93 := L3.p9
  have p94 := L4.p9
  have p95 := L5.p9
  have n12 := L2.n12
  have n13 := L1.n13
  have q36 : σ 3 6 = (k : Int) := by rw [Q.mm 3 (by omega)]; exact M.v6
  have q35 : σ2 3 5 = c2 := by rw [L2.mm 3 (by omega), wr_n (by omega)]; exact M.v5
  have q313 : σ2 3 13 = 10 := by rw [L2.mm 3 (by omega), wr_n (by omega)]; exact M.pp.r13
  have q30 : σ3 3 0 = c4 := by rw [L3.mm 3 (by omega), wr_n (by omega), wr_n (by omega), M.v0]; exact ht
  have q314 : σ3 3 14 = 11 := by rw [L3.mm 3 (by omega), wr_n (by omega), wr_n (by omega)]; exact M.pp.r14
  have q315 : σ4 3 15 = 12 := by rw [L4.mm 3 (by omega), wr_n (by omega), wr_n (by omega), wr_n (by omega)]; exact M.pp.r15
  have eP : fX5_readStream P σ 1 = some (1, wr σ5 3 6 ((k : Int) + 1)) := ev_str sh (by omega) (by omega) p90 q36 e1 n13 e2 kn p92 q313 n12 q35 ix e3 p93 q30 n3 q314 v3 e4 n4 p94 q315 v4 e5 p95
  refine ⟨σ6, _, _, ?_, L7, ?_, fun j hj => by rw [j6 j hj, wr_n (by omega), j5 j hj, wr_n (by omega), j4 j hj, wr_n (by omega), j3 j hj, wr_n (by omega), j2 j hj, j1 j hj], fun o ho => by rw [wr_o (by omega), wr_o (by omega), wr_o (by omega), wr_o (by omega), wr_o (by omega)]⟩
  · simp (disch := first | omega | assumption | with_reducible rfl | fail) only [fX5_readStatement, ↓z_lt, ↓z_ge, ↓z_gt, ↓z_le, ↓z_eq, ↓z_ne, ↓z_mx, ↓z_mn, ↓z_dv, ↓z_rm, ↓z_i2l, ↓z_lc, ↓z_sw, ↓z_sf, ↓z_sn, ↓z_bd, ↓z_nt, z_b0, z_b1, z_bi, z_bj, ↓z_gF, ↓z_gR, ↓z_pF, ↓z_pZ, ↓z_pR, ↓z_aI, ↓z_aR, ↓z_sI, ↓z_sZ, ↓z_on, z_cl, ↓reduceIte, Int.reduceEq, Int.reduceNeg, Int.reduceLT, Int.reduceLE, Int.reduceAdd, Int.reduceSub, Int.reduceMul, true_and, and_true, or_true, true_or, eq_self, iR_t, sO1 sh, ↓e_g w3, ↓e_g w4, ↓e_g w5, ↓e_g eP, ↓e_g e6]
  · exact pq_str M h0 h1 h2
theorem rd_ala (Q : LPp P σ f N e (alaT L xs ++ R) μ) (M : PQ μ t a b c) (h10 : σ 1 10 = 0) (h5 : t 5 = 3 + pkV L xs 45 12) (h6 : t 6 = 40) :
    ∃ σ' e' μ', fX5_readStatement P σ 1 = some (1, σ') ∧ LPp P σ' f N e' R μ' ∧ PQ μ' t a b c ∧ μ' 3 2 = t 5 ∧ μ' 3 3 = t 6 ∧ (∀ j, (j < 3 ∨ 6 < j) → j ≠ 10 → σ' 1 j = σ 1 j) ∧ (∀ o, (o < 3 ∨ 15 < o) → μ' o = μ o) := by
  rw [alaT_w] at Q
  have sh := Q.sh
  have va := pkV_in (L := L) (xs := xs) (a := 45) (x := 12) (by omega)
  generalize hS : 3 + pkV L xs 45 12 = S at *
  obtain ⟨iw, a1, _⟩ := Q.head (w := wAla) (by decide +kernel) (by decide) (by decide) (s32 _)
  have w3 := iw (-3) (by omega)
  rw [if_neg (by decide +kernel)] at w3
  have w4 := iw (-4) (by omega)
  rw [if_neg (by decide +kernel)] at w4
  have w5 := iw (-5) (by omega)
  rw [if_neg (by decide +kernel)] at w5
  have w6 := iw (-6) (by omega)
  rw [if_pos (by decide +kernel)] at w6
  obtain ⟨σ1, e1, L1, j1⟩ := (Q.w10 (v := 1)).adv a1
  obtain ⟨n1, v1, a2⟩ := LPp.num (a := 1) (b := 999) L1 (Or.inr rfl) (by omega) (by omega) (s32d _) rfl rfl (by omega) (by omega)
  obtain ⟨σ2, e2, L2, j2⟩ := (L1.wrt (o := 3) (i := 2) (v := S) (by omega) (by omega)).adv a2
  obtain ⟨n2, v2, a3⟩ := LPp.num (a := 1) (b := 99) L2 (Or.inr rfl) (by omega) (by omega) (s59d _) rfl rfl (by omega) (by omega)
  obtain ⟨σ3, e3, L3, j3⟩ := (L2.wrt (o := 3) (i := 3) (v := 40) (by omega) (by omega)).adv a3
  obtain ⟨σ4, e4, L4, j4⟩ := L3.semi
  have p91 := L1.p9
  have p92 := L2.p9
  have eP : fX5_readAlarm P σ 1 = some (1, σ3) := by
    simp (disch := first | omega | assumption | (simp (disch := omega) only [ p91, p92, v1, v2 ]; done) | fail) only [fX5_readAlarm, ↓z_lt, ↓z_ge, ↓z_gt, ↓z_le, ↓z_eq, ↓z_ne, ↓z_mx, ↓z_mn, ↓z_dv, ↓z_rm, ↓z_i2l, ↓z_lc, ↓z_sw, ↓z_sf, ↓z_sn, ↓z_bd, ↓z_nt, z_b0, z_b1, z_bi, z_bj, ↓z_gF, ↓z_gR, ↓z_pF, ↓z_pZ, ↓z_pR, ↓z_aI, ↓z_aR, ↓z_sI, ↓z_sZ, ↓z_on, z_cl, ↓reduceIte, Int.reduceEq, Int.reduceNeg, Int.reduceLT, Int.reduceLE, Int.reduceAdd, Int.reduceSub, Int.reduceMul, true_and, and_true, or_true, true_or, eq_self, iR_t, sO1 sh, sO3 sh, h10, ↓e_g e1, ↓e_g n1, p91, v1, ↓e_g e2, ↓e_g n2, p92, v2, ↓e_g e3]
  refine ⟨σ4, _, _, ?_, L4, ?_, ?_, ?_, fun j hj h => by rw [j4 j hj, j3 j hj, wr_n (by omega), j2 j hj, wr_n (by omega), j1 j hj, wr_i h], fun o ho => by rw [wr_o (by omega), wr_o (by omega)]⟩
  · simp (disch := first | omega | assumption | with_reducible rfl | fail) only [fX5_readStatement, ↓z_lt, ↓z_ge, ↓z_gt, ↓z_le, ↓z_eq, ↓z_ne, ↓z_mx, ↓z_mn, ↓z_dv, ↓z_rm, ↓z_i2l, ↓z_lc, ↓z_sw, ↓z_sf, ↓z_sn, ↓z_bd, ↓z_nt, z_b0, z_b1, z_bi, z_bj, ↓z_gF, ↓z_gR, ↓z_pF, ↓z_pZ, ↓z_pR, ↓z_aI, ↓z_aR, ↓z_sI, ↓z_sZ, ↓z_on, z_cl, ↓reduceIte, Int.reduceEq, Int.reduceNeg, Int.reduceLT, Int.reduceLE, Int.reduceAdd, Int.reduceSub, Int.reduceMul, true_and, and_true, or_true, true_or, eq_self, iR_t, sO1 sh, ↓e_g w3, ↓e_g w4, ↓e_g w5, ↓e_g w6, ↓e_g eP, ↓e_g e4]
  · have q3 : ∀ j, j ≠ 2 → j ≠ 3 → wr (wr μ 3 2 S) 3 3 40 3 j = μ 3 j := fun j h2 h3 => by rw [wr_i h3, wr_i h2]
    have p := M.pp
    refine ⟨⟨by rw [q3 7 (by omega) (by omega)]; exact p.r7, by rw [q3 8 (by omega) (by omega)]; exact p.r8, by rw [q3 9 (by omega) (by omega)]; exact p.r9, by rw [q3 10 (by omega) (by omega)]; exact p.r10, by rw [q3 11 (by omega) (by omega)]; exact p.r11, by rw [q3 12 (by omega) (by omega)]; exact p.r12, by rw [q3 13 (by omega) (by omega)]; exact p.r13, by rw [q3 14 (by omega) (by omega)]; exact p.r14, by rw [q3 15 (by omega) (by omega)]; exact p.r15⟩, by rw [q3 4 (by omega) (by omega)]; exact M.v4, by rw [q3 5 (by omega) (by omega)]; exact M.v5, by rw [q3 6 (by omega) (by omega)]; exact M.v6, by rw [q3 0 (by omega) (by omega)]; exact M.v0, by rw [q3 1 (by omega) (by omega)]; exact M.v1, ?_, ?_, ?_, ?_, ?_, ?_, M.p5⟩
    · intro i i0 i1; have q := M.we i i0 i1; simp (disch := omega) only [wr_n]; exact q
    · intro i i0 i1; have q := M.de i i0 i1; simp (disch := omega) only [wr_n]; exact q
    · intro i i0 i1; have q := M.st i i0 i1; simp (disch := omega) only [wr_n]; exact q
    · intro i i0 i1; have q := M.na i i0 i1; simp (disch := omega) only [wr_n]; exact q
    · intro i i0 i1; have q := M.nb i i0 i1; simp (disch := omega) only [wr_n]; exact q
    · intro i i0 i1; have q := M.nc i i0 i1; simp (disch := omega) only [wr_n]; exact q
  · rw [wr_i (by omega), wr_s, h5]
  · rw [wr_s, h6]
end ZR6
