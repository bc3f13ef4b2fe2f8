/-! A PATTERN's line. -/
section ZR4
variable {P : Shp} {σ σ' σ1 σ2 s μ μ' : St} {f t g : Int → Int} {a b c d e i j x y z v N cnt kd o w : Int} {R sp T : List Int} {n m r k L : Nat} {xs : Nat → Int32}
theorem kdM_o (h : o ≠ 7) : ∀ (r j : Nat) (μ : St), kdM L xs k j r μ o = μ o
  | 0, _, _ => rfl
  | r + 1, j, μ => by rw [kdM, kdM_o h r (j + 1), wr_o h]
theorem kdM_7 : ∀ (r j : Nat) (μ : St) (x : Int), kdM L xs k j r μ 7 x = if (k : Int) * 5 + (j : Int) ≤ x ∧ x < (k : Int) * 5 + (j : Int) + (r : Int) then pkV L xs (13 + 3 * (k : Int) + (x - (k : Int) * 5)) 4 else μ 7 x
  | 0, j, μ, x => by rw [kdM, if_neg (by push_cast; omega)]
  | r + 1, j, μ, x => by
    rw [kdM, kdM_7 r (j + 1)]
    by_cases c : x = (k : Int) * 5 + (j : Int)
    · subst c
      rw [if_neg (by push_cast; omega), wr_s, if_pos (by push_cast; omega), show (k : Int) * 5 + (j : Int) - (k : Int) * 5 = (j : Int) by omega]
    · rw [wr_i c]
      by_cases c2 : (k : Int) * 5 + (j : Int) ≤ x ∧ x < (k : Int) * 5 + (j : Int) + ((r + 1 : Nat) : Int)
      · rw [if_pos (by push_cast at c2 ⊢; omega), if_pos c2]
      · rw [if_neg (by push_cast at c2 ⊢; omega), if_neg c2]
/-- the pattern's errors, read -/
theorem rd_errs (Q : LPp P σ f N e (segL (kdL L xs k) 0 r ++ ([59] ++ R)) μ) (hk : k < 6) (hp : PP μ 3) (h1 : 1 ≤ r) (h3 : r ≤ 3) : ∃ σ' e', fX5_readPatternErrors P σ 1 (k : Int) = some (1, σ') ∧ LPp P σ' f N e' ([59] ++ R) (wr (kdM L xs k 0 r μ) 6 (k : Int) (r : Int)) ∧ (∀ i, (i < 3 ∨ 6 < i) → σ' 1 i = σ 1 i) := by
  have sh := Q.sh
  obtain ⟨σ1, e1, h, L1, j1⟩ := pe_loop hk r 0 1000 σ μ e Q hp (by omega) (by omega)
  rw [show (((0 : Nat)) : Int) = 0 from rfl] at h
  rw [show 0 + r = r by omega] at h
  have L2 := L1.wrt (o := 6) (i := (k : Int)) (v := (r : Int)) (by omega) (by omega)
  have ht := (tk_s L2.at').1
  have e2 := L2.nkind (by omega)
  have p9 := L1.p9
  have p39 : σ1 3 9 = 6 := by rw [L1.mm 3 (by omega), kdM_o (by omega)]; exact hp.r9
  have o6 : okA P 10 6 (k : Int) = true := sA6 sh (by omega) (by omega)
  have r0 : ¬ ((r : Int) = 0) := by omega
  refine ⟨_, e1, ?_, L2, fun i hi => by rw [wr_n (by omega), j1 i hi]⟩
  unfold fX5_readPatternErrors
  rw [h]
  simp (disch := first | omega | assumption | (simp (disch := omega) only [ p9, p39 ]; done) | fail) only [↓z_lt, ↓z_ge, ↓z_gt, ↓z_le, ↓z_eq, ↓z_ne, ↓z_mx, ↓z_mn, ↓z_dv, ↓z_rm, ↓z_i2l, ↓z_lc, ↓z_sw, ↓z_sf, ↓z_sn, ↓z_bd, ↓z_nt, z_b0, z_b1, z_bi, z_bj, ↓z_gF, ↓z_gR, ↓z_pF, ↓z_pZ, ↓z_pR, ↓z_aI, ↓z_aR, ↓z_sI, ↓z_sZ, ↓z_on, z_cl, ↓reduceIte, Int.reduceEq, Int.reduceNeg, Int.reduceLT, Int.reduceLE, Int.reduceAdd, Int.reduceSub, Int.reduceMul, true_and, and_true, or_true, true_or, eq_self, iR_t, sO1 sh, sO3 sh, p9, p39, o6, r0, ↓e_g e2]
set_option maxHeartbeats 4000000 in
theorem ev_pat {s0 s1 s2 s3 s4 s5 : St} {W I : Int} (sh : ShpIs P 279 PL) (k0 : 0 ≤ y) (k6 : y < 6) (p90 : s0 1 9 = 3) (q34 : s0 3 4 = y) (e1 : fX5_advance P s0 1 = some s1) (n11 : s1 1 11 = 13) (e2 : fX5_takeNewName P s1 1 13 y = some (1, s2)) (n2 : fX5_isNumberWithin P s2 1 1 99 = some (1, s2)) (p92 : s2 1 9 = 3) (q37 : s2 3 7 = 4) (v2 : s2 1 6 = W) (e3 : fX5_advance P (wr s2 4 y W) 1 = some s3) (n3 : fX5_isNumberWithin P s3 1 1 200 = some (1, s3)) (p93 : s3 1 9 = 3) (q38 : s3 3 8 = 5) (v3 : s3 1 6 = I) (e4 : fX5_advance P (wr s3 5 y I) 1 = some s4) (p94 : s4 1 9 = 3) (e5 : fX5_readPatternErrors P (wr s4 3 4 (y + 1)) 1 y = some (1, s5)) : fX5_readPattern P s0 1 = some (1, s5) := by
  have o4 : okA P 10 4 y = true := sA4 sh k0 k6
  have o5 : okA P 10 5 y = true := sA5 sh k0 k6
  simp (disch := first | omega | assumption | (simp (disch := omega) only [ p90, p92, p93, p94, n11, q34, q37, q38, v2, v3 ]; done) | fail) only [fX5_readPattern, ↓z_lt, ↓z_ge, ↓z_gt, ↓z_le, ↓z_eq, ↓z_ne, ↓z_mx, ↓z_mn, ↓z_dv, ↓z_rm, ↓z_i2l, ↓z_lc, ↓z_sw, ↓z_sf, ↓z_sn, ↓z_bd, ↓z_nt, z_b0, z_b1, z_bi, z_bj, ↓z_gF, ↓z_gR, ↓z_pF, ↓z_pZ, ↓z_pR, ↓z_aI, ↓z_aR, ↓z_sI, ↓z_sZ, ↓z_on, z_cl, ↓reduceIte, Int.reduceEq, Int.reduceNeg, Int.reduceLT, Int.reduceLE, Int.reduceAdd, Int.reduceSub, Int.reduceMul, true_and, and_true, or_true, true_or, eq_self, iR_t, sO1 sh, sO3 sh, p90, q34, k6, ↓e_g e1, n11, ↓e_g e2, ↓e_g n2, p92, q37, v2, o4, ↓e_g e3, ↓e_g n3, p93, q38, v3, o5, ↓e_g e4, p94, ↓e_g e5]
theorem pq_pat {W I : Int} (M : PQ μ t (k : Int) b c) (r3 : 1 ≤ r ∧ r ≤ 3) (h0 : t (7 + 8 * (k : Int)) = W) (h1 : t (7 + 8 * (k : Int) + 1) = I) (h2 : t (7 + 8 * (k : Int) + 2) = (r : Int)) (h3 : ∀ j, 0 ≤ j → j < 3 → t (7 + 8 * (k : Int) + 3 + j) = pkV L xs (13 + 3 * (k : Int) + j) 4) : PQ (wr (kdM L xs k 0 r (wr (wr (wr (wr μ 13 (k : Int) (433 + (k : Int))) 4 (k : Int) W) 5 (k : Int) I) 3 4 ((k : Int) + 1))) 6 (k : Int) (r : Int)) t ((k : Int) + 1) b c := by
  have Z : ∀ o, o ≠ 3 → o ≠ 4 → o ≠ 5 → o ≠ 6 → o ≠ 7 → o ≠ 13 → wr (kdM L xs k 0 r (wr (wr (wr (wr μ 13 (k : Int) (433 + (k : Int))) 4 (k : Int) W) 5 (k : Int) I) 3 4 ((k : Int) + 1))) 6 (k : Int) (r : Int) o = μ o := fun o h3 h4 h5 h6 h7 h13 => by
    rw [wr_o h6, kdM_o h7, wr_o h3, wr_o h5, wr_o h4, wr_o h13]
  have Z3 : ∀ j, j ≠ 4 → wr (kdM L xs k 0 r (wr (wr (wr (wr μ 13 (k : Int) (433 + (k : Int))) 4 (k : Int) W) 5 (k : Int) I) 3 4 ((k : Int) + 1))) 6 (k : Int) (r : Int) 3 j = μ 3 j := fun j hj => by
    rw [wr_n (by omega), kdM_o (by omega), wr_i hj, wr_n (by omega), wr_n (by omega), wr_n (by omega)]
  have Z34 : wr (kdM L xs k 0 r (wr (wr (wr (wr μ 13 (k : Int) (433 + (k : Int))) 4 (k : Int) W) 5 (k : Int) I) 3 4 ((k : Int) + 1))) 6 (k : Int) (r : Int) 3 4 = (k : Int) + 1 := by
    rw [wr_n (by omega), kdM_o (by omega), wr_s]
  have Z13 : ∀ i, wr (kdM L xs k 0 r (wr (wr (wr (wr μ 13 (k : Int) (433 + (k : Int))) 4 (k : Int) W) 5 (k : Int) I) 3 4 ((k : Int) + 1))) 6 (k : Int) (r : Int) 13 i = if i = (k : Int) then 433 + (k : Int) else μ 13 i := fun i => by
    rw [wr_n (by omega), kdM_o (by omega), wr_n (by omega), wr_n (by omega), wr_n (by omega)]
    by_cases w : i = (k : Int)
    · subst w; rw [wr_s, if_pos rfl]
    · rw [wr_i w, if_neg w]
  have Z4 : ∀ i, wr (kdM L xs k 0 r (wr (wr (wr (wr μ 13 (k : Int) (433 + (k : Int))) 4 (k : Int) W) 5 (k : Int) I) 3 4 ((k : Int) + 1))) 6 (k : Int) (r : Int) 4 i = if i = (k : Int) then W else μ 4 i := fun i => by
    rw [wr_n (by omega), kdM_o (by omega), wr_n (by omega), wr_n (by omega)]
    by_cases w : i = (k : Int)
    · subst w; rw [wr_s, if_pos rfl]
    · rw [wr_i w, if_neg w, wr_n (by omega)]
  have Z5 : ∀ i, wr (kdM L xs k 0 r (wr (wr (wr (wr μ 13 (k : Int) (433 + (k : Int))) 4 (k : Int) W) 5 (k : Int) I) 3 4 ((k : Int) + 1))) 6 (k : Int) (r : Int) 5 i = if i = (k : Int) then I else μ 5 i := fun i => by
    rw [wr_n (by omega), kdM_o (by omega), wr_n (by omega)]
    by_cases w : i = (k : Int)
    · subst w; rw [wr_s, if_pos rfl]
    · rw [wr_i w, if_neg w, wr_n (by omega), wr_n (by omega)]
  have Z6 : ∀ i, wr (kdM L xs k 0 r (wr (wr (wr (wr μ 13 (k : Int) (433 + (k : Int))) 4 (k : Int) W) 5 (k : Int) I) 3 4 ((k : Int) + 1))) 6 (k : Int) (r : Int) 6 i = if i = (k : Int) then (r : Int) else μ 6 i := fun i => by
    by_cases w : i = (k : Int)
    · subst w; rw [wr_s, if_pos rfl]
    · rw [wr_i w, if_neg w, kdM_o (by omega), wr_n (by omega), wr_n (by omega), wr_n (by omega), wr_n (by omega)]
  have Z7 : ∀ i, wr (kdM L xs k 0 r (wr (wr (wr (wr μ 13 (k : Int) (433 + (k : Int))) 4 (k : Int) W) 5 (k : Int) I) 3 4 ((k : Int) + 1))) 6 (k : Int) (r : Int) 7 i = if (k : Int) * 5 ≤ i ∧ i < (k : Int) * 5 + (r : Int) then pkV L xs (13 + 3 * (k : Int) + (i - (k : Int) * 5)) 4 else μ 7 i := fun i => by
    rw [wr_n (by omega), kdM_7, wr_n (by omega), wr_n (by omega), wr_n (by omega), wr_n (by omega), show (k : Int) * 5 + ((0 : Nat) : Int) = (k : Int) * 5 by simp]
  generalize wr (kdM L xs k 0 r (wr (wr (wr (wr μ 13 (k : Int) (433 + (k : Int))) 4 (k : Int) W) 5 (k : Int) I) 3 4 ((k : Int) + 1))) 6 (k : Int) (r : Int) = ν at *
  have p := M.pp
  refine ⟨⟨by rw [Z3 7 (by omega)]; exact p.r7, by rw [Z3 8 (by omega)]; exact p.r8, by rw [Z3 9 (by omega)]; exact p.r9, by rw [Z3 10 (by omega)]; exact p.r10, by rw [Z3 11 (by omega)]; exact p.r11, by rw [Z3 12 (by omega)]; exact p.r12, by rw [Z3 13 (by omega)]; exact p.r13, by rw [Z3 14 (by omega)]; exact p.r14, by rw [Z3 15 (by omega)]; exact p.r15⟩, Z34, by rw [Z3 5 (by omega)]; exact M.v5, by rw [Z3 6 (by omega)]; exact M.v6, by rw [Z3 0 (by omega)]; exact M.v0, by rw [Z3 1 (by omega)]; exact M.v1, fun i i0 i1 => ?_, fun i i0 i1 => ?_, fun i i0 i1 => ?_, fun i i0 i1 => ?_, fun i i0 i1 => ?_, fun i i0 i1 => ?_, ?_⟩
  · rw [Z4, Z5, Z6]
    by_cases w : i = (k : Int)
    · subst w
      rw [if_pos rfl, if_pos rfl, if_pos rfl, h0, h1, h2]
      refine ⟨rfl, rfl, by omega, fun j j0 j9 => ?_⟩
      rw [Z7, if_pos (by omega), show 5 * (k : Int) + j - (k : Int) * 5 = j by omega, h3 j j0 (by omega)]
    · have q := M.we i i0 (by omega)
      rw [if_neg w, if_neg w, if_neg w]
      refine ⟨q.1, q.2.1, q.2.2.1, fun j j0 j9 => ?_⟩
      rw [Z7]
      by_cases w2 : (k : Int) * 5 ≤ 5 * i + j ∧ 5 * i + j < (k : Int) * 5 + (r : Int)
      · exfalso
        have := M.p5 i i0 (by omega)
        omega
      · rw [if_neg w2]; exact q.2.2.2 j j0 j9
  · rw [Z 8 (by omega) (by omega) (by omega) (by omega) (by omega) (by omega), Z 9 (by omega) (by omega) (by omega) (by omega) (by omega) (by omega)]; exact M.de i i0 i1
  · rw [Z 10 (by omega) (by omega) (by omega) (by omega) (by omega) (by omega), Z 11 (by omega) (by omega) (by omega) (by omega) (by omega) (by omega), Z 12 (by omega) (by omega) (by omega) (by omega) (by omega) (by omega)]; exact M.st i i0 i1
  · rw [Z13]
    by_cases w : i = (k : Int)
    · subst w; rw [if_pos rfl]
    · rw [if_neg w]; exact M.na i i0 (by omega)
  · rw [Z 14 (by omega) (by omega) (by omega) (by omega) (by omega) (by omega)]; exact M.nb i i0 i1
  · rw [Z 15 (by omega) (by omega) (by omega) (by omega) (by omega) (by omega)]; exact M.nc i i0 i1
  · exact fun i i0 i1 => by
      by_cases w : i = (k : Int)
      · subst w; omega
      · exact M.p5 i i0 (by omega)
theorem rd_pat (Q : LPp P σ f N e (patT L xs k ++ R) μ) (hk : k < 3) (M : PQ μ t (k : Int) b c) (h0 : t (7 + 8 * (k : Int)) = 1 + pkV L xs (4 + (k : Int)) 9) (h1 : t (7 + 8 * (k : Int) + 1) = 5 + pkV L xs (7 + (k : Int)) 20) (h2 : t (7 + 8 * (k : Int) + 2) = pkV L xs (10 + (k : Int)) 3 + 1) (h3 : ∀ j, 0 ≤ j → j < 3 → t (7 + 8 * (k : Int) + 3 + j) = pkV L xs (13 + 3 * (k : Int) + j) 4) :
    ∃ σ' e' μ', fX5_readStatement P σ 1 = some (1, σ') ∧ LPp P σ' f N e' R μ' ∧ PQ μ' t ((k : Int) + 1) b c ∧ (∀ j, (j < 3 ∨ 6 < j) → σ' 1 j = σ 1 j) ∧ (∀ o, (o < 3 ∨ 15 < o) → μ' o = μ o) := by
  rw [patT_w] at Q
  have sh := Q.sh
  have va := pkV_in (L := L) (xs := xs) (a := 4 + (k : Int)) (x := 9) (by omega)
  have vb := pkV_in (L := L) (xs := xs) (a := 7 + (k : Int)) (x := 20) (by omega)
  have vc := pkV_in (L := L) (xs := xs) (a := 10 + (k : Int)) (x := 3) (by omega)
  generalize hW : 1 + pkV L xs (4 + (k : Int)) 9 = W at *
  generalize hI : 5 + pkV L xs (7 + (k : Int)) 20 = I at *
  generalize hr : (pkV L xs (10 + (k : Int)) 3 + 1).toNat = r at *
  have r3 : 1 ≤ r ∧ r ≤ 3 := by omega
  obtain ⟨iw, a1, _⟩ := Q.head (w := wPat) (by decide +kernel) (by decide) (by decide) (s32 _)
  have w3 := iw (-3) (by omega)
  rw [if_pos (by decide +kernel)] at w3
  obtain ⟨σ1, e1, L1, j1⟩ := Q.adv a1
  have na := M.na
  obtain ⟨σ2, e2, L2, j2⟩ := LPp.newName (o := 13) (kd := 0) (k := (k : Int)) L1 (Or.inr rfl) (by unfold isLt; omega) (s32 _) rfl (Or.inl rfl) (by omega) (by omega) (fun j j0 j1 => (na j j0 j1).trans (by omega))
  have n433 : (27 : Int) * (112 - 96) + 1 + (k : Int) = 433 + (k : Int) := by omega
  rw [n433] at L2
  obtain ⟨n2, v2, a2⟩ := LPp.num (a := 1) (b := 99) L2 (Or.inr rfl) (by omega) (by omega) (s32d _) rfl rfl (by omega) (by omega)
  obtain ⟨σ3, e3, L3, j3⟩ := (L2.wrt (o := 4) (i := (k : Int)) (v := W) (by omega) (by omega)).adv a2
  have hS : ¬ isDg (gL (segL (kdL L xs k) 0 r ++ ([59] ++ R)) 0) := by
    obtain ⟨q, rfl⟩ : ∃ q, r = q + 1 := ⟨r - 1, by omega⟩
    rw [segL]
    have v5 := pkV_in (L := L) (xs := xs) (a := 13 + 3 * (k : Int) + ((0 : Nat) : Int)) (x := 4) (by omega)
    have e9 : kdL L xs k 0 = [32] ++ kwW (pkV L xs (13 + 3 * (k : Int) + ((0 : Nat) : Int)) 4) := ltk v5.1 v5.2
    rw [e9]
    simp only [List.append_assoc]
    exact s32d _
  obtain ⟨n3, v3, a3⟩ := LPp.num (a := 1) (b := 200) L3 (Or.inr rfl) (by omega) (by omega) hS rfl rfl (by omega) (by omega)
  obtain ⟨σ4, e4, L4, j4⟩ := (L3.wrt (o := 5) (i := (k : Int)) (v := I) (by omega) (by omega)).adv a3
  have L5 := L4.wrt (o := 3) (i := 4) (v := (k : Int) + 1) (by omega) (by omega)
  have pp5 : PP (wr (wr (wr (wr μ 13 (k : Int) (433 + (k : Int))) 4 (k : Int) W) 5 (k : Int) I) 3 4 ((k : Int) + 1)) 3 := by
    have z : ∀ j, 7 ≤ j → wr (wr (wr (wr μ 13 (k : Int) (433 + (k : Int))) 4 (k : Int) W) 5 (k : Int) I) 3 4 ((k : Int) + 1) 3 j = μ 3 j := fun j hj => by
      rw [wr_i (by omega), wr_n (by omega), wr_n (by omega), wr_n (by omega)]
    have p := M.pp
    exact ⟨by rw [z 7 (by omega)]; exact p.r7, by rw [z 8 (by omega)]; exact p.r8, by rw [z 9 (by omega)]; exact p.r9, by rw [z 10 (by omega)]; exact p.r10, by rw [z 11 (by omega)]; exact p.r11, by rw [z 12 (by omega)]; exact p.r12, by rw [z 13 (by omega)]; exact p.r13, by rw [z 14 (by omega)]; exact p.r14, by rw [z 15 (by omega)]; exact p.r15⟩
  obtain ⟨σ5, e5', e5, L6, j5⟩ := rd_errs L5 (by omega) pp5 r3.1 r3.2
  obtain ⟨σ6, e6, L7, j6⟩ := L6.semi
  have p90 := Q.p9
  have p91 := L1.p9
  have p92 := L2.p9
  have p93 := L3.p9
  have p94 := L4.p9
  have n11 := L1.n11
  have q34 : σ 3 4 = (k : Int) := by rw [Q.mm 3 (by omega)]; exact M.v4
  have q37 : σ2 3 7 = 4 := by rw [L2.mm 3 (by omega), wr_n (by omega)]; exact M.pp.r7
  have q38 : σ3 3 8 = 5 := by rw [L3.mm 3 (by omega), wr_n (by omega), wr_n (by omega)]; exact M.pp.r8
  have eP : fX5_readPattern P σ 1 = some (1, σ5) := ev_pat sh (by omega) (by omega) p90 q34 e1 n11 e2 n2 p92 q37 v2 e3 n3 p93 q38 v3 e4 p94 e5
  refine ⟨σ6, _, _, ?_, L7, ?_, fun j hj => by rw [j6 j hj, j5 j hj, wr_n (by omega), j4 j hj, wr_n (by omega), j3 j hj, wr_n (by omega), j2 j hj, j1 j hj], fun o ho => by rw [wr_o (by omega), kdM_o (by omega), wr_o (by omega), wr_o (by omega), wr_o (by omega), wr_o (by omega)]⟩
  · simp (disch := first | omega | assumption | with_reducible rfl | fail) only [fX5_readStatement, ↓z_lt, ↓z_ge, ↓z_gt, ↓z_le, ↓z_eq, ↓z_ne, ↓z_mx, ↓z_mn, ↓z_dv, ↓z_rm, ↓z_i2l, ↓z_lc, ↓z_sw, ↓z_sf, ↓z_sn, ↓z_bd, ↓z_nt, z_b0, z_b1, z_bi, z_bj, ↓z_gF, ↓z_gR, ↓z_pF, ↓z_pZ, ↓z_pR, ↓z_aI, ↓z_aR, ↓z_sI, ↓z_sZ, ↓z_on, z_cl, ↓reduceIte, Int.reduceEq, Int.reduceNeg, Int.reduceLT, Int.reduceLE, Int.reduceAdd, Int.reduceSub, Int.reduceMul, true_and, and_true, or_true, true_or, eq_self, iR_t, sO1 sh, ↓e_g w3, ↓e_g eP, ↓e_g e6]
  · exact pq_pat M r3 h0 h1 (by rw [h2]; omega) h3
end ZR4
