/-! THE HEADER, a pattern's line. -/
section ZR3
variable {P : Shp} {σ σ' σ1 σ2 s μ μ' : St} {f t g : Int → Int} {a b c d e i j x y z v N cnt kd o w : Int} {R sp T : List Int} {n m r k L : Nat} {xs : Nat → Int32}
theorem rd_header (L : LPp P σ f N e (hubT w ++ R) μ) (h0 : 10 ≤ w) (h1 : w < 40) : ∃ σ' e', fX5_readHeader P σ 1 = some (1, σ') ∧ LPp P σ' f N e' R (wr (wr μ 3 0 w) 3 1 5) ∧ (∀ j, (j < 3 ∨ 6 < j) → σ' 1 j = σ 1 j) := by
  rw [hubT_w] at L
  have sh := L.sh
  obtain ⟨iw, a1, _⟩ := L.head (w := wHub) (by decide +kernel) (by decide) (by decide) (s32 _)
  have w1 := iw (-2) (by omega)
  rw [if_pos (by decide +kernel)] at w1
  obtain ⟨σ1, r1, L1, j1⟩ := L.adv a1
  obtain ⟨n1, v1, a2⟩ := LPp.num (a := 1) (b := 999) L1 (Or.inr rfl) (by omega) (by omega) (s32d _) rfl rfl (by omega) (by omega)
  obtain ⟨σ2, r2, L2, j2⟩ := (L1.wrt (o := 3) (i := 0) (v := w) (by omega) (by omega)).adv a2
  obtain ⟨n2, v2, a3⟩ := LPp.num (a := 1) (b := 8) L2 (Or.inr rfl) (by omega) (by omega) (s59d _) rfl rfl (by omega) (by omega)
  obtain ⟨σ3, r3, L3, j3⟩ := (L2.wrt (o := 3) (i := 1) (v := 5) (by omega) (by omega)).adv a3
  obtain ⟨σ4, r4, L4, j4⟩ := L3.semi
  have p91 := L1.p9
  have p92 := L2.p9
  refine ⟨σ4, _, ?_, L4, fun j hj => by rw [j4 j hj, j3 j hj, wr_n (by omega), j2 j hj, wr_n (by omega), j1 j hj]⟩
  simp (disch := first | omega | assumption | (simp (disch := omega) only [ p91, p92, v1, v2 ]; done) | fail) only [fX5_readHeader, ↓z_lt, ↓z_ge, ↓z_gt, ↓z_le, ↓z_eq, ↓z_ne, ↓z_mx, ↓z_mn, ↓z_dv, ↓z_rm, ↓z_i2l, ↓z_lc, ↓z_sw, ↓z_sf, ↓z_sn, ↓z_bd, ↓z_nt, z_b0, z_b1, z_bi, z_bj, ↓z_gF, ↓z_gR, ↓z_pF, ↓z_pZ, ↓z_pR, ↓z_aI, ↓z_aR, ↓z_sI, ↓z_sZ, ↓z_on, z_cl, ↓reduceIte, Int.reduceEq, Int.reduceNeg, Int.reduceLT, Int.reduceLE, Int.reduceAdd, Int.reduceSub, Int.reduceMul, true_and, and_true, or_true, true_or, eq_self, iR_t, sO1 sh, sO3 sh, ↓e_g w1, ↓e_g r1, ↓e_g n1, p91, v1, ↓e_g r2, ↓e_g n2, p92, v2, ↓e_g r3, ↓e_g r4]
/-- the kinds of a pattern -/
def kdM (L : Nat) (xs : Nat → Int32) (k : Nat) : Nat → Nat → St → St
  | _, 0, μ => μ
  | j, r + 1, μ => kdM L xs k (j + 1) r (wr μ 7 ((k : Int) * 5 + (j : Int)) (pkV L xs (13 + 3 * (k : Int) + (j : Int)) 4))
theorem pe_loop (hk : k < 6) : ∀ (r j m : Nat) (σ μ : St) (e : Int), LPp P σ f N e (segL (kdL L xs k) j r ++ ([59] ++ R)) μ → PP μ 3 → j + r ≤ 3 → r < m →
    ∃ σ' e', (∀ kE, fX5_readPatternErrors_L2 P 1 (k : Int) kE m (j : Int) σ = kE (((j + r : Nat)) : Int) σ') ∧ LPp P σ' f N e' ([59] ++ R) (kdM L xs k j r μ) ∧ (∀ i, (i < 3 ∨ 6 < i) → σ' 1 i = σ 1 i) := by
  intro r
  induction r with
  | zero =>
    intro j m σ μ e Q hp hj hm
    obtain ⟨m, rfl⟩ : ∃ q, m = q + 1 := ⟨m - 1, by omega⟩
    have Q' : LPp P σ f N e ([59] ++ R) μ := Q
    have sh := Q.sh
    have ht := (tk_s Q'.at').1
    have e1 := Q'.nkind (by omega)
    have k1 : ¬ (5 ≤ (j : Int)) := by omega
    refine ⟨σ, e, fun kE => ?_, Q', fun _ _ => rfl⟩
    rw [fX5_readPatternErrors_L2]
    simp (disch := first | omega | assumption | with_reducible rfl | fail) only [↓z_lt, ↓z_ge, ↓z_gt, ↓z_le, ↓z_eq, ↓z_ne, ↓z_mx, ↓z_mn, ↓z_dv, ↓z_rm, ↓z_i2l, ↓z_lc, ↓z_sw, ↓z_sf, ↓z_sn, ↓z_bd, ↓z_nt, z_b0, z_b1, z_bi, z_bj, ↓z_gF, ↓z_gR, ↓z_pF, ↓z_pZ, ↓z_pR, ↓z_aI, ↓z_aR, ↓z_sI, ↓z_sZ, ↓z_on, z_cl, ↓reduceIte, Int.reduceEq, Int.reduceNeg, Int.reduceLT, Int.reduceLE, Int.reduceAdd, Int.reduceSub, Int.reduceMul, true_and, and_true, or_true, true_or, eq_self, iR_t, sO1 sh, k1, ↓e_g e1, Nat.add_zero]
  | succ r ih =>
    intro j m σ μ e Q hp hj hm
    obtain ⟨m, rfl⟩ : ∃ q, m = q + 1 := ⟨m - 1, by omega⟩
    have v4 := pkV_in (L := L) (xs := xs) (a := 13 + 3 * (k : Int) + (j : Int)) (x := 4) (by omega)
    have Q' : LPp P σ f N e ([32] ++ (kwW (pkV L xs (13 + 3 * (k : Int) + (j : Int)) 4) ++ (segL (kdL L xs k) (j + 1) r ++ ([59] ++ R)))) μ := by
      have z := Q
      rw [segL] at z
      unfold kdL at z
      rw [ltk v4.1 v4.2] at z
      simp only [List.append_assoc] at z
      exact z
    have sh := Q.sh
    have hR : ¬ isLt (gL (segL (kdL L xs k) (j + 1) r ++ ([59] ++ R)) 0) := by
      cases r with
      | zero => exact s59 R
      | succ r =>
        rw [segL]
        have v5 := pkV_in (L := L) (xs := xs) (a := 13 + 3 * (k : Int) + ((j + 1 : Nat) : Int)) (x := 4) (by omega)
        have e9 : kdL L xs k (j + 1) = [32] ++ kwW (pkV L xs (13 + 3 * (k : Int) + ((j + 1 : Nat) : Int)) 4) := ltk v5.1 v5.2
        rw [e9]
        simp only [List.append_assoc]
        exact s32 _
    obtain ⟨e1, a1, t1⟩ := Q'.kind v4.1 v4.2 hR
    have o7 : okA P 10 7 ((k : Int) * 5 + (j : Int)) = true := sA7 sh (by omega) (by omega)
    obtain ⟨σ1, r1, L1, j1⟩ := (Q'.wrt (o := 7) (i := (k : Int) * 5 + (j : Int)) (v := pkV L xs (13 + 3 * (k : Int) + (j : Int)) 4) (by omega) (by omega)).adv a1
    have p9 := Q.p9
    have p10 : σ 3 10 = 7 := by rw [Q.mm 3 (by omega)]; exact hp.r10
    have k1 : ¬ (5 ≤ (j : Int)) := by omega
    have k2 : ¬ (pkV L xs (13 + 3 * (k : Int) + (j : Int)) 4 = -1) := by omega
    have pR : iR (pkV L xs (13 + 3 * (k : Int) + (j : Int)) 4) = true := iR_t (by omega) (by omega)
    obtain ⟨σ9, e9, h9, L9, j9⟩ := ih (j + 1) m σ1 _ _ L1 (hp.fr (wr_o (by omega))) (by omega) (by omega)
    refine ⟨σ9, e9, fun kE => ?_, L9, fun i hi => by rw [j9 i hi, j1 i hi, wr_n (by omega)]⟩
    rw [show j + (r + 1) = j + 1 + r by omega, ← h9 kE, show (((j + 1 : Nat)) : Int) = (j : Int) + 1 by push_cast; rfl, fX5_readPatternErrors_L2]
    simp (disch := first | omega | assumption | (simp (disch := omega) only [ p9, p10 ]; done) | fail) only [↓z_lt, ↓z_ge, ↓z_gt, ↓z_le, ↓z_eq, ↓z_ne, ↓z_mx, ↓z_mn, ↓z_dv, ↓z_rm, ↓z_i2l, ↓z_lc, ↓z_sw, ↓z_sf, ↓z_sn, ↓z_bd, ↓z_nt, z_b0, z_b1, z_bi, z_bj, ↓z_gF, ↓z_gR, ↓z_pF, ↓z_pZ, ↓z_pR, ↓z_aI, ↓z_aR, ↓z_sI, ↓z_sZ, ↓z_on, z_cl, ↓reduceIte, Int.reduceEq, Int.reduceNeg, Int.reduceLT, Int.reduceLE, Int.reduceAdd, Int.reduceSub, Int.reduceMul, true_and, and_true, or_true, true_or, eq_self, iR_t, sO1 sh, sO3 sh, k1, ↓e_g e1, k2, pR, p9, p10, o7, ↓e_g r1]
end ZR3
