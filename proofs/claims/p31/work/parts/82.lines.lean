/-! THE LINES that the law writes. -/
section ZQ4
variable {P P' P1 P2 : Shp} {n n' n1 n2 c r k : Nat} {σ σ' σ1 σ2 s : St} {z m v a i x b c0 c2 c3 c4 : Int} {T A : List Int} {cap l L : Nat} {xs : Nat → Int32}
def celV (L : Nat) (xs : Nat → Int32) (a : Int) : Int := if L = 0 then 0 else ixor (sc xs (a % (L : Int))) (40503 * (a / (L : Int)))
def pkV (L : Nat) (xs : Nat → Int32) (a x : Int) : Int := iand (celV L xs a) 65535 % x
theorem pick_v (hL : L ≤ 260) (h0 : 0 ≤ a) (h1 : a < 1000) (n0 : 1 ≤ x) (n1 : x < 10000) : fL_pick L xs P σ a x = some (pkV L xs a x) := by
  have e : fL_cell L xs P σ a = some (celV L xs a) := by
    unfold celV
    by_cases e : L = 0
    · subst e
      rw [if_pos rfl]
      simp (disch := first | omega | assumption) only [fL_cell, ↓z_lt, ↓z_ge, ↓z_gt, ↓z_le, ↓z_eq, ↓z_ne, ↓z_mx, ↓z_mn, ↓z_dv, ↓z_rm, ↓z_i2l, ↓z_lc, ↓z_sw, ↓z_sf, ↓z_sn, ↓z_bd, ↓z_nt, z_b0, z_b1, z_bi, z_bj, ↓z_gF, ↓z_gR, ↓z_pF, ↓z_pZ, ↓z_pR, ↓z_aI, ↓z_aR, ↓z_sI, ↓z_sZ, ↓z_on, z_cl, ↓reduceIte, Int.reduceEq, Int.reduceNeg, Int.reduceLT, Int.reduceLE, Int.reduceAdd, Int.reduceSub, Int.reduceMul, true_and, and_true, or_true, true_or, eq_self, iR_t, show ((0 : Nat) : Int) = 0 from rfl]
    · have r1 : ¬ ((L : Int) = 0) := by omega
      have r2 := Int.emod_nonneg a (b := (L : Int)) (by omega)
      have r3 := Int.emod_lt_of_pos a (b := (L : Int)) (by omega)
      rw [if_neg e]
      simp (disch := first | omega | assumption) only [fL_cell, ↓z_lt, ↓z_ge, ↓z_gt, ↓z_le, ↓z_eq, ↓z_ne, ↓z_mx, ↓z_mn, ↓z_dv, ↓z_rm, ↓z_i2l, ↓z_lc, ↓z_sw, ↓z_sf, ↓z_sn, ↓z_bd, ↓z_nt, z_b0, z_b1, z_bi, z_bj, ↓z_gF, ↓z_gR, ↓z_pF, ↓z_pZ, ↓z_pR, ↓z_aI, ↓z_aR, ↓z_sI, ↓z_sZ, ↓z_on, z_cl, ↓reduceIte, Int.reduceEq, Int.reduceNeg, Int.reduceLT, Int.reduceLE, Int.reduceAdd, Int.reduceSub, Int.reduceMul, true_and, and_true, or_true, true_or, eq_self, iR_t, r1, tmod_nn, tdiv_nn, aS, r2, r3]
  have i1 : 0 ≤ iand (celV L xs a) 65535 ∧ iand (celV L xs a) 65535 ≤ 65535 := iand_m
  have r1 : ¬ (x = 0) := by omega
  unfold pkV
  simp (disch := first | omega | assumption | with_reducible rfl | fail) only [fL_pick, ↓z_lt, ↓z_ge, ↓z_gt, ↓z_le, ↓z_eq, ↓z_ne, ↓z_mx, ↓z_mn, ↓z_dv, ↓z_rm, ↓z_i2l, ↓z_lc, ↓z_sw, ↓z_sf, ↓z_sn, ↓z_bd, ↓z_nt, z_b0, z_b1, z_bi, z_bj, ↓z_gF, ↓z_gR, ↓z_pF, ↓z_pZ, ↓z_pR, ↓z_aI, ↓z_aR, ↓z_sI, ↓z_sZ, ↓z_on, z_cl, ↓reduceIte, Int.reduceEq, Int.reduceNeg, Int.reduceLT, Int.reduceLE, Int.reduceAdd, Int.reduceSub, Int.reduceMul, true_and, and_true, or_true, true_or, eq_self, ↓e_g e, iR_t, r1, tmod_nn]
theorem pkV_in (n0 : 1 ≤ x) : 0 ≤ pkV L xs a x ∧ pkV L xs a x < x :=
  ⟨Int.emod_nonneg _ (by omega), Int.emod_lt_of_pos _ (by omega)⟩
/-- the lines from k on -/
def segL (g : Nat → List Int) : Nat → Nat → List Int
  | _, 0 => []
  | k, r + 1 => g k ++ segL g (k + 1) r
def kdT (v : Int) : Int := if v = 0 then -16 else if v = 1 then -17 else if v = 2 then -18 else -19
def kdL (L : Nat) (xs : Nat → Int32) (k : Nat) (j : Nat) : List Int := litT (kdT (pkV L xs (13 + 3 * (k : Int) + (j : Int)) 4))
def patT (L : Nat) (xs : Nat → Int32) (k : Nat) : List Int :=
  litT (-14) ++ ([97 + (k : Int)] ++ (litT (-15) ++ (numT (1 + pkV L xs (4 + (k : Int)) 9) ++ (litT (-15) ++ (numT (5 + pkV L xs (7 + (k : Int)) 20) ++ (segL (kdL L xs k) 0 (pkV L xs (10 + (k : Int)) 3 + 1).toNat ++ litT (-20)))))))
def heiT (L : Nat) (xs : Nat → Int32) (k : Nat) : List Int := if 0 < (k : Int) ∧ 0 < pkV L xs (22 + (k : Int)) 3 then litT (-22) ++ [97 + pkV L xs (26 + (k : Int)) (k : Int)] else []
def devT (L : Nat) (xs : Nat → Int32) (k : Nat) : List Int :=
  litT (-21) ++ ([97 + (k : Int)] ++ (litT (-15) ++ (numT (k : Int) ++ (heiT L xs k ++ litT (-20)))))
def strT (L : Nat) (xs : Nat → Int32) (c2 c4 : Int) (k : Nat) : List Int :=
  litT (-23) ++ ([97 + (k : Int)] ++ (litT (-24) ++ ([97 + pkV L xs (30 + (k : Int)) c2] ++ (litT (-15) ++ (numT (2 + pkV L xs (35 + (k : Int)) (c4 - 1)) ++ (litT (-15) ++ (numT (1 + pkV L xs (40 + (k : Int)) 60) ++ litT (-20))))))))
def alaT (L : Nat) (xs : Nat → Int32) : List Int := litT (-25) ++ (numT (3 + pkV L xs 45 12) ++ litT (-26))
def hubT (w : Int) : List Int := litT (-12) ++ (numT w ++ litT (-13))
theorem kdT_in (h0 : 0 ≤ v) (h1 : v < 4) : isLit (kdT v) ∧ lenL (kdT v) ≤ 7 := by
  have h : v = 0 ∨ v = 1 ∨ v = 2 ∨ v = 3 := by omega
  rcases h with rfl | rfl | rfl | rfl <;> exact ⟨by decide, by decide +kernel⟩
theorem c_kind (h0 : 0 ≤ v) (h1 : v < 4) : fL_kind P s v = some (kdT v) := by
  have h : v = 0 ∨ v = 1 ∨ v = 2 ∨ v = 3 := by omega
  rcases h with rfl | rfl | rfl | rfl <;> simp (disch := first | omega | assumption) only [fL_kind, kdT, ↓z_lt, ↓z_ge, ↓z_gt, ↓z_le, ↓z_eq, ↓z_ne, ↓z_mx, ↓z_mn, ↓z_dv, ↓z_rm, ↓z_i2l, ↓z_lc, ↓z_sw, ↓z_sf, ↓z_sn, ↓z_bd, ↓z_nt, z_b0, z_b1, z_bi, z_bj, ↓z_gF, ↓z_gR, ↓z_pF, ↓z_pZ, ↓z_pR, ↓z_aI, ↓z_aR, ↓z_sI, ↓z_sZ, ↓z_on, z_cl, ↓reduceIte, Int.reduceEq, Int.reduceNeg, Int.reduceLT, Int.reduceLE, Int.reduceAdd, Int.reduceSub, Int.reduceMul, true_and, and_true, or_true, true_or, eq_self, iR_t]
theorem bud_t {α : Type} {K : Option α} {m : Nat} (h : m ≤ 1000) : bud m K = K := if_pos h
theorem ll12 : (litT (-12)).length = 4 := by decide +kernel
theorem ll13 : (litT (-13)).length = 3 := by decide +kernel
theorem ll14 : (litT (-14)).length = 9 := by decide +kernel
theorem ll15 : (litT (-15)).length = 1 := by decide +kernel
theorem ll20 : (litT (-20)).length = 1 := by decide +kernel
theorem ll21 : (litT (-21)).length = 8 := by decide +kernel
theorem ll22 : (litT (-22)).length = 7 := by decide +kernel
theorem ll23 : (litT (-23)).length = 8 := by decide +kernel
theorem ll24 : (litT (-24)).length = 2 := by decide +kernel
theorem ll25 : (litT (-25)).length = 6 := by decide +kernel
theorem ll26 : (litT (-26)).length = 4 := by decide +kernel
theorem bg126 (hL : L ≤ 260) (hk : k < 3) : ∀ (r : Nat) (p7 : Int) (m : Nat) (P : Shp) (n c : Nat) (σ : St) (T : List Int), SBP P n σ z T (T.length : Int) → 0 ≤ p7 → p7 + (r : Int) = pkV L xs (10 + (k : Int)) 3 + 1 → r < m → (T.length : Int) + 7 * (r : Int) ≤ 320 → c + r ≤ 1000 →
    ∃ P' n' σ', (∀ kE, fL_begins_L126 L xs c0 c2 c3 c4 z (k : Int) kE m p7 P n c σ = kE P' n' (c + r) σ') ∧ SBP P' n' σ' z (T ++ segL (kdL L xs k) p7.toNat r) ((T ++ segL (kdL L xs k) p7.toNat r).length : Int) ∧ BFr P n σ P' n' σ' ∧ ((T ++ segL (kdL L xs k) p7.toNat r).length : Int) ≤ (T.length : Int) + 7 * (r : Int) := by
  intro r
  induction r with
  | zero =>
    intro p7 m P n c σ T S p0 hp hm hl hc
    obtain ⟨m, rfl⟩ : ∃ q, m = q + 1 := ⟨m - 1, by omega⟩
    have v3 := pkV_in (L := L) (xs := xs) (a := 10 + (k : Int)) (x := 3) (by omega)
    have e := pick_v (P := P) (σ := σ) (xs := xs) hL (show 0 ≤ 10 + (k : Int) by omega) (show 10 + (k : Int) < 1000 by omega) (x := 3) (by omega) (by omega)
    have c1 : pkV L xs (10 + (k : Int)) 3 < p7 := by push_cast at hp; omega
    refine ⟨P, n, σ, fun kE => ?_, ?_, BFr.rf, ?_⟩
    · simp (disch := first | omega | assumption | with_reducible rfl | fail) only [fL_begins_L126, ↓z_lt, ↓z_ge, ↓z_gt, ↓z_le, ↓z_eq, ↓z_ne, ↓z_mx, ↓z_mn, ↓z_dv, ↓z_rm, ↓z_i2l, ↓z_lc, ↓z_sw, ↓z_sf, ↓z_sn, ↓z_bd, ↓z_nt, z_b0, z_b1, z_bi, z_bj, ↓z_gF, ↓z_gR, ↓z_pF, ↓z_pZ, ↓z_pR, ↓z_aI, ↓z_aR, ↓z_sI, ↓z_sZ, ↓z_on, z_cl, ↓reduceIte, Int.reduceEq, Int.reduceNeg, Int.reduceLT, Int.reduceLE, Int.reduceAdd, Int.reduceSub, Int.reduceMul, true_and, and_true, or_true, true_or, eq_self, ↓bud_t, ↓e_g e, c1, iR_t, Nat.add_zero]
    · simp only [segL, List.append_nil]; exact S
    · simp only [segL, List.append_nil]; push_cast; omega
  | succ r ih =>
    intro p7 m P n c σ T S p0 hp hm hl hc
    obtain ⟨m, rfl⟩ : ∃ q, m = q + 1 := ⟨m - 1, by omega⟩
    push_cast at hp hl
    have v3 := pkV_in (L := L) (xs := xs) (a := 10 + (k : Int)) (x := 3) (by omega)
    have v4 := pkV_in (L := L) (xs := xs) (a := 13 + 3 * (k : Int) + p7) (x := 4) (by omega)
    have e := pick_v (P := P) (σ := σ) (xs := xs) hL (show 0 ≤ 10 + (k : Int) by omega) (show 10 + (k : Int) < 1000 by omega) (x := 3) (by omega) (by omega)
    have e2 := pick_v (P := P) (σ := σ) (xs := xs) hL (show 0 ≤ 13 + 3 * (k : Int) + p7 by omega) (show 13 + 3 * (k : Int) + p7 < 1000 by omega) (x := 4) (by omega) (by omega)
    have e3 := c_kind (P := P) (s := σ) v4.1 v4.2
    have kt := kdT_in v4.1 v4.2
    obtain ⟨P1, n1, σ1, e4, S1, F1⟩ := sb_str S kt.1 (by omega)
    have lt : (((T ++ litT (kdT (pkV L xs (13 + 3 * (k : Int) + p7) 4))).length : Nat) : Int) = (T.length : Int) + lenL (kdT (pkV L xs (13 + 3 * (k : Int) + p7) 4)) := by
      rw [List.length_append]; push_cast; rw [litT_len]
    obtain ⟨P2, n2, σ2, e5, S2, F2, l2⟩ := ih (p7 + 1) m P1 n1 (c + 1) σ1 _ S1 (by omega) (by omega) (by omega) (by omega) (by omega)
    have c1 : ¬ (pkV L xs (10 + (k : Int)) 3 < p7) := by omega
    have oz := S.oz
    have es : T ++ segL (kdL L xs k) p7.toNat (r + 1) = T ++ litT (kdT (pkV L xs (13 + 3 * (k : Int) + p7) 4)) ++ segL (kdL L xs k) (p7 + 1).toNat r := by
      rw [segL, List.append_assoc, show (p7 + 1).toNat = p7.toNat + 1 by omega]
      unfold kdL
      rw [show ((p7.toNat : Nat) : Int) = p7 by omega]
    refine ⟨P2, n2, σ2, fun kE => ?_, by rw [es]; exact S2, F1.tr F2, by rw [es]; push_cast; omega⟩
    rw [show c + (r + 1) = c + 1 + r by omega, ← e5 kE]
    simp (disch := first | omega | assumption | with_reducible rfl | fail) only [fL_begins_L126, ↓z_lt, ↓z_ge, ↓z_gt, ↓z_le, ↓z_eq, ↓z_ne, ↓z_mx, ↓z_mn, ↓z_dv, ↓z_rm, ↓z_i2l, ↓z_lc, ↓z_sw, ↓z_sf, ↓z_sn, ↓z_bd, ↓z_nt, z_b0, z_b1, z_bi, z_bj, ↓z_gF, ↓z_gR, ↓z_pF, ↓z_pZ, ↓z_pR, ↓z_aI, ↓z_aR, ↓z_sI, ↓z_sZ, ↓z_on, z_cl, ↓reduceIte, Int.reduceEq, Int.reduceNeg, Int.reduceLT, Int.reduceLE, Int.reduceAdd, Int.reduceSub, Int.reduceMul, true_and, and_true, or_true, true_or, eq_self, ↓bud_t, ↓e_g e, ↓e_g e2, ↓e_g e3, ↓e_g e4, oz, c1, iR_t]
end ZQ4
