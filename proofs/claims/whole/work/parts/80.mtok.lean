/-! THE MODEL'S nextToken. -/
def MB (P : Shp) (τ : St) (f : Int → Int) (N : Int) : Prop :=
  (ShpIs P 279 PL) ∧
  (τ 265 1 = 266) ∧
  (τ 265 3 = N) ∧
  (0 ≤ N ∧ N ≤ 600) ∧
  (∀ i, 0 ≤ i → i < N → τ 266 i = f i) ∧
  (∀ i, 0 ≤ i → i < N → -128 ≤ f i ∧ f i ≤ 127)
theorem MB.sh {P : Shp} {τ : St} {f : Int → Int} {N : Int} (h : MB P τ f N) : ShpIs P 279 PL := h.1
theorem MB.r1 {P : Shp} {τ : St} {f : Int → Int} {N : Int} (h : MB P τ f N) : τ 265 1 = 266 := h.2.1
theorem MB.r3 {P : Shp} {τ : St} {f : Int → Int} {N : Int} (h : MB P τ f N) : τ 265 3 = N := h.2.2.1
theorem MB.hN {P : Shp} {τ : St} {f : Int → Int} {N : Int} (h : MB P τ f N) : 0 ≤ N ∧ N ≤ 600 := h.2.2.2.1
theorem MB.by' {P : Shp} {τ : St} {f : Int → Int} {N : Int} (h : MB P τ f N) : ∀ i, 0 ≤ i → i < N → τ 266 i = f i := h.2.2.2.2.1
theorem MB.fr {P : Shp} {τ : St} {f : Int → Int} {N : Int} (h : MB P τ f N) : ∀ i, 0 ≤ i → i < N → -128 ≤ f i ∧ f i ≤ 127 := h.2.2.2.2.2
section ZZG
variable {P : Shp} {σ σ' σ1 σ2 σ3 s τ τ' : St} {f : Int → Int} {a b c d e k h i j x y z v w N tk ts : Int} {n : Nat}
def bF (f : Int → Int) (N i : Int) : Int := if N ≤ i then -1 else if f i < 0 then f i + 256 else f i
theorem iand_b (h0 : -128 ≤ x) (h1 : x ≤ 127) : iand x 255 = if x < 0 then x + 256 else x := by
  have key : ∀ n : Nat, n < 256 → iand ((n : Int) - 128) 255 = if ((n : Int) - 128) < 0 then ((n : Int) - 128) + 256 else ((n : Int) - 128) := by decide +kernel
  have := key (x + 128).toNat (by omega)
  rw [show (((x + 128).toNat : Nat) : Int) - 128 = x by omega] at this
  exact this
theorem MB.ag (M : MB P τ f N) (e1 : s 265 1 = τ 265 1) (e3 : s 265 3 = τ 265 3) (e266 : s 266 = τ 266) : MB P s f N :=
  ⟨M.sh, e1.trans M.r1, e3.trans M.r3, M.hN, by rw [e266]; exact M.by', M.fr⟩
theorem m_byteAt (M : MB P τ f N) (h0 : 0 ≤ i) (h1 : i ≤ 2000) : fX8_byteAt P τ 265 i = some (bF f N i) := by
  have hN := M.hN
  unfold bF
  by_cases c1 : N ≤ i
  · simp (disch := first | omega | assumption) only [fX8_byteAt, ↓z_lt, ↓z_ge, ↓z_gt, ↓z_le, ↓z_eq, ↓z_ne, ↓z_mx, ↓z_mn, ↓z_dv, ↓z_rm, ↓z_i2l, ↓z_lc, ↓z_sw, ↓z_sf, ↓z_sn, ↓z_bd, ↓z_nt, z_b0, z_b1, z_bi, z_bj, ↓z_gF, ↓z_gR, ↓z_pF, ↓z_pZ, ↓z_pR, ↓z_aI, ↓z_aR, ↓z_sI, ↓z_sZ, ↓z_on, z_cl, ↓reduceIte, Int.reduceEq, Int.reduceNeg, Int.reduceLT, Int.reduceLE, Int.reduceAdd, Int.reduceSub, Int.reduceMul, true_and, and_true, or_true, true_or, eq_self, iR_t, sO265 M.sh, M.r3, c1]
  · have hb := M.by' i h0 (by omega)
    have fr := M.fr i h0 (by omega)
    simp (disch := first | omega | assumption) only [fX8_byteAt, ↓z_lt, ↓z_ge, ↓z_gt, ↓z_le, ↓z_eq, ↓z_ne, ↓z_mx, ↓z_mn, ↓z_dv, ↓z_rm, ↓z_i2l, ↓z_lc, ↓z_sw, ↓z_sf, ↓z_sn, ↓z_bd, ↓z_nt, z_b0, z_b1, z_bi, z_bj, ↓z_gF, ↓z_gR, ↓z_pF, ↓z_pZ, ↓z_pR, ↓z_aI, ↓z_aR, ↓z_sI, ↓z_sZ, ↓z_on, z_cl, ↓reduceIte, Int.reduceEq, Int.reduceNeg, Int.reduceLT, Int.reduceLE, Int.reduceAdd, Int.reduceSub, Int.reduceMul, true_and, and_true, or_true, true_or, eq_self, iR_t, sO265 M.sh, sA266 M.sh, M.r1, M.r3, c1, hb, iand_b fr.1 fr.2]
theorem m_byteAt' {ω : Type} {K : _ → Option ω} (M : MB P τ f N) (h0 : 0 ≤ i) (h1 : i ≤ 2000) : cl (fX8_byteAt P τ 265 i) K = K ((bF f N i)) := e_cl (m_byteAt M h0 h1)
theorem bF_in (hf : ∀ i, 0 ≤ i → i < N → -128 ≤ f i ∧ f i ≤ 127) (h0 : 0 ≤ i) : -1 ≤ bF f N i ∧ bF f N i ≤ 255 := by
  unfold bF
  by_cases c1 : N ≤ i
  · rw [if_pos c1]; omega
  · rw [if_neg c1]
    have := hf i h0 (by omega)
    split <;> omega
theorem bF_R (hf : ∀ i, 0 ≤ i → i < N → -128 ≤ f i ∧ f i ≤ 127) (h0 : 0 ≤ i) : iR (bF f N i) = true := by
  have := bF_in hf h0
  exact iR_t (by omega) (by omega)
theorem bF_sp (hf : ∀ i, 0 ≤ i → i < N → -128 ≤ f i ∧ f i ≤ 127) (h0 : 0 ≤ i) : (bF f N i = 32 ∨ bF f N i = 10) ↔ (i < N ∧ spB f i = true) := by
  unfold bF spB
  by_cases c1 : N ≤ i
  · rw [if_pos c1]; omega
  · rw [if_neg c1]
    have := hf i h0 (by omega)
    by_cases c2 : f i < 0
    · rw [if_pos c2]; simp only [decide_eq_true_eq]; omega
    · rw [if_neg c2]; simp only [decide_eq_true_eq]; omega
theorem bF_lt (hf : ∀ i, 0 ≤ i → i < N → -128 ≤ f i ∧ f i ≤ 127) (h0 : 0 ≤ i) : (97 ≤ bF f N i ∧ bF f N i ≤ 122) ↔ (i < N ∧ ltB f i = true) := by
  unfold bF ltB
  by_cases c1 : N ≤ i
  · rw [if_pos c1]; omega
  · rw [if_neg c1]
    have := hf i h0 (by omega)
    by_cases c2 : f i < 0
    · rw [if_pos c2]; simp only [decide_eq_true_eq]; omega
    · rw [if_neg c2]; simp only [decide_eq_true_eq]; omega
theorem bF_dg (hf : ∀ i, 0 ≤ i → i < N → -128 ≤ f i ∧ f i ≤ 127) (h0 : 0 ≤ i) : (48 ≤ bF f N i ∧ bF f N i ≤ 57) ↔ (i < N ∧ dgB f i = true) := by
  unfold bF dgB
  by_cases c1 : N ≤ i
  · rw [if_pos c1]; omega
  · rw [if_neg c1]
    have := hf i h0 (by omega)
    by_cases c2 : f i < 0
    · rw [if_pos c2]; simp only [decide_eq_true_eq]; omega
    · rw [if_neg c2]; simp only [decide_eq_true_eq]; omega
theorem m_wi (h : iR x = true) : fX8_within P s x 97 122 = some (if 97 ≤ x ∧ x ≤ 122 then 1 else 0) := by
  have := m_within' (K := fun v => some v) (P := P) (s := s) (x := x) (y := 97) (z := 122) h rfl rfl
  rw [← this]
  cases fX8_within P s x 97 122 <;> rfl
theorem m_wi' {ω : Type} {K : _ → Option ω} (h : iR x = true) : cl (fX8_within P s x 97 122) K = K ((if 97 ≤ x ∧ x ≤ 122 then 1 else 0)) := e_cl (m_wi h)
theorem m_wd (h : iR x = true) : fX8_within P s x 48 57 = some (if 48 ≤ x ∧ x ≤ 57 then 1 else 0) := by
  have := m_within' (K := fun v => some v) (P := P) (s := s) (x := x) (y := 48) (z := 57) h rfl rfl
  rw [← this]
  cases fX8_within P s x 48 57 <;> rfl
theorem m_wd' {ω : Type} {K : _ → Option ω} (h : iR x = true) : cl (fX8_within P s x 48 57) K = K ((if 48 ≤ x ∧ x ≤ 57 then 1 else 0)) := e_cl (m_wd h)
theorem m_skip (M : MB P τ f N) (e0 : 0 ≤ τ 265 4) (e1 : τ 265 4 ≤ N) (kE : St → Option St) : ∃ s, fX8_nextToken_L8 P 265 kE 1000 τ = kE s ∧ (∀ o, o ≠ 265 → s o = τ o) ∧ (∀ j, j ≠ 4 → s 265 j = τ 265 j) ∧ s 265 4 = tS f N (τ 265 4) := by
  have hN := M.hN
  obtain ⟨s, r1, ⟨i1, i2, i3, i4, i5⟩, r3⟩ := loop_w (fun m (s : St) => fX8_nextToken_L8 P 265 kE m s) kE (fun s => decide (s 265 4 < N ∧ spB f (s 265 4) = true)) (fun s => wr s 265 4 (s 265 4 + 1)) (fun s => (N - s 265 4).toNat) (fun s => (∀ o, o ≠ 265 → s o = τ o) ∧ (∀ j, j ≠ 4 → s 265 j = τ 265 j) ∧ τ 265 4 ≤ s 265 4 ∧ s 265 4 ≤ N ∧ skp (spB f) N (s 265 4) = skp (spB f) N (τ 265 4))
    (fun m s hI hc => by
      obtain ⟨i1, i2, i3, i4, i5⟩ := hI
      have hc := of_decide_eq_true hc
      have Ms : MB P s f N := M.ag (i2 1 (by omega)) (i2 3 (by omega)) (i1 266 (by omega))
      have hb := (bF_sp M.fr (show 0 ≤ s 265 4 by omega)).mpr hc
      have hr := bF_R M.fr (show 0 ≤ s 265 4 by omega)
      refine ⟨?_, ⟨fun o ho => ?_, fun j hj => ?_, ?_, ?_, ?_⟩, ?_⟩
      · by_cases c1 : bF f N (s 265 4) = 32
        · simp (disch := first | omega | assumption) only [fX8_nextToken_L8, ↓z_lt, ↓z_ge, ↓z_gt, ↓z_le, ↓z_eq, ↓z_ne, ↓z_mx, ↓z_mn, ↓z_dv, ↓z_rm, ↓z_i2l, ↓z_lc, ↓z_sw, ↓z_sf, ↓z_sn, ↓z_bd, ↓z_nt, z_b0, z_b1, z_bi, z_bj, ↓z_gF, ↓z_gR, ↓z_pF, ↓z_pZ, ↓z_pR, ↓z_aI, ↓z_aR, ↓z_sI, ↓z_sZ, ↓z_on, z_cl, ↓reduceIte, Int.reduceEq, Int.reduceNeg, Int.reduceLT, Int.reduceLE, Int.reduceAdd, Int.reduceSub, Int.reduceMul, true_and, and_true, or_true, true_or, eq_self, iR_t, sO265 M.sh, ↓m_byteAt' Ms, c1]
        · have c2 : bF f N (s 265 4) = 10 := by omega
          simp (disch := first | omega | assumption) only [fX8_nextToken_L8, ↓z_lt, ↓z_ge, ↓z_gt, ↓z_le, ↓z_eq, ↓z_ne, ↓z_mx, ↓z_mn, ↓z_dv, ↓z_rm, ↓z_i2l, ↓z_lc, ↓z_sw, ↓z_sf, ↓z_sn, ↓z_bd, ↓z_nt, z_b0, z_b1, z_bi, z_bj, ↓z_gF, ↓z_gR, ↓z_pF, ↓z_pZ, ↓z_pR, ↓z_aI, ↓z_aR, ↓z_sI, ↓z_sZ, ↓z_on, z_cl, ↓reduceIte, Int.reduceEq, Int.reduceNeg, Int.reduceLT, Int.reduceLE, Int.reduceAdd, Int.reduceSub, Int.reduceMul, true_and, and_true, or_true, true_or, eq_self, iR_t, sO265 M.sh, ↓m_byteAt' Ms, c2]
      · rw [wr_o ho]; exact i1 o ho
      · rw [wr_i hj]; exact i2 j hj
      · rw [wr_s]; omega
      · rw [wr_s]; omega
      · rw [wr_s, ← i5, skp_u (spB f) N (s 265 4), if_pos hc]
      · rw [wr_s]; omega)
    (fun m s hI hc => by
      obtain ⟨i1, i2, i3, i4, i5⟩ := hI
      have hc := of_decide_eq_false hc
      have Ms : MB P s f N := M.ag (i2 1 (by omega)) (i2 3 (by omega)) (i1 266 (by omega))
      have hb := bF_sp M.fr (show 0 ≤ s 265 4 by omega)
      have hr := bF_R M.fr (show 0 ≤ s 265 4 by omega)
      have c1 : ¬ (bF f N (s 265 4) = 32) := fun w => hc (hb.mp (Or.inl w))
      have c2 : ¬ (bF f N (s 265 4) = 10) := fun w => hc (hb.mp (Or.inr w))
      simp (disch := first | omega | assumption) only [fX8_nextToken_L8, ↓z_lt, ↓z_ge, ↓z_gt, ↓z_le, ↓z_eq, ↓z_ne, ↓z_mx, ↓z_mn, ↓z_dv, ↓z_rm, ↓z_i2l, ↓z_lc, ↓z_sw, ↓z_sf, ↓z_sn, ↓z_bd, ↓z_nt, z_b0, z_b1, z_bi, z_bj, ↓z_gF, ↓z_gR, ↓z_pF, ↓z_pZ, ↓z_pR, ↓z_aI, ↓z_aR, ↓z_sI, ↓z_sZ, ↓z_on, z_cl, ↓reduceIte, Int.reduceEq, Int.reduceNeg, Int.reduceLT, Int.reduceLE, Int.reduceAdd, Int.reduceSub, Int.reduceMul, true_and, and_true, or_true, true_or, eq_self, iR_t, sO265 M.sh, ↓m_byteAt' Ms, c1, c2, hr])
    (N - τ 265 4).toNat 1000 τ (Nat.le_refl _) (by omega) ⟨fun _ _ => rfl, fun _ _ => rfl, Int.le_refl _, e1, rfl⟩
  refine ⟨s, r1, i1, i2, ?_⟩
  have r3 := of_decide_eq_false r3
  unfold tS
  rw [← i5, skp_u, if_neg r3]
theorem m_lets (M : MB P τ f N) (e0 : 0 ≤ τ 265 5) (e1 : τ 265 5 ≤ N) (kE : St → Option St) : ∃ s, fX8_nextToken_L93 P 265 kE 1000 τ = kE s ∧ (∀ o, o ≠ 265 → s o = τ o) ∧ (∀ j, j ≠ 5 → s 265 j = τ 265 j) ∧ s 265 5 = skp (ltB f) N (τ 265 5) := by
  have hN := M.hN
  obtain ⟨s, r1, ⟨i1, i2, i3, i4, i5⟩, r3⟩ := loop_w (fun m (s : St) => fX8_nextToken_L93 P 265 kE m s) kE (fun s => decide (s 265 5 < N ∧ ltB f (s 265 5) = true)) (fun s => wr s 265 5 (s 265 5 + 1)) (fun s => (N - s 265 5).toNat) (fun s => (∀ o, o ≠ 265 → s o = τ o) ∧ (∀ j, j ≠ 5 → s 265 j = τ 265 j) ∧ τ 265 5 ≤ s 265 5 ∧ s 265 5 ≤ N ∧ skp (ltB f) N (s 265 5) = skp (ltB f) N (τ 265 5))
    (fun m s hI hc => by
      obtain ⟨i1, i2, i3, i4, i5⟩ := hI
      have hc := of_decide_eq_true hc
      have Ms : MB P s f N := M.ag (i2 1 (by omega)) (i2 3 (by omega)) (i1 266 (by omega))
      have hb := (bF_lt M.fr (show 0 ≤ s 265 5 by omega)).mpr hc
      have hr := bF_R M.fr (show 0 ≤ s 265 5 by omega)
      refine ⟨?_, ⟨fun o ho => ?_, fun j hj => ?_, ?_, ?_, ?_⟩, ?_⟩
      · simp (disch := first | omega | assumption) only [fX8_nextToken_L93, ↓z_lt, ↓z_ge, ↓z_gt, ↓z_le, ↓z_eq, ↓z_ne, ↓z_mx, ↓z_mn, ↓z_dv, ↓z_rm, ↓z_i2l, ↓z_lc, ↓z_sw, ↓z_sf, ↓z_sn, ↓z_bd, ↓z_nt, z_b0, z_b1, z_bi, z_bj, ↓z_gF, ↓z_gR, ↓z_pF, ↓z_pZ, ↓z_pR, ↓z_aI, ↓z_aR, ↓z_sI, ↓z_sZ, ↓z_on, z_cl, ↓reduceIte, Int.reduceEq, Int.reduceNeg, Int.reduceLT, Int.reduceLE, Int.reduceAdd, Int.reduceSub, Int.reduceMul, true_and, and_true, or_true, true_or, eq_self, iR_t, sO265 M.sh, ↓m_byteAt' Ms, ↓m_wi', hb, hr]
      · rw [wr_o ho]; exact i1 o ho
      · rw [wr_i hj]; exact i2 j hj
      · rw [wr_s]; omega
      · rw [wr_s]; omega
      · rw [wr_s, ← i5, skp_u (ltB f) N (s 265 5), if_pos hc]
      · rw [wr_s]; omega)
    (fun m s hI hc => by
      obtain ⟨i1, i2, i3, i4, i5⟩ := hI
      have hc := of_decide_eq_false hc
      have Ms : MB P s f N := M.ag (i2 1 (by omega)) (i2 3 (by omega)) (i1 266 (by omega))
      have hb := bF_lt M.fr (show 0 ≤ s 265 5 by omega)
      have hr := bF_R M.fr (show 0 ≤ s 265 5 by omega)
      have c1 : ¬ (97 ≤ bF f N (s 265 5) ∧ bF f N (s 265 5) ≤ 122) := fun w => hc (hb.mp w)
      simp (disch := first | omega | assumption) only [fX8_nextToken_L93, ↓z_lt, ↓z_ge, ↓z_gt, ↓z_le, ↓z_eq, ↓z_ne, ↓z_mx, ↓z_mn, ↓z_dv, ↓z_rm, ↓z_i2l, ↓z_lc, ↓z_sw, ↓z_sf, ↓z_sn, ↓z_bd, ↓z_nt, z_b0, z_b1, z_bi, z_bj, ↓z_gF, ↓z_gR, ↓z_pF, ↓z_pZ, ↓z_pR, ↓z_aI, ↓z_aR, ↓z_sI, ↓z_sZ, ↓z_on, z_cl, ↓reduceIte, Int.reduceEq, Int.reduceNeg, Int.reduceLT, Int.reduceLE, Int.reduceAdd, Int.reduceSub, Int.reduceMul, true_and, and_true, or_true, true_or, eq_self, iR_t, sO265 M.sh, ↓m_byteAt' Ms, ↓m_wi', c1, hr])
    (N - τ 265 5).toNat 1000 τ (Nat.le_refl _) (by omega) ⟨fun _ _ => rfl, fun _ _ => rfl, Int.le_refl _, e1, rfl⟩
  refine ⟨s, r1, i1, i2, ?_⟩
  have r3 := of_decide_eq_false r3
  rw [← i5, skp_u, if_neg r3]
theorem vl_d (hd : ∀ k : Nat, k < n → 48 ≤ f (ts + (k : Int)) ∧ f (ts + (k : Int)) ≤ 57) : 0 ≤ vlF f 10 48 ts n ∧ (n = 0 → vlF f 10 48 ts n = 0) ∧ (n = 1 → vlF f 10 48 ts n ≤ 9) ∧ (n = 2 → vlF f 10 48 ts n ≤ 99) ∧ (n = 3 → vlF f 10 48 ts n ≤ 999) ∧ (n = 4 → vlF f 10 48 ts n ≤ 9999) := by
  induction n with
  | zero => exact ⟨Int.le_refl _, fun _ => rfl, fun w => by omega, fun w => by omega, fun w => by omega, fun w => by omega⟩
  | succ n ih =>
    obtain ⟨a0, a1, a2, a3, a4, a5⟩ := ih (fun k hk => hd k (by omega))
    have := hd n (by omega)
    rw [vlF_s]
    refine ⟨by omega, fun w => by omega, fun w => ?_, fun w => ?_, fun w => ?_, fun w => ?_⟩
    · have := a1 (by omega); omega
    · have := a2 (by omega); omega
    · have := a3 (by omega); omega
    · have := a4 (by omega); omega
def m4 (x : Int) : Nat := if x ≤ 4 then x.toNat else 4
theorem m_digs (M : MB P τ f N) (e0 : 0 ≤ ts) (e1 : ts ≤ N) (q5 : τ 265 5 = ts) (q4 : τ 265 4 = ts) (q7 : τ 265 7 = 0) (kE : St → Option St) : ∃ s, fX8_nextToken_L166 P 265 kE 1000 τ = kE s ∧ (∀ o, o ≠ 265 → s o = τ o) ∧ (∀ j, j ≠ 5 → j ≠ 7 → s 265 j = τ 265 j) ∧ s 265 5 = skp (dgB f) N ts ∧ s 265 7 = vlF f 10 48 ts (m4 (skp (dgB f) N ts - ts)) := by
  have hN := M.hN
  obtain ⟨s, r1, ⟨i1, i2, i3, i4, i5, i6, i7⟩, r3⟩ := loop_w (fun m (s : St) => fX8_nextToken_L166 P 265 kE m s) kE (fun s => decide (s 265 5 < N ∧ dgB f (s 265 5) = true)) (fun s => wr (wr s 265 7 (if 4 ≤ s 265 5 - ts then s 265 7 else 10 * s 265 7 + bF f N (s 265 5) - 48)) 265 5 (s 265 5 + 1)) (fun s => (N - s 265 5).toNat) (fun s => (∀ o, o ≠ 265 → s o = τ o) ∧ (∀ j, j ≠ 5 → j ≠ 7 → s 265 j = τ 265 j) ∧ ts ≤ s 265 5 ∧ s 265 5 ≤ N ∧ skp (dgB f) N (s 265 5) = skp (dgB f) N ts ∧ s 265 7 = vlF f 10 48 ts (m4 (s 265 5 - ts)) ∧ ∀ j, ts ≤ j → j < s 265 5 → 48 ≤ f j ∧ f j ≤ 57)
    (fun m s hI hc => by
      obtain ⟨i1, i2, i3, i4, i5, i6, i7⟩ := hI
      have hc := of_decide_eq_true hc
      have Ms : MB P s f N := M.ag (i2 1 (by omega) (by omega)) (i2 3 (by omega) (by omega)) (i1 266 (by omega))
      have q4' : s 265 4 = ts := by rw [i2 4 (by omega) (by omega)]; exact q4
      have hb := (bF_dg M.fr (show 0 ≤ s 265 5 by omega)).mpr hc
      have hr := bF_R M.fr (show 0 ≤ s 265 5 by omega)
      have hd : 48 ≤ f (s 265 5) ∧ f (s 265 5) ≤ 57 := of_decide_eq_true hc.2
      have hbf : bF f N (s 265 5) = f (s 265 5) := by unfold bF; rw [if_neg (by omega), if_neg (by omega)]
      have vb := vl_d (f := f) (ts := ts) (n := m4 (s 265 5 - ts)) (fun k hk => i7 _ (by omega) (by unfold m4 at hk; split at hk <;> omega))
      have v7 : 0 ≤ s 265 7 ∧ (¬ (4 ≤ s 265 5 - ts) → s 265 7 ≤ 999) ∧ s 265 7 ≤ 9999 := by
        rw [i6]
        have h4 : m4 (s 265 5 - ts) = 0 ∨ m4 (s 265 5 - ts) = 1 ∨ m4 (s 265 5 - ts) = 2 ∨ m4 (s 265 5 - ts) = 3 ∨ (m4 (s 265 5 - ts) = 4 ∧ 4 ≤ s 265 5 - ts) := by unfold m4; split <;> omega
        obtain ⟨b0, b1, b2, b3, b4, b5⟩ := vb
        rcases h4 with h | h | h | h | ⟨h, hh⟩
        · have := b1 h; omega
        · have := b2 h; omega
        · have := b3 h; omega
        · have := b4 h; omega
        · have := b5 h; exact ⟨b0, fun w => absurd hh w, by omega⟩
      refine ⟨?_, ⟨fun o ho => ?_, fun j hj hj2 => ?_, ?_, ?_, ?_, ?_, ?_⟩, ?_⟩
      · by_cases c1 : 4 ≤ s 265 5 - ts
        · simp (disch := first | omega | assumption) only [fX8_nextToken_L166, ↓z_lt, ↓z_ge, ↓z_gt, ↓z_le, ↓z_eq, ↓z_ne, ↓z_mx, ↓z_mn, ↓z_dv, ↓z_rm, ↓z_i2l, ↓z_lc, ↓z_sw, ↓z_sf, ↓z_sn, ↓z_bd, ↓z_nt, z_b0, z_b1, z_bi, z_bj, ↓z_gF, ↓z_gR, ↓z_pF, ↓z_pZ, ↓z_pR, ↓z_aI, ↓z_aR, ↓z_sI, ↓z_sZ, ↓z_on, z_cl, ↓reduceIte, Int.reduceEq, Int.reduceNeg, Int.reduceLT, Int.reduceLE, Int.reduceAdd, Int.reduceSub, Int.reduceMul, true_and, and_true, or_true, true_or, eq_self, iR_t, sO265 M.sh, ↓m_byteAt' Ms, ↓m_wd', hb, hr, q4', c1, wr_i]
        · have v8 := v7.2.1 c1
          simp (disch := first | omega | assumption) only [fX8_nextToken_L166, ↓z_lt, ↓z_ge, ↓z_gt, ↓z_le, ↓z_eq, ↓z_ne, ↓z_mx, ↓z_mn, ↓z_dv, ↓z_rm, ↓z_i2l, ↓z_lc, ↓z_sw, ↓z_sf, ↓z_sn, ↓z_bd, ↓z_nt, z_b0, z_b1, z_bi, z_bj, ↓z_gF, ↓z_gR, ↓z_pF, ↓z_pZ, ↓z_pR, ↓z_aI, ↓z_aR, ↓z_sI, ↓z_sZ, ↓z_on, z_cl, ↓reduceIte, Int.reduceEq, Int.reduceNeg, Int.reduceLT, Int.reduceLE, Int.reduceAdd, Int.reduceSub, Int.reduceMul, true_and, and_true, or_true, true_or, eq_self, iR_t, sO265 M.sh, ↓m_byteAt' Ms, ↓m_wd', hb, hr, q4', c1, wr_i]
      · rw [wr_o ho, wr_o ho]; exact i1 o ho
      · rw [wr_i hj, wr_i hj2]; exact i2 j hj hj2
      · rw [wr_s]; omega
      · rw [wr_s]; omega
      · rw [wr_s, ← i5, skp_u (dgB f) N (s 265 5), if_pos hc]
      · rw [wr_i (by omega), wr_s, wr_s]
        by_cases c1 : 4 ≤ s 265 5 - ts
        · rw [if_pos c1, i6]
          congr 1
          unfold m4
          split <;> split <;> omega
        · rw [if_neg c1, i6, show m4 (s 265 5 + 1 - ts) = m4 (s 265 5 - ts) + 1 by unfold m4; rw [if_pos (by omega), if_pos (by omega)]; omega, vlF_s, hbf, show ts + ((m4 (s 265 5 - ts) : Nat) : Int) = s 265 5 by unfold m4; rw [if_pos (by omega)]; omega]
          omega
      · intro j j0 j1
        rw [wr_s] at j1
        by_cases z : j = s 265 5
        · subst z; exact hd
        · exact i7 j j0 (by omega)
      · rw [wr_s]; omega)
    (fun m s hI hc => by
      obtain ⟨i1, i2, i3, i4, i5, i6, i7⟩ := hI
      have hc := of_decide_eq_false hc
      have Ms : MB P s f N := M.ag (i2 1 (by omega) (by omega)) (i2 3 (by omega) (by omega)) (i1 266 (by omega))
      have hb := bF_dg M.fr (show 0 ≤ s 265 5 by omega)
      have hr := bF_R M.fr (show 0 ≤ s 265 5 by omega)
      have c1 : ¬ (48 ≤ bF f N (s 265 5) ∧ bF f N (s 265 5) ≤ 57) := fun w => hc (hb.mp w)
      simp (disch := first | omega | assumption) only [fX8_nextToken_L166, ↓z_lt, ↓z_ge, ↓z_gt, ↓z_le, ↓z_eq, ↓z_ne, ↓z_mx, ↓z_mn, ↓z_dv, ↓z_rm, ↓z_i2l, ↓z_lc, ↓z_sw, ↓z_sf, ↓z_sn, ↓z_bd, ↓z_nt, z_b0, z_b1, z_bi, z_bj, ↓z_gF, ↓z_gR, ↓z_pF, ↓z_pZ, ↓z_pR, ↓z_aI, ↓z_aR, ↓z_sI, ↓z_sZ, ↓z_on, z_cl, ↓reduceIte, Int.reduceEq, Int.reduceNeg, Int.reduceLT, Int.reduceLE, Int.reduceAdd, Int.reduceSub, Int.reduceMul, true_and, and_true, or_true, true_or, eq_self, iR_t, sO265 M.sh, ↓m_byteAt' Ms, ↓m_wd', c1, hr])
    (N - τ 265 5).toNat 1000 τ (Nat.le_refl _) (by omega) ⟨fun _ _ => rfl, fun _ _ _ => rfl, by omega, by omega, by rw [q5], by rw [q5, q7, show m4 (ts - ts) = 0 by unfold m4; rw [if_pos (by omega)]; omega]; rfl, fun j _ _ => by omega⟩
  have r3 := of_decide_eq_false r3
  have es : s 265 5 = skp (dgB f) N ts := by rw [← i5, skp_u, if_neg r3]
  refine ⟨s, r1, i1, i2, es, ?_⟩
  rw [i6, es]
/-- what nextToken leaves -/
def AM (τ τ' : St) (f : Int → Int) (N e : Int) : Prop :=
  (∀ o, o ≠ 265 → τ' o = τ o) ∧
  (∀ j, (j < 4 ∨ 7 < j) → τ' 265 j = τ 265 j) ∧
  (τ' 265 4 = tS f N e) ∧
  (τ' 265 5 = tE f N e) ∧
  (τ' 265 6 = tT f N e) ∧
  (tT f N e = 2 → τ' 265 7 = tV f N e)
theorem AM.oo {τ τ' : St} {f : Int → Int} {N e : Int} (h : AM τ τ' f N e) : ∀ o, o ≠ 265 → τ' o = τ o := h.1
theorem AM.jj {τ τ' : St} {f : Int → Int} {N e : Int} (h : AM τ τ' f N e) : ∀ j, (j < 4 ∨ 7 < j) → τ' 265 j = τ 265 j := h.2.1
theorem AM.ss {τ τ' : St} {f : Int → Int} {N e : Int} (h : AM τ τ' f N e) : τ' 265 4 = tS f N e := h.2.2.1
theorem AM.ee {τ τ' : St} {f : Int → Int} {N e : Int} (h : AM τ τ' f N e) : τ' 265 5 = tE f N e := h.2.2.2.1
theorem AM.tt {τ τ' : St} {f : Int → Int} {N e : Int} (h : AM τ τ' f N e) : τ' 265 6 = tT f N e := h.2.2.2.2.1
theorem AM.vv {τ τ' : St} {f : Int → Int} {N e : Int} (h : AM τ τ' f N e) : tT f N e = 2 → τ' 265 7 = tV f N e := h.2.2.2.2.2
theorem m_next (M : MB P τ f N) (e0 : 0 ≤ τ 265 5) (e1 : τ 265 5 ≤ N) : ∃ τ', fX8_nextToken P τ 265 = some τ' ∧ AM τ τ' f N (τ 265 5) := by
  have hN := M.hN
  have M2 : MB P (wr τ 265 4 (τ 265 5)) f N := M.ag (wr_i (by omega)) (wr_i (by omega)) (wr_o (by omega))
  have ti := tS_in (f := f) (e := τ 265 5) e1
  obtain ⟨s, r1, i1, i2, i3⟩ := m_skip M2 (by rw [wr_s]; exact e0) (by rw [wr_s]; exact e1)
        (fun s9 =>
          gF P 8 s9 265 4 fun x10 =>
          onO P 8 265 <| cl (fX8_byteAt P s9 265 x10) fun x11 =>
          gF P 8 s9 265 4 fun x12 =>
          pF P 8 s9 265 5 x12 fun s13 =>
          pF P 8 s13 265 6 4 fun s14 =>
          jne x11 ((-1))
            (
              cl (fX8_within P s14 x11 97 122) fun x15 =>
              jeq x15 0
                (
                  cl (fX8_within P s14 x11 48 57) fun x16 =>
                  jeq x16 0
                    (
                      gF P 8 s14 265 5 fun x17 =>
                      pF P 8 s14 265 5 (x17 + 1) fun s18 =>
                      jnt
                        (fun x19 =>
                          pF P 8 s18 265 6 x19 fun s20 =>
                          some s20)
                        fun k287 =>
                      jne x11 59
                        (k287 4)
                        (k287 3))
                    (
                      pF P 8 s14 265 7 0 fun s21 =>
                      fX8_nextToken_L166 P 265
                        (fun s35 =>
                          gF P 8 s35 265 5 fun x36 =>
                          gF P 8 s35 265 4 fun x37 =>
                          jnt
                            (fun x38 =>
                              pF P 8 s35 265 6 x38 fun s39 =>
                              some s39)
                            fun k259 =>
                          jle (x36 - x37) 4
                            (k259 2)
                            (k259 4))
                        1000 s21))
                (
                  fX8_nextToken_L93 P 265
                    (fun s45 =>
                      gF P 8 s45 265 5 fun x46 =>
                      gF P 8 s45 265 4 fun x47 =>
                      jnt
                        (fun x48 =>
                          pF P 8 s45 265 6 x48 fun s49 =>
                          some s49)
                        fun k144 =>
                      jle (x46 - x47) 8
                        (k144 1)
                        (k144 4))
                    1000 s14))
            (
              pF P 8 s14 265 6 0 fun s50 =>
              some s50))
  rw [wr_s] at i3
  generalize hT : tS f N (τ 265 5) = T at i3 ti
  have Ms : MB P s f N := M2.ag (i2 1 (by omega)) (i2 3 (by omega)) (i1 266 (by omega))
  have hr := bF_R M.fr (show 0 ≤ T by omega)
  have hlt := bF_lt M.fr (show 0 ≤ T by omega)
  have hdg := bF_dg M.fr (show 0 ≤ T by omega)
  have hx := bF_in M.fr (show 0 ≤ T by omega)
  have hi : iR (τ 265 5) = true := iR_t (by omega) (by omega)
  have u1 := Eq.trans (a := fX8_nextToken P τ 265) (by
    unfold fX8_nextToken
    rw [z_gF, if_pos (sO265 M.sh), z_pF, if_pos (sO265 M.sh)]) r1
  rw [u1]
  have io : ∀ o, o ≠ 265 → s o = τ o := fun o ho => by rw [i1 o ho, wr_o ho]
  have ij : ∀ j, j ≠ 4 → s 265 j = τ 265 j := fun j hj => by rw [i2 j hj, wr_i hj]
  by_cases k1 : N ≤ T
  · have hb : bF f N T = -1 := by unfold bF; rw [if_pos k1]
    have hn : ¬ (T < N) := by omega
    refine ⟨wr (wr (wr s 265 5 T) 265 6 4) 265 6 0, ?_, fun o ho => ?_, fun j hj => ?_, ?_, ?_, ?_, ?_⟩
    · simp (disch := first | omega | assumption) only [↓z_lt, ↓z_ge, ↓z_gt, ↓z_le, ↓z_eq, ↓z_ne, ↓z_mx, ↓z_mn, ↓z_dv, ↓z_rm, ↓z_i2l, ↓z_lc, ↓z_sw, ↓z_sf, ↓z_sn, ↓z_bd, ↓z_nt, z_b0, z_b1, z_bi, z_bj, ↓z_gF, ↓z_gR, ↓z_pF, ↓z_pZ, ↓z_pR, ↓z_aI, ↓z_aR, ↓z_sI, ↓z_sZ, ↓z_on, z_cl, ↓reduceIte, Int.reduceEq, Int.reduceNeg, Int.reduceLT, Int.reduceLE, Int.reduceAdd, Int.reduceSub, Int.reduceMul, true_and, and_true, or_true, true_or, eq_self, iR_t, sO265 M.sh, i3, ↓m_byteAt' Ms, hb]
    · rw [wr_o ho, wr_o ho, wr_o ho]; exact io o ho
    · rw [wr_i (by omega), wr_i (by omega), wr_i (by omega)]; exact ij j (by omega)
    · rw [wr_i (by omega), wr_i (by omega), wr_i (by omega), hT]; exact i3
    · rw [wr_i (by omega), wr_i (by omega), wr_s]; unfold tE; rw [hT, if_neg hn]; omega
    · rw [wr_s]; unfold tT; rw [hT, if_neg hn]
    · unfold tT; rw [hT, if_neg hn]; omega
  · have hlN : T < N := by omega
    have hb : ¬ (bF f N T = -1) := by
      unfold bF
      rw [if_neg k1]
      have := M.fr T (by omega) hlN
      split <;> omega
    have S2 : MB P (wr (wr s 265 5 T) 265 6 4) f N := Ms.ag (by rw [wr_i (by omega), wr_i (by omega)]) (by rw [wr_i (by omega), wr_i (by omega)]) (by rw [wr_o (by omega), wr_o (by omega)])
    by_cases c1 : ltB f T = true
    · have b1 : 97 ≤ bF f N T ∧ bF f N T ≤ 122 := hlt.mpr ⟨hlN, c1⟩
      obtain ⟨s', v1, v2, v3, v4⟩ := m_lets S2 (by rw [wr_i (by omega), wr_s]; omega) (by rw [wr_i (by omega), wr_s]; omega)
                    (fun s45 =>
                      gF P 8 s45 265 5 fun x46 =>
                      gF P 8 s45 265 4 fun x47 =>
                      jnt
                        (fun x48 =>
                          pF P 8 s45 265 6 x48 fun s49 =>
                          some s49)
                        fun k144 =>
                      jle (x46 - x47) 8
                        (k144 1)
                        (k144 4))
      rw [wr_i (by omega), wr_s] at v4
      have w4 : s' 265 4 = T := by rw [v3 4 (by omega), wr_i (by omega), wr_i (by omega)]; exact i3
      have hin := skp_in (ltB f) N _ T ti.2 rfl
      have heE : tE f N (τ 265 5) = skp (ltB f) N T := by unfold tE; rw [hT, if_pos hlN, if_pos c1]
      have heT : tT f N (τ 265 5) = if skp (ltB f) N T - T ≤ 8 then 1 else 4 := by unfold tT; rw [hT, if_pos hlN, if_pos c1, heE]
      generalize hM : skp (ltB f) N T = M9 at *
      refine ⟨wr s' 265 6 (if M9 - T ≤ 8 then 1 else 4), ?_, fun o ho => ?_, fun j hj => ?_, ?_, ?_, ?_, ?_⟩
      · refine Eq.trans ?_ (v1.trans ?_)
        · simp (disch := first | omega | assumption) only [↓z_lt, ↓z_ge, ↓z_gt, ↓z_le, ↓z_eq, ↓z_ne, ↓z_mx, ↓z_mn, ↓z_dv, ↓z_rm, ↓z_i2l, ↓z_lc, ↓z_sw, ↓z_sf, ↓z_sn, ↓z_bd, ↓z_nt, z_b0, z_b1, z_bi, z_bj, ↓z_gF, ↓z_gR, ↓z_pF, ↓z_pZ, ↓z_pR, ↓z_aI, ↓z_aR, ↓z_sI, ↓z_sZ, ↓z_on, z_cl, ↓reduceIte, Int.reduceEq, Int.reduceNeg, Int.reduceLT, Int.reduceLE, Int.reduceAdd, Int.reduceSub, Int.reduceMul, true_and, and_true, or_true, true_or, eq_self, iR_t, sO265 M.sh, i3, ↓m_byteAt' Ms, hb, ↓m_wi', b1, hr]
        · by_cases k5 : M9 - T ≤ 8
          · simp (disch := first | omega | assumption) only [↓z_lt, ↓z_ge, ↓z_gt, ↓z_le, ↓z_eq, ↓z_ne, ↓z_mx, ↓z_mn, ↓z_dv, ↓z_rm, ↓z_i2l, ↓z_lc, ↓z_sw, ↓z_sf, ↓z_sn, ↓z_bd, ↓z_nt, z_b0, z_b1, z_bi, z_bj, ↓z_gF, ↓z_gR, ↓z_pF, ↓z_pZ, ↓z_pR, ↓z_aI, ↓z_aR, ↓z_sI, ↓z_sZ, ↓z_on, z_cl, ↓reduceIte, Int.reduceEq, Int.reduceNeg, Int.reduceLT, Int.reduceLE, Int.reduceAdd, Int.reduceSub, Int.reduceMul, true_and, and_true, or_true, true_or, eq_self, iR_t, sO265 M.sh, v4, w4, k5]
          · simp (disch := first | omega | assumption) only [↓z_lt, ↓z_ge, ↓z_gt, ↓z_le, ↓z_eq, ↓z_ne, ↓z_mx, ↓z_mn, ↓z_dv, ↓z_rm, ↓z_i2l, ↓z_lc, ↓z_sw, ↓z_sf, ↓z_sn, ↓z_bd, ↓z_nt, z_b0, z_b1, z_bi, z_bj, ↓z_gF, ↓z_gR, ↓z_pF, ↓z_pZ, ↓z_pR, ↓z_aI, ↓z_aR, ↓z_sI, ↓z_sZ, ↓z_on, z_cl, ↓reduceIte, Int.reduceEq, Int.reduceNeg, Int.reduceLT, Int.reduceLE, Int.reduceAdd, Int.reduceSub, Int.reduceMul, true_and, and_true, or_true, true_or, eq_self, iR_t, sO265 M.sh, v4, w4, k5]
      · rw [wr_o ho, v2 o ho, wr_o ho, wr_o ho]; exact io o ho
      · rw [wr_i (by omega), v3 j (by omega), wr_i (by omega), wr_i (by omega)]; exact ij j (by omega)
      · rw [wr_i (by omega), hT]; exact w4
      · rw [wr_i (by omega), heE]; exact v4
      · rw [wr_s, heT]
      · rw [heT]; intro w; exfalso; revert w; split <;> omega
    · have b1 : ¬ (97 ≤ bF f N T ∧ bF f N T ≤ 122) := fun w => c1 (hlt.mp w).2
      have nl : ltB f T = false := by simpa using c1
      by_cases c2 : dgB f T = true
      · have b2 : 48 ≤ bF f N T ∧ bF f N T ≤ 57 := hdg.mpr ⟨hlN, c2⟩
        have S3 : MB P (wr (wr (wr s 265 5 T) 265 6 4) 265 7 0) f N := S2.ag (wr_i (by omega)) (wr_i (by omega)) (wr_o (by omega))
        obtain ⟨s', v1, v2, v3, v4, v5⟩ := m_digs S3 (ts := T) (by omega) (by omega) (by rw [wr_i (by omega), wr_i (by omega), wr_s]) (by rw [wr_i (by omega), wr_i (by omega), wr_i (by omega)]; exact i3) (by rw [wr_s])
                        (fun s35 =>
                          gF P 8 s35 265 5 fun x36 =>
                          gF P 8 s35 265 4 fun x37 =>
                          jnt
                            (fun x38 =>
                              pF P 8 s35 265 6 x38 fun s39 =>
                              some s39)
                            fun k259 =>
                          jle (x36 - x37) 4
                            (k259 2)
                            (k259 4))
        have w4 : s' 265 4 = T := by rw [v3 4 (by omega) (by omega), wr_i (by omega), wr_i (by omega), wr_i (by omega)]; exact i3
        have hin := skp_in (dgB f) N _ T ti.2 rfl
        have heE : tE f N (τ 265 5) = skp (dgB f) N T := by unfold tE; rw [hT, if_pos hlN, nl, if_neg (by simp), if_pos c2]
        have heT : tT f N (τ 265 5) = if skp (dgB f) N T - T ≤ 4 then 2 else 4 := by unfold tT; rw [hT, if_pos hlN, nl, if_neg (by simp), if_pos c2, heE]
        have heV : tV f N (τ 265 5) = vlF f 10 48 T (skp (dgB f) N T - T).toNat := by unfold tV; rw [hT, nl, if_neg (by simp), heE]
        generalize hM : skp (dgB f) N T = M9 at *
        refine ⟨wr s' 265 6 (if M9 - T ≤ 4 then 2 else 4), ?_, fun o ho => ?_, fun j hj => ?_, ?_, ?_, ?_, ?_⟩
        · refine Eq.trans ?_ (v1.trans ?_)
          · simp (disch := first | omega | assumption) only [↓z_lt, ↓z_ge, ↓z_gt, ↓z_le, ↓z_eq, ↓z_ne, ↓z_mx, ↓z_mn, ↓z_dv, ↓z_rm, ↓z_i2l, ↓z_lc, ↓z_sw, ↓z_sf, ↓z_sn, ↓z_bd, ↓z_nt, z_b0, z_b1, z_bi, z_bj, ↓z_gF, ↓z_gR, ↓z_pF, ↓z_pZ, ↓z_pR, ↓z_aI, ↓z_aR, ↓z_sI, ↓z_sZ, ↓z_on, z_cl, ↓reduceIte, Int.reduceEq, Int.reduceNeg, Int.reduceLT, Int.reduceLE, Int.reduceAdd, Int.reduceSub, Int.reduceMul, true_and, and_true, or_true, true_or, eq_self, iR_t, sO265 M.sh, i3, ↓m_byteAt' Ms, hb, ↓m_wi', ↓m_wd', b1, b2, hr]
          · by_cases k5 : M9 - T ≤ 4
            · simp (disch := first | omega | assumption) only [↓z_lt, ↓z_ge, ↓z_gt, ↓z_le, ↓z_eq, ↓z_ne, ↓z_mx, ↓z_mn, ↓z_dv, ↓z_rm, ↓z_i2l, ↓z_lc, ↓z_sw, ↓z_sf, ↓z_sn, ↓z_bd, ↓z_nt, z_b0, z_b1, z_bi, z_bj, ↓z_gF, ↓z_gR, ↓z_pF, ↓z_pZ, ↓z_pR, ↓z_aI, ↓z_aR, ↓z_sI, ↓z_sZ, ↓z_on, z_cl, ↓reduceIte, Int.reduceEq, Int.reduceNeg, Int.reduceLT, Int.reduceLE, Int.reduceAdd, Int.reduceSub, Int.reduceMul, true_and, and_true, or_true, true_or, eq_self, iR_t, sO265 M.sh, v4, w4, k5]
            · simp (disch := first | omega | assumption) only [↓z_lt, ↓z_ge, ↓z_gt, ↓z_le, ↓z_eq, ↓z_ne, ↓z_mx, ↓z_mn, ↓z_dv, ↓z_rm, ↓z_i2l, ↓z_lc, ↓z_sw, ↓z_sf, ↓z_sn, ↓z_bd, ↓z_nt, z_b0, z_b1, z_bi, z_bj, ↓z_gF, ↓z_gR, ↓z_pF, ↓z_pZ, ↓z_pR, ↓z_aI, ↓z_aR, ↓z_sI, ↓z_sZ, ↓z_on, z_cl, ↓reduceIte, Int.reduceEq, Int.reduceNeg, Int.reduceLT, Int.reduceLE, Int.reduceAdd, Int.reduceSub, Int.reduceMul, true_and, and_true, or_true, true_or, eq_self, iR_t, sO265 M.sh, v4, w4, k5]
        · rw [wr_o ho, v2 o ho, wr_o ho, wr_o ho, wr_o ho]; exact io o ho
        · rw [wr_i (by omega), v3 j (by omega) (by omega), wr_i (by omega), wr_i (by omega), wr_i (by omega)]; exact ij j (by omega)
        · rw [wr_i (by omega), hT]; exact w4
        · rw [wr_i (by omega), heE]; exact v4
        · rw [wr_s, heT]
        · rw [heT]
          intro w
          have k5 : M9 - T ≤ 4 := by
            by_cases k5 : M9 - T ≤ 4
            · exact k5
            · rw [if_neg k5] at w; omega
          rw [wr_i (by omega), v5, heV]
          congr 1
          unfold m4
          rw [if_pos k5]
      · have b2 : ¬ (48 ≤ bF f N T ∧ bF f N T ≤ 57) := fun w => c2 (hdg.mp w).2
        have nd : dgB f T = false := by simpa using c2
        have hfr := M.fr T (by omega) hlN
        have h59 : (bF f N T = 59) ↔ (f T = 59) := by
          unfold bF
          rw [if_neg k1]
          split <;> omega
        refine ⟨wr (wr (wr (wr s 265 5 T) 265 6 4) 265 5 (T + 1)) 265 6 (if f T = 59 then 3 else 4), ?_, fun o ho => ?_, fun j hj => ?_, ?_, ?_, ?_, ?_⟩
        · by_cases k5 : bF f N T = 59
          · have k6 := h59.mp k5
            simp (disch := first | omega | assumption) only [↓z_lt, ↓z_ge, ↓z_gt, ↓z_le, ↓z_eq, ↓z_ne, ↓z_mx, ↓z_mn, ↓z_dv, ↓z_rm, ↓z_i2l, ↓z_lc, ↓z_sw, ↓z_sf, ↓z_sn, ↓z_bd, ↓z_nt, z_b0, z_b1, z_bi, z_bj, ↓z_gF, ↓z_gR, ↓z_pF, ↓z_pZ, ↓z_pR, ↓z_aI, ↓z_aR, ↓z_sI, ↓z_sZ, ↓z_on, z_cl, ↓reduceIte, Int.reduceEq, Int.reduceNeg, Int.reduceLT, Int.reduceLE, Int.reduceAdd, Int.reduceSub, Int.reduceMul, true_and, and_true, or_true, true_or, eq_self, iR_t, sO265 M.sh, i3, ↓m_byteAt' Ms, hb, ↓m_wi', ↓m_wd', b1, b2, hr, h59, k6, wr_s, wr_i]
          · have k6 : ¬ (f T = 59) := fun w => k5 (h59.mpr w)
            simp (disch := first | omega | assumption) only [↓z_lt, ↓z_ge, ↓z_gt, ↓z_le, ↓z_eq, ↓z_ne, ↓z_mx, ↓z_mn, ↓z_dv, ↓z_rm, ↓z_i2l, ↓z_lc, ↓z_sw, ↓z_sf, ↓z_sn, ↓z_bd, ↓z_nt, z_b0, z_b1, z_bi, z_bj, ↓z_gF, ↓z_gR, ↓z_pF, ↓z_pZ, ↓z_pR, ↓z_aI, ↓z_aR, ↓z_sI, ↓z_sZ, ↓z_on, z_cl, ↓reduceIte, Int.reduceEq, Int.reduceNeg, Int.reduceLT, Int.reduceLE, Int.reduceAdd, Int.reduceSub, Int.reduceMul, true_and, and_true, or_true, true_or, eq_self, iR_t, sO265 M.sh, i3, ↓m_byteAt' Ms, hb, ↓m_wi', ↓m_wd', b1, b2, hr, h59, k6, wr_s, wr_i]
        · rw [wr_o ho, wr_o ho, wr_o ho, wr_o ho]; exact io o ho
        · rw [wr_i (by omega), wr_i (by omega), wr_i (by omega), wr_i (by omega)]; exact ij j (by omega)
        · rw [wr_i (by omega), wr_i (by omega), wr_i (by omega), wr_i (by omega), hT]; exact i3
        · rw [wr_i (by omega), wr_s]; unfold tE; rw [hT, if_pos hlN, nl, nd]; rfl
        · rw [wr_s]; unfold tT; rw [hT, if_pos hlN, nl, nd]; rfl
        · unfold tT; rw [hT, if_pos hlN, nl, nd]; intro w; exfalso; revert w; simp; split <;> omega
end ZZG
