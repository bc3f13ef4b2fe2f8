/-! A NUMBER behind the text; a sign of it. -/
section ZQ2
variable {P P' P1 P2 : Shp} {n n' n1 n2 : Nat} {σ σ' σ1 σ2 s : St} {z m c v k a i x b : Int} {T A : List Int} {cap l r : Nat}
theorem sz16 (h0 : 0 ≤ v) (h1 : v < 100) (kE : Option Int) (kF : Int → Option Int) : fJ6_stringSize_0f7a4_L16 P s (0 - v) 0 kE kF (r + 2) (-10) 1 = if v < 10 then kF 1 else kF 2 := by
  rw [fJ6_stringSize_0f7a4_L16]
  by_cases c : v < 10
  · have c1 : ¬ (0 - v ≤ -10) := by omega
    simp (disch := first | omega | assumption | with_reducible rfl | fail) only [↓z_lt, ↓z_ge, ↓z_gt, ↓z_le, ↓z_eq, ↓z_ne, ↓z_mx, ↓z_mn, ↓z_dv, ↓z_rm, ↓z_i2l, ↓z_lc, ↓z_sw, ↓z_sf, ↓z_sn, ↓z_bd, ↓z_nt, z_b0, z_b1, z_bi, z_bj, ↓z_gF, ↓z_gR, ↓z_pF, ↓z_pZ, ↓z_pR, ↓z_aI, ↓z_aR, ↓z_sI, ↓z_sZ, ↓z_on, z_cl, ↓reduceIte, Int.reduceEq, Int.reduceNeg, Int.reduceLT, Int.reduceLE, Int.reduceAdd, Int.reduceSub, Int.reduceMul, true_and, and_true, or_true, true_or, eq_self, iR_t, c1, c]
  · have c1 : 0 - v ≤ -10 := by omega
    have c2 : ¬ (0 - v ≤ -100) := by omega
    simp (disch := first | omega | assumption | with_reducible rfl | fail) only [↓z_lt, ↓z_ge, ↓z_gt, ↓z_le, ↓z_eq, ↓z_ne, ↓z_mx, ↓z_mn, ↓z_dv, ↓z_rm, ↓z_i2l, ↓z_lc, ↓z_sw, ↓z_sf, ↓z_sn, ↓z_bd, ↓z_nt, z_b0, z_b1, z_bi, z_bj, ↓z_gF, ↓z_gR, ↓z_pF, ↓z_pZ, ↓z_pR, ↓z_aI, ↓z_aR, ↓z_sI, ↓z_sZ, ↓z_on, z_cl, ↓reduceIte, Int.reduceEq, Int.reduceNeg, Int.reduceLT, Int.reduceLE, Int.reduceAdd, Int.reduceSub, Int.reduceMul, true_and, and_true, or_true, true_or, eq_self, iR_t, c1, c]
    rw [fJ6_stringSize_0f7a4_L16]
    simp (disch := first | omega | assumption | with_reducible rfl | fail) only [↓z_lt, ↓z_ge, ↓z_gt, ↓z_le, ↓z_eq, ↓z_ne, ↓z_mx, ↓z_mn, ↓z_dv, ↓z_rm, ↓z_i2l, ↓z_lc, ↓z_sw, ↓z_sf, ↓z_sn, ↓z_bd, ↓z_nt, z_b0, z_b1, z_bi, z_bj, ↓z_gF, ↓z_gR, ↓z_pF, ↓z_pZ, ↓z_pR, ↓z_aI, ↓z_aR, ↓z_sI, ↓z_sZ, ↓z_on, z_cl, ↓reduceIte, Int.reduceEq, Int.reduceNeg, Int.reduceLT, Int.reduceLE, Int.reduceAdd, Int.reduceSub, Int.reduceMul, true_and, and_true, or_true, true_or, eq_self, iR_t, c2]
theorem c_size (h0 : 0 ≤ v) (h1 : v < 100) : fJ6_stringSize_0f7a4 P s v = some ((numT v).length : Int) := by
  have c1 : ¬ (v < 0) := by omega
  have e := fun kE kF => sz16 (P := P) (s := s) (r := 998) h0 h1 kE kF
  have el : ((numT v).length : Int) = if v < 10 then 1 else 2 := by
    unfold numT
    split <;> rfl
  rw [el]
  by_cases c : v < 10
  · simp only [c, if_true] at e ⊢
    simp (disch := first | omega | assumption | with_reducible rfl | fail) only [fJ6_stringSize_0f7a4, ineg, ↓z_lt, ↓z_ge, ↓z_gt, ↓z_le, ↓z_eq, ↓z_ne, ↓z_mx, ↓z_mn, ↓z_dv, ↓z_rm, ↓z_i2l, ↓z_lc, ↓z_sw, ↓z_sf, ↓z_sn, ↓z_bd, ↓z_nt, z_b0, z_b1, z_bi, z_bj, ↓z_gF, ↓z_gR, ↓z_pF, ↓z_pZ, ↓z_pR, ↓z_aI, ↓z_aR, ↓z_sI, ↓z_sZ, ↓z_on, z_cl, ↓reduceIte, Int.reduceEq, Int.reduceNeg, Int.reduceLT, Int.reduceLE, Int.reduceAdd, Int.reduceSub, Int.reduceMul, true_and, and_true, or_true, true_or, eq_self, iR_t, c1, ↓e, Int.add_zero]
  · simp only [c, if_false] at e ⊢
    simp (disch := first | omega | assumption | with_reducible rfl | fail) only [fJ6_stringSize_0f7a4, ineg, ↓z_lt, ↓z_ge, ↓z_gt, ↓z_le, ↓z_eq, ↓z_ne, ↓z_mx, ↓z_mn, ↓z_dv, ↓z_rm, ↓z_i2l, ↓z_lc, ↓z_sw, ↓z_sf, ↓z_sn, ↓z_bd, ↓z_nt, z_b0, z_b1, z_bi, z_bj, ↓z_gF, ↓z_gR, ↓z_pF, ↓z_pZ, ↓z_pR, ↓z_aI, ↓z_aR, ↓z_sI, ↓z_sZ, ↓z_on, z_cl, ↓reduceIte, Int.reduceEq, Int.reduceNeg, Int.reduceLT, Int.reduceLE, Int.reduceAdd, Int.reduceSub, Int.reduceMul, true_and, and_true, or_true, true_or, eq_self, iR_t, c1, ↓e, Int.add_zero]
theorem gc22 (h0 : 0 ≤ v) (h1 : v < 100) (kE : Int → Int → St → Option (Int × St)) : fJ6_getChars_ba4f3_L22 P a 0 kE (r + 1) (0 - v) b s = kE (0 - v) b s := by
  have c1 : -100 < 0 - v := by omega
  rw [fJ6_getChars_ba4f3_L22]
  simp (disch := first | omega | assumption | with_reducible rfl | fail) only [↓z_lt, ↓z_ge, ↓z_gt, ↓z_le, ↓z_eq, ↓z_ne, ↓z_mx, ↓z_mn, ↓z_dv, ↓z_rm, ↓z_i2l, ↓z_lc, ↓z_sw, ↓z_sf, ↓z_sn, ↓z_bd, ↓z_nt, z_b0, z_b1, z_bi, z_bj, ↓z_gF, ↓z_gR, ↓z_pF, ↓z_pZ, ↓z_pR, ↓z_aI, ↓z_aR, ↓z_sI, ↓z_sZ, ↓z_on, z_cl, ↓reduceIte, Int.reduceEq, Int.reduceNeg, Int.reduceLT, Int.reduceLE, Int.reduceAdd, Int.reduceSub, Int.reduceMul, true_and, and_true, or_true, true_or, eq_self, iR_t, c1]
theorem sBo (hg : okA P 9 a i = true) (h0 : 0 ≤ x) (h1 : x < 128) {β : Type} (K : St → Option β) : sB P 9 s a i x K = K (wr s a i x) := by
  unfold sB
  rw [if_pos hg, i2b_i h0 h1]
theorem c_chars (h0 : 0 ≤ v) (h1 : v < 100) (hg : ∀ j, b - 2 ≤ j → j < b → 0 ≤ j → okA P 9 a j = true) (hb : ((numT v).length : Int) ≤ b) : ∃ s', fJ6_getChars_ba4f3 P s v b a = some (b - ((numT v).length : Int), s') ∧ (∀ o, o ≠ a → s' o = s o) ∧ (∀ j, s' a j = if b - ((numT v).length : Int) ≤ j ∧ j < b then gL (numT v) (j - (b - ((numT v).length : Int))) else s a j) := by
  have c1 : 0 ≤ v := h0
  have e := fun kE => gc22 (P := P) (s := s) (r := 999) (a := a) (b := b) h0 h1 kE
  have el : ((numT v).length : Int) = if v < 10 then 1 else 2 := by
    unfold numT
    split <;> rfl
  have i1 : ineg (0 - v) = v := by unfold ineg; omega
  have i0 : ineg v = 0 - v := rfl
  have m0 : 0 ≤ v % 10 ∧ v % 10 < 10 := ⟨Int.emod_nonneg _ (by omega), Int.emod_lt_of_pos _ (by omega)⟩
  have d0 : 0 ≤ v / 10 ∧ v / 10 < 10 := by omega
  have eD : ∀ {β : Type} (K : Int → Option β), dig1 v K = K (48 + v % 10) := fun K => if_pos ⟨h0, h1⟩
  have eT : ∀ {β : Type} (K : Int → Option β), dig2 v K = K (48 + v / 10) := fun K => if_pos ⟨h0, h1⟩
  have g1 := hg (b - 1) (by omega) (by omega) (by rw [el] at hb; split at hb <;> omega)
  have b1 : b + -1 = b - 1 := rfl
  have s1 := fun (s : St) (K : St → Option (Int × St)) => sBo (s := s) (x := 48 + v % 10) g1 (by omega) (by omega) K
  by_cases c : v < 10
  · have q : ((numT v).length : Int) = 1 := by rw [el, if_pos c]
    have c2 : -9 ≤ 0 - v := by omega
    refine ⟨wr s a (b - 1) (48 + v % 10), ?_, fun o ho => wr_o ho, fun j => ?_⟩
    · rw [q]
      simp (disch := first | omega | assumption | with_reducible rfl | fail) only [fJ6_getChars_ba4f3, ↓z_lt, ↓z_ge, ↓z_gt, ↓z_le, ↓z_eq, ↓z_ne, ↓z_mx, ↓z_mn, ↓z_dv, ↓z_rm, ↓z_i2l, ↓z_lc, ↓z_sw, ↓z_sf, ↓z_sn, ↓z_bd, ↓z_nt, z_b0, z_b1, z_bi, z_bj, ↓z_gF, ↓z_gR, ↓z_pF, ↓z_pZ, ↓z_pR, ↓z_aI, ↓z_aR, ↓z_sI, ↓z_sZ, ↓z_on, z_cl, ↓reduceIte, Int.reduceEq, Int.reduceNeg, Int.reduceLT, Int.reduceLE, Int.reduceAdd, Int.reduceSub, Int.reduceMul, true_and, and_true, or_true, true_or, eq_self, iR_t, c1, i0, ↓e, i1, eD, b1, s1, c2]
    · rw [q]
      by_cases w : j = b - 1
      · subst w
        rw [wr_s, if_pos (by omega), Int.sub_self]
        unfold numT
        rw [if_pos c]
        show 48 + v % 10 = 48 + v
        omega
      · rw [wr_i w, if_neg (by omega)]
  · have q : ((numT v).length : Int) = 2 := by rw [el, if_neg c]
    rw [q] at hb
    have c2 : ¬ (-9 ≤ 0 - v) := by omega
    have g2 := hg (b - 1 - 1) (by omega) (by omega) (by omega)
    have b2 : b - 1 + -1 = b - 1 - 1 := rfl
    have s2 := fun (s : St) (K : St → Option (Int × St)) => sBo (s := s) (x := 48 + v / 10) g2 (by omega) (by omega) K
    have b3 : b - 1 - 1 = b - 2 := by omega
    refine ⟨wr (wr s a (b - 1) (48 + v % 10)) a (b - 1 - 1) (48 + v / 10), ?_, fun o ho => by rw [wr_o ho, wr_o ho], fun j => ?_⟩
    · rw [q, ← b3]
      simp (disch := first | omega | assumption | with_reducible rfl | fail) only [fJ6_getChars_ba4f3, ↓z_lt, ↓z_ge, ↓z_gt, ↓z_le, ↓z_eq, ↓z_ne, ↓z_mx, ↓z_mn, ↓z_dv, ↓z_rm, ↓z_i2l, ↓z_lc, ↓z_sw, ↓z_sf, ↓z_sn, ↓z_bd, ↓z_nt, z_b0, z_b1, z_bi, z_bj, ↓z_gF, ↓z_gR, ↓z_pF, ↓z_pZ, ↓z_pR, ↓z_aI, ↓z_aR, ↓z_sI, ↓z_sZ, ↓z_on, z_cl, ↓reduceIte, Int.reduceEq, Int.reduceNeg, Int.reduceLT, Int.reduceLE, Int.reduceAdd, Int.reduceSub, Int.reduceMul, true_and, and_true, or_true, true_or, eq_self, iR_t, c1, i0, ↓e, i1, eD, eT, b1, s1, b2, s2, c2]
    · rw [q]
      by_cases w : j = b - 1 - 1
      · subst w
        rw [wr_s, if_pos (by omega), show b - 1 - 1 - (b - 2) = 0 by omega]
        unfold numT
        rw [if_neg c]
        rfl
      · rw [wr_i w]
        by_cases w2 : j = b - 1
        · subst w2
          rw [wr_s, if_pos (by omega), show b - 1 - (b - 2) = 1 by omega]
          unfold numT
          rw [if_neg c]
          rfl
        · rw [wr_i w2, if_neg (by omega)]
theorem sb_num (h : SBP P n σ z T (T.length : Int)) (h0 : 0 ≤ v) (h1 : v < 100) (h3 : (T.length : Int) ≤ 320) : ∃ P' n' σ', fJ4_append_bf812 P n σ z v = some (z, P', n', σ') ∧ SBP P' n' σ' z (T ++ numT v) ((T ++ numT v).length : Int) ∧ BFr P n σ P' n' σ' := by
  have nu := num_in h0 h1
  generalize hl : ((numT v).length : Int) = w at *
  have w2 : 1 ≤ w ∧ w ≤ 2 := by omega
  obtain ⟨P1, n1, σ1, e1, S1, F1⟩ := sb_ens h (m := (T.length : Int) + w) (by omega) (by omega) (by omega)
  obtain ⟨cap, c1, c2, c3, c4⟩ := S1.ca
  have a0 := S1.a0
  have co := S1.co
  have oz := S1.oz
  have le := S1.le
  have na : ¬ (σ1 z 0 = -1) := by omega
  have o0 := h.oz
  have l0 := h.le
  obtain ⟨s2, e2, f2, g2⟩ := c_chars (P := P1) (s := σ1) (a := σ1 z 0) (b := (T.length : Int) + w) h0 h1 (fun j j0 j1 j2 => okA_i c1 j2 (by omega)) (by omega)
  rw [hl] at e2 g2
  have sz := c_size (P := P) (s := σ) h0 h1
  rw [hl] at sz
  have zz : s2 z = σ1 z := f2 z (fun q => a0.2.2 q.symm)
  obtain ⟨S2, F2⟩ := S1.app (σ' := wr s2 z 3 ((T.length : Int) + w)) nu.2.2 (by rw [hl]) (fun o h1 h2 => by rw [wr_o h1]; exact f2 o h2) wr_s (fun j hj => by rw [wr_i hj, zz]) (fun j => by
      rw [wr_o a0.2.2, g2, show (T.length : Int) + w - w = (T.length : Int) by omega])
  refine ⟨P1, n1, _, ?_, S2, F1.tr F2⟩
  have eI : fJ5_isLatin1_aae02 P1 σ1 z = some 1 := by
    simp (disch := first | omega | assumption | with_reducible rfl | fail) only [fJ5_isLatin1_aae02, ↓z_lt, ↓z_ge, ↓z_gt, ↓z_le, ↓z_eq, ↓z_ne, ↓z_mx, ↓z_mn, ↓z_dv, ↓z_rm, ↓z_i2l, ↓z_lc, ↓z_sw, ↓z_sf, ↓z_sn, ↓z_bd, ↓z_nt, z_b0, z_b1, z_bi, z_bj, ↓z_gF, ↓z_gR, ↓z_pF, ↓z_pZ, ↓z_pR, ↓z_aI, ↓z_aR, ↓z_sI, ↓z_sZ, ↓z_on, z_cl, ↓reduceIte, Int.reduceEq, Int.reduceNeg, Int.reduceLT, Int.reduceLE, Int.reduceAdd, Int.reduceSub, Int.reduceMul, true_and, and_true, or_true, true_or, eq_self, oz, co, iR_t]
  simp (disch := first | omega | assumption | with_reducible rfl | (simp (disch := omega) only [l0, le]; done) | fail) only [fJ4_append_bf812, fJ5_append_c97b9, ↓z_lt, ↓z_ge, ↓z_gt, ↓z_le, ↓z_eq, ↓z_ne, ↓z_mx, ↓z_mn, ↓z_dv, ↓z_rm, ↓z_i2l, ↓z_lc, ↓z_sw, ↓z_sf, ↓z_sn, ↓z_bd, ↓z_nt, z_b0, z_b1, z_bi, z_bj, ↓z_gF, ↓z_gR, ↓z_pF, ↓z_pZ, ↓z_pR, ↓z_aI, ↓z_aR, ↓z_sI, ↓z_sZ, ↓z_on, z_cl, ↓reduceIte, Int.reduceEq, Int.reduceNeg, Int.reduceLT, Int.reduceLE, Int.reduceAdd, Int.reduceSub, Int.reduceMul, true_and, and_true, or_true, true_or, eq_self, o0, l0, ↓e_g sz, ↓e_g e1, ↓e_g eI, oz, na, ↓e_g e2, iR_t]
theorem sb_cAt (h : SBP P n σ z T (T.length : Int)) (h0 : 0 ≤ i) (h1 : i < (T.length : Int)) : fJ4_charAt_5068e P σ z i = some (gL T i) := by
  obtain ⟨cap, c1, c2, c3, c4⟩ := h.ca
  have a0 := h.a0
  have co := h.co
  have oz := h.oz
  have le := h.le
  have na : ¬ (σ z 0 = -1) := by omega
  have tx := h.tx i h0 h1
  have pl := plain_g h.pl h0 h1
  have hg : okA P 9 (σ z 0) i = true := okA_i c1 h0 (by omega)
  have eL : ∀ {β : Type} (K : Int → Option β), aL P 9 (σ z 0) K = K (cap : Int) := fun K => e_aL c1
  have cR : iR (cap : Int) = true := iR_t (by omega) (by omega)
  have tR : iR (T.length : Int) = true := iR_t (by omega) (by omega)
  have ib := ian_b pl.1 pl.2
  have c7 : (if (cap : Int) < (T.length : Int) then (cap : Int) else (T.length : Int)) = (T.length : Int) := if_neg (by omega)
  have ck : ∀ {β : Type} (K : Option β), chkI i (T.length : Int) K = K := fun K => if_pos ⟨h0, h1, by omega⟩
  have p2 : gL T i < 65536 := by omega
  simp (disch := first | omega | assumption | with_reducible rfl | fail) only [fJ4_charAt_5068e, fJ5_charAt_5068e, ↓z_lt, ↓z_ge, ↓z_gt, ↓z_le, ↓z_eq, ↓z_ne, ↓z_mx, ↓z_mn, ↓z_dv, ↓z_rm, ↓z_i2l, ↓z_lc, ↓z_sw, ↓z_sf, ↓z_sn, ↓z_bd, ↓z_nt, z_b0, z_b1, z_bi, z_bj, ↓z_gF, ↓z_gR, ↓z_pF, ↓z_pZ, ↓z_pR, ↓z_aI, ↓z_aR, ↓z_sI, ↓z_sZ, ↓z_on, z_cl, ↓reduceIte, Int.reduceEq, Int.reduceNeg, Int.reduceLT, Int.reduceLE, Int.reduceAdd, Int.reduceSub, Int.reduceMul, true_and, and_true, or_true, true_or, eq_self, oz, co, na, le, ↓eL, ishr_0 cR, cR, tR, c7, ↓ck, hg, tx, ib, pl.1, p2, and_self, iR_t]
end ZQ2
