/-! THE MODEL TAKES THE DRAFT. -/
def tkT (d t : Int → Int) (j : Int) : Int := if 0 ≤ j ∧ j < 107 then d j else t j
section ZZA4
variable {P : Shp} {σ σ' σ0 σ1 σ2 s τ τ' τ0 τ1 τ2 : St} {t f g h d d' : Int → Int} {a b c e i j k x y z v w q B : Int}
theorem m_take1 (M : MP P τ t) (hd : ∀ j, 0 ≤ j → j < 107 → τ 267 j = d j) (kE : St → Option St) : ∃ s, fX8_takeDraft_L2 P 265 kE 1000 0 τ = kE s ∧ (∀ o, o ≠ 268 → s o = τ o) ∧ s 268 = tkT d t := by
  have tl := M.tl
  obtain ⟨s, e1, i1, i2⟩ := loop_r (γ := Unit) (fun m k (s : St) => fX8_takeDraft_L2 P 265 kE m k s) kE 107 (fun _ a => a) (fun k s _ => (∀ o, o ≠ 268 → s o = τ o) ∧ ∀ j, s 268 j = if 0 ≤ j ∧ j < (k : Int) then d j else t j)
    (fun k m s _ hk1 hI => by
      obtain ⟨i1, i2⟩ := hI
      have k1 : ¬ (107 ≤ (k : Int)) := by omega
      have q10 : s 265 10 = 267 := by rw [i1 265 (by omega)]; exact M.q10
      have q11 : s 265 11 = 268 := by rw [i1 265 (by omega)]; exact M.q11
      have qd : s 267 (k : Int) = d (k : Int) := by rw [i1 267 (by omega)]; exact hd _ (by omega) (by omega)
      refine ⟨wr s 268 (k : Int) (d (k : Int)), ?_, fun o ho => by rw [wr_o ho]; exact i1 o ho, fun j => ?_⟩
      · simp (disch := first | omega | assumption) only [fX8_takeDraft_L2, ↓z_lt, ↓z_ge, ↓z_gt, ↓z_le, ↓z_eq, ↓z_ne, ↓z_mx, ↓z_mn, ↓z_dv, ↓z_rm, ↓z_i2l, ↓z_lc, ↓z_sw, ↓z_sf, ↓z_sn, ↓z_bd, ↓z_nt, z_b0, z_b1, z_bi, z_bj, ↓z_gF, ↓z_gR, ↓z_pF, ↓z_pZ, ↓z_pR, ↓z_aI, ↓z_aR, ↓z_sI, ↓z_sZ, ↓z_on, z_cl, ↓reduceIte, Int.reduceEq, Int.reduceNeg, Int.reduceLT, Int.reduceLE, Int.reduceAdd, Int.reduceSub, Int.reduceMul, true_and, and_true, or_true, true_or, eq_self, iR_t, sO265 M.sh, sA267 M.sh, sA268 M.sh, q10, q11, qd, k1]
      · by_cases z : j = (k : Int)
        · subst z; rw [wr_s, if_pos (by push_cast; omega)]
        · rw [wr_i z, i2]
          by_cases y : 0 ≤ j ∧ j < (k : Int)
          · rw [if_pos y, if_pos (by push_cast; omega)]
          · rw [if_neg y, if_neg (by push_cast; omega)])
    (fun m s _ hI => by
      show fX8_takeDraft_L2 P 265 kE (m + 1) (((107 : Nat)) : Int) s = kE s
      rw [fX8_takeDraft_L2, z_ge, if_pos (show iR (((107 : Nat)) : Int) = true from rfl), if_pos (show iR 107 = true from rfl), if_pos (show (107 : Int) ≤ (((107 : Nat)) : Int) by decide)]) (m := 1000) (a := τ) (c := ()) (by omega) ⟨fun _ _ => rfl, fun j => by rw [if_neg (by push_cast; omega), tl]⟩
  refine ⟨s, e1, i1, ?_⟩
  funext j
  rw [i2]
  unfold tkT
  by_cases y : 0 ≤ j ∧ j < 107
  · rw [if_pos y, if_pos (by push_cast; omega)]
  · rw [if_neg y, if_neg (by push_cast; omega)]
theorem m_take2 (sh : ShpIs P 279 PL) (q14 : τ 265 14 = 270) (kE : St → Option St) : ∃ s, fX8_takeDraft_L28 P 265 kE 1000 0 τ = kE s ∧ (∀ o, o ≠ 270 → s o = τ o) ∧ (∀ j, s 270 j = if 0 ≤ j ∧ j < 410 then 0 else τ 270 j) := by
  obtain ⟨s, e1, i1, i2⟩ := loop_r (γ := Unit) (fun m k (s : St) => fX8_takeDraft_L28 P 265 kE m k s) kE 410 (fun _ a => a) (fun k s _ => (∀ o, o ≠ 270 → s o = τ o) ∧ ∀ j, s 270 j = if 0 ≤ j ∧ j < (k : Int) then 0 else τ 270 j)
    (fun k m s _ hk1 hI => by
      obtain ⟨i1, i2⟩ := hI
      have k1 : ¬ (410 ≤ (k : Int)) := by omega
      have q1 : s 265 14 = 270 := by rw [i1 265 (by omega)]; exact q14
      refine ⟨wr s 270 (k : Int) 0, ?_, fun o ho => by rw [wr_o ho]; exact i1 o ho, fun j => ?_⟩
      · simp (disch := first | omega | assumption) only [fX8_takeDraft_L28, ↓z_lt, ↓z_ge, ↓z_gt, ↓z_le, ↓z_eq, ↓z_ne, ↓z_mx, ↓z_mn, ↓z_dv, ↓z_rm, ↓z_i2l, ↓z_lc, ↓z_sw, ↓z_sf, ↓z_sn, ↓z_bd, ↓z_nt, z_b0, z_b1, z_bi, z_bj, ↓z_gF, ↓z_gR, ↓z_pF, ↓z_pZ, ↓z_pR, ↓z_aI, ↓z_aR, ↓z_sI, ↓z_sZ, ↓z_on, z_cl, ↓reduceIte, Int.reduceEq, Int.reduceNeg, Int.reduceLT, Int.reduceLE, Int.reduceAdd, Int.reduceSub, Int.reduceMul, true_and, and_true, or_true, true_or, eq_self, iR_t, sO265 sh, sA270 sh, q1, k1]
      · by_cases z : j = (k : Int)
        · subst z; rw [wr_s, if_pos (by push_cast; omega)]
        · rw [wr_i z, i2]
          by_cases y : 0 ≤ j ∧ j < (k : Int)
          · rw [if_pos y, if_pos (by push_cast; omega)]
          · rw [if_neg y, if_neg (by push_cast; omega)])
    (fun m s _ hI => by
      show fX8_takeDraft_L28 P 265 kE (m + 1) (((410 : Nat)) : Int) s = kE s
      rw [fX8_takeDraft_L28, z_ge, if_pos (show iR (((410 : Nat)) : Int) = true from rfl), if_pos (show iR 410 = true from rfl), if_pos (show (410 : Int) ≤ (((410 : Nat)) : Int) by decide)]) (m := 1000) (a := τ) (c := ()) (by omega) ⟨fun _ _ => rfl, fun j => by rw [if_neg (by push_cast; omega)]⟩
  exact ⟨s, e1, i1, i2⟩
theorem m_take3 (sh : ShpIs P 279 PL) (q15 : τ 265 15 = 271) (kE : St → Option St) : ∃ s, fX8_takeDraft_L50 P 265 kE 1000 0 τ = kE s ∧ (∀ o, o ≠ 271 → s o = τ o) ∧ s 271 = frG (τ 271) := by
  obtain ⟨s, e1, i1, i2⟩ := loop_r (γ := Unit) (fun m k (s : St) => fX8_takeDraft_L50 P 265 kE m k s) kE 12 (fun _ a => a) (fun k s _ => (∀ o, o ≠ 271 → s o = τ o) ∧ ∀ j, s 271 j = if 0 ≤ j ∧ j < (k : Int) then 0 else τ 271 j)
    (fun k m s _ hk1 hI => by
      obtain ⟨i1, i2⟩ := hI
      have k1 : ¬ (12 ≤ (k : Int)) := by omega
      have q1 : s 265 15 = 271 := by rw [i1 265 (by omega)]; exact q15
      refine ⟨wr s 271 (k : Int) 0, ?_, fun o ho => by rw [wr_o ho]; exact i1 o ho, fun j => ?_⟩
      · simp (disch := first | omega | assumption) only [fX8_takeDraft_L50, ↓z_lt, ↓z_ge, ↓z_gt, ↓z_le, ↓z_eq, ↓z_ne, ↓z_mx, ↓z_mn, ↓z_dv, ↓z_rm, ↓z_i2l, ↓z_lc, ↓z_sw, ↓z_sf, ↓z_sn, ↓z_bd, ↓z_nt, z_b0, z_b1, z_bi, z_bj, ↓z_gF, ↓z_gR, ↓z_pF, ↓z_pZ, ↓z_pR, ↓z_aI, ↓z_aR, ↓z_sI, ↓z_sZ, ↓z_on, z_cl, ↓reduceIte, Int.reduceEq, Int.reduceNeg, Int.reduceLT, Int.reduceLE, Int.reduceAdd, Int.reduceSub, Int.reduceMul, true_and, and_true, or_true, true_or, eq_self, iR_t, sO265 sh, sA271 sh, q1, k1]
      · by_cases z : j = (k : Int)
        · subst z; rw [wr_s, if_pos (by push_cast; omega)]
        · rw [wr_i z, i2]
          by_cases y : 0 ≤ j ∧ j < (k : Int)
          · rw [if_pos y, if_pos (by push_cast; omega)]
          · rw [if_neg y, if_neg (by push_cast; omega)])
    (fun m s _ hI => by
      show fX8_takeDraft_L50 P 265 kE (m + 1) (((12 : Nat)) : Int) s = kE s
      rw [fX8_takeDraft_L50, z_ge, if_pos (show iR (((12 : Nat)) : Int) = true from rfl), if_pos (show iR 12 = true from rfl), if_pos (show (12 : Int) ≤ (((12 : Nat)) : Int) by decide)]) (m := 1000) (a := τ) (c := ()) (by omega) ⟨fun _ _ => rfl, fun j => by rw [if_neg (by push_cast; omega)]⟩
  refine ⟨s, e1, i1, ?_⟩
  funext j
  rw [i2]
  unfold frG
  by_cases y : 0 ≤ j ∧ j < 12
  · rw [if_pos y, if_pos (by push_cast; omega)]
  · rw [if_neg y, if_neg (by push_cast; omega)]
theorem m_take4 (sh : ShpIs P 279 PL) (T : TV t) (q11 : τ 265 11 = 268) (q14 : τ 265 14 = 270) (tl : τ 268 = t) (kE : St → Option St) : ∃ s, fX8_takeDraft_L83 P 265 kE 1000 0 τ = kE s ∧ (∀ o, o ≠ 270 → s o = τ o) ∧ (∀ j, s 270 j = if 14 ≤ j ∧ j < 14 + 28 * t 1 ∧ (j - 14) % 28 = 0 then t (55 + (j - 14) / 28) else τ 270 j) := by
  have n1 := T.n1
  obtain ⟨s, e1, i1, i2⟩ := loop_r (γ := Unit) (fun m k (s : St) => fX8_takeDraft_L83 P 265 kE m k s) kE (t 1).toNat (fun _ a => a) (fun k s _ => (∀ o, o ≠ 270 → s o = τ o) ∧ ∀ j, s 270 j = if 14 ≤ j ∧ j < 14 + 28 * (k : Int) ∧ (j - 14) % 28 = 0 then t (55 + (j - 14) / 28) else τ 270 j)
    (fun k m s _ hk1 hI => by
      obtain ⟨i1, i2⟩ := hI
      have k1 : ¬ (t 1 ≤ (k : Int)) := by omega
      have q1 : s 265 14 = 270 := by rw [i1 265 (by omega)]; exact q14
      have q2 : s 265 11 = 268 := by rw [i1 265 (by omega)]; exact q11
      have q3 : s 268 = t := by rw [i1 268 (by omega)]; exact tl
      refine ⟨wr s 270 (14 + 28 * (k : Int) + 0) (t (55 + (k : Int))), ?_, fun o ho => by rw [wr_o ho]; exact i1 o ho, fun j => ?_⟩
      · have ed : fX8_devices P s 265 = some (t 1) := by
          simp (disch := first | omega | assumption) only [fX8_devices, ↓z_lt, ↓z_ge, ↓z_gt, ↓z_le, ↓z_eq, ↓z_ne, ↓z_mx, ↓z_mn, ↓z_dv, ↓z_rm, ↓z_i2l, ↓z_lc, ↓z_sw, ↓z_sf, ↓z_sn, ↓z_bd, ↓z_nt, z_b0, z_b1, z_bi, z_bj, ↓z_gF, ↓z_gR, ↓z_pF, ↓z_pZ, ↓z_pR, ↓z_aI, ↓z_aR, ↓z_sI, ↓z_sZ, ↓z_on, z_cl, ↓reduceIte, Int.reduceEq, Int.reduceNeg, Int.reduceLT, Int.reduceLE, Int.reduceAdd, Int.reduceSub, Int.reduceMul, true_and, and_true, or_true, true_or, eq_self, iR_t, sO265 sh, sA268 sh, q2, q3]
        simp (disch := first | omega | assumption) only [fX8_takeDraft_L83, ↓z_lt, ↓z_ge, ↓z_gt, ↓z_le, ↓z_eq, ↓z_ne, ↓z_mx, ↓z_mn, ↓z_dv, ↓z_rm, ↓z_i2l, ↓z_lc, ↓z_sw, ↓z_sf, ↓z_sn, ↓z_bd, ↓z_nt, z_b0, z_b1, z_bi, z_bj, ↓z_gF, ↓z_gR, ↓z_pF, ↓z_pZ, ↓z_pR, ↓z_aI, ↓z_aR, ↓z_sI, ↓z_sZ, ↓z_on, z_cl, ↓reduceIte, Int.reduceEq, Int.reduceNeg, Int.reduceLT, Int.reduceLE, Int.reduceAdd, Int.reduceSub, Int.reduceMul, true_and, and_true, or_true, true_or, eq_self, iR_t, sO265 sh, sA268 sh, sA270 sh, ↓e_cl ed, ↓m_at', q1, q2, q3, k1]
      · by_cases z : j = 14 + 28 * (k : Int) + 0
        · subst z
          rw [wr_s, if_pos (by push_cast; omega), show (14 + 28 * (k : Int) + 0 - 14) / 28 = (k : Int) by omega]
        · rw [wr_i z, i2]
          by_cases y : 14 ≤ j ∧ j < 14 + 28 * (k : Int) ∧ (j - 14) % 28 = 0
          · rw [if_pos y, if_pos (by push_cast; omega)]
          · rw [if_neg y, if_neg (by push_cast; omega)])
    (fun m s _ hI => by
      obtain ⟨i1, i2⟩ := hI
      have q2 : s 265 11 = 268 := by rw [i1 265 (by omega)]; exact q11
      have q3 : s 268 = t := by rw [i1 268 (by omega)]; exact tl
      have k1 : t 1 ≤ (((t 1).toNat : Nat) : Int) := by omega
      have ed : fX8_devices P s 265 = some (t 1) := by
        simp (disch := first | omega | assumption) only [fX8_devices, ↓z_lt, ↓z_ge, ↓z_gt, ↓z_le, ↓z_eq, ↓z_ne, ↓z_mx, ↓z_mn, ↓z_dv, ↓z_rm, ↓z_i2l, ↓z_lc, ↓z_sw, ↓z_sf, ↓z_sn, ↓z_bd, ↓z_nt, z_b0, z_b1, z_bi, z_bj, ↓z_gF, ↓z_gR, ↓z_pF, ↓z_pZ, ↓z_pR, ↓z_aI, ↓z_aR, ↓z_sI, ↓z_sZ, ↓z_on, z_cl, ↓reduceIte, Int.reduceEq, Int.reduceNeg, Int.reduceLT, Int.reduceLE, Int.reduceAdd, Int.reduceSub, Int.reduceMul, true_and, and_true, or_true, true_or, eq_self, iR_t, sO265 sh, sA268 sh, q2, q3]
      simp (disch := first | omega | assumption) only [fX8_takeDraft_L83, ↓z_lt, ↓z_ge, ↓z_gt, ↓z_le, ↓z_eq, ↓z_ne, ↓z_mx, ↓z_mn, ↓z_dv, ↓z_rm, ↓z_i2l, ↓z_lc, ↓z_sw, ↓z_sf, ↓z_sn, ↓z_bd, ↓z_nt, z_b0, z_b1, z_bi, z_bj, ↓z_gF, ↓z_gR, ↓z_pF, ↓z_pZ, ↓z_pR, ↓z_aI, ↓z_aR, ↓z_sI, ↓z_sZ, ↓z_on, z_cl, ↓reduceIte, Int.reduceEq, Int.reduceNeg, Int.reduceLT, Int.reduceLE, Int.reduceAdd, Int.reduceSub, Int.reduceMul, true_and, and_true, or_true, true_or, eq_self, iR_t, sO265 sh, ↓e_cl ed, k1]) (m := 1000) (a := τ) (c := ()) (by omega) ⟨fun _ _ => rfl, fun j => by rw [if_neg (by push_cast; omega)]⟩
  refine ⟨s, e1, i1, fun j => ?_⟩
  rw [i2]
  by_cases y : 14 ≤ j ∧ j < 14 + 28 * t 1 ∧ (j - 14) % 28 = 0
  · rw [if_pos y, if_pos (by omega)]
  · rw [if_neg y, if_neg (by omega)]
theorem m_take5 (sh : ShpIs P 279 PL) (T : TV t) (q11 : τ 265 11 = 268) (q14 : τ 265 14 = 270) (tl : τ 268 = t) (kE : St → Option St) : ∃ s, fX8_takeDraft_L119 P 265 kE 1000 0 τ = kE s ∧ (∀ o, o ≠ 270 → s o = τ o) ∧ (∀ j, s 270 j = if 238 ≤ j ∧ j < 238 + 3 * t 2 ∧ (j - 238) % 3 = 1 then -1 else τ 270 j) := by
  have n2 := T.n2
  obtain ⟨s, e1, i1, i2⟩ := loop_r (γ := Unit) (fun m k (s : St) => fX8_takeDraft_L119 P 265 kE m k s) kE (t 2).toNat (fun _ a => a) (fun k s _ => (∀ o, o ≠ 270 → s o = τ o) ∧ ∀ j, s 270 j = if 238 ≤ j ∧ j < 238 + 3 * (k : Int) ∧ (j - 238) % 3 = 1 then -1 else τ 270 j)
    (fun k m s _ hk1 hI => by
      obtain ⟨i1, i2⟩ := hI
      have k1 : ¬ (t 2 ≤ (k : Int)) := by omega
      have q1 : s 265 14 = 270 := by rw [i1 265 (by omega)]; exact q14
      have q2 : s 265 11 = 268 := by rw [i1 265 (by omega)]; exact q11
      have q3 : s 268 = t := by rw [i1 268 (by omega)]; exact tl
      refine ⟨wr s 270 (238 + 3 * (k : Int) + 1) (-1), ?_, fun o ho => by rw [wr_o ho]; exact i1 o ho, fun j => ?_⟩
      · have ed : fX8_streams P s 265 = some (t 2) := by
          simp (disch := first | omega | assumption) only [fX8_streams, ↓z_lt, ↓z_ge, ↓z_gt, ↓z_le, ↓z_eq, ↓z_ne, ↓z_mx, ↓z_mn, ↓z_dv, ↓z_rm, ↓z_i2l, ↓z_lc, ↓z_sw, ↓z_sf, ↓z_sn, ↓z_bd, ↓z_nt, z_b0, z_b1, z_bi, z_bj, ↓z_gF, ↓z_gR, ↓z_pF, ↓z_pZ, ↓z_pR, ↓z_aI, ↓z_aR, ↓z_sI, ↓z_sZ, ↓z_on, z_cl, ↓reduceIte, Int.reduceEq, Int.reduceNeg, Int.reduceLT, Int.reduceLE, Int.reduceAdd, Int.reduceSub, Int.reduceMul, true_and, and_true, or_true, true_or, eq_self, iR_t, sO265 sh, sA268 sh, q2, q3]
        simp (disch := first | omega | assumption) only [fX8_takeDraft_L119, ↓z_lt, ↓z_ge, ↓z_gt, ↓z_le, ↓z_eq, ↓z_ne, ↓z_mx, ↓z_mn, ↓z_dv, ↓z_rm, ↓z_i2l, ↓z_lc, ↓z_sw, ↓z_sf, ↓z_sn, ↓z_bd, ↓z_nt, z_b0, z_b1, z_bi, z_bj, ↓z_gF, ↓z_gR, ↓z_pF, ↓z_pZ, ↓z_pR, ↓z_aI, ↓z_aR, ↓z_sI, ↓z_sZ, ↓z_on, z_cl, ↓reduceIte, Int.reduceEq, Int.reduceNeg, Int.reduceLT, Int.reduceLE, Int.reduceAdd, Int.reduceSub, Int.reduceMul, true_and, and_true, or_true, true_or, eq_self, iR_t, sO265 sh, sA270 sh, ↓e_cl ed, ↓m_in', q1, k1]
      · by_cases z : j = 238 + 3 * (k : Int) + 1
        · subst z
          rw [wr_s, if_pos (by push_cast; omega)]
        · rw [wr_i z, i2]
          by_cases y : 238 ≤ j ∧ j < 238 + 3 * (k : Int) ∧ (j - 238) % 3 = 1
          · rw [if_pos y, if_pos (by push_cast; omega)]
          · rw [if_neg y, if_neg (by push_cast; omega)])
    (fun m s _ hI => by
      obtain ⟨i1, i2⟩ := hI
      have q2 : s 265 11 = 268 := by rw [i1 265 (by omega)]; exact q11
      have q3 : s 268 = t := by rw [i1 268 (by omega)]; exact tl
      have k1 : t 2 ≤ (((t 2).toNat : Nat) : Int) := by omega
      have ed : fX8_streams P s 265 = some (t 2) := by
        simp (disch := first | omega | assumption) only [fX8_streams, ↓z_lt, ↓z_ge, ↓z_gt, ↓z_le, ↓z_eq, ↓z_ne, ↓z_mx, ↓z_mn, ↓z_dv, ↓z_rm, ↓z_i2l, ↓z_lc, ↓z_sw, ↓z_sf, ↓z_sn, ↓z_bd, ↓z_nt, z_b0, z_b1, z_bi, z_bj, ↓z_gF, ↓z_gR, ↓z_pF, ↓z_pZ, ↓z_pR, ↓z_aI, ↓z_aR, ↓z_sI, ↓z_sZ, ↓z_on, z_cl, ↓reduceIte, Int.reduceEq, Int.reduceNeg, Int.reduceLT, Int.reduceLE, Int.reduceAdd, Int.reduceSub, Int.reduceMul, true_and, and_true, or_true, true_or, eq_self, iR_t, sO265 sh, sA268 sh, q2, q3]
      simp (disch := first | omega | assumption) only [fX8_takeDraft_L119, ↓z_lt, ↓z_ge, ↓z_gt, ↓z_le, ↓z_eq, ↓z_ne, ↓z_mx, ↓z_mn, ↓z_dv, ↓z_rm, ↓z_i2l, ↓z_lc, ↓z_sw, ↓z_sf, ↓z_sn, ↓z_bd, ↓z_nt, z_b0, z_b1, z_bi, z_bj, ↓z_gF, ↓z_gR, ↓z_pF, ↓z_pZ, ↓z_pR, ↓z_aI, ↓z_aR, ↓z_sI, ↓z_sZ, ↓z_on, z_cl, ↓reduceIte, Int.reduceEq, Int.reduceNeg, Int.reduceLT, Int.reduceLE, Int.reduceAdd, Int.reduceSub, Int.reduceMul, true_and, and_true, or_true, true_or, eq_self, iR_t, sO265 sh, ↓e_cl ed, k1]) (m := 1000) (a := τ) (c := ()) (by omega) ⟨fun _ _ => rfl, fun j => by rw [if_neg (by push_cast; omega)]⟩
  refine ⟨s, e1, i1, fun j => ?_⟩
  rw [i2]
  by_cases y : 238 ≤ j ∧ j < 238 + 3 * t 2 ∧ (j - 238) % 3 = 1
  · rw [if_pos y, if_pos (by omega)]
  · rw [if_neg y, if_neg (by omega)]
/-- the draft is taken: what changes -/
def TK (P : Shp) (τ τ' : St) (t f g : Int → Int) : Prop :=
  (∀ o, o ≠ 265 → o ≠ 268 → o ≠ 270 → o ≠ 271 → o ≠ 276 → τ' o = τ o) ∧
  (∀ j, j ≠ 18 → τ' 265 j = τ 265 j) ∧
  (τ' 265 18 = 0) ∧
  (τ' 276 0 = 0 ∧ τ' 276 1 = 0) ∧
  (∀ j, j ≠ 0 → j ≠ 1 → τ' 276 j = τ 276 j) ∧
  (τ' 268 = t) ∧
  (τ' 270 = setF t f) ∧
  (τ' 271 = g)
theorem TK.oo {P : Shp} {τ τ' : St} {t f g : Int → Int} (h : TK P τ τ' t f g) : ∀ o, o ≠ 265 → o ≠ 268 → o ≠ 270 → o ≠ 271 → o ≠ 276 → τ' o = τ o := h.1
theorem TK.jj {P : Shp} {τ τ' : St} {t f g : Int → Int} (h : TK P τ τ' t f g) : ∀ j, j ≠ 18 → τ' 265 j = τ 265 j := h.2.1
theorem TK.z18 {P : Shp} {τ τ' : St} {t f g : Int → Int} (h : TK P τ τ' t f g) : τ' 265 18 = 0 := h.2.2.1
theorem TK.z76 {P : Shp} {τ τ' : St} {t f g : Int → Int} (h : TK P τ τ' t f g) : τ' 276 0 = 0 ∧ τ' 276 1 = 0 := h.2.2.2.1
theorem TK.o76 {P : Shp} {τ τ' : St} {t f g : Int → Int} (h : TK P τ τ' t f g) : ∀ j, j ≠ 0 → j ≠ 1 → τ' 276 j = τ 276 j := h.2.2.2.2.1
theorem TK.tl {P : Shp} {τ τ' : St} {t f g : Int → Int} (h : TK P τ τ' t f g) : τ' 268 = t := h.2.2.2.2.2.1
theorem TK.fl {P : Shp} {τ τ' : St} {t f g : Int → Int} (h : TK P τ τ' t f g) : τ' 270 = setF t f := h.2.2.2.2.2.2.1
theorem TK.gl {P : Shp} {τ τ' : St} {t f g : Int → Int} (h : TK P τ τ' t f g) : τ' 271 = g := h.2.2.2.2.2.2.2
theorem m_take (M : MP P τ t) (hd : ∀ j, 0 ≤ j → j < 107 → τ 267 j = d j) (T : TV (tkT d t)) (hB : 9999 ≤ B ∧ B ≤ 1999999900) (hf : ∀ j, -1 ≤ τ 270 j ∧ τ 270 j ≤ B) (hg : ∀ j, 0 ≤ τ 271 j ∧ τ 271 j ≤ 10000 * B) (h5 : 0 ≤ d 5) (hp : ∀ k, 0 ≤ k → k < d 1 → 0 ≤ d (55 + k)) : ∃ τ', fX8_takeDraft P τ 265 = some τ' ∧ TK P τ τ' (tkT d t) (frF (tkT d t) (τ 270)) (frG (τ 271)) := by
  have sh := M.sh
  have n1 := T.n1
  have n2 := T.n2
  have e1' : tkT d t 1 = d 1 := rfl
  have e5' : tkT d t 5 = d 5 := rfl
  have ep : ∀ k, 0 ≤ k → k < 8 → tkT d t (55 + k) = d (55 + k) := fun k k0 k1 => by unfold tkT; rw [if_pos (by omega)]
  have F := frF_FV (f := τ 270) (g := τ 271) T ⟨by omega, by omega⟩ hf hg (by omega) hB.1 (fun k k0 k1 => by rw [ep k k0 (by omega)]; exact hp k k0 (by omega))
  obtain ⟨s1, l1, o1, t1⟩ := m_take1 M hd (fun s6 =>
      fX8_takeDraft_L28 P 265
        (fun s10 =>
          fX8_takeDraft_L50 P 265
            (fun s14 =>
              gR P 8 s14 265 14 fun x15 =>
              gR P 8 s14 265 11 fun x16 =>
              aI P 10 s14 x16 5 fun x17 =>
              sI P 10 s14 x15 1 x17 fun s18 =>
              fX8_takeDraft_L83 P 265
                (fun s26 =>
                  fX8_takeDraft_L119 P 265
                    (fun s32 =>
                      pF P 8 s32 265 18 0 fun s33 =>
                      gR P 8 s33 265 21 fun x34 =>
                      sZ P 12 s33 x34 0 0 fun s35 =>
                      gR P 8 s35 265 21 fun x36 =>
                      sZ P 12 s35 x36 1 0 fun s37 =>
                      onO P 8 265 <| cl (fX8_settles P s37 265) fun s38 =>
                      some s38)
                    1000 0 s26)
                1000 0 s18)
            1000 0 s10)
        1000 0 s6)
  have p1 : ∀ j, s1 265 j = τ 265 j := fun j => by rw [o1 265 (by omega)]
  obtain ⟨s2, l2, o2, f2⟩ := m_take2 (τ := s1) sh ((p1 14).trans M.q14) (fun s10 =>
          fX8_takeDraft_L50 P 265
            (fun s14 =>
              gR P 8 s14 265 14 fun x15 =>
              gR P 8 s14 265 11 fun x16 =>
              aI P 10 s14 x16 5 fun x17 =>
              sI P 10 s14 x15 1 x17 fun s18 =>
              fX8_takeDraft_L83 P 265
                (fun s26 =>
                  fX8_takeDraft_L119 P 265
                    (fun s32 =>
                      pF P 8 s32 265 18 0 fun s33 =>
                      gR P 8 s33 265 21 fun x34 =>
                      sZ P 12 s33 x34 0 0 fun s35 =>
                      gR P 8 s35 265 21 fun x36 =>
                      sZ P 12 s35 x36 1 0 fun s37 =>
                      onO P 8 265 <| cl (fX8_settles P s37 265) fun s38 =>
                      some s38)
                    1000 0 s26)
                1000 0 s18)
            1000 0 s10)
  have p2 : ∀ j, s2 265 j = τ 265 j := fun j => by rw [o2 265 (by omega)]; exact p1 j
  obtain ⟨s3, l3, o3, g3⟩ := m_take3 (τ := s2) sh ((p2 15).trans M.q15) (fun s14 =>
              gR P 8 s14 265 14 fun x15 =>
              gR P 8 s14 265 11 fun x16 =>
              aI P 10 s14 x16 5 fun x17 =>
              sI P 10 s14 x15 1 x17 fun s18 =>
              fX8_takeDraft_L83 P 265
                (fun s26 =>
                  fX8_takeDraft_L119 P 265
                    (fun s32 =>
                      pF P 8 s32 265 18 0 fun s33 =>
                      gR P 8 s33 265 21 fun x34 =>
                      sZ P 12 s33 x34 0 0 fun s35 =>
                      gR P 8 s35 265 21 fun x36 =>
                      sZ P 12 s35 x36 1 0 fun s37 =>
                      onO P 8 265 <| cl (fX8_settles P s37 265) fun s38 =>
                      some s38)
                    1000 0 s26)
                1000 0 s18)
  have p3 : ∀ j, s3 265 j = τ 265 j := fun j => by rw [o3 265 (by omega)]; exact p2 j
  have t3 : s3 268 = tkT d t := by rw [o3 268 (by omega), o2 268 (by omega)]; exact t1
  have t35 : s3 268 5 = tkT d t 5 := by rw [t3]
  obtain ⟨s4, l4, o4, f4⟩ := m_take4 (τ := wr s3 270 1 (tkT d t 5)) sh T (by rw [wr_n (by omega), p3]; exact M.q11) (by rw [wr_n (by omega), p3]; exact M.q14) (by rw [wr_o (by omega)]; exact t3) (fun s26 =>
                  fX8_takeDraft_L119 P 265
                    (fun s32 =>
                      pF P 8 s32 265 18 0 fun s33 =>
                      gR P 8 s33 265 21 fun x34 =>
                      sZ P 12 s33 x34 0 0 fun s35 =>
                      gR P 8 s35 265 21 fun x36 =>
                      sZ P 12 s35 x36 1 0 fun s37 =>
                      onO P 8 265 <| cl (fX8_settles P s37 265) fun s38 =>
                      some s38)
                    1000 0 s26)
  have p4 : ∀ j, s4 265 j = τ 265 j := fun j => by rw [o4 265 (by omega), wr_n (by omega)]; exact p3 j
  have t4 : s4 268 = tkT d t := by rw [o4 268 (by omega), wr_o (by omega)]; exact t3
  obtain ⟨s5, l5, o5, f5⟩ := m_take5 (τ := s4) sh T ((p4 11).trans M.q11) ((p4 14).trans M.q14) t4 (fun s32 =>
                      pF P 8 s32 265 18 0 fun s33 =>
                      gR P 8 s33 265 21 fun x34 =>
                      sZ P 12 s33 x34 0 0 fun s35 =>
                      gR P 8 s35 265 21 fun x36 =>
                      sZ P 12 s35 x36 1 0 fun s37 =>
                      onO P 8 265 <| cl (fX8_settles P s37 265) fun s38 =>
                      some s38)
  have p5 : ∀ j, s5 265 j = τ 265 j := fun j => by rw [o5 265 (by omega)]; exact p4 j
  have f9 : s5 270 = frF (tkT d t) (τ 270) := by
    funext j
    rw [f5, f4]
    by_cases c : 0 ≤ j ∧ j < 410
    · by_cases c1 : j = 1
      · subst c1
        rw [if_neg (by omega), if_neg (by omega), wr_s, frF_1]
      · unfold frF
        rw [if_pos c, if_neg c1, wr_i c1, o3 270 (by omega), f2, if_pos c]
        by_cases c2 : 14 ≤ j ∧ j < 14 + 28 * tkT d t 1 ∧ (j - 14) % 28 = 0
        · rw [if_neg (by omega), if_pos c2, if_pos c2]
        · rw [if_neg c2, if_neg c2]
    · unfold frF
      rw [if_neg c, if_neg (by omega), if_neg (by omega), wr_i (by omega), o3 270 (by omega), f2, if_neg c, o1 270 (by omega)]
  have g9 : s5 271 = frG (τ 271) := by
    rw [o5 271 (by omega), o4 271 (by omega), wr_o (by omega), g3, o2 271 (by omega), o1 271 (by omega)]
  have k5 : ∀ o, o ≠ 268 → o ≠ 270 → o ≠ 271 → s5 o = τ o := fun o h1 h2 h3 => by rw [o5 o h2, o4 o h2, wr_o h2, o3 o h3, o2 o h2, o1 o h1]
  have M6 : MP P (wr (wr (wr s5 265 18 0) 276 0 0) 276 1 0) (tkT d t) := by
    refine ⟨sh, ?_, ?_, ?_, ?_, ?_, ?_, ?_, ?_, ?_, ?_, ?_, ?_, ?_⟩
    · rw [wr_n (by omega), wr_n (by omega), wr_i (by omega), p5]; exact M.q1
    · rw [wr_n (by omega), wr_n (by omega), wr_i (by omega), p5]; exact M.q10
    · rw [wr_n (by omega), wr_n (by omega), wr_i (by omega), p5]; exact M.q11
    · rw [wr_n (by omega), wr_n (by omega), wr_i (by omega), p5]; exact M.q12
    · rw [wr_n (by omega), wr_n (by omega), wr_i (by omega), p5]; exact M.q14
    · rw [wr_n (by omega), wr_n (by omega), wr_i (by omega), p5]; exact M.q15
    · rw [wr_n (by omega), wr_n (by omega), wr_i (by omega), p5]; exact M.q16
    · rw [wr_n (by omega), wr_n (by omega), wr_i (by omega), p5]; exact M.q17
    · rw [wr_n (by omega), wr_n (by omega), wr_i (by omega), p5]; exact M.q19
    · rw [wr_n (by omega), wr_n (by omega), wr_i (by omega), p5]; exact M.q20
    · rw [wr_n (by omega), wr_n (by omega), wr_i (by omega), p5]; exact M.q21
    · rw [wr_n (by omega), wr_n (by omega), wr_i (by omega), p5]; exact M.q22
    · rw [wr_o (by omega), wr_o (by omega), wr_o (by omega), o5 268 (by omega)]; exact t4
  have S := m_settles M6 T F (by omega) hB.2
  have e9 : st2 (wr (wr (wr s5 265 18 0) 276 0 0) 276 1 0) (frF (tkT d t) (τ 270)) (frG (τ 271)) = wr (wr (wr s5 265 18 0) 276 0 0) 276 1 0 := by
    have := st2_id (σ := wr (wr (wr s5 265 18 0) 276 0 0) 276 1 0)
    rw [wr_o (show (270 : Int) ≠ 276 by omega), wr_o (show (270 : Int) ≠ 276 by omega), wr_o (show (270 : Int) ≠ 265 by omega), f9, wr_o (show (271 : Int) ≠ 276 by omega), wr_o (show (271 : Int) ≠ 276 by omega), wr_o (show (271 : Int) ≠ 265 by omega), g9] at this
    exact this
  rw [e9] at S
  refine ⟨st2 (wr (wr (wr s5 265 18 0) 276 0 0) 276 1 0) (setF (tkT d t) (frF (tkT d t) (τ 270))) (frG (τ 271)), ?_, ⟨fun o h1 h2 h3 h4 h5 => ?_, fun j hj => ?_, ?_, ⟨?_, ?_⟩, fun j h1 h2 => ?_, ?_, st2_f, st2_g⟩⟩
  rotate_left
  · rw [st2_o h3 h4, wr_o h5, wr_o h5, wr_o h1]; exact k5 o h2 h3 h4
  · rw [st2_o (by omega) (by omega), wr_n (by omega), wr_n (by omega), wr_i hj]; exact p5 j
  · rw [st2_o (by omega) (by omega), wr_n (by omega), wr_n (by omega), wr_s]
  · rw [st2_o (by omega) (by omega), wr_i (by omega), wr_s]
  · rw [st2_o (by omega) (by omega), wr_s]
  · rw [st2_o (by omega) (by omega), wr_i h2, wr_i h1, wr_n (by omega)]
    exact congrFun (k5 276 (by omega) (by omega) (by omega)) j
  · rw [st2_o (by omega) (by omega)]; exact M6.tl
  · have w21 : s5 265 21 = 276 := (p5 21).trans M.q21
    unfold fX8_takeDraft
    refine l1.trans (l2.trans (l3.trans ?_))
    have r14 := (p3 14).trans M.q14
    have r11 := (p3 11).trans M.q11
    have hl5 := l4.trans l5
    have t5R : iR (tkT d t 5) = true := T.vr 5
    rw [z_gR, if_pos (sO265 sh), if_neg (by rw [r14]; omega), r14, z_gR, if_pos (sO265 sh), if_neg (by rw [r11]; omega), r11, z_aI, if_pos (sA268 sh (by omega) (by omega)), t35, z_sI, if_pos (sA270 sh (by omega) (by omega))]
    refine hl5.trans ?_
    have w21' : wr s5 265 18 0 265 21 = 276 := by rw [wr_i (by omega)]; exact w21
    have w22' : wr (wr s5 265 18 0) 276 0 0 265 21 = 276 := by rw [wr_n (by omega)]; exact w21'
    simp (disch := first | omega | assumption) only [↓z_lt, ↓z_ge, ↓z_gt, ↓z_le, ↓z_eq, ↓z_ne, ↓z_mx, ↓z_mn, ↓z_dv, ↓z_rm, ↓z_i2l, ↓z_lc, ↓z_sw, ↓z_sf, ↓z_sn, ↓z_bd, ↓z_nt, z_b0, z_b1, z_bi, z_bj, ↓z_gF, ↓z_gR, ↓z_pF, ↓z_pZ, ↓z_pR, ↓z_aI, ↓z_aR, ↓z_sI, ↓z_sZ, ↓z_on, z_cl, ↓reduceIte, Int.reduceEq, Int.reduceNeg, Int.reduceLT, Int.reduceLE, Int.reduceAdd, Int.reduceSub, Int.reduceMul, true_and, and_true, or_true, true_or, eq_self, iR_t, sO265 sh, sA276 sh, w21', w22', ↓e_cl S]
end ZZA4
