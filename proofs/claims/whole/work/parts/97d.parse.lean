/-! PARSE on both sides. -/
section ZZA5
variable {P : Shp} {σ σ' σ0 σ1 σ2 s τ τ' τ0 τ1 τ2 : St} {t f g h d d' : Int → Int} {a b c e i j k p x y z v w q B : Int}
theorem tk_in (h0 : 0 ≤ j) (h1 : j < 107) : tkT d t j = d j := if_pos ⟨h0, h1⟩
theorem TV.tk (T : TV d) (T0 : TV t) : TV (tkT d t) := by
  have n0 := T.n0
  have n1 := T.n1
  have n2 := T.n2
  have e0 : tkT d t 0 = d 0 := tk_in (by omega) (by omega)
  have e1 : tkT d t 1 = d 1 := tk_in (by omega) (by omega)
  have e2 : tkT d t 2 = d 2 := tk_in (by omega) (by omega)
  have e4 : tkT d t 4 = d 4 := tk_in (by omega) (by omega)
  refine ⟨fun j => ?_, by rw [e0]; exact n0, by rw [e1]; exact n1, by rw [e2]; exact n2, by rw [e4]; exact T.n4, ?_, ?_, ?_, ?_, ?_, ?_, ?_⟩
  · unfold tkT
    split
    · exact T.b j
    · exact T0.b j
  · intro i i0 i1; rw [e0] at i1; rw [tk_in (by omega) (by omega)]; exact T.pe i i0 i1
  · intro i i0 i1; rw [e1] at i1 ⊢; rw [tk_in (by omega) (by omega)]; exact T.he i i0 i1
  · intro i i0 i1; rw [e2] at i1; rw [e1, tk_in (by omega) (by omega)]; exact T.ho i i0 i1
  · intro i i0 i1; rw [e2] at i1; rw [tk_in (by omega) (by omega)]; exact T.ra i i0 i1
  · intro i i0 i1; rw [e2] at i1; rw [tk_in (by omega) (by omega)]; exact T.pa i i0 i1
  · intro i i0 i1; rw [e0] at i1; rw [tk_in (by omega) (by omega)]; exact T.wi i i0 i1
  · intro i i0 i1; rw [e0] at i1; rw [tk_in (by omega) (by omega)]; exact T.we i i0 i1
theorem PR.tk (h : PR σ q d) (T : TV d) : PR σ q (tkT d t) := by
  have n0 := T.n0
  have n1 := T.n1
  have n2 := T.n2
  have E : ∀ j, 0 ≤ j → j < 107 → tkT d t j = d j := fun j h0 h1 => tk_in h0 h1
  refine ⟨h.hp, h.r7, h.r8, h.r9, h.r10, h.r11, h.r12, h.r13, h.r14, h.r15, ?_, ?_, ?_, ?_, ?_, ?_, ?_, ?_, ?_, ?_, ?_, ?_, ?_, ?_, ?_, ?_⟩
  · rw [E 3 (by omega) (by omega)]; exact h.v0
  · rw [E 4 (by omega) (by omega)]; exact h.v1
  · rw [E 5 (by omega) (by omega)]; exact h.v2
  · rw [E 6 (by omega) (by omega)]; exact h.v3
  · rw [E 0 (by omega) (by omega)]; exact h.v4
  · rw [E 1 (by omega) (by omega)]; exact h.v5
  · rw [E 2 (by omega) (by omega)]; exact h.v6
  · intro i i0 i1; rw [E 0 (by omega) (by omega)] at i1; rw [E _ (by omega) (by omega)]; exact h.we i i0 i1
  · intro i i0 i1; rw [E 0 (by omega) (by omega)] at i1; rw [E _ (by omega) (by omega)]; exact h.wi i i0 i1
  · intro i i0 i1; rw [E 0 (by omega) (by omega)] at i1; rw [E _ (by omega) (by omega)]; exact h.pe i i0 i1
  · intro i j i0 i1 j0 j1
    rw [E 0 (by omega) (by omega)] at i1
    rw [E _ (by omega) (by omega)] at j1
    have := T.pe i i0 i1
    rw [E _ (by omega) (by omega)]; exact h.pk i j i0 i1 j0 j1
  · intro i i0 i1; rw [E 1 (by omega) (by omega)] at i1; rw [E _ (by omega) (by omega)]; exact h.fp i i0 i1
  · intro i i0 i1; rw [E 1 (by omega) (by omega)] at i1; rw [E _ (by omega) (by omega)]; exact h.he i i0 i1
  · intro i i0 i1; rw [E 2 (by omega) (by omega)] at i1; rw [E _ (by omega) (by omega)]; exact h.ho i i0 i1
  · intro i i0 i1; rw [E 2 (by omega) (by omega)] at i1; rw [E _ (by omega) (by omega)]; exact h.ra i i0 i1
  · intro i i0 i1; rw [E 2 (by omega) (by omega)] at i1; rw [E _ (by omega) (by omega)]; exact h.pa i i0 i1
/-- what the two readers need -/
def PT (σ τ : St) (a : Int) : Prop := τ 265 1 = 266 ∧ τ 265 10 = 267 ∧ τ 265 12 = 269 ∧ τ 265 2 = σ 1 1 ∧ ∀ i, 0 ≤ i → i < a → τ 266 i = σ 2 i
theorem G_read (G : GR P σ p t B) (a0 : 0 ≤ a) (a1 : a ≤ σ 1 1) (hq : q = 20 - p) (hT : PT σ τ a) :
    (∃ σ' τ' e' d', fX5_read P σ 1 a = some (1, σ') ∧ fX8_parse P τ 265 a = parK P τ' ∧ QQ P σ' τ' (σ 2) a e' q d' ∧ CF0 q σ σ' ∧ MF0 τ τ') ∨ (∃ σ' τ', fX5_read P σ 1 a = some (0, σ') ∧ fX8_parse P τ 265 a = parK P τ' ∧ CF0 q σ σ' ∧ MF0 τ τ' ∧ (1 ≤ τ' 265 8 ∧ τ' 265 8 ≤ 5) ∧ σ' 1 8 = τ' 265 8 ∧ σ' 1 7 = τ' 265 9 ∧ (0 ≤ τ' 265 9 ∧ τ' 265 9 ≤ 600)) := by
  have hp := G.cr.pr.hp
  have bf := G.bf
  have rq := G.rq
  rw [← hq] at rq
  obtain ⟨h1, h2, h3, h4, h5⟩ := hT
  exact sim_read G.cr.sh (by omega) G.r0 (by rw [hq]; exact G.r9) G.r11 G.r12 G.r13 rq a0 a1 bf.2.1 (fun i i0 i1 => (G.bb i i0 (by omega)).2) h1 h2 h3 h4 h5
theorem G_PT (G : GR P σ p t B) (a1 : a ≤ σ 1 1) : PT σ σ a := ⟨G.mp.q1, G.mp.q10, G.mp.q12, G.bf.2.2, fun i i0 i1 => ((G.bb i i0 (by omega)).1).symm⟩
/-- the relation when the reader alone has worked -/
theorem GR.rdr (G : GR P σ p t B) (hq : q = 20 - p) (e : ∀ o, o ≠ 1 → (o < q ∨ q + 9 < o) → (o < 13 ∨ 15 < o) → o ≠ 265 → o ≠ 267 → o ≠ 269 → o ≠ 278 → σ' o = σ o) (e1 : ∀ j, (j < 1 ∨ 8 < j) → j ≠ 10 → σ' 1 j = σ 1 j) (e3 : ∀ j, 7 ≤ j → σ' q j = σ q j) (e2 : ∀ j, (j = 1 ∨ 10 ≤ j) → j ≠ 13 → σ' 265 j = σ 265 j) (b1 : σ' 1 1 = 0) (b2 : σ' 265 2 = 0) : GR P σ' p t B := by
  have hp := G.cr.pr.hp
  have hn := G.hn
  obtain ⟨cr, mp, tv, fv, cv, x0, x1, x2, x3, x4, r0, r9, r11, r12, r13, rq, h0, hn, hk, hd, hs, hr, ss, st, bf, bb⟩ := G
  have eo : ∀ o, 27 ≤ o → o < 265 → σ' o = σ o := fun o h1 h2 => e o (by omega) (by omega) (by omega) (by omega) (by omega) (by omega) (by omega)
  have ep : ∀ o, p ≤ o → o ≤ p + 9 → σ' o = σ o := fun o h1 h2 => e o (by omega) (by omega) (by omega) (by omega) (by omega) (by omega) (by omega)
  have ez : σ' 0 = σ 0 := e 0 (by omega) (by omega) (by omega) (by omega) (by omega) (by omega) (by omega)
  have e16 : σ' 16 = σ 16 := e 16 (by omega) (by omega) (by omega) (by omega) (by omega) (by omega) (by omega)
  have em : ∀ o, 270 ≤ o → o ≤ 276 → σ' o = σ o := fun o h1 h2 => e o (by omega) (by omega) (by omega) (by omega) (by omega) (by omega) (by omega)
  have e268 : σ' 268 = σ 268 := e 268 (by omega) (by omega) (by omega) (by omega) (by omega) (by omega) (by omega)
  refine ⟨?_, ?_, tv, ?_, ?_, ?_, ?_, ?_, ?_, ?_, ?_, ?_, ?_, ?_, ?_, ?_, ?_, ?_, ?_, ?_, ?_, ?_, ?_, ?_, ?_, ?_⟩
  · rw [em 270 (by omega) (by omega), em 271 (by omega) (by omega)]
    refine ⟨cr.sh, ?_, ?_, ?_, cr.s.fr fun o _ _ => eo o (by omega) (by omega)⟩
    · rw [e16]; exact cr.h0
    · rw [e16]; exact cr.h1
    · exact cr.pr.ag fun o h1 h2 => ep o h1 h2
  · exact mp.to2 (fun j j0 j1 => e2 j (by omega) (by omega)) e268
  · rw [em 270 (by omega) (by omega), em 271 (by omega) (by omega)]; exact fv
  · rw [em 270 (by omega) (by omega)]; exact cv
  · rw [ez]; exact x0
  · rw [ez]; exact x1
  · rw [ez]; exact x2
  · rw [ez]; exact x3
  · rw [ez]; exact x4
  · rw [e1 0 (by omega) (by omega)]; exact r0
  · rw [e1 9 (by omega) (by omega)]; exact r9
  · rw [e1 11 (by omega) (by omega)]; exact r11
  · rw [e1 12 (by omega) (by omega)]; exact r12
  · rw [e1 13 (by omega) (by omega)]; exact r13
  · rw [← hq] at rq ⊢
    refine ⟨?_, ?_, ?_, ?_, ?_, ?_, ?_, ?_, ?_⟩
    · rw [e3 _ (by omega)]; exact rq.r7
    · rw [e3 _ (by omega)]; exact rq.r8
    · rw [e3 _ (by omega)]; exact rq.r9
    · rw [e3 _ (by omega)]; exact rq.r10
    · rw [e3 _ (by omega)]; exact rq.r11
    · rw [e3 _ (by omega)]; exact rq.r12
    · rw [e3 _ (by omega)]; exact rq.r13
    · rw [e3 _ (by omega)]; exact rq.r14
    · rw [e3 _ (by omega)]; exact rq.r15
  · rw [eo 45 (by omega) (by omega)]; exact h0
  · rw [eo 45 (by omega) (by omega)]; exact hn
  · rw [eo 45 (by omega) (by omega)]; exact hk
  · rw [eo 45 (by omega) (by omega), e2 18 (by omega) (by omega)]; exact hd
  · intro i i0 i1
    have q := hs i i0 i1
    rw [eo 46 (by omega) (by omega)]
    exact ⟨q.1, q.2.fr fun o _ _ => eo o (by omega) (by omega)⟩
  · intro j j0 j1
    rw [eo 45 (by omega) (by omega)] at j1 ⊢
    rw [em 272 (by omega) (by omega), em 273 (by omega) (by omega)]
    exact (hr j j0 j1).fr fun o _ _ => eo o (by omega) (by omega)
  · intro i i0 i1
    have q := ss i i0 i1
    rw [eo 227 (by omega) (by omega)]
    exact ⟨q.1, q.2.fr fun o _ _ => eo o (by omega) (by omega)⟩
  · intro i i0 i1
    rw [eo 228 (by omega) (by omega), em 274 (by omega) (by omega), em 275 (by omega) (by omega), em 276 (by omega) (by omega)]
    have q := st i i0 i1
    exact ⟨q.1, q.2.1, fun z => (q.2.2 z).fr fun o _ _ => eo o (by omega) (by omega)⟩
  · rw [b1, b2]; omega
  · intro i i0 i1; omega
theorem parK_F (sh : ShpIs P 279 PL) (k1 : 1 ≤ τ' 265 8 ∧ τ' 265 8 ≤ 5) : parK P τ' = some (-2 - (8 * τ' 265 9 + τ' 265 8), τ') := by
  have n8 : ¬ (τ' 265 8 = 0) := by omega
  simp (disch := first | omega | assumption) only [parK, ↓z_lt, ↓z_ge, ↓z_gt, ↓z_le, ↓z_eq, ↓z_ne, ↓z_mx, ↓z_mn, ↓z_dv, ↓z_rm, ↓z_i2l, ↓z_lc, ↓z_sw, ↓z_sf, ↓z_sn, ↓z_bd, ↓z_nt, z_b0, z_b1, z_bi, z_bj, ↓z_gF, ↓z_gR, ↓z_pF, ↓z_pZ, ↓z_pR, ↓z_aI, ↓z_aR, ↓z_sI, ↓z_sZ, ↓z_on, z_cl, ↓reduceIte, Int.reduceEq, Int.reduceNeg, Int.reduceLT, Int.reduceLE, Int.reduceAdd, Int.reduceSub, Int.reduceMul, true_and, and_true, or_true, true_or, eq_self, iR_t, sO265 sh, n8]
/-- the class, after a fault -/
theorem c_parF (G : GR P σ p t B) (ha : iR a = true) (a0 : 0 ≤ a) (a1 : a ≤ σ 1 1) (hq : q = 20 - p) (F : CF0 q σ σ') (r : fX5_read P σ 1 a = some (0, σ')) (k8 : 1 ≤ σ' 1 8 ∧ σ' 1 8 ≤ 5) (k7 : 0 ≤ σ' 1 7 ∧ σ' 1 7 ≤ 600) : fL_parse P σ 0 a 278 = some (0, wr (wr σ' 1 1 0) 278 0 (-2 - (8 * σ' 1 7 + σ' 1 8))) := by
  have sh := G.cr.sh
  have hp := G.cr.pr.hp
  have bf := G.bf
  have b1 : iR (σ 1 1) = true := iR_t (by omega) (by omega)
  have k1 : ¬ (a < 0) := by omega
  have x0 := G.x0
  have y0 : σ' 0 0 = 1 := by rw [F.oo 0 (by omega) (by omega) (by omega)]; exact x0
  have z0 : wr σ' 1 1 0 0 0 = 1 := by rw [wr_n (by omega)]; exact y0
  have ef : fX5_faultAnswer P (wr σ' 1 1 0) 1 = some (-2 - (8 * σ' 1 7 + σ' 1 8)) := by
    simp (disch := first | omega | assumption) only [fX5_faultAnswer, ↓z_lt, ↓z_ge, ↓z_gt, ↓z_le, ↓z_eq, ↓z_ne, ↓z_mx, ↓z_mn, ↓z_dv, ↓z_rm, ↓z_i2l, ↓z_lc, ↓z_sw, ↓z_sf, ↓z_sn, ↓z_bd, ↓z_nt, z_b0, z_b1, z_bi, z_bj, ↓z_gF, ↓z_gR, ↓z_pF, ↓z_pZ, ↓z_pR, ↓z_aI, ↓z_aR, ↓z_sI, ↓z_sZ, ↓z_on, z_cl, ↓reduceIte, Int.reduceEq, Int.reduceNeg, Int.reduceLT, Int.reduceLE, Int.reduceAdd, Int.reduceSub, Int.reduceMul, true_and, and_true, or_true, true_or, eq_self, sO1 sh, wr_i]
  have rv : iR (-2 - (8 * σ' 1 7 + σ' 1 8)) = true := iR_t (by omega) (by omega)
  simp (disch := first | omega | assumption | (simp (disch := omega) only [ x0, y0, z0 ]; done) | fail) only [fL_parse, trc, fX7_parse, ↓z_lt, ↓z_ge, ↓z_gt, ↓z_le, ↓z_eq, ↓z_ne, ↓z_mx, ↓z_mn, ↓z_dv, ↓z_rm, ↓z_i2l, ↓z_lc, ↓z_sw, ↓z_sf, ↓z_sn, ↓z_bd, ↓z_nt, z_b0, z_b1, z_bi, z_bj, ↓z_gF, ↓z_gR, ↓z_pF, ↓z_pZ, ↓z_pR, ↓z_aI, ↓z_aR, ↓z_sI, ↓z_sZ, ↓z_on, z_cl, ↓reduceIte, Int.reduceEq, Int.reduceNeg, Int.reduceLT, Int.reduceLE, Int.reduceAdd, Int.reduceSub, Int.reduceMul, true_and, and_true, or_true, true_or, eq_self, iR_t, sO0 sh, sO1 sh, sA278 sh, n02, n12, n10, x0, y0, z0, k1, a1, ha, b1, ↓e_g r, ↓e_g ef, rv]
end ZZA5
