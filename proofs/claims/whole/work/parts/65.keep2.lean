/-! THE REFERENCE KEEPS; the relation after a change. -/
def KM (σ σ4 : St) (f g : Int → Int) : Prop :=
  (∀ o, o ≠ 265 → o ≠ 272 → o ≠ 273 → σ4 o = σ o) ∧
  (∀ j, j ≠ 18 → σ4 265 j = σ 265 j) ∧
  (σ4 265 18 = if σ 265 18 = 10 then 10 else σ 265 18 + 1) ∧
  (∀ i, 0 ≤ i → i < 410 → σ4 272 (410 * (σ4 265 18 - 1) + i) = f i) ∧
  (∀ i, 0 ≤ i → i < 12 → σ4 273 (12 * (σ4 265 18 - 1) + i) = g i) ∧
  (∀ e i, 0 ≤ e → e < σ4 265 18 - 1 → 0 ≤ i → i < 410 → σ4 272 (410 * e + i) = σ 272 (410 * (e + (if σ 265 18 = 10 then 1 else 0)) + i)) ∧
  (∀ e i, 0 ≤ e → e < σ4 265 18 - 1 → 0 ≤ i → i < 12 → σ4 273 (12 * e + i) = σ 273 (12 * (e + (if σ 265 18 = 10 then 1 else 0)) + i))
theorem KM.o {σ σ4 : St} {f g : Int → Int} (h : KM σ σ4 f g) : ∀ o, o ≠ 265 → o ≠ 272 → o ≠ 273 → σ4 o = σ o := h.1
theorem KM.a {σ σ4 : St} {f g : Int → Int} (h : KM σ σ4 f g) : ∀ j, j ≠ 18 → σ4 265 j = σ 265 j := h.2.1
theorem KM.d {σ σ4 : St} {f g : Int → Int} (h : KM σ σ4 f g) : σ4 265 18 = if σ 265 18 = 10 then 10 else σ 265 18 + 1 := h.2.2.1
theorem KM.f1 {σ σ4 : St} {f g : Int → Int} (h : KM σ σ4 f g) : ∀ i, 0 ≤ i → i < 410 → σ4 272 (410 * (σ4 265 18 - 1) + i) = f i := h.2.2.2.1
theorem KM.g1 {σ σ4 : St} {f g : Int → Int} (h : KM σ σ4 f g) : ∀ i, 0 ≤ i → i < 12 → σ4 273 (12 * (σ4 265 18 - 1) + i) = g i := h.2.2.2.2.1
theorem KM.f2 {σ σ4 : St} {f g : Int → Int} (h : KM σ σ4 f g) : ∀ e i, 0 ≤ e → e < σ4 265 18 - 1 → 0 ≤ i → i < 410 → σ4 272 (410 * e + i) = σ 272 (410 * (e + (if σ 265 18 = 10 then 1 else 0)) + i) := h.2.2.2.2.2.1
theorem KM.g2 {σ σ4 : St} {f g : Int → Int} (h : KM σ σ4 f g) : ∀ e i, 0 ≤ e → e < σ4 265 18 - 1 → 0 ≤ i → i < 12 → σ4 273 (12 * e + i) = σ 273 (12 * (e + (if σ 265 18 = 10 then 1 else 0)) + i) := h.2.2.2.2.2.2
section ZZ1
variable {P : Shp} {σ σ' σ1 σ2 σ3 σ4 σ5 s : St} {t f f' f2 g g' : Int → Int} {B B' : Int} {a b b' d k p q kind who m h j c x y i v w part N K D : Int} {n : Nat}
theorem MP.to2 (M : MP P σ t) (h1 : ∀ j, 0 < j → (j = 1 ∨ (10 ≤ j ∧ j ≤ 12) ∨ (14 ≤ j ∧ j ≤ 17) ∨ (19 ≤ j ∧ j ≤ 22)) → σ' 265 j = σ 265 j) (h2 : σ' 268 = σ 268) : MP P σ' t := by
  obtain ⟨a0, a1, a2, a3, a4, a5, a6, a7, a8, a9, a10, a11, a12, a13⟩ := M
  refine ⟨a0, ?_, ?_, ?_, ?_, ?_, ?_, ?_, ?_, ?_, ?_, ?_, ?_, h2.trans a13⟩
  all_goals (rw [h1 _ (by omega) (by omega)]; assumption)
theorem m_cp_s (M : MP P s t) (h0 : 0 ≤ m) (h1 : m < 10) : fX8_copy P s 270 271 0 272 273 m = some (cps (cps s 270 (410 * 0) 272 (410 * m) 410) 271 (12 * 0) 273 (12 * m) 12) :=
  m_copy (fun i i0 i1 => sA270 M.sh (by omega) (by omega)) (fun i i0 i1 => sA272 M.sh (by omega) (by omega)) (fun i i0 i1 => sA271 M.sh (by omega) (by omega)) (fun i i0 i1 => sA273 M.sh (by omega) (by omega)) (Or.inl (by decide)) (Or.inl (by decide)) (by decide)
theorem m_keep (M : MP P σ t) (h0 : 0 ≤ σ 265 18) (h1 : σ 265 18 ≤ 10) : ∃ σ4, fX8_keep P σ 265 = some σ4 ∧ KM σ σ4 (σ 270) (σ 271) := by
  by_cases c : σ 265 18 = 10
  · have l0 := fun kE : St → Option St => loop_v (fun q j (s : St) => fX8_keep_L11 P 265 kE q (j + 1) s) kE 9 (fun k s => cps (cps s 272 (410 * (k + 1)) 272 (410 * (k + 1 - 1)) 410) 273 (12 * (k + 1)) 273 (12 * (k + 1 - 1)) 12) (fun k s => (∀ o, o ≠ 272 → o ≠ 273 → s o = σ o) ∧ (∀ x, 0 ≤ x → s 272 x = if x < 410 * (k : Int) then σ 272 (x + 410) else σ 272 x) ∧ (∀ x, 0 ≤ x → s 273 x = if x < 12 * (k : Int) then σ 273 (x + 12) else σ 273 x))
        (fun k q s hk hI => by
          obtain ⟨i1, i2, i3⟩ := hI
          have hk2 : ¬ ((10 : Int) ≤ (k : Int) + 1) := by omega
          have M : MP P s t := M.to (fun j _ _ => by rw [i1 265 (by omega) (by omega)]) (i1 268 (by omega) (by omega))
          have e := m_copy (P := P) (σ := s) (k := (k : Int) + 1) (m := (k : Int) + 1 - 1) (a0 := 272) (a1 := 273) (a3 := 272) (a4 := 273) (fun i i0 i1 => sA272 M.sh (by omega) (by omega)) (fun i i0 i1 => sA272 M.sh (by omega) (by omega)) (fun i i0 i1 => sA273 M.sh (by omega) (by omega)) (fun i i0 i1 => sA273 M.sh (by omega) (by omega)) (Or.inr (by omega)) (Or.inr (by omega)) (by decide)
          refine ⟨?_, ?_, ?_, ?_⟩
          · simp (disch := first | omega | assumption | (simp (disch := omega) only [ M.q16, M.q17 ]; done) | fail) only [fX8_keep_L11, ↓z_lt, ↓z_ge, ↓z_gt, ↓z_le, ↓z_eq, ↓z_ne, ↓z_mx, ↓z_mn, ↓z_dv, ↓z_rm, ↓z_i2l, ↓z_lc, ↓z_sw, ↓z_sf, ↓z_sn, ↓z_bd, ↓z_nt, z_b0, z_b1, z_bi, z_bj, ↓z_gF, ↓z_gR, ↓z_pF, ↓z_pZ, ↓z_pR, ↓z_aI, ↓z_aR, ↓z_sI, ↓z_sZ, ↓z_on, z_cl, ↓reduceIte, Int.reduceEq, Int.reduceNeg, Int.reduceLT, Int.reduceLE, Int.reduceAdd, Int.reduceSub, Int.reduceMul, true_and, and_true, or_true, true_or, eq_self, st2_f, st2_g, st2_o, M.q1, M.q10, M.q11, M.q12, M.q14, M.q15, M.q16, M.q17, M.q19, M.q20, M.q21, M.q22, M.tl, sO265 M.sh, sA266 M.sh, sA267 M.sh, sA268 M.sh, sA269 M.sh, sA270 M.sh, sA271 M.sh, sA272 M.sh, sA273 M.sh, sA274 M.sh, sA275 M.sh, sA276 M.sh, sA277 M.sh, iR_t, hk2, ↓e_g e]
          · intro o h1 h2; rw [cps_o h2, cps_o h1]; exact i1 o h1 h2
          · intro x x0
            rw [cps_no (by omega)]
            by_cases z : 410 * ((k : Int) + 1 - 1) ≤ x ∧ x < 410 * ((k : Int) + 1 - 1) + 410
            · rw [cps_at z.1 z.2, i2 _ (by omega), if_neg (by omega), if_pos (by push_cast; omega)]
              congr 1; omega
            · rw [cps_no (by omega), i2 x x0]
              by_cases y : x < 410 * (k : Int)
              · rw [if_pos y, if_pos (by push_cast; omega)]
              · rw [if_neg y, if_neg (by push_cast; omega)]
          · intro x x0
            by_cases z : 12 * ((k : Int) + 1 - 1) ≤ x ∧ x < 12 * ((k : Int) + 1 - 1) + 12
            · rw [cps_at z.1 z.2, cps_no (by omega), i3 _ (by omega), if_neg (by omega), if_pos (by push_cast; omega)]
              congr 1; omega
            · rw [cps_no (by omega), cps_no (by omega), i3 x x0]
              by_cases y : x < 12 * (k : Int)
              · rw [if_pos y, if_pos (by push_cast; omega)]
              · rw [if_neg y, if_neg (by push_cast; omega)])
        (fun q s hI => by
          show fX8_keep_L11 P 265 kE (q + 1) 10 s = _
          simp (disch := first | omega | assumption) only [fX8_keep_L11, ↓z_lt, ↓z_ge, ↓z_gt, ↓z_le, ↓z_eq, ↓z_ne, ↓z_mx, ↓z_mn, ↓z_dv, ↓z_rm, ↓z_i2l, ↓z_lc, ↓z_sw, ↓z_sf, ↓z_sn, ↓z_bd, ↓z_nt, z_b0, z_b1, z_bi, z_bj, ↓z_gF, ↓z_gR, ↓z_pF, ↓z_pZ, ↓z_pR, ↓z_aI, ↓z_aR, ↓z_sI, ↓z_sZ, ↓z_on, z_cl, ↓reduceIte, Int.reduceEq, Int.reduceNeg, Int.reduceLT, Int.reduceLE, Int.reduceAdd, Int.reduceSub, Int.reduceMul, true_and, and_true, or_true, true_or, eq_self, st2_f, st2_g, st2_o, M.q1, M.q10, M.q11, M.q12, M.q14, M.q15, M.q16, M.q17, M.q19, M.q20, M.q21, M.q22, M.tl, sO265 M.sh, sA266 M.sh, sA267 M.sh, sA268 M.sh, sA269 M.sh, sA270 M.sh, sA271 M.sh, sA272 M.sh, sA273 M.sh, sA274 M.sh, sA275 M.sh, sA276 M.sh, sA277 M.sh, iR_t, Int.le_refl]) (m := 1000) (a := σ) (by omega) ⟨fun _ _ _ => rfl, fun x x0 => by rw [if_neg (by push_cast; omega)], fun x x0 => by rw [if_neg (by push_cast; omega)]⟩
    have l1 : ∀ kE : St → Option St, fX8_keep_L11 P 265 kE 1000 1 σ = kE _ := fun kE => (l0 kE).1
    have l2 := (l0 some).2
    clear l0
    generalize forI (fun k s => cps (cps s 272 (410 * (k + 1)) 272 (410 * (k + 1 - 1)) 410) 273 (12 * (k + 1)) 273 (12 * (k + 1 - 1)) 12) 9 σ = s at l1 l2
    obtain ⟨i1, i2, i3⟩ := l2
    have q18 : s 265 18 = 10 := by rw [i1 265 (by omega) (by omega)]; exact c
    have M2 : MP P (wr s 265 18 9) t := M.to2 (fun j h1 h2 => by rw [wr_i (by omega), i1 265 (by omega) (by omega)]) (by rw [wr_o (by omega)]; exact i1 268 (by omega) (by omega))
    have e2 := m_cp_s M2 (m := 9) (by omega) (by omega)
    have eq9 : (410 : Int) * 0 = 0 ∧ (12 : Int) * 0 = 0 ∧ (410 : Int) * 9 = 3690 ∧ (12 : Int) * 9 = 108 := by decide
    rw [eq9.1, eq9.2.1, eq9.2.2.1, eq9.2.2.2] at e2
    have w18 : (wr s 265 18 9) 265 18 = 9 := wr_s
    have w19 : cps (cps (wr s 265 18 9) 270 0 272 3690 410) 271 0 273 108 12 265 18 = 9 := by rw [cps_n (by omega), cps_n (by omega)]; exact w18
    refine ⟨wr (cps (cps (wr s 265 18 9) 270 0 272 3690 410) 271 0 273 108 12) 265 18 10, ?_, ?_⟩
    · simp (disch := first | omega | assumption | (simp (disch := omega) only [ M2.q14, M2.q15, M2.q16, M2.q17, w18, q18, Int.reduceSub ]; done) | fail) only [fX8_keep, ↓z_lt, ↓z_ge, ↓z_gt, ↓z_le, ↓z_eq, ↓z_ne, ↓z_mx, ↓z_mn, ↓z_dv, ↓z_rm, ↓z_i2l, ↓z_lc, ↓z_sw, ↓z_sf, ↓z_sn, ↓z_bd, ↓z_nt, z_b0, z_b1, z_bi, z_bj, ↓z_gF, ↓z_gR, ↓z_pF, ↓z_pZ, ↓z_pR, ↓z_aI, ↓z_aR, ↓z_sI, ↓z_sZ, ↓z_on, z_cl, ↓reduceIte, Int.reduceEq, Int.reduceNeg, Int.reduceLT, Int.reduceLE, Int.reduceAdd, Int.reduceSub, Int.reduceMul, true_and, and_true, or_true, true_or, eq_self, st2_f, st2_g, st2_o, M.q1, M.q10, M.q11, M.q12, M.q14, M.q15, M.q16, M.q17, M.q19, M.q20, M.q21, M.q22, M.tl, sO265 M.sh, sA266 M.sh, sA267 M.sh, sA268 M.sh, sA269 M.sh, sA270 M.sh, sA271 M.sh, sA272 M.sh, sA273 M.sh, sA274 M.sh, sA275 M.sh, sA276 M.sh, sA277 M.sh, iR_t, c, ↓l1, q18, ↓e_g e2, M2.q14, M2.q15, M2.q16, M2.q17, w18, w19]
    · refine ⟨fun o h1 h2 h3 => ?_, fun j hj => ?_, ?_, ?_, ?_, ?_, ?_⟩
      · rw [wr_o h1, cps_o h3, cps_o h2, wr_o h1]; exact i1 o h2 h3
      · rw [wr_i hj, cps_n (by omega), cps_n (by omega), wr_i hj, i1 265 (by omega) (by omega)]
      · rw [wr_s, if_pos c]
      · intro i i0 i1'
        rw [wr_s, wr_n (by omega), cps_n (by omega), cps_at (by omega) (by omega), wr_n (by omega), i1 270 (by omega) (by omega)]
        congr 1; omega
      · intro i i0 i1'
        rw [wr_s, wr_n (by omega), cps_at (by omega) (by omega), cps_n (by omega), wr_n (by omega), i1 271 (by omega) (by omega)]
        congr 1; omega
      · intro e i e0 e1 i0 i1'
        rw [wr_s] at e1
        rw [wr_n (by omega), cps_n (by omega), cps_no (by omega), wr_n (by omega), i2 _ (by omega), if_pos (by omega), if_pos c]
        congr 1; omega
      · intro e i e0 e1 i0 i1'
        rw [wr_s] at e1
        rw [wr_n (by omega), cps_no (by omega), cps_n (by omega), wr_n (by omega), i3 _ (by omega), if_pos (by omega), if_pos c]
        congr 1; omega
  · have e2 := m_cp_s M (m := σ 265 18) (by omega) (by omega)
    have eq9 : (410 : Int) * 0 = 0 ∧ (12 : Int) * 0 = 0 := by decide
    rw [eq9.1, eq9.2] at e2
    have w19 : cps (cps σ 270 0 272 (410 * σ 265 18) 410) 271 0 273 (12 * σ 265 18) 12 265 18 = σ 265 18 := by rw [cps_n (by omega), cps_n (by omega)]
    refine ⟨wr (cps (cps σ 270 0 272 (410 * σ 265 18) 410) 271 0 273 (12 * σ 265 18) 12) 265 18 (σ 265 18 + 1), ?_, ?_⟩
    · simp (disch := first | omega | assumption | (simp (disch := omega) only [ M.q14, M.q15, M.q16, M.q17 ]; done) | fail) only [fX8_keep, ↓z_lt, ↓z_ge, ↓z_gt, ↓z_le, ↓z_eq, ↓z_ne, ↓z_mx, ↓z_mn, ↓z_dv, ↓z_rm, ↓z_i2l, ↓z_lc, ↓z_sw, ↓z_sf, ↓z_sn, ↓z_bd, ↓z_nt, z_b0, z_b1, z_bi, z_bj, ↓z_gF, ↓z_gR, ↓z_pF, ↓z_pZ, ↓z_pR, ↓z_aI, ↓z_aR, ↓z_sI, ↓z_sZ, ↓z_on, z_cl, ↓reduceIte, Int.reduceEq, Int.reduceNeg, Int.reduceLT, Int.reduceLE, Int.reduceAdd, Int.reduceSub, Int.reduceMul, true_and, and_true, or_true, true_or, eq_self, st2_f, st2_g, st2_o, M.q1, M.q10, M.q11, M.q12, M.q14, M.q15, M.q16, M.q17, M.q19, M.q20, M.q21, M.q22, M.tl, sO265 M.sh, sA266 M.sh, sA267 M.sh, sA268 M.sh, sA269 M.sh, sA270 M.sh, sA271 M.sh, sA272 M.sh, sA273 M.sh, sA274 M.sh, sA275 M.sh, sA276 M.sh, sA277 M.sh, iR_t, c, ↓e_g e2, w19]
    · have d' : (wr (cps (cps σ 270 0 272 (410 * σ 265 18) 410) 271 0 273 (12 * σ 265 18) 12) 265 18 (σ 265 18 + 1)) 265 18 = σ 265 18 + 1 := wr_s
      refine ⟨fun o h1 h2 h3 => ?_, fun j hj => ?_, ?_, ?_, ?_, ?_, ?_⟩
      · rw [wr_o h1, cps_o h3, cps_o h2]
      · rw [wr_i hj, cps_n (by omega), cps_n (by omega)]
      · rw [wr_s, if_neg c]
      · intro i i0 i1'
        rw [d', wr_n (by omega), cps_n (by omega), cps_at (by omega) (by omega)]
        congr 1; omega
      · intro i i0 i1'
        rw [d', wr_n (by omega), cps_at (by omega) (by omega), cps_n (by omega)]
        congr 1; omega
      · intro e i e0 e1 i0 i1'
        rw [d'] at e1
        rw [wr_n (by omega), cps_n (by omega), cps_no (by omega), if_neg c, Int.add_zero]
      · intro e i e0 e1 i0 i1'
        rw [d'] at e1
        rw [wr_n (by omega), cps_no (by omega), cps_n (by omega), if_neg c, Int.add_zero]
theorem SP.fr (S : SP σ b) (e : ∀ o, b ≤ o → o ≤ b + 17 → σ' o = σ o) : SP σ' b := by
  unfold SP at S ⊢
  rw [e b (by omega) (by omega), e (b + 7) (by omega) (by omega), e (b + 13) (by omega) (by omega)]
  exact S
theorem PP.fr (S : PP σ p) (e : σ' p = σ p) : PP σ' p := by
  unfold PP at S ⊢
  rw [e]
  exact S
theorem GR.to (G : GR P σ p t B) (e : ∀ o, o ≠ 265 → o ≠ 277 → o ≠ 278 → σ' o = σ o) (e2 : ∀ j, 0 < j → (j < 3 ∨ 9 < j) → σ' 265 j = σ 265 j) : GR P σ' p t B := by
  have hp := G.cr.pr.hp
  obtain ⟨cr, mp, tv, fv, cv, x0, x1, x2, x3, x4, r0, r9, r11, r12, r13, rq, h0, hn, hk, hd, hs, hr, ss, st, bf, bb⟩ := G
  have eo : ∀ o, o < 265 → σ' o = σ o := fun o ho => e o (by omega) (by omega) (by omega)
  have E : σ' 270 = σ 270 ∧ σ' 271 = σ 271 ∧ σ' 272 = σ 272 ∧ σ' 273 = σ 273 ∧ σ' 274 = σ 274 ∧ σ' 275 = σ 275 ∧ σ' 276 = σ 276 ∧ σ' 266 = σ 266 := ⟨e _ (by omega) (by omega) (by omega), e _ (by omega) (by omega) (by omega), e _ (by omega) (by omega) (by omega), e _ (by omega) (by omega) (by omega), e _ (by omega) (by omega) (by omega), e _ (by omega) (by omega) (by omega), e _ (by omega) (by omega) (by omega), e _ (by omega) (by omega) (by omega)⟩
  obtain ⟨E0, E1, E2, E3, E4, E5, E6, E7⟩ := E
  refine ⟨?_, ?_, tv, ?_, ?_, ?_, ?_, ?_, ?_, ?_, ?_, ?_, ?_, ?_, ?_, ?_, ?_, ?_, ?_, ?_, ?_, ?_, ?_, ?_, ?_, ?_⟩
  · rw [E0, E1]
    refine ⟨cr.sh, ?_, ?_, ?_, cr.s.fr fun o _ _ => eo o (by omega)⟩
    · rw [eo 16 (by omega)]; exact cr.h0
    · rw [eo 16 (by omega)]; exact cr.h1
    · exact cr.pr.ag fun o _ _ => eo o (by omega)
  · exact mp.to (fun j j0 j1 => e2 j j0 (by omega)) (e 268 (by omega) (by omega) (by omega))
  · rw [E0, E1]; exact fv
  · rw [E0]; exact cv
  · rw [eo 0 (by omega)]; exact x0
  · rw [eo 0 (by omega)]; exact x1
  · rw [eo 0 (by omega)]; exact x2
  · rw [eo 0 (by omega)]; exact x3
  · rw [eo 0 (by omega)]; exact x4
  · rw [eo 1 (by omega)]; exact r0
  · rw [eo 1 (by omega)]; exact r9
  · rw [eo 1 (by omega)]; exact r11
  · rw [eo 1 (by omega)]; exact r12
  · rw [eo 1 (by omega)]; exact r13
  · unfold PP at rq ⊢
    rw [eo (20 - p) (by omega)]; exact rq
  · rw [eo 45 (by omega)]; exact h0
  · rw [eo 45 (by omega)]; exact hn
  · rw [eo 45 (by omega)]; exact hk
  · rw [eo 45 (by omega), e2 18 (by omega) (by omega)]; exact hd
  · intro i i0 i1
    have q := hs i i0 i1
    rw [eo 46 (by omega)]
    refine ⟨q.1, ?_⟩
    exact q.2.fr fun o _ _ => eo o (by omega)
  · intro j j0 j1
    rw [eo 45 (by omega)] at j1 ⊢
    rw [E2, E3]
    exact (hr j j0 j1).fr fun o _ _ => eo o (by omega)
  · intro i i0 i1
    have q := ss i i0 i1
    rw [eo 227 (by omega)]
    refine ⟨q.1, ?_⟩
    exact q.2.fr fun o _ _ => eo o (by omega)
  · intro i i0 i1
    rw [eo 228 (by omega), E4, E5, E6]
    have q := st i i0 i1
    exact ⟨q.1, q.2.1, fun z => (q.2.2 z).fr fun o _ _ => eo o (by omega)⟩
  · rw [eo 1 (by omega), e2 2 (by omega) (by omega)]; exact bf
  · rw [eo 1 (by omega), eo 2 (by omega), E7]; exact bb
end ZZ1
