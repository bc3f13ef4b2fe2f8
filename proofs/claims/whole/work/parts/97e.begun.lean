/-! PARSE without a fault: the class. -/
section ZZA6
variable {P : Shp} {σ σ' σ0 σ1 σ2 s τ τ' τ0 τ1 τ2 : St} {t f g h d d' : Int → Int} {a b c e i j k p x y z v w q B : Int}
theorem c_flags (sh : ShpIs P 279 PL) (x4 : s 0 4 = 228) (kE : St → Option ((Int × St) ⊕ Nat)) (m : Nat) : fX7_parse_L84 P 0 kE (m + 3) 0 s = kE (wr (wr s 228 0 0) 228 1 0) := by
  have S : ∀ (m : Nat) (k : Int) (s : St), s 0 4 = 228 → 0 ≤ k → k < 2 → fX7_parse_L84 P 0 kE (m + 1) k s = fX7_parse_L84 P 0 kE m (k + 1) (wr s 228 k 0) := by
    intro m k s h k0 k8
    have k1 : ¬ (2 ≤ k) := by omega
    simp (disch := first | omega | assumption) only [fX7_parse_L84, ↓z_lt, ↓z_ge, ↓z_gt, ↓z_le, ↓z_eq, ↓z_ne, ↓z_mx, ↓z_mn, ↓z_dv, ↓z_rm, ↓z_i2l, ↓z_lc, ↓z_sw, ↓z_sf, ↓z_sn, ↓z_bd, ↓z_nt, z_b0, z_b1, z_bi, z_bj, ↓z_gF, ↓z_gR, ↓z_pF, ↓z_pZ, ↓z_pR, ↓z_aI, ↓z_aR, ↓z_sI, ↓z_sZ, ↓z_on, z_cl, ↓reduceIte, Int.reduceEq, Int.reduceNeg, Int.reduceLT, Int.reduceLE, Int.reduceAdd, Int.reduceSub, Int.reduceMul, true_and, and_true, or_true, true_or, eq_self, iR_t, sO0 sh, sA228 sh, h, k1]
  have E : ∀ (m : Nat) (s : St), fX7_parse_L84 P 0 kE (m + 1) 2 s = kE s := by
    intro m s
    simp (disch := first | omega | assumption) only [fX7_parse_L84, ↓z_lt, ↓z_ge, ↓z_gt, ↓z_le, ↓z_eq, ↓z_ne, ↓z_mx, ↓z_mn, ↓z_dv, ↓z_rm, ↓z_i2l, ↓z_lc, ↓z_sw, ↓z_sf, ↓z_sn, ↓z_bd, ↓z_nt, z_b0, z_b1, z_bi, z_bj, ↓z_gF, ↓z_gR, ↓z_pF, ↓z_pZ, ↓z_pR, ↓z_aI, ↓z_aR, ↓z_sI, ↓z_sZ, ↓z_on, z_cl, ↓reduceIte, Int.reduceEq, Int.reduceNeg, Int.reduceLT, Int.reduceLE, Int.reduceAdd, Int.reduceSub, Int.reduceMul, true_and, and_true, or_true, true_or, eq_self, iR_t]
  rw [show m + 3 = (m + 2) + 1 from rfl, S (m + 2) 0 s x4 (by omega) (by omega), show (0 : Int) + 1 = 1 from rfl, show m + 2 = (m + 1) + 1 from rfl, S (m + 1) 1 _ (by rw [wr_n (by omega)]; exact x4) (by omega) (by omega), show (1 : Int) + 1 = 2 from rfl, E]
def PS (P : Shp) (σ s3 : St) (p q : Int) (t f g : Int → Int) : Prop :=
  (CR P s3 q t f g) ∧
  (∀ o, o ≠ 1 → (o < q ∨ q + 9 < o) → (o < 13 ∨ 16 < o) → (o < 27 ∨ 45 < o) → o ≠ 228 → o ≠ 278 → s3 o = σ o) ∧
  (∀ j, (j < 1 ∨ 10 < j) → s3 1 j = σ 1 j) ∧
  (s3 1 1 = 0) ∧
  (s3 1 9 = p) ∧
  (s3 45 0 = σ 45 0) ∧
  (s3 45 1 = 0) ∧
  (s3 45 2 = σ 45 2) ∧
  (s3 228 0 = 0 ∧ s3 228 1 = 0)
theorem PS.cr {P : Shp} {σ s3 : St} {p q : Int} {t f g : Int → Int} (h : PS P σ s3 p q t f g) : CR P s3 q t f g := h.1
theorem PS.oo {P : Shp} {σ s3 : St} {p q : Int} {t f g : Int → Int} (h : PS P σ s3 p q t f g) : ∀ o, o ≠ 1 → (o < q ∨ q + 9 < o) → (o < 13 ∨ 16 < o) → (o < 27 ∨ 45 < o) → o ≠ 228 → o ≠ 278 → s3 o = σ o := h.2.1
theorem PS.j1 {P : Shp} {σ s3 : St} {p q : Int} {t f g : Int → Int} (h : PS P σ s3 p q t f g) : ∀ j, (j < 1 ∨ 10 < j) → s3 1 j = σ 1 j := h.2.2.1
theorem PS.z1 {P : Shp} {σ s3 : St} {p q : Int} {t f g : Int → Int} (h : PS P σ s3 p q t f g) : s3 1 1 = 0 := h.2.2.2.1
theorem PS.z9 {P : Shp} {σ s3 : St} {p q : Int} {t f g : Int → Int} (h : PS P σ s3 p q t f g) : s3 1 9 = p := h.2.2.2.2.1
theorem PS.h0 {P : Shp} {σ s3 : St} {p q : Int} {t f g : Int → Int} (h : PS P σ s3 p q t f g) : s3 45 0 = σ 45 0 := h.2.2.2.2.2.1
theorem PS.h1 {P : Shp} {σ s3 : St} {p q : Int} {t f g : Int → Int} (h : PS P σ s3 p q t f g) : s3 45 1 = 0 := h.2.2.2.2.2.2.1
theorem PS.h2 {P : Shp} {σ s3 : St} {p q : Int} {t f g : Int → Int} (h : PS P σ s3 p q t f g) : s3 45 2 = σ 45 2 := h.2.2.2.2.2.2.2.1
theorem PS.w0 {P : Shp} {σ s3 : St} {p q : Int} {t f g : Int → Int} (h : PS P σ s3 p q t f g) : s3 228 0 = 0 ∧ s3 228 1 = 0 := h.2.2.2.2.2.2.2.2
theorem c_parE {sC s9 : St} {n2 : Int} (sh : ShpIs P 279 PL) (ha : iR a = true) (a0 : 0 ≤ a) (a1 : a ≤ z) (zR : iR z = true) (hz : σ 1 1 = z) (hp1 : ¬ (p = -1)) (hq : q = 3 ∨ q = 17) (x0 : σ 0 0 = 1) (r : fX5_read P σ 1 a = some (1, σ')) (y0 : σ' 0 0 = 1) (w00 : wr σ' 1 1 0 0 0 = 1) (w01 : wr σ' 1 1 0 0 1 = 16) (w16 : wr σ' 1 1 0 16 0 = p) (ex : fX5_exchangePlan P (wr σ' 1 1 0) 1 p = some (q, s)) (rb : fX2_begin P s 16 q = some sC) (x2 : sC 0 2 = 45) (eh : fX1_clear P sC 45 = some (wr sC 45 1 0)) (fl : ∀ kE, fX7_parse_L84 P 0 kE 1000 0 (wr sC 45 1 0) = kE s9) (z0 : s9 0 1 = 16) (z16 : s9 16 0 = q) (zq : s9 q 6 = n2) (rv : iR n2 = true) : fL_parse P σ 0 a 278 = some (0, wr s9 278 0 n2) := by
  have k1 : ¬ (a < 0) := by omega
  have hq1 : ¬ (q = -1) := by omega
  have H : fX7_parse P σ 0 a = some (.inl (n2, s9)) := by
    simp (disch := first | omega | assumption | (simp (disch := omega) only [ x0, hz, y0, w00, w01, w16, x2 ]; done) | fail) only [fX7_parse, ↓z_lt, ↓z_ge, ↓z_gt, ↓z_le, ↓z_eq, ↓z_ne, ↓z_mx, ↓z_mn, ↓z_dv, ↓z_rm, ↓z_i2l, ↓z_lc, ↓z_sw, ↓z_sf, ↓z_sn, ↓z_bd, ↓z_nt, z_b0, z_b1, z_bi, z_bj, ↓z_gF, ↓z_gR, ↓z_pF, ↓z_pZ, ↓z_pR, ↓z_aI, ↓z_aR, ↓z_sI, ↓z_sZ, ↓z_on, z_cl, ↓reduceIte, Int.reduceEq, Int.reduceNeg, Int.reduceLT, Int.reduceLE, Int.reduceAdd, Int.reduceSub, Int.reduceMul, true_and, and_true, or_true, true_or, eq_self, iR_t, sO0 sh, sO1 sh, sO16 sh, sO45 sh, pO sh hq, x0, hz, y0, w00, w01, w16, hp1, hq1, k1, a1, ha, zR, ↓e_g r, ↓e_g ex, ↓e_g rb, x2, ↓e_g eh, fl, z0, z16, zq]
  simp (disch := first | omega | assumption) only [fL_parse, trc, H, ↓z_lt, ↓z_ge, ↓z_gt, ↓z_le, ↓z_eq, ↓z_ne, ↓z_mx, ↓z_mn, ↓z_dv, ↓z_rm, ↓z_i2l, ↓z_lc, ↓z_sw, ↓z_sf, ↓z_sn, ↓z_bd, ↓z_nt, z_b0, z_b1, z_bi, z_bj, ↓z_gF, ↓z_gR, ↓z_pF, ↓z_pZ, ↓z_pR, ↓z_aI, ↓z_aR, ↓z_sI, ↓z_sZ, ↓z_on, z_cl, ↓reduceIte, Int.reduceEq, Int.reduceNeg, Int.reduceLT, Int.reduceLE, Int.reduceAdd, Int.reduceSub, Int.reduceMul, true_and, and_true, or_true, true_or, eq_self, iR_t, sO0 sh, sA278 sh, rv]
theorem c_parS (G : GR P σ p t B) (h9 : 9999 ≤ B) (hB : B ≤ 1900000000) (ha : iR a = true) (a0 : 0 ≤ a) (a1 : a ≤ σ 1 1) (hq : q = 20 - p) (F : CF0 q σ σ') (r : fX5_read P σ 1 a = some (1, σ')) (R : PR σ' q d) (T : TV d) (d5 : 0 ≤ d 5) (hd : ∀ k, 0 ≤ k → k < d 1 → 0 ≤ d (55 + k)) : ∃ s3, fL_parse P σ 0 a 278 = some (0, s3) ∧ s3 278 0 = d 2 ∧ PS P σ s3 p q (tkT d t) (setF (tkT d t) (frF (tkT d t) (σ 270))) (frG (σ 271)) ∧ CV (setF (tkT d t) (frF (tkT d t) (σ 270))) ∧ FV (B + 24) (tkT d t) (setF (tkT d t) (frF (tkT d t) (σ 270))) (frG (σ 271)) := by
  have sh := G.cr.sh
  have hp := G.cr.pr.hp
  have hq3 : q = 3 ∨ q = 17 := by omega
  have hq1 : ¬ (q = -1) := by omega
  have hp1 : ¬ (p = -1) := by omega
  have bf := G.bf
  have n1 := T.n1
  have n2 := T.n2
  have T' := T.tk G.tv
  have E : ∀ j, 0 ≤ j → j < 107 → tkT d t j = d j := fun j h0 h1 => tk_in h0 h1
  have FV0 := frF_FV (f := σ 270) (g := σ 271) T' ⟨by omega, by omega⟩ G.fv.bl G.fv.bg (by rw [E 5 (by omega) (by omega)]; exact d5) h9 (fun k k0 k1 => by
    rw [E 1 (by omega) (by omega)] at k1
    rw [E _ (by omega) (by omega)]; exact hd k k0 k1)
  have CV0 : CV (frF (tkT d t) (σ 270)) := CV_0 (frF_s T' (by omega) (by omega))
  have b1 : iR (σ 1 1) = true := iR_t (by omega) (by omega)
  have k1 : ¬ (a < 0) := by omega
  have x0 := G.x0
  have s0 : σ' 0 = σ 0 := F.oo 0 (by omega) (by omega) (by omega)
  have s16 : σ' 16 = σ 16 := F.oo 16 (by omega) (by omega) (by omega)
  have y0 : σ' 0 0 = 1 := by rw [s0]; exact G.x0
  have w00 : wr σ' 1 1 0 0 0 = 1 := by rw [wr_n (by omega)]; exact y0
  have w01 : wr σ' 1 1 0 0 1 = 16 := by rw [wr_n (by omega), s0]; exact G.x1
  have w16 : wr σ' 1 1 0 16 0 = p := by rw [wr_n (by omega), s16]; exact G.cr.h0
  have ex : fX5_exchangePlan P (wr σ' 1 1 0) 1 p = some (q, wr (wr σ' 1 1 0) 1 9 p) := by
    have w9 : wr σ' 1 1 0 1 9 = q := by rw [wr_i (by omega), F.jj 9 (by omega) (by omega), hq]; exact G.r9
    simp (disch := first | omega | assumption) only [fX5_exchangePlan, ↓z_lt, ↓z_ge, ↓z_gt, ↓z_le, ↓z_eq, ↓z_ne, ↓z_mx, ↓z_mn, ↓z_dv, ↓z_rm, ↓z_i2l, ↓z_lc, ↓z_sw, ↓z_sf, ↓z_sn, ↓z_bd, ↓z_nt, z_b0, z_b1, z_bi, z_bj, ↓z_gF, ↓z_gR, ↓z_pF, ↓z_pZ, ↓z_pR, ↓z_aI, ↓z_aR, ↓z_sI, ↓z_sZ, ↓z_on, z_cl, ↓reduceIte, Int.reduceEq, Int.reduceNeg, Int.reduceLT, Int.reduceLE, Int.reduceAdd, Int.reduceSub, Int.reduceMul, true_and, and_true, or_true, true_or, eq_self, sO1 sh, w9, hq1, hp1]
  -- begin
  have W : ∀ o, o ≠ 1 → o ≠ 16 → wr (wr (wr σ' 1 1 0) 1 9 p) 16 0 q o = σ' o := fun o h1 h2 => by rw [wr_o h2, wr_o h1, wr_o h1]
  have W1 : ∀ j, j ≠ 1 → j ≠ 9 → wr (wr (wr σ' 1 1 0) 1 9 p) 16 0 q 1 j = σ' 1 j := fun j h1 h2 => by rw [wr_n (by omega), wr_i h2, wr_i h1]
  have W11 : wr (wr (wr σ' 1 1 0) 1 9 p) 16 0 q 1 1 = 0 := by rw [wr_n (by omega), wr_i (by omega), wr_s]
  have W19 : wr (wr (wr σ' 1 1 0) 1 9 p) 16 0 q 1 9 = p := by rw [wr_n (by omega), wr_s]
  have W160 : wr (wr (wr σ' 1 1 0) 1 9 p) 16 0 q 16 0 = q := wr_s
  have W161 : wr (wr (wr σ' 1 1 0) 1 9 p) 16 0 q 16 1 = 27 := by rw [wr_i (by omega), wr_n (by omega), wr_n (by omega), s16]; exact G.cr.h1
  have v16 : okO P 2 16 = true := sO16 sh
  have e2 : ∀ (sB sC : St), fX6_begin P (wr (wr (wr σ' 1 1 0) 1 9 p) 16 0 q) 27 q = some sB → fX2_settle P sB 16 = some sC → fX2_begin P (wr (wr σ' 1 1 0) 1 9 p) 16 q = some sC := fun sB sC h1 h2 => by
    simp (disch := first | omega | assumption | (simp (disch := omega) only [ W161 ]; done) | fail) only [fX2_begin, ↓z_lt, ↓z_ge, ↓z_gt, ↓z_le, ↓z_eq, ↓z_ne, ↓z_mx, ↓z_mn, ↓z_dv, ↓z_rm, ↓z_i2l, ↓z_lc, ↓z_sw, ↓z_sf, ↓z_sn, ↓z_bd, ↓z_nt, z_b0, z_b1, z_bi, z_bj, ↓z_gF, ↓z_gR, ↓z_pF, ↓z_pZ, ↓z_pR, ↓z_aI, ↓z_aR, ↓z_sI, ↓z_sZ, ↓z_on, z_cl, ↓reduceIte, Int.reduceEq, Int.reduceNeg, Int.reduceLT, Int.reduceLE, Int.reduceAdd, Int.reduceSub, Int.reduceMul, true_and, and_true, or_true, true_or, eq_self, sO16 sh, sO27 sh, W161, hq1, ↓e_g h1, ↓e_cl h2]
  generalize wr (wr (wr σ' 1 1 0) 1 9 p) 16 0 q = s1 at *
  have R1 : PR s1 q (tkT d t) := (R.tk T).ag fun o h1 h2 => W o (by omega) (by omega)
  have S1 : SP s1 27 := G.cr.s.sp.fr fun o h1 h2 => by rw [W o (by omega) (by omega)]; exact F.oo o (by omega) (by omega) (by omega)
  obtain ⟨sB, rB, SB, fB⟩ := c_begin (f := σ 270) (g := σ 271) sh hq3 T' R1 S1
  have CB : CR P sB q (tkT d t) (frF (tkT d t) (σ 270)) (frG (σ 271)) := ⟨sh, by rw [fB 16 (by omega)]; exact W160, by rw [fB 16 (by omega)]; exact W161, R1.fr fB, SB⟩
  obtain ⟨sC, rC, CC, VC, fC⟩ := c_settle CB T' FV0 CV0 (by omega) (by omega)
  have FC := FV0.set T' (by omega) (by omega)
  have f5 : Fr s1 sC := fB.tr fC
  have rb := e2 sB sC rB rC
  have K : ∀ o, o ≠ 1 → (o < q ∨ q + 9 < o) → (o < 13 ∨ 16 < o) → (o < 27 ∨ 44 < o) → sC o = σ o := fun o h1 h2 h3 h4 => by
    rw [f5 o h4, W o h1 (by omega)]; exact F.oo o h1 h2 (by omega)
  have K0 : sC 0 = σ 0 := K 0 (by omega) (by omega) (by omega) (by omega)
  have K1 : ∀ j, (j < 1 ∨ 10 < j) → sC 1 j = σ 1 j := fun j hj => by
    rw [f5 1 (by omega), W1 j (by omega) (by omega)]; exact F.jj j (by omega) (by omega)
  have K11 : sC 1 1 = 0 := by rw [f5 1 (by omega)]; exact W11
  have K19 : sC 1 9 = p := by rw [f5 1 (by omega)]; exact W19
  have K45 : sC 45 = σ 45 := K 45 (by omega) (by omega) (by omega) (by omega)
  have x2 : sC 0 2 = 45 := by rw [K0]; exact G.x2
  have x4 : wr sC 45 1 0 0 4 = 228 := by rw [wr_n (by omega), K0]; exact G.x4
  have eh : fX1_clear P sC 45 = some (wr sC 45 1 0) := by
    simp (disch := first | omega | assumption) only [fX1_clear, ↓z_lt, ↓z_ge, ↓z_gt, ↓z_le, ↓z_eq, ↓z_ne, ↓z_mx, ↓z_mn, ↓z_dv, ↓z_rm, ↓z_i2l, ↓z_lc, ↓z_sw, ↓z_sf, ↓z_sn, ↓z_bd, ↓z_nt, z_b0, z_b1, z_bi, z_bj, ↓z_gF, ↓z_gR, ↓z_pF, ↓z_pZ, ↓z_pR, ↓z_aI, ↓z_aR, ↓z_sI, ↓z_sZ, ↓z_on, z_cl, ↓reduceIte, Int.reduceEq, Int.reduceNeg, Int.reduceLT, Int.reduceLE, Int.reduceAdd, Int.reduceSub, Int.reduceMul, true_and, and_true, or_true, true_or, eq_self, sO45 sh]
  have V0 : ∀ o, o ≠ 45 → o ≠ 228 → wr (wr (wr sC 45 1 0) 228 0 0) 228 1 0 o = sC o := fun o h1 h2 => by rw [wr_o h2, wr_o h2, wr_o h1]
  have V45 : ∀ j, j ≠ 1 → wr (wr (wr sC 45 1 0) 228 0 0) 228 1 0 45 j = sC 45 j := fun j hj => by rw [wr_n (by omega), wr_n (by omega), wr_i hj]
  have V451 : wr (wr (wr sC 45 1 0) 228 0 0) 228 1 0 45 1 = 0 := by rw [wr_n (by omega), wr_n (by omega), wr_s]
  have V228 : wr (wr (wr sC 45 1 0) 228 0 0) 228 1 0 228 0 = 0 ∧ wr (wr (wr sC 45 1 0) 228 0 0) 228 1 0 228 1 = 0 := ⟨by rw [wr_i (by omega), wr_s], by rw [wr_s]⟩
  have fl := fun kE => c_flags (s := wr sC 45 1 0) sh x4 kE 997
  have z0 : wr (wr (wr sC 45 1 0) 228 0 0) 228 1 0 0 1 = 16 := by rw [V0 0 (by omega) (by omega), K0]; exact G.x1
  have z16 : wr (wr (wr sC 45 1 0) 228 0 0) 228 1 0 16 0 = q := by rw [V0 16 (by omega) (by omega)]; exact CC.h0
  have zq : wr (wr (wr sC 45 1 0) 228 0 0) 228 1 0 q 6 = d 2 := by
    rw [V0 q (by omega) (by omega)]
    exact CC.pr.v6.trans (E 2 (by omega) (by omega))
  have rv : iR (d 2) = true := iR_t (by omega) (by omega)
  refine ⟨wr (wr (wr (wr sC 45 1 0) 228 0 0) 228 1 0) 278 0 (d 2), ?_, wr_s, ?_, VC, FC⟩
  · exact c_parE sh ha a0 a1 b1 rfl hp1 hq3 x0 r y0 w00 w01 w16 ex rb x2 eh fl z0 z16 zq rv
  · refine ⟨⟨sh, ?_, ?_, ?_, CC.s.fr fun o h1 h2 => ?_⟩, fun o h1 h2 h3 h4 h5 h6 => ?_, fun j hj => ?_, ?_, ?_, ?_, ?_, ?_, ?_⟩
    · rw [wr_n (by omega)]; exact z16
    · rw [wr_n (by omega), V0 16 (by omega) (by omega)]; exact CC.h1
    · exact CC.pr.ag fun o h1 h2 => by rw [wr_o (by omega)]; exact V0 o (by omega) (by omega)
    · rw [wr_o (by omega)]; exact V0 o (by omega) (by omega)
    · rw [wr_o h6, V0 o (by omega) h5]; exact K o h1 h2 h3 (by omega)
    · rw [wr_n (by omega), V0 1 (by omega) (by omega)]; exact K1 j hj
    · rw [wr_n (by omega), V0 1 (by omega) (by omega)]; exact K11
    · rw [wr_n (by omega), V0 1 (by omega) (by omega)]; exact K19
    · rw [wr_n (by omega), V45 0 (by omega), K45]
    · rw [wr_n (by omega)]; exact V451
    · rw [wr_n (by omega), V45 2 (by omega), K45]
    · exact ⟨by rw [wr_n (by omega)]; exact V228.1, by rw [wr_n (by omega)]; exact V228.2⟩
end ZZA6
