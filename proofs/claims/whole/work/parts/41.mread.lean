/-! THE REFERENCE'S READERS as functions of its numbers. -/
def MP (P : Shp) (σ : St) (t : Int → Int) : Prop :=
  (ShpIs P 279 PL) ∧
  (σ 265 1 = 266) ∧
  (σ 265 10 = 267) ∧
  (σ 265 11 = 268) ∧
  (σ 265 12 = 269) ∧
  (σ 265 14 = 270) ∧
  (σ 265 15 = 271) ∧
  (σ 265 16 = 272) ∧
  (σ 265 17 = 273) ∧
  (σ 265 19 = 274) ∧
  (σ 265 20 = 275) ∧
  (σ 265 21 = 276) ∧
  (σ 265 22 = 277) ∧
  (σ 268 = t)
theorem MP.sh {P : Shp} {σ : St} {t : Int → Int} (h : MP P σ t) : ShpIs P 279 PL := h.1
theorem MP.q1 {P : Shp} {σ : St} {t : Int → Int} (h : MP P σ t) : σ 265 1 = 266 := h.2.1
theorem MP.q10 {P : Shp} {σ : St} {t : Int → Int} (h : MP P σ t) : σ 265 10 = 267 := h.2.2.1
theorem MP.q11 {P : Shp} {σ : St} {t : Int → Int} (h : MP P σ t) : σ 265 11 = 268 := h.2.2.2.1
theorem MP.q12 {P : Shp} {σ : St} {t : Int → Int} (h : MP P σ t) : σ 265 12 = 269 := h.2.2.2.2.1
theorem MP.q14 {P : Shp} {σ : St} {t : Int → Int} (h : MP P σ t) : σ 265 14 = 270 := h.2.2.2.2.2.1
theorem MP.q15 {P : Shp} {σ : St} {t : Int → Int} (h : MP P σ t) : σ 265 15 = 271 := h.2.2.2.2.2.2.1
theorem MP.q16 {P : Shp} {σ : St} {t : Int → Int} (h : MP P σ t) : σ 265 16 = 272 := h.2.2.2.2.2.2.2.1
theorem MP.q17 {P : Shp} {σ : St} {t : Int → Int} (h : MP P σ t) : σ 265 17 = 273 := h.2.2.2.2.2.2.2.2.1
theorem MP.q19 {P : Shp} {σ : St} {t : Int → Int} (h : MP P σ t) : σ 265 19 = 274 := h.2.2.2.2.2.2.2.2.2.1
theorem MP.q20 {P : Shp} {σ : St} {t : Int → Int} (h : MP P σ t) : σ 265 20 = 275 := h.2.2.2.2.2.2.2.2.2.2.1
theorem MP.q21 {P : Shp} {σ : St} {t : Int → Int} (h : MP P σ t) : σ 265 21 = 276 := h.2.2.2.2.2.2.2.2.2.2.2.1
theorem MP.q22 {P : Shp} {σ : St} {t : Int → Int} (h : MP P σ t) : σ 265 22 = 277 := h.2.2.2.2.2.2.2.2.2.2.2.2.1
theorem MP.tl {P : Shp} {σ : St} {t : Int → Int} (h : MP P σ t) : σ 268 = t := h.2.2.2.2.2.2.2.2.2.2.2.2.2
def TV (t : Int → Int) : Prop :=
  (∀ j, -1 ≤ t j ∧ t j ≤ 9999) ∧
  (0 ≤ t 0 ∧ t 0 ≤ 6) ∧
  (0 ≤ t 1 ∧ t 1 ≤ 8) ∧
  (0 ≤ t 2 ∧ t 2 ≤ 12) ∧
  (1 ≤ t 4 ∧ t 4 ≤ 8) ∧
  (∀ p, 0 ≤ p → p < t 0 → 1 ≤ t (7 + 8 * p + 2) ∧ t (7 + 8 * p + 2) ≤ 5) ∧
  (∀ d, 0 ≤ d → d < t 1 → -1 ≤ t (63 + d) ∧ t (63 + d) < t 1) ∧
  (∀ k, 0 ≤ k → k < t 2 → 0 ≤ t (71 + 3 * k) ∧ t (71 + 3 * k) < t 1) ∧
  (∀ k, 0 ≤ k → k < t 2 → 1 ≤ t (71 + 3 * k + 1) ∧ t (71 + 3 * k + 1) ≤ 999) ∧
  (∀ k, 0 ≤ k → k < t 2 → 1 ≤ t (71 + 3 * k + 2)) ∧
  (∀ p, 0 ≤ p → p < t 0 → 1 ≤ t (7 + 8 * p + 1)) ∧
  (∀ p, 0 ≤ p → p < t 0 → 1 ≤ t (7 + 8 * p))
theorem TV.b {t : Int → Int} (h : TV t) : ∀ j, -1 ≤ t j ∧ t j ≤ 9999 := h.1
theorem TV.n0 {t : Int → Int} (h : TV t) : 0 ≤ t 0 ∧ t 0 ≤ 6 := h.2.1
theorem TV.n1 {t : Int → Int} (h : TV t) : 0 ≤ t 1 ∧ t 1 ≤ 8 := h.2.2.1
theorem TV.n2 {t : Int → Int} (h : TV t) : 0 ≤ t 2 ∧ t 2 ≤ 12 := h.2.2.2.1
theorem TV.n4 {t : Int → Int} (h : TV t) : 1 ≤ t 4 ∧ t 4 ≤ 8 := h.2.2.2.2.1
theorem TV.pe {t : Int → Int} (h : TV t) : ∀ p, 0 ≤ p → p < t 0 → 1 ≤ t (7 + 8 * p + 2) ∧ t (7 + 8 * p + 2) ≤ 5 := h.2.2.2.2.2.1
theorem TV.he {t : Int → Int} (h : TV t) : ∀ d, 0 ≤ d → d < t 1 → -1 ≤ t (63 + d) ∧ t (63 + d) < t 1 := h.2.2.2.2.2.2.1
theorem TV.ho {t : Int → Int} (h : TV t) : ∀ k, 0 ≤ k → k < t 2 → 0 ≤ t (71 + 3 * k) ∧ t (71 + 3 * k) < t 1 := h.2.2.2.2.2.2.2.1
theorem TV.ra {t : Int → Int} (h : TV t) : ∀ k, 0 ≤ k → k < t 2 → 1 ≤ t (71 + 3 * k + 1) ∧ t (71 + 3 * k + 1) ≤ 999 := h.2.2.2.2.2.2.2.2.1
theorem TV.pa {t : Int → Int} (h : TV t) : ∀ k, 0 ≤ k → k < t 2 → 1 ≤ t (71 + 3 * k + 2) := h.2.2.2.2.2.2.2.2.2.1
theorem TV.wi {t : Int → Int} (h : TV t) : ∀ p, 0 ≤ p → p < t 0 → 1 ≤ t (7 + 8 * p + 1) := h.2.2.2.2.2.2.2.2.2.2.1
theorem TV.we {t : Int → Int} (h : TV t) : ∀ p, 0 ≤ p → p < t 0 → 1 ≤ t (7 + 8 * p) := h.2.2.2.2.2.2.2.2.2.2.2
def FV (B : Int) (t f g : Int → Int) : Prop :=
  (0 ≤ B ∧ B ≤ 2000000000) ∧
  (∀ j, -1 ≤ f j ∧ f j ≤ B) ∧
  (∀ j, 0 ≤ g j ∧ g j ≤ 10000 * B) ∧
  (0 ≤ f 0 ∧ 0 ≤ f 3 ∧ 0 ≤ f 4) ∧
  (0 ≤ f 12) ∧
  (∀ d, 0 ≤ d → d < t 1 → f (14 + 28 * d + 1) = 0 ∨ f (14 + 28 * d + 1) = 1) ∧
  (∀ d, 0 ≤ d → d < t 1 → f (14 + 28 * d + 0) = -1 → f (14 + 28 * d + 1) = 0 ∧ f (14 + 28 * d + 3) = 0) ∧
  (∀ d, 0 ≤ d → d < t 1 → 0 ≤ f (14 + 28 * d + 2)) ∧
  (∀ d, 0 ≤ d → d < t 1 → 0 ≤ f (14 + 28 * d + 3) ∧ f (14 + 28 * d + 3) ≤ 12) ∧
  (∀ k, 0 ≤ k → k < t 2 → f (238 + 3 * k) = 0 ∨ f (238 + 3 * k) = 1 ∨ f (238 + 3 * k) = 2) ∧
  (∀ k, 0 ≤ k → k < t 2 → (f (238 + 3 * k) = 0 ∧ f (238 + 3 * k + 1) = -1) ∨ (f (238 + 3 * k) ≠ 0 ∧ 0 ≤ f (238 + 3 * k + 1) ∧ f (238 + 3 * k + 1) < t 1)) ∧
  (∀ k, 0 ≤ k → k < t 2 → 0 ≤ f (238 + 3 * k + 2) ∧ f (238 + 3 * k + 2) < t (71 + 3 * k + 2))
theorem FV.b0 {B : Int} {t f g : Int → Int} (h : FV B t f g) : 0 ≤ B ∧ B ≤ 2000000000 := h.1
theorem FV.bl {B : Int} {t f g : Int → Int} (h : FV B t f g) : ∀ j, -1 ≤ f j ∧ f j ≤ B := h.2.1
theorem FV.bg {B : Int} {t f g : Int → Int} (h : FV B t f g) : ∀ j, 0 ≤ g j ∧ g j ≤ 10000 * B := h.2.2.1
theorem FV.tq {B : Int} {t f g : Int → Int} (h : FV B t f g) : 0 ≤ f 0 ∧ 0 ≤ f 3 ∧ 0 ≤ f 4 := h.2.2.2.1
theorem FV.ev {B : Int} {t f g : Int → Int} (h : FV B t f g) : 0 ≤ f 12 := h.2.2.2.2.1
theorem FV.al {B : Int} {t f g : Int → Int} (h : FV B t f g) : ∀ d, 0 ≤ d → d < t 1 → f (14 + 28 * d + 1) = 0 ∨ f (14 + 28 * d + 1) = 1 := h.2.2.2.2.2.1
theorem FV.un {B : Int} {t f g : Int → Int} (h : FV B t f g) : ∀ d, 0 ≤ d → d < t 1 → f (14 + 28 * d + 0) = -1 → f (14 + 28 * d + 1) = 0 ∧ f (14 + 28 * d + 3) = 0 := h.2.2.2.2.2.2.1
theorem FV.si {B : Int} {t f g : Int → Int} (h : FV B t f g) : ∀ d, 0 ≤ d → d < t 1 → 0 ≤ f (14 + 28 * d + 2) := h.2.2.2.2.2.2.2.1
theorem FV.mn {B : Int} {t f g : Int → Int} (h : FV B t f g) : ∀ d, 0 ≤ d → d < t 1 → 0 ≤ f (14 + 28 * d + 3) ∧ f (14 + 28 * d + 3) ≤ 12 := h.2.2.2.2.2.2.2.2.1
theorem FV.mo {B : Int} {t f g : Int → Int} (h : FV B t f g) : ∀ k, 0 ≤ k → k < t 2 → f (238 + 3 * k) = 0 ∨ f (238 + 3 * k) = 1 ∨ f (238 + 3 * k) = 2 := h.2.2.2.2.2.2.2.2.2.1
theorem FV.ho {B : Int} {t f g : Int → Int} (h : FV B t f g) : ∀ k, 0 ≤ k → k < t 2 → (f (238 + 3 * k) = 0 ∧ f (238 + 3 * k + 1) = -1) ∨ (f (238 + 3 * k) ≠ 0 ∧ 0 ≤ f (238 + 3 * k + 1) ∧ f (238 + 3 * k + 1) < t 1) := h.2.2.2.2.2.2.2.2.2.2.1
theorem FV.dn {B : Int} {t f g : Int → Int} (h : FV B t f g) : ∀ k, 0 ≤ k → k < t 2 → 0 ≤ f (238 + 3 * k + 2) ∧ f (238 + 3 * k + 2) < t (71 + 3 * k + 2) := h.2.2.2.2.2.2.2.2.2.2.2
section ZC
variable {P : Shp} {σ : St} {t f g : Int → Int} {B : Int} {d k : Int}
theorem FV.tm (F : FV B t f g) : 0 ≤ f 0 := F.tq.1
theorem FV.vr (F : FV B t f g) (j : Int) : iR (f j) = true := by have h := F.bl j; have h2 := F.b0; exact iR_t (by omega) (by omega)
theorem TV.vr (T : TV t) (j : Int) : iR (t j) = true := by have h := T.b j; exact iR_t (by omega) (by omega)
theorem m_streams (M : MP P σ t) : fX8_streams P (st2 σ f g) 265 = some (t 2) := by
  simp (disch := first | omega | assumption) only [fX8_streams, ↓z_lt, ↓z_ge, ↓z_gt, ↓z_le, ↓z_eq, ↓z_ne, ↓z_mx, ↓z_mn, ↓z_dv, ↓z_rm, ↓z_i2l, ↓z_lc, ↓z_sw, ↓z_sf, ↓z_sn, ↓z_bd, ↓z_nt, z_b0, z_b1, z_bi, z_bj, ↓z_gF, ↓z_gR, ↓z_pF, ↓z_pZ, ↓z_pR, ↓z_aI, ↓z_aR, ↓z_sI, ↓z_sZ, ↓z_on, z_cl, ↓reduceIte, Int.reduceEq, Int.reduceNeg, Int.reduceLT, Int.reduceLE, Int.reduceAdd, Int.reduceSub, Int.reduceMul, true_and, and_true, or_true, true_or, eq_self, st2_f, st2_g, st2_o, M.q1, M.q10, M.q11, M.q12, M.q14, M.q15, M.q16, M.q17, M.q19, M.q20, M.q21, M.q22, M.tl, sO265 M.sh, sA266 M.sh, sA267 M.sh, sA268 M.sh, sA269 M.sh, sA270 M.sh, sA271 M.sh, sA272 M.sh, sA273 M.sh, sA274 M.sh, sA275 M.sh, sA276 M.sh, sA277 M.sh, iR_t]
theorem m_streams' {ω : Type} {K : _ → Option ω} (M : MP P σ t) : cl (fX8_streams P (st2 σ f g) 265) K = K ((t 2)) := e_cl (m_streams M)
theorem m_devices (M : MP P σ t) : fX8_devices P (st2 σ f g) 265 = some (t 1) := by
  simp (disch := first | omega | assumption) only [fX8_devices, ↓z_lt, ↓z_ge, ↓z_gt, ↓z_le, ↓z_eq, ↓z_ne, ↓z_mx, ↓z_mn, ↓z_dv, ↓z_rm, ↓z_i2l, ↓z_lc, ↓z_sw, ↓z_sf, ↓z_sn, ↓z_bd, ↓z_nt, z_b0, z_b1, z_bi, z_bj, ↓z_gF, ↓z_gR, ↓z_pF, ↓z_pZ, ↓z_pR, ↓z_aI, ↓z_aR, ↓z_sI, ↓z_sZ, ↓z_on, z_cl, ↓reduceIte, Int.reduceEq, Int.reduceNeg, Int.reduceLT, Int.reduceLE, Int.reduceAdd, Int.reduceSub, Int.reduceMul, true_and, and_true, or_true, true_or, eq_self, st2_f, st2_g, st2_o, M.q1, M.q10, M.q11, M.q12, M.q14, M.q15, M.q16, M.q17, M.q19, M.q20, M.q21, M.q22, M.tl, sO265 M.sh, sA266 M.sh, sA267 M.sh, sA268 M.sh, sA269 M.sh, sA270 M.sh, sA271 M.sh, sA272 M.sh, sA273 M.sh, sA274 M.sh, sA275 M.sh, sA276 M.sh, sA277 M.sh, iR_t]
theorem m_devices' {ω : Type} {K : _ → Option ω} (M : MP P σ t) : cl (fX8_devices P (st2 σ f g) 265) K = K ((t 1)) := e_cl (m_devices M)
theorem m_at' {ω : Type} {K : _ → Option ω} {s : St} : cl (fX8_at P s d) K = K (14 + 28 * d) := rfl
theorem m_in' {ω : Type} {K : _ → Option ω} {s : St} : cl (fX8_in P s d) K = K (238 + 3 * d) := rfl
def gdF (f : Int → Int) (d : Int) : Bool := decide (f (14 + 28 * d + 0) ≠ -1 ∧ f (14 + 28 * d + 1) ≠ 1)
theorem m_homeOf (M : MP P σ t) (h0 : 0 ≤ k) (h1 : k < 12) : fX8_homeOf P (st2 σ f g) 265 k = some (t (71 + 3 * k)) := by
  simp (disch := first | omega | assumption) only [fX8_homeOf, ↓z_lt, ↓z_ge, ↓z_gt, ↓z_le, ↓z_eq, ↓z_ne, ↓z_mx, ↓z_mn, ↓z_dv, ↓z_rm, ↓z_i2l, ↓z_lc, ↓z_sw, ↓z_sf, ↓z_sn, ↓z_bd, ↓z_nt, z_b0, z_b1, z_bi, z_bj, ↓z_gF, ↓z_gR, ↓z_pF, ↓z_pZ, ↓z_pR, ↓z_aI, ↓z_aR, ↓z_sI, ↓z_sZ, ↓z_on, z_cl, ↓reduceIte, Int.reduceEq, Int.reduceNeg, Int.reduceLT, Int.reduceLE, Int.reduceAdd, Int.reduceSub, Int.reduceMul, true_and, and_true, or_true, true_or, eq_self, st2_f, st2_g, st2_o, M.q1, M.q10, M.q11, M.q12, M.q14, M.q15, M.q16, M.q17, M.q19, M.q20, M.q21, M.q22, M.tl, sO265 M.sh, sA266 M.sh, sA267 M.sh, sA268 M.sh, sA269 M.sh, sA270 M.sh, sA271 M.sh, sA272 M.sh, sA273 M.sh, sA274 M.sh, sA275 M.sh, sA276 M.sh, sA277 M.sh, iR_t]
theorem m_homeOf' {ω : Type} {K : _ → Option ω} (M : MP P σ t) (h0 : 0 ≤ k) (h1 : k < 12) : cl (fX8_homeOf P (st2 σ f g) 265 k) K = K ((t (71 + 3 * k))) := e_cl (m_homeOf M h0 h1)
theorem m_rateOf (M : MP P σ t) (h0 : 0 ≤ k) (h1 : k < 12) : fX8_rateOf P (st2 σ f g) 265 k = some (t (71 + 3 * k + 1)) := by
  simp (disch := first | omega | assumption) only [fX8_rateOf, ↓z_lt, ↓z_ge, ↓z_gt, ↓z_le, ↓z_eq, ↓z_ne, ↓z_mx, ↓z_mn, ↓z_dv, ↓z_rm, ↓z_i2l, ↓z_lc, ↓z_sw, ↓z_sf, ↓z_sn, ↓z_bd, ↓z_nt, z_b0, z_b1, z_bi, z_bj, ↓z_gF, ↓z_gR, ↓z_pF, ↓z_pZ, ↓z_pR, ↓z_aI, ↓z_aR, ↓z_sI, ↓z_sZ, ↓z_on, z_cl, ↓reduceIte, Int.reduceEq, Int.reduceNeg, Int.reduceLT, Int.reduceLE, Int.reduceAdd, Int.reduceSub, Int.reduceMul, true_and, and_true, or_true, true_or, eq_self, st2_f, st2_g, st2_o, M.q1, M.q10, M.q11, M.q12, M.q14, M.q15, M.q16, M.q17, M.q19, M.q20, M.q21, M.q22, M.tl, sO265 M.sh, sA266 M.sh, sA267 M.sh, sA268 M.sh, sA269 M.sh, sA270 M.sh, sA271 M.sh, sA272 M.sh, sA273 M.sh, sA274 M.sh, sA275 M.sh, sA276 M.sh, sA277 M.sh, iR_t]
theorem m_rateOf' {ω : Type} {K : _ → Option ω} (M : MP P σ t) (h0 : 0 ≤ k) (h1 : k < 12) : cl (fX8_rateOf P (st2 σ f g) 265 k) K = K ((t (71 + 3 * k + 1))) := e_cl (m_rateOf M h0 h1)
theorem m_packetOf (M : MP P σ t) (h0 : 0 ≤ k) (h1 : k < 12) : fX8_packetOf P (st2 σ f g) 265 k = some (t (71 + 3 * k + 2)) := by
  simp (disch := first | omega | assumption) only [fX8_packetOf, ↓z_lt, ↓z_ge, ↓z_gt, ↓z_le, ↓z_eq, ↓z_ne, ↓z_mx, ↓z_mn, ↓z_dv, ↓z_rm, ↓z_i2l, ↓z_lc, ↓z_sw, ↓z_sf, ↓z_sn, ↓z_bd, ↓z_nt, z_b0, z_b1, z_bi, z_bj, ↓z_gF, ↓z_gR, ↓z_pF, ↓z_pZ, ↓z_pR, ↓z_aI, ↓z_aR, ↓z_sI, ↓z_sZ, ↓z_on, z_cl, ↓reduceIte, Int.reduceEq, Int.reduceNeg, Int.reduceLT, Int.reduceLE, Int.reduceAdd, Int.reduceSub, Int.reduceMul, true_and, and_true, or_true, true_or, eq_self, st2_f, st2_g, st2_o, M.q1, M.q10, M.q11, M.q12, M.q14, M.q15, M.q16, M.q17, M.q19, M.q20, M.q21, M.q22, M.tl, sO265 M.sh, sA266 M.sh, sA267 M.sh, sA268 M.sh, sA269 M.sh, sA270 M.sh, sA271 M.sh, sA272 M.sh, sA273 M.sh, sA274 M.sh, sA275 M.sh, sA276 M.sh, sA277 M.sh, iR_t]
theorem m_packetOf' {ω : Type} {K : _ → Option ω} (M : MP P σ t) (h0 : 0 ≤ k) (h1 : k < 12) : cl (fX8_packetOf P (st2 σ f g) 265 k) K = K ((t (71 + 3 * k + 2))) := e_cl (m_packetOf M h0 h1)
theorem m_isPlugged (M : MP P σ t) (F : FV B t f g) (h0 : 0 ≤ d) (h1 : d < 8) : fX8_isPlugged P (st2 σ f g) 265 d = some (if f (14 + 28 * d + 0) = -1 then 0 else 1) := by
  by_cases c : f (14 + 28 * d + 0) = -1 <;> simp (disch := first | omega | assumption) only [fX8_isPlugged, ↓z_lt, ↓z_ge, ↓z_gt, ↓z_le, ↓z_eq, ↓z_ne, ↓z_mx, ↓z_mn, ↓z_dv, ↓z_rm, ↓z_i2l, ↓z_lc, ↓z_sw, ↓z_sf, ↓z_sn, ↓z_bd, ↓z_nt, z_b0, z_b1, z_bi, z_bj, ↓z_gF, ↓z_gR, ↓z_pF, ↓z_pZ, ↓z_pR, ↓z_aI, ↓z_aR, ↓z_sI, ↓z_sZ, ↓z_on, z_cl, ↓reduceIte, Int.reduceEq, Int.reduceNeg, Int.reduceLT, Int.reduceLE, Int.reduceAdd, Int.reduceSub, Int.reduceMul, true_and, and_true, or_true, true_or, eq_self, st2_f, st2_g, st2_o, M.q1, M.q10, M.q11, M.q12, M.q14, M.q15, M.q16, M.q17, M.q19, M.q20, M.q21, M.q22, M.tl, sO265 M.sh, sA266 M.sh, sA267 M.sh, sA268 M.sh, sA269 M.sh, sA270 M.sh, sA271 M.sh, sA272 M.sh, sA273 M.sh, sA274 M.sh, sA275 M.sh, sA276 M.sh, sA277 M.sh, iR_t, ↓m_at', F.vr, c]
theorem m_isPlugged' {ω : Type} {K : _ → Option ω} (M : MP P σ t) (F : FV B t f g) (h0 : 0 ≤ d) (h1 : d < 8) : cl (fX8_isPlugged P (st2 σ f g) 265 d) K = K ((if f (14 + 28 * d + 0) = -1 then 0 else 1)) := e_cl (m_isPlugged M F h0 h1)
theorem m_isAlarmed (M : MP P σ t) (F : FV B t f g) (h0 : 0 ≤ d) (h1 : d < 8) : fX8_isAlarmed P (st2 σ f g) 265 d = some (if f (14 + 28 * d + 1) = 1 then 1 else 0) := by
  by_cases c : f (14 + 28 * d + 1) = 1 <;> simp (disch := first | omega | assumption) only [fX8_isAlarmed, ↓z_lt, ↓z_ge, ↓z_gt, ↓z_le, ↓z_eq, ↓z_ne, ↓z_mx, ↓z_mn, ↓z_dv, ↓z_rm, ↓z_i2l, ↓z_lc, ↓z_sw, ↓z_sf, ↓z_sn, ↓z_bd, ↓z_nt, z_b0, z_b1, z_bi, z_bj, ↓z_gF, ↓z_gR, ↓z_pF, ↓z_pZ, ↓z_pR, ↓z_aI, ↓z_aR, ↓z_sI, ↓z_sZ, ↓z_on, z_cl, ↓reduceIte, Int.reduceEq, Int.reduceNeg, Int.reduceLT, Int.reduceLE, Int.reduceAdd, Int.reduceSub, Int.reduceMul, true_and, and_true, or_true, true_or, eq_self, st2_f, st2_g, st2_o, M.q1, M.q10, M.q11, M.q12, M.q14, M.q15, M.q16, M.q17, M.q19, M.q20, M.q21, M.q22, M.tl, sO265 M.sh, sA266 M.sh, sA267 M.sh, sA268 M.sh, sA269 M.sh, sA270 M.sh, sA271 M.sh, sA272 M.sh, sA273 M.sh, sA274 M.sh, sA275 M.sh, sA276 M.sh, sA277 M.sh, iR_t, ↓m_at', F.vr, c]
theorem m_isAlarmed' {ω : Type} {K : _ → Option ω} (M : MP P σ t) (F : FV B t f g) (h0 : 0 ≤ d) (h1 : d < 8) : cl (fX8_isAlarmed P (st2 σ f g) 265 d) K = K ((if f (14 + 28 * d + 1) = 1 then 1 else 0)) := e_cl (m_isAlarmed M F h0 h1)
theorem m_isGood (M : MP P σ t) (F : FV B t f g) (h0 : 0 ≤ d) (h1 : d < 8) : fX8_isGood P (st2 σ f g) 265 d = some (if gdF f d = true then 1 else 0) := by
  by_cases c1 : f (14 + 28 * d + 0) = -1 <;> by_cases c2 : f (14 + 28 * d + 1) = 1 <;>
  simp (disch := first | omega | assumption) only [fX8_isGood, ↓z_lt, ↓z_ge, ↓z_gt, ↓z_le, ↓z_eq, ↓z_ne, ↓z_mx, ↓z_mn, ↓z_dv, ↓z_rm, ↓z_i2l, ↓z_lc, ↓z_sw, ↓z_sf, ↓z_sn, ↓z_bd, ↓z_nt, z_b0, z_b1, z_bi, z_bj, ↓z_gF, ↓z_gR, ↓z_pF, ↓z_pZ, ↓z_pR, ↓z_aI, ↓z_aR, ↓z_sI, ↓z_sZ, ↓z_on, z_cl, ↓reduceIte, Int.reduceEq, Int.reduceNeg, Int.reduceLT, Int.reduceLE, Int.reduceAdd, Int.reduceSub, Int.reduceMul, true_and, and_true, or_true, true_or, eq_self, st2_f, st2_g, st2_o, M.q1, M.q10, M.q11, M.q12, M.q14, M.q15, M.q16, M.q17, M.q19, M.q20, M.q21, M.q22, M.tl, sO265 M.sh, sA266 M.sh, sA267 M.sh, sA268 M.sh, sA269 M.sh, sA270 M.sh, sA271 M.sh, sA272 M.sh, sA273 M.sh, sA274 M.sh, sA275 M.sh, sA276 M.sh, sA277 M.sh, iR_t, ↓m_isPlugged' M F h0 h1, ↓m_isAlarmed' M F h0 h1, gdF, c1, c2, ne_eq, not_true, not_false_eq_true, and_self, and_true, true_and, and_false, false_and, decide_true, decide_false, Bool.false_eq_true]
theorem m_isGood' {ω : Type} {K : _ → Option ω} (M : MP P σ t) (F : FV B t f g) (h0 : 0 ≤ d) (h1 : d < 8) : cl (fX8_isGood P (st2 σ f g) 265 d) K = K ((if gdF f d = true then 1 else 0)) := e_cl (m_isGood M F h0 h1)
end ZC
