/-! PARSE: a good state. -/
def INI (P : Shp) (σ : St) : Prop :=
  (ShpIs P 279 PL) ∧
  (σ 0 0 = 1) ∧
  (σ 0 1 = 16) ∧
  (σ 0 2 = 45) ∧
  (σ 0 3 = 227) ∧
  (σ 0 4 = 228) ∧
  (σ 16 0 = 17) ∧
  (σ 16 1 = 27) ∧
  (SP σ 27) ∧
  (σ 45 0 = 46) ∧
  (0 ≤ σ 45 2 ∧ σ 45 2 < 10) ∧
  (∀ i, 0 ≤ i → i < 10 → σ 46 i = 47 + 18 * i ∧ SP σ (47 + 18 * i)) ∧
  (∀ i, 0 ≤ i → i < 2 → σ 227 i = 229 + 18 * i ∧ SP σ (229 + 18 * i)) ∧
  (σ 1 0 = 2) ∧
  (σ 1 9 = 3) ∧
  (σ 1 11 = 13) ∧
  (σ 1 12 = 14) ∧
  (σ 1 13 = 15) ∧
  (PP σ 3)
theorem INI.sh {P : Shp} {σ : St} (h : INI P σ) : ShpIs P 279 PL := h.1
theorem INI.x0 {P : Shp} {σ : St} (h : INI P σ) : σ 0 0 = 1 := h.2.1
theorem INI.x1 {P : Shp} {σ : St} (h : INI P σ) : σ 0 1 = 16 := h.2.2.1
theorem INI.x2 {P : Shp} {σ : St} (h : INI P σ) : σ 0 2 = 45 := h.2.2.2.1
theorem INI.x3 {P : Shp} {σ : St} (h : INI P σ) : σ 0 3 = 227 := h.2.2.2.2.1
theorem INI.x4 {P : Shp} {σ : St} (h : INI P σ) : σ 0 4 = 228 := h.2.2.2.2.2.1
theorem INI.y0 {P : Shp} {σ : St} (h : INI P σ) : σ 16 0 = 17 := h.2.2.2.2.2.2.1
theorem INI.y1 {P : Shp} {σ : St} (h : INI P σ) : σ 16 1 = 27 := h.2.2.2.2.2.2.2.1
theorem INI.sp {P : Shp} {σ : St} (h : INI P σ) : SP σ 27 := h.2.2.2.2.2.2.2.2.1
theorem INI.h0 {P : Shp} {σ : St} (h : INI P σ) : σ 45 0 = 46 := h.2.2.2.2.2.2.2.2.2.1
theorem INI.hn {P : Shp} {σ : St} (h : INI P σ) : 0 ≤ σ 45 2 ∧ σ 45 2 < 10 := h.2.2.2.2.2.2.2.2.2.2.1
theorem INI.hs {P : Shp} {σ : St} (h : INI P σ) : ∀ i, 0 ≤ i → i < 10 → σ 46 i = 47 + 18 * i ∧ SP σ (47 + 18 * i) := h.2.2.2.2.2.2.2.2.2.2.2.1
theorem INI.ss {P : Shp} {σ : St} (h : INI P σ) : ∀ i, 0 ≤ i → i < 2 → σ 227 i = 229 + 18 * i ∧ SP σ (229 + 18 * i) := h.2.2.2.2.2.2.2.2.2.2.2.2.1
theorem INI.r0 {P : Shp} {σ : St} (h : INI P σ) : σ 1 0 = 2 := h.2.2.2.2.2.2.2.2.2.2.2.2.2.1
theorem INI.r9 {P : Shp} {σ : St} (h : INI P σ) : σ 1 9 = 3 := h.2.2.2.2.2.2.2.2.2.2.2.2.2.2.1
theorem INI.n11 {P : Shp} {σ : St} (h : INI P σ) : σ 1 11 = 13 := h.2.2.2.2.2.2.2.2.2.2.2.2.2.2.2.1
theorem INI.n12 {P : Shp} {σ : St} (h : INI P σ) : σ 1 12 = 14 := h.2.2.2.2.2.2.2.2.2.2.2.2.2.2.2.2.1
theorem INI.n13 {P : Shp} {σ : St} (h : INI P σ) : σ 1 13 = 15 := h.2.2.2.2.2.2.2.2.2.2.2.2.2.2.2.2.2.1
theorem INI.p3 {P : Shp} {σ : St} (h : INI P σ) : PP σ 3 := h.2.2.2.2.2.2.2.2.2.2.2.2.2.2.2.2.2.2
section ZR9
variable {P P' : Shp} {σ σ' σ1 σ2 s μ μ' ν : St} {f t g : Int → Int} {a b c d e i j x y z v N cnt kd o w : Int} {R sp T : List Int} {n m r k L : Nat} {xs : Nat → Int32}
theorem INI.fr (I : INI P σ) (hP : ShpIs P' 279 PL) (e : ∀ o, o < 265 → o ≠ 1 → o ≠ 2 → s o = σ o) (e1 : ∀ j, j ≠ 1 → s 1 j = σ 1 j) : INI P' s := by
  refine ⟨hP, ?_, ?_, ?_, ?_, ?_, ?_, ?_, ?_, ?_, ?_, ?_, ?_, ?_, ?_, ?_, ?_, ?_, ?_⟩
  · rw [e 0 (by omega) (by omega) (by omega)]; exact I.x0
  · rw [e 0 (by omega) (by omega) (by omega)]; exact I.x1
  · rw [e 0 (by omega) (by omega) (by omega)]; exact I.x2
  · rw [e 0 (by omega) (by omega) (by omega)]; exact I.x3
  · rw [e 0 (by omega) (by omega) (by omega)]; exact I.x4
  · rw [e 16 (by omega) (by omega) (by omega)]; exact I.y0
  · rw [e 16 (by omega) (by omega) (by omega)]; exact I.y1
  · exact I.sp.fr fun o h1 h2 => e o (by omega) (by omega) (by omega)
  · rw [e 45 (by omega) (by omega) (by omega)]; exact I.h0
  · rw [e 45 (by omega) (by omega) (by omega)]; exact I.hn
  · intro i i0 i1
    rw [e 46 (by omega) (by omega) (by omega)]
    exact ⟨(I.hs i i0 i1).1, (I.hs i i0 i1).2.fr fun o h1 h2 => e o (by omega) (by omega) (by omega)⟩
  · intro i i0 i1
    rw [e 227 (by omega) (by omega) (by omega)]
    exact ⟨(I.ss i i0 i1).1, (I.ss i i0 i1).2.fr fun o h1 h2 => e o (by omega) (by omega) (by omega)⟩
  · rw [e1 0 (by omega)]; exact I.r0
  · rw [e1 9 (by omega)]; exact I.r9
  · rw [e1 11 (by omega)]; exact I.n11
  · rw [e1 12 (by omega)]; exact I.n12
  · rw [e1 13 (by omega)]; exact I.n13
  · exact I.p3.fr (e 3 (by omega) (by omega) (by omega))
theorem c_flags (sh : ShpIs P 279 PL) (x4 : s 0 4 = 228) (kE : St → Option (Int × St)) (m : Nat) : fX7_parse_L84 P 0 kE (m + 3) 0 s = kE (wr (wr s 228 0 0) 228 1 0) := by
  have S : ∀ (m : Nat) (k : Int) (s : St), s 0 4 = 228 → 0 ≤ k → k < 2 → fX7_parse_L84 P 0 kE (m + 1) k s = fX7_parse_L84 P 0 kE m (k + 1) (wr s 228 k 0) := by
    intro m k s h k0 k8
    have k1 : ¬ (2 ≤ k) := by omega
    simp (disch := first | omega | assumption) only [fX7_parse_L84, ↓z_lt, ↓z_ge, ↓z_gt, ↓z_le, ↓z_eq, ↓z_ne, ↓z_mx, ↓z_mn, ↓z_dv, ↓z_rm, ↓z_i2l, ↓z_lc, ↓z_sw, ↓z_sf, ↓z_sn, ↓z_bd, ↓z_nt, z_b0, z_b1, z_bi, z_bj, ↓z_gF, ↓z_gR, ↓z_pF, ↓z_pZ, ↓z_pR, ↓z_aI, ↓z_aR, ↓z_sI, ↓z_sZ, ↓z_on, z_cl, ↓reduceIte, Int.reduceEq, Int.reduceNeg, Int.reduceLT, Int.reduceLE, Int.reduceAdd, Int.reduceSub, Int.reduceMul, true_and, and_true, or_true, true_or, eq_self, iR_t, sO0 sh, sA228 sh, h, k1]
  have E : ∀ (m : Nat) (s : St), fX7_parse_L84 P 0 kE (m + 1) 2 s = kE s := by
    intro m s
    simp (disch := first | omega | assumption) only [fX7_parse_L84, ↓z_lt, ↓z_ge, ↓z_gt, ↓z_le, ↓z_eq, ↓z_ne, ↓z_mx, ↓z_mn, ↓z_dv, ↓z_rm, ↓z_i2l, ↓z_lc, ↓z_sw, ↓z_sf, ↓z_sn, ↓z_bd, ↓z_nt, z_b0, z_b1, z_bi, z_bj, ↓z_gF, ↓z_gR, ↓z_pF, ↓z_pZ, ↓z_pR, ↓z_aI, ↓z_aR, ↓z_sI, ↓z_sZ, ↓z_on, z_cl, ↓reduceIte, Int.reduceEq, Int.reduceNeg, Int.reduceLT, Int.reduceLE, Int.reduceAdd, Int.reduceSub, Int.reduceMul, true_and, and_true, or_true, true_or, eq_self, iR_t]
  rw [show m + 3 = (m + 2) + 1 from rfl, S (m + 2) 0 s x4 (by omega) (by omega), show (0 : Int) + 1 = 1 from rfl, show m + 2 = (m + 1) + 1 from rfl, S (m + 1) 1 _ (by rw [wr_n (by omega)]; exact x4) (by omega) (by omega), show (1 : Int) + 1 = 2 from rfl, E]
theorem c_parE {sC s9 : St} {n2 : Int} (sh : ShpIs P 279 PL) (aR : iR a = true) (a0 : 0 ≤ a) (a1 : a ≤ z) (zR : iR z = true) (hz : σ 1 1 = z) (x0 : σ 0 0 = 1) (r : fX5_read P σ 1 a = some (1, σ')) (y0 : σ' 0 0 = 1) (w00 : wr σ' 1 1 0 0 0 = 1) (w01 : wr σ' 1 1 0 0 1 = 16) (w16 : wr σ' 1 1 0 16 0 = 17) (ex : fX5_exchangePlan P (wr σ' 1 1 0) 1 17 = some (3, wr (wr σ' 1 1 0) 1 9 17)) (rb : fX2_begin P (wr (wr σ' 1 1 0) 1 9 17) 16 3 = some sC) (x2 : sC 0 2 = 45) (eh : fX1_clear P sC 45 = some (wr sC 45 1 0)) (fl : ∀ kE, fX7_parse_L84 P 0 kE 1000 0 (wr sC 45 1 0) = kE s9) (z0 : s9 0 1 = 16) (z16 : s9 16 0 = 3) (zq : s9 3 6 = n2) : fX7_parse P σ 0 a = some (n2, s9) := by
  have k1 : ¬ (a < 0) := by omega
  simp (disch := first | omega | assumption | (simp (disch := omega) only [ x0, hz, y0, w00, w01, w16, x2 ]; done) | fail) only [fX7_parse, ↓z_lt, ↓z_ge, ↓z_gt, ↓z_le, ↓z_eq, ↓z_ne, ↓z_mx, ↓z_mn, ↓z_dv, ↓z_rm, ↓z_i2l, ↓z_lc, ↓z_sw, ↓z_sf, ↓z_sn, ↓z_bd, ↓z_nt, z_b0, z_b1, z_bi, z_bj, ↓z_gF, ↓z_gR, ↓z_pF, ↓z_pZ, ↓z_pR, ↓z_aI, ↓z_aR, ↓z_sI, ↓z_sZ, ↓z_on, z_cl, ↓reduceIte, Int.reduceEq, Int.reduceNeg, Int.reduceLT, Int.reduceLE, Int.reduceAdd, Int.reduceSub, Int.reduceMul, true_and, and_true, or_true, true_or, eq_self, iR_t, sO0 sh, sO1 sh, sO3 sh, sO16 sh, sO45 sh, x0, hz, y0, w00, w01, w16, k1, a1, aR, zR, ↓e_g r, ↓e_g ex, ↓e_g rb, x2, ↓e_g eh, fl, z0, z16, zq]
def f00 : Int → Int := fun _ => 0
theorem c_parse {np nd ns : Nat} (H : TL L xs t np nd ns) (hb : ∀ j, -1 ≤ t j ∧ t j ≤ 9999) (hT : T = allT L xs t np nd ns) (I : INI P σ) (Rd : RDB P σ T a) (l1 : (T.length : Int) ≤ a) (l2 : a ≤ 600) : ∃ s3, fX7_parse P σ 0 (T.length : Int) = some (t 2, s3) ∧ GR P s3 3 t (setF t (frF t f00)) (frG f00) 100024 := by
  have sh := I.sh
  have TT := H.tv hb
  have n1 := TT.n1
  have n2 := TT.n2
  obtain ⟨σ', r, R, oo, jj⟩ := rd_read H hT Rd l1 l2 I.r9 I.n11 I.n12 I.n13 I.p3
  have hF : σ 1 1 = a := Rd.fl
  have d5 : 0 ≤ t 5 := by rw [H.sc]; have := pkV_in (L := L) (xs := xs) (a := 45) (x := 12) (by omega); omega
  have FV0 : FV 100000 t (frF t f00) (frG f00) := frF_FV TT ⟨by omega, by omega⟩ (fun j => by show -1 ≤ (0 : Int) ∧ (0 : Int) ≤ _; omega) (fun j => by show 0 ≤ (0 : Int) ∧ (0 : Int) ≤ _; omega) d5 (by omega) (fun k k0 k1 => by
    rw [H.t1] at k1
    rw [H.fp k k0 k1]; exact k0)
  have CV0 : CV (frF t f00) := CV_0 (frF_s TT (by omega) (by omega))
  have s0 : σ' 0 = σ 0 := oo 0 (by omega) (by omega)
  have s16 : σ' 16 = σ 16 := oo 16 (by omega) (by omega)
  have y0 : σ' 0 0 = 1 := by rw [s0]; exact I.x0
  have w00 : wr σ' 1 1 0 0 0 = 1 := by rw [wr_n (by omega)]; exact y0
  have w01 : wr σ' 1 1 0 0 1 = 16 := by rw [wr_n (by omega), s0]; exact I.x1
  have w16 : wr σ' 1 1 0 16 0 = 17 := by rw [wr_n (by omega), s16]; exact I.y0
  have ex : fX5_exchangePlan P (wr σ' 1 1 0) 1 17 = some (3, wr (wr σ' 1 1 0) 1 9 17) := by
    have w9 : wr σ' 1 1 0 1 9 = 3 := by rw [wr_i (by omega), jj 9 (by omega) (by omega)]; exact I.r9
    simp (disch := first | omega | assumption) only [fX5_exchangePlan, ↓z_lt, ↓z_ge, ↓z_gt, ↓z_le, ↓z_eq, ↓z_ne, ↓z_mx, ↓z_mn, ↓z_dv, ↓z_rm, ↓z_i2l, ↓z_lc, ↓z_sw, ↓z_sf, ↓z_sn, ↓z_bd, ↓z_nt, z_b0, z_b1, z_bi, z_bj, ↓z_gF, ↓z_gR, ↓z_pF, ↓z_pZ, ↓z_pR, ↓z_aI, ↓z_aR, ↓z_sI, ↓z_sZ, ↓z_on, z_cl, ↓reduceIte, Int.reduceEq, Int.reduceNeg, Int.reduceLT, Int.reduceLE, Int.reduceAdd, Int.reduceSub, Int.reduceMul, true_and, and_true, or_true, true_or, eq_self, sO1 sh, w9]
  have W : ∀ o, o ≠ 1 → o ≠ 16 → wr (wr (wr σ' 1 1 0) 1 9 17) 16 0 3 o = σ' o := fun o h1 h2 => by rw [wr_o h2, wr_o h1, wr_o h1]
  have W160 : wr (wr (wr σ' 1 1 0) 1 9 17) 16 0 3 16 0 = 3 := wr_s
  have W161 : wr (wr (wr σ' 1 1 0) 1 9 17) 16 0 3 16 1 = 27 := by rw [wr_i (by omega), wr_n (by omega), wr_n (by omega), s16]; exact I.y1
  have e2 : ∀ (sB sC : St), fX6_begin P (wr (wr (wr σ' 1 1 0) 1 9 17) 16 0 3) 27 3 = some sB → fX2_settle P sB 16 = some sC → fX2_begin P (wr (wr σ' 1 1 0) 1 9 17) 16 3 = some sC := fun sB sC h1 h2 => by
    simp (disch := first | omega | assumption | (simp (disch := omega) only [ W161 ]; done) | fail) only [fX2_begin, ↓z_lt, ↓z_ge, ↓z_gt, ↓z_le, ↓z_eq, ↓z_ne, ↓z_mx, ↓z_mn, ↓z_dv, ↓z_rm, ↓z_i2l, ↓z_lc, ↓z_sw, ↓z_sf, ↓z_sn, ↓z_bd, ↓z_nt, z_b0, z_b1, z_bi, z_bj, ↓z_gF, ↓z_gR, ↓z_pF, ↓z_pZ, ↓z_pR, ↓z_aI, ↓z_aR, ↓z_sI, ↓z_sZ, ↓z_on, z_cl, ↓reduceIte, Int.reduceEq, Int.reduceNeg, Int.reduceLT, Int.reduceLE, Int.reduceAdd, Int.reduceSub, Int.reduceMul, true_and, and_true, or_true, true_or, eq_self, sO16 sh, sO27 sh, W161, ↓e_g h1, ↓e_cl h2]
  generalize wr (wr (wr σ' 1 1 0) 1 9 17) 16 0 3 = s1 at *
  have R1 : PR s1 3 t := R.ag fun o h1 h2 => W o (by omega) (by omega)
  have S1 : SP s1 27 := I.sp.fr fun o h1 h2 => by rw [W o (by omega) (by omega)]; exact oo o (by omega) (by omega)
  obtain ⟨sB, rB, SB, fB⟩ := c_begin (f := f00) (g := f00) sh (Or.inl rfl) TT R1 S1
  have CB : CR P sB 3 t (frF t f00) (frG f00) := ⟨sh, by rw [fB 16 (by omega)]; exact W160, by rw [fB 16 (by omega)]; exact W161, R1.fr fB, SB⟩
  obtain ⟨sC, rC, CC, VC, fC⟩ := c_settle CB TT FV0 CV0 (by omega) (by omega)
  have FC := FV0.set TT (by omega) (by omega)
  have f5 : Fr s1 sC := fB.tr fC
  have rb := e2 sB sC rB rC
  have K : ∀ o, o ≠ 1 → o ≠ 16 → (o < 3 ∨ 15 < o) → (o < 27 ∨ 44 < o) → sC o = σ o := fun o h1 h2 h3 h4 => by
    rw [f5 o h4, W o h1 h2]; exact oo o h1 h3
  have K0 : sC 0 = σ 0 := K 0 (by omega) (by omega) (by omega) (by omega)
  have K45 : sC 45 = σ 45 := K 45 (by omega) (by omega) (by omega) (by omega)
  have x2 : sC 0 2 = 45 := by rw [K0]; exact I.x2
  have x4 : wr sC 45 1 0 0 4 = 228 := by rw [wr_n (by omega), K0]; exact I.x4
  have eh : fX1_clear P sC 45 = some (wr sC 45 1 0) := by
    simp (disch := first | omega | assumption) only [fX1_clear, ↓z_lt, ↓z_ge, ↓z_gt, ↓z_le, ↓z_eq, ↓z_ne, ↓z_mx, ↓z_mn, ↓z_dv, ↓z_rm, ↓z_i2l, ↓z_lc, ↓z_sw, ↓z_sf, ↓z_sn, ↓z_bd, ↓z_nt, z_b0, z_b1, z_bi, z_bj, ↓z_gF, ↓z_gR, ↓z_pF, ↓z_pZ, ↓z_pR, ↓z_aI, ↓z_aR, ↓z_sI, ↓z_sZ, ↓z_on, z_cl, ↓reduceIte, Int.reduceEq, Int.reduceNeg, Int.reduceLT, Int.reduceLE, Int.reduceAdd, Int.reduceSub, Int.reduceMul, true_and, and_true, or_true, true_or, eq_self, sO45 sh]
  have V0 : ∀ o, o ≠ 45 → o ≠ 228 → wr (wr (wr sC 45 1 0) 228 0 0) 228 1 0 o = sC o := fun o h1 h2 => by rw [wr_o h2, wr_o h2, wr_o h1]
  have V45 : ∀ j, j ≠ 1 → wr (wr (wr sC 45 1 0) 228 0 0) 228 1 0 45 j = sC 45 j := fun j hj => by rw [wr_n (by omega), wr_n (by omega), wr_i hj]
  have V451 : wr (wr (wr sC 45 1 0) 228 0 0) 228 1 0 45 1 = 0 := by rw [wr_n (by omega), wr_n (by omega), wr_s]
  have fl := fun kE => c_flags (s := wr sC 45 1 0) sh x4 kE 997
  have z0 : wr (wr (wr sC 45 1 0) 228 0 0) 228 1 0 0 1 = 16 := by rw [V0 0 (by omega) (by omega), K0]; exact I.x1
  have z16 : wr (wr (wr sC 45 1 0) 228 0 0) 228 1 0 16 0 = 3 := by rw [V0 16 (by omega) (by omega)]; exact CC.h0
  have zq : wr (wr (wr sC 45 1 0) 228 0 0) 228 1 0 3 6 = t 2 := by
    rw [V0 3 (by omega) (by omega)]
    exact CC.pr.v6
  refine ⟨wr (wr (wr sC 45 1 0) 228 0 0) 228 1 0, ?_, ⟨⟨sh, z16, ?_, ?_, CC.s.fr fun o h1 h2 => V0 o (by omega) (by omega)⟩, TT, FC, VC, ?_, z0, ?_, ?_, ?_, ?_, ?_, ?_, ?_, ?_⟩⟩
  · exact c_parE sh (iR_t (by omega) (by omega)) (by omega) l1 (iR_t (by omega) (by omega)) hF I.x0 r y0 w00 w01 w16 ex rb x2 eh fl z0 z16 zq
  · rw [V0 16 (by omega) (by omega)]; exact CC.h1
  · exact CC.pr.ag fun o h1 h2 => V0 o (by omega) (by omega)
  · rw [V0 0 (by omega) (by omega), K0]; exact I.x0
  · rw [V0 0 (by omega) (by omega), K0]; exact I.x2
  · rw [V0 0 (by omega) (by omega), K0]; exact I.x3
  · rw [V0 0 (by omega) (by omega), K0]; exact I.x4
  · rw [V45 0 (by omega), K45]; exact I.h0
  · rw [V45 2 (by omega), K45]; exact I.hn
  · rw [V451]; omega
  · intro i i0 i1
    rw [V0 46 (by omega) (by omega), K 46 (by omega) (by omega) (by omega) (by omega)]
    exact ⟨(I.hs i i0 i1).1, (I.hs i i0 i1).2.fr fun o h1 h2 => by rw [V0 o (by omega) (by omega)]; exact K o (by omega) (by omega) (by omega) (by omega)⟩
  · intro i i0 i1
    rw [V0 227 (by omega) (by omega), K 227 (by omega) (by omega) (by omega) (by omega)]
    exact ⟨(I.ss i i0 i1).1, (I.ss i i0 i1).2.fr fun o h1 h2 => by rw [V0 o (by omega) (by omega)]; exact K o (by omega) (by omega) (by omega) (by omega)⟩
theorem iv_start {np nd ns : Nat} (H : TL L xs t np nd ns) (TT : TV t) : IV t (setF t (frF t f00)) := by
  have n1 := TT.n1
  refine IV.set TT ⟨⟨by rw [frF_s TT (by omega) (by omega)]; exact Int.le_refl _, fun k k0 k1 h => absurd (frF_m TT k0 k1).1 h⟩, ?_, fun d d0 d1 => ?_⟩
  · have w3 := H.w3
    have e : resvF t (frF t f00) = 0 := by
      rw [resvF_s]
      have hN := TT.n2N
      exact forI_inv (F := fun k b => b + rsv t (frF t f00) k) (N := (t 2).toNat) (a := 0) (I := fun _ b => b = 0) (fun n b hn hb => by
        subst hb
        have : rsv t (frF t f00) (n : Int) = 0 := if_pos (frF_m TT (by omega) (by omega)).1
        show 0 + rsv t (frF t f00) (n : Int) = 0
        rw [this]
        rfl) rfl
    rw [e]; omega
  · rw [frF_p TT d0 d1]
    rw [H.t1] at d1
    exact Or.inr (H.fp d d0 d1)
end ZR9
