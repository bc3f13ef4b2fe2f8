/-! THE KINDS of a pattern, on both sides. -/
section ZZX
variable {P : Shp} {σ σ' σ0 σ1 σ2 s τ τ' τ0 τ1 τ2 : St} {f g h B B' d d' : Int → Int} {a b c e e' k i x y z v v' w N q L kd cnt h1 s1 p o n : Int}
theorem kwF_n (h : ¬ (tT f N e = 1)) : kwF f N e = -1 := by
  unfold kwF wdB
  rw [decide_eq_false h]
  simp
theorem kinds_c0 (C : CT P σ f N e) (kE : Int → St → Option (Int × St)) (m : Nat) (hk : 5 ≤ k ∨ kwF f N e = -1) (k0 : 0 ≤ k) (k9 : k ≤ 5) : fX5_readPatternErrors_L2 P 1 n kE (m + 1) k σ = kE k σ := by
  by_cases k5 : 5 ≤ k
  · simp (disch := first | omega | assumption) only [fX5_readPatternErrors_L2, ↓z_lt, ↓z_ge, ↓z_gt, ↓z_le, ↓z_eq, ↓z_ne, ↓z_mx, ↓z_mn, ↓z_dv, ↓z_rm, ↓z_i2l, ↓z_lc, ↓z_sw, ↓z_sf, ↓z_sn, ↓z_bd, ↓z_nt, z_b0, z_b1, z_bi, z_bj, ↓z_gF, ↓z_gR, ↓z_pF, ↓z_pZ, ↓z_pR, ↓z_aI, ↓z_aR, ↓z_sI, ↓z_sZ, ↓z_on, z_cl, ↓reduceIte, Int.reduceEq, Int.reduceNeg, Int.reduceLT, Int.reduceLE, Int.reduceAdd, Int.reduceSub, Int.reduceMul, true_and, and_true, or_true, true_or, eq_self, iR_t, k5]
  · have W := c_kindOfWord C
    rw [hk.resolve_left k5] at W
    simp (disch := first | omega | assumption) only [fX5_readPatternErrors_L2, ↓z_lt, ↓z_ge, ↓z_gt, ↓z_le, ↓z_eq, ↓z_ne, ↓z_mx, ↓z_mn, ↓z_dv, ↓z_rm, ↓z_i2l, ↓z_lc, ↓z_sw, ↓z_sf, ↓z_sn, ↓z_bd, ↓z_nt, z_b0, z_b1, z_bi, z_bj, ↓z_gF, ↓z_gR, ↓z_pF, ↓z_pZ, ↓z_pR, ↓z_aI, ↓z_aR, ↓z_sI, ↓z_sZ, ↓z_on, z_cl, ↓reduceIte, Int.reduceEq, Int.reduceNeg, Int.reduceLT, Int.reduceLE, Int.reduceAdd, Int.reduceSub, Int.reduceMul, true_and, and_true, or_true, true_or, eq_self, iR_t, sO1 C.rb.sh, k5, ↓e_cl W]
theorem kinds_c1 (C : CT P σ f N e) (hq : q = 3 ∨ q = 17) (p9 : σ 1 9 = q) (p10 : σ q 10 = q + 4) (n0 : 0 ≤ n) (n6 : n < 6) (k0 : 0 ≤ k) (k5 : k < 5) (hk : ¬ (kwF f N e = -1)) (r : fX5_advance P (wr σ (q + 4) (n * 5 + k) (kwF f N e)) 1 = some σ1) (kE : Int → St → Option (Int × St)) (m : Nat) : fX5_readPatternErrors_L2 P 1 n kE (m + 1) k σ = fX5_readPatternErrors_L2 P 1 n kE m (k + 1) σ1 := by
  have W := c_kindOfWord C
  have kw := kwF_in (f := f) (N := N) (e := e)
  have sh := C.rb.sh
  have hq1 : ¬ (q = -1) := by omega
  have hq4 : ¬ (q + 4 = -1) := by omega
  have k6 : ¬ (5 ≤ k) := by omega
  generalize kwF f N e = K at *
  simp (disch := first | omega | assumption) only [fX5_readPatternErrors_L2, ↓z_lt, ↓z_ge, ↓z_gt, ↓z_le, ↓z_eq, ↓z_ne, ↓z_mx, ↓z_mn, ↓z_dv, ↓z_rm, ↓z_i2l, ↓z_lc, ↓z_sw, ↓z_sf, ↓z_sn, ↓z_bd, ↓z_nt, z_b0, z_b1, z_bi, z_bj, ↓z_gF, ↓z_gR, ↓z_pF, ↓z_pZ, ↓z_pR, ↓z_aI, ↓z_aR, ↓z_sI, ↓z_sZ, ↓z_on, z_cl, ↓reduceIte, Int.reduceEq, Int.reduceNeg, Int.reduceLT, Int.reduceLE, Int.reduceAdd, Int.reduceSub, Int.reduceMul, true_and, and_true, or_true, true_or, eq_self, iR_t, sO1 sh, k6, ↓e_cl W, hk, p9, p10, pO sh hq, pA4 sh hq, hq1, hq4, ↓e_cl r]
theorem kinds_m0 (M : MT P τ f N e) (kA : Int → St → Option St) (kB : St → Option St) (m : Nat) (k0 : 0 ≤ k) (k9 : k ≤ 5) (hk : 5 ≤ k ∨ kwF f N e = -1) : fX8_patternLine_L78 P 265 x kA kB (m + 1) k τ = (if k ≠ 0 ∧ tT f N e ≠ 1 then kA k τ else kB (mlt τ (if kwF f N e = -1 then 1 else 5))) := by
  have ht := tT_in (f := f) (N := N) (e := e)
  have tt := M.tt
  have fl := M.fl
  have W := m_kindHere M
  have kw := kwF_in (f := f) (N := N) (e := e)
  have kn : ¬ (tT f N e = 1) → kwF f N e = -1 := kwF_n
  generalize tT f N e = t at *
  generalize kwF f N e = K at *
  by_cases z : k = 0
  · subst z
    have K1 : K = -1 := hk.resolve_left (by omega)
    subst K1
    rw [if_neg (by omega), if_pos rfl]
    simp (disch := first | omega | assumption) only [fX8_patternLine_L78, ↓z_lt, ↓z_ge, ↓z_gt, ↓z_le, ↓z_eq, ↓z_ne, ↓z_mx, ↓z_mn, ↓z_dv, ↓z_rm, ↓z_i2l, ↓z_lc, ↓z_sw, ↓z_sf, ↓z_sn, ↓z_bd, ↓z_nt, z_b0, z_b1, z_bi, z_bj, ↓z_gF, ↓z_gR, ↓z_pF, ↓z_pZ, ↓z_pR, ↓z_aI, ↓z_aR, ↓z_sI, ↓z_sZ, ↓z_on, z_cl, ↓reduceIte, Int.reduceEq, Int.reduceNeg, Int.reduceLT, Int.reduceLE, Int.reduceAdd, Int.reduceSub, Int.reduceMul, true_and, and_true, or_true, true_or, eq_self, iR_t, sO265 M.mb.sh, fl, ↓e_cl W, ↓m_must0' M]
  · by_cases t1 : t = 1
    · rw [if_neg (by omega)]
      by_cases K1 : K = -1
      · subst K1
        rw [if_pos rfl]
        simp (disch := first | omega | assumption) only [fX8_patternLine_L78, ↓z_lt, ↓z_ge, ↓z_gt, ↓z_le, ↓z_eq, ↓z_ne, ↓z_mx, ↓z_mn, ↓z_dv, ↓z_rm, ↓z_i2l, ↓z_lc, ↓z_sw, ↓z_sf, ↓z_sn, ↓z_bd, ↓z_nt, z_b0, z_b1, z_bi, z_bj, ↓z_gF, ↓z_gR, ↓z_pF, ↓z_pZ, ↓z_pR, ↓z_aI, ↓z_aR, ↓z_sI, ↓z_sZ, ↓z_on, z_cl, ↓reduceIte, Int.reduceEq, Int.reduceNeg, Int.reduceLT, Int.reduceLE, Int.reduceAdd, Int.reduceSub, Int.reduceMul, true_and, and_true, or_true, true_or, eq_self, iR_t, sO265 M.mb.sh, fl, z, tt, t1, ↓e_cl W, ↓m_must0' M]
      · rw [if_neg K1]
        have k5 : 5 ≤ k := hk.resolve_right K1
        simp (disch := first | omega | assumption) only [fX8_patternLine_L78, ↓z_lt, ↓z_ge, ↓z_gt, ↓z_le, ↓z_eq, ↓z_ne, ↓z_mx, ↓z_mn, ↓z_dv, ↓z_rm, ↓z_i2l, ↓z_lc, ↓z_sw, ↓z_sf, ↓z_sn, ↓z_bd, ↓z_nt, z_b0, z_b1, z_bi, z_bj, ↓z_gF, ↓z_gR, ↓z_pF, ↓z_pZ, ↓z_pR, ↓z_aI, ↓z_aR, ↓z_sI, ↓z_sZ, ↓z_on, z_cl, ↓reduceIte, Int.reduceEq, Int.reduceNeg, Int.reduceLT, Int.reduceLE, Int.reduceAdd, Int.reduceSub, Int.reduceMul, true_and, and_true, or_true, true_or, eq_self, iR_t, sO265 M.mb.sh, fl, z, tt, t1, ↓e_cl W, K1, ↓m_must1' M, k5, ↓m_must0' M]
    · rw [if_pos ⟨z, t1⟩]
      simp (disch := first | omega | assumption) only [fX8_patternLine_L78, ↓z_lt, ↓z_ge, ↓z_gt, ↓z_le, ↓z_eq, ↓z_ne, ↓z_mx, ↓z_mn, ↓z_dv, ↓z_rm, ↓z_i2l, ↓z_lc, ↓z_sw, ↓z_sf, ↓z_sn, ↓z_bd, ↓z_nt, z_b0, z_b1, z_bi, z_bj, ↓z_gF, ↓z_gR, ↓z_pF, ↓z_pZ, ↓z_pR, ↓z_aI, ↓z_aR, ↓z_sI, ↓z_sZ, ↓z_on, z_cl, ↓reduceIte, Int.reduceEq, Int.reduceNeg, Int.reduceLT, Int.reduceLE, Int.reduceAdd, Int.reduceSub, Int.reduceMul, true_and, and_true, or_true, true_or, eq_self, iR_t, sO265 M.mb.sh, fl, z, tt, t1]
theorem kinds_m1 (M : MT P τ f N e) (q10 : τ 265 10 = 267) (kA : Int → St → Option St) (kB : St → Option St) (m : Nat) (k0 : 0 ≤ k) (k5 : k < 5) (x0 : 0 ≤ x) (x90 : x < 90) (hk : ¬ (kwF f N e = -1)) (u : fX8_goOn P (wr τ 267 ((x + 3) + k) (kwF f N e)) 265 = some τ1) : fX8_patternLine_L78 P 265 x kA kB (m + 1) k τ = fX8_patternLine_L78 P 265 x kA kB m (k + 1) τ1 := by
  have ht := tT_in (f := f) (N := N) (e := e)
  have tt := M.tt
  have fl := M.fl
  have W := m_kindHere M
  have kw := kwF_in (f := f) (N := N) (e := e)
  have kn : ¬ (tT f N e = 1) → kwF f N e = -1 := kwF_n
  have t1 : tT f N e = 1 := by
    by_cases t1 : tT f N e = 1
    · exact t1
    · exact absurd (kn t1) hk
  have k6 : ¬ (5 ≤ k) := by omega
  rw [t1] at tt
  generalize kwF f N e = K at *
  by_cases z : k = 0
  · subst z
    simp (disch := first | omega | assumption) only [fX8_patternLine_L78, ↓z_lt, ↓z_ge, ↓z_gt, ↓z_le, ↓z_eq, ↓z_ne, ↓z_mx, ↓z_mn, ↓z_dv, ↓z_rm, ↓z_i2l, ↓z_lc, ↓z_sw, ↓z_sf, ↓z_sn, ↓z_bd, ↓z_nt, z_b0, z_b1, z_bi, z_bj, ↓z_gF, ↓z_gR, ↓z_pF, ↓z_pZ, ↓z_pR, ↓z_aI, ↓z_aR, ↓z_sI, ↓z_sZ, ↓z_on, z_cl, ↓reduceIte, Int.reduceEq, Int.reduceNeg, Int.reduceLT, Int.reduceLE, Int.reduceAdd, Int.reduceSub, Int.reduceMul, true_and, and_true, or_true, true_or, eq_self, iR_t, sO265 M.mb.sh, sA267 M.mb.sh, fl, tt, ↓e_cl W, hk, ↓m_must1' M, q10, ↓e_cl u]
  · simp (disch := first | omega | assumption) only [fX8_patternLine_L78, ↓z_lt, ↓z_ge, ↓z_gt, ↓z_le, ↓z_eq, ↓z_ne, ↓z_mx, ↓z_mn, ↓z_dv, ↓z_rm, ↓z_i2l, ↓z_lc, ↓z_sw, ↓z_sf, ↓z_sn, ↓z_bd, ↓z_nt, z_b0, z_b1, z_bi, z_bj, ↓z_gF, ↓z_gR, ↓z_pF, ↓z_pZ, ↓z_pR, ↓z_aI, ↓z_aR, ↓z_sI, ↓z_sZ, ↓z_on, z_cl, ↓reduceIte, Int.reduceEq, Int.reduceNeg, Int.reduceLT, Int.reduceLE, Int.reduceAdd, Int.reduceSub, Int.reduceMul, true_and, and_true, or_true, true_or, eq_self, iR_t, sO265 M.mb.sh, sA267 M.mb.sh, fl, z, tt, ↓e_cl W, hk, ↓m_must1' M, k6, q10, ↓e_cl u]
def KO (P : Shp) (f : Int → Int) (N q n : Int) (σ τ : St) (d : Int → Int) (k' e' : Int) (σ' τ' : St) (d' : Int → Int) : Prop :=
  (0 ≤ k' ∧ k' ≤ 5) ∧
  (5 ≤ k' ∨ kwF f N e' = -1) ∧
  (QQ P (wr σ' q 4 n) τ' f N e' q d') ∧
  (∀ o, o ≠ 1 → o ≠ q + 4 → σ' o = σ o) ∧
  (∀ o, o ≠ 265 → o ≠ 267 → τ' o = τ o) ∧
  (∀ m, m < 7 + 8 * n + 3 → d' m = d m) ∧
  (∀ i, 0 ≤ i → i < k' → σ' (q + 4) (n * 5 + i) = d' (7 + 8 * n + 3 + i)) ∧
  (CFr q σ σ') ∧
  (MFr τ τ')
theorem KO.k0 {P : Shp} {f : Int → Int} {N q n : Int} {σ τ : St} {d : Int → Int} {k' e' : Int} {σ' τ' : St} {d' : Int → Int} (h : KO P f N q n σ τ d k' e' σ' τ' d') : 0 ≤ k' ∧ k' ≤ 5 := h.1
theorem KO.kx {P : Shp} {f : Int → Int} {N q n : Int} {σ τ : St} {d : Int → Int} {k' e' : Int} {σ' τ' : St} {d' : Int → Int} (h : KO P f N q n σ τ d k' e' σ' τ' d') : 5 ≤ k' ∨ kwF f N e' = -1 := h.2.1
theorem KO.qq {P : Shp} {f : Int → Int} {N q n : Int} {σ τ : St} {d : Int → Int} {k' e' : Int} {σ' τ' : St} {d' : Int → Int} (h : KO P f N q n σ τ d k' e' σ' τ' d') : QQ P (wr σ' q 4 n) τ' f N e' q d' := h.2.2.1
theorem KO.co {P : Shp} {f : Int → Int} {N q n : Int} {σ τ : St} {d : Int → Int} {k' e' : Int} {σ' τ' : St} {d' : Int → Int} (h : KO P f N q n σ τ d k' e' σ' τ' d') : ∀ o, o ≠ 1 → o ≠ q + 4 → σ' o = σ o := h.2.2.2.1
theorem KO.mo {P : Shp} {f : Int → Int} {N q n : Int} {σ τ : St} {d : Int → Int} {k' e' : Int} {σ' τ' : St} {d' : Int → Int} (h : KO P f N q n σ τ d k' e' σ' τ' d') : ∀ o, o ≠ 265 → o ≠ 267 → τ' o = τ o := h.2.2.2.2.1
theorem KO.dm {P : Shp} {f : Int → Int} {N q n : Int} {σ τ : St} {d : Int → Int} {k' e' : Int} {σ' τ' : St} {d' : Int → Int} (h : KO P f N q n σ τ d k' e' σ' τ' d') : ∀ m, m < 7 + 8 * n + 3 → d' m = d m := h.2.2.2.2.2.1
theorem KO.rw' {P : Shp} {f : Int → Int} {N q n : Int} {σ τ : St} {d : Int → Int} {k' e' : Int} {σ' τ' : St} {d' : Int → Int} (h : KO P f N q n σ τ d k' e' σ' τ' d') : ∀ i, 0 ≤ i → i < k' → σ' (q + 4) (n * 5 + i) = d' (7 + 8 * n + 3 + i) := h.2.2.2.2.2.2.1
theorem KO.cf {P : Shp} {f : Int → Int} {N q n : Int} {σ τ : St} {d : Int → Int} {k' e' : Int} {σ' τ' : St} {d' : Int → Int} (h : KO P f N q n σ τ d k' e' σ' τ' d') : CFr q σ σ' := h.2.2.2.2.2.2.2.1
theorem KO.mf {P : Shp} {f : Int → Int} {N q n : Int} {σ τ : St} {d : Int → Int} {k' e' : Int} {σ' τ' : St} {d' : Int → Int} (h : KO P f N q n σ τ d k' e' σ' τ' d') : MFr τ τ' := h.2.2.2.2.2.2.2.2
theorem sim_kinds (hq : q = 3 ∨ q = 17) (n0 : 0 ≤ n) (n6 : n < 6) : ∀ (r : Nat) (k : Int), k + (r : Int) = 5 → 0 ≤ k → ∀ (σ τ : St) (e : Int) (d : Int → Int), QQ P (wr σ q 4 n) τ f N e q d → d 0 = n → (∀ i, 0 ≤ i → i < k → σ (q + 4) (n * 5 + i) = d (7 + 8 * n + 3 + i)) → ∃ (k' e' : Int) (σ' τ' : St) (d' : Int → Int), (∀ kE m, r < m → fX5_readPatternErrors_L2 P 1 n kE m k σ = kE k' σ') ∧ (∀ kA kB m, r < m → fX8_patternLine_L78 P 265 (7 + 8 * n) kA kB m k τ = (if k' ≠ 0 ∧ tT f N e' ≠ 1 then kA k' τ' else kB (mlt τ' (if kwF f N e' = -1 then 1 else 5)))) ∧ KO P f N q n σ τ d k' e' σ' τ' d' := by
  intro r
  induction r with
  | zero =>
    intro k h1 h2 σ τ e d Q hd hrow
    have C : CT P σ f N e := Q.ct.fr (fun j _ _ => (wr_n (by omega)).symm) (wr_o (by omega)).symm
    refine ⟨k, e, σ, τ, d, fun kE m hm => ?_, fun kA kB m hm => ?_, ⟨⟨by omega, by omega⟩, Or.inl (by omega), Q, fun _ _ _ => rfl, fun _ _ _ => rfl, fun _ _ => rfl, hrow, CFr.rf, MFr.rf⟩⟩
    · obtain ⟨m, rfl⟩ : ∃ q, m = q + 1 := ⟨m - 1, by omega⟩
      exact kinds_c0 C kE m (Or.inl (by omega)) h2 (by omega)
    · obtain ⟨m, rfl⟩ : ∃ q, m = q + 1 := ⟨m - 1, by omega⟩
      exact kinds_m0 Q.mt kA kB m h2 (by omega) (Or.inl (by omega))
  | succ r ih =>
    intro k h1 h2 σ τ e d Q hd hrow
    have C : CT P σ f N e := Q.ct.fr (fun j _ _ => (wr_n (by omega)).symm) (wr_o (by omega)).symm
    by_cases hk : kwF f N e = -1
    · refine ⟨k, e, σ, τ, d, fun kE m hm => ?_, fun kA kB m hm => ?_, ⟨⟨by omega, by omega⟩, Or.inr hk, Q, fun _ _ _ => rfl, fun _ _ _ => rfl, fun _ _ => rfl, hrow, CFr.rf, MFr.rf⟩⟩
      · obtain ⟨m, rfl⟩ : ∃ q, m = q + 1 := ⟨m - 1, by omega⟩
        exact kinds_c0 C kE m (Or.inr hk) h2 (by omega)
      · obtain ⟨m, rfl⟩ : ∃ q, m = q + 1 := ⟨m - 1, by omega⟩
        exact kinds_m0 Q.mt kA kB m h2 (by omega) (Or.inr hk)
    · have kw := kwF_in (f := f) (N := N) (e := e)
      have p9 : σ 1 9 = q := by have := Q.pl; rw [wr_n (by omega)] at this; exact this
      have p10 : σ q 10 = q + 4 := by have := Q.pr.r10; rw [wr_i (by omega)] at this; exact this
      have n1 := Q.tv.n1
      have n2 := Q.tv.n2
      have kr : k < 5 := by push_cast at h1; omega
      have un : unC d (7 + 8 * n + 3 + k) := by unfold unC; omega
      have Qc := Q.cell0 (c := q + 4) (n := n * 5 + k) (m := 7 + 8 * n + 3 + k) (v := kwF f N e) (v' := kwF f N e) (by omega) un (fun _ => by omega) (fun _ => by omega) (fun _ => by omega) (fun _ => by omega) (by omega)
      obtain ⟨σ1, r1, C1, o1, j1⟩ := c_adv (C.fr (s := wr σ (q + 4) (n * 5 + k) (kwF f N e)) (fun j _ _ => wr_n (by omega)) (wr_o (by omega)))
      obtain ⟨τ1, u1, M1, o2, j2⟩ := m_goOn Qc.mt
      have V := virt (n := n) o1 (show q + 4 ≠ q by omega)
      have Q1 := Qc.tok (C1.fr (s := wr σ1 q 4 n) (fun j _ _ => wr_n (by omega)) (wr_o (by omega))) M1 V (fun j hj => by rw [wr_n (by omega), j1 j hj, wr_n (by omega), wr_n (by omega), wr_n (by omega)]) o2 j2
      have e0 : zu d (7 + 8 * n + 3 + k) (kwF f N e) 0 = n := by rw [zu_n (by omega)]; exact hd
      have R1 : ∀ i, 0 ≤ i → i < k + 1 → σ1 (q + 4) (n * 5 + i) = zu d (7 + 8 * n + 3 + k) (kwF f N e) (7 + 8 * n + 3 + i) := fun i i0 i1 => by
        rw [o1 (q + 4) (by omega)]
        by_cases z : i = k
        · subst z; rw [wr_s, zu_s]
        · rw [wr_i (by omega), zu_n (by omega)]; exact hrow i i0 (by omega)
      have dm : ∀ m, m < 7 + 8 * n + 3 → zu d (7 + 8 * n + 3 + k) (kwF f N e) m = d m := fun m hm => zu_n (by omega)
      have F1 : CFr q σ σ1 := (CFr.wo (by omega) hq).tr (CFr.ad o1 j1 hq (by rw [wr_n (by omega)]; exact C.le C1))
      have G1 : MFr τ τ1 := (MFr.wo (by omega)).tr (MFr.ad o2 j2)
      obtain ⟨k', e', σ', τ', d', H1, H2, H3⟩ := ih (k + 1) (by push_cast at h1; omega) (by omega) σ1 τ1 _ _ Q1 e0 R1
      refine ⟨k', e', σ', τ', d', fun kE m hm => ?_, fun kA kB m hm => ?_, ⟨H3.k0, H3.kx, H3.qq, fun o a b => by rw [H3.co o a b, o1 o a, wr_o b], fun o a b => by rw [H3.mo o a b, o2 o a, wr_o b], fun m hm => by rw [H3.dm m hm, dm m hm], H3.rw', F1.tr H3.cf, G1.tr H3.mf⟩⟩
      · obtain ⟨m, rfl⟩ : ∃ q, m = q + 1 := ⟨m - 1, by omega⟩
        rw [kinds_c1 C hq p9 p10 n0 n6 h2 kr hk r1]
        exact H1 kE m (by omega)
      · obtain ⟨m, rfl⟩ : ∃ q, m = q + 1 := ⟨m - 1, by omega⟩
        rw [kinds_m1 Q.mt Q.m10 kA kB m h2 kr (by omega) (by omega) hk u1]
        exact H2 kA kB m (by omega)
end ZZX
