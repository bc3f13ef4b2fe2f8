/-! THE CLASS'S advance. -/
def RB (P : Shp) (σ : St) (f : Int → Int) (N : Int) : Prop :=
  (ShpIs P 279 PL) ∧
  (σ 1 0 = 2) ∧
  (σ 1 2 = N) ∧
  (0 ≤ N ∧ N ≤ 600) ∧
  (σ 2 = f) ∧
  (∀ i, 0 ≤ i → i < N → -128 ≤ f i ∧ f i ≤ 127)
theorem RB.sh {P : Shp} {σ : St} {f : Int → Int} {N : Int} (h : RB P σ f N) : ShpIs P 279 PL := h.1
theorem RB.r0 {P : Shp} {σ : St} {f : Int → Int} {N : Int} (h : RB P σ f N) : σ 1 0 = 2 := h.2.1
theorem RB.r2 {P : Shp} {σ : St} {f : Int → Int} {N : Int} (h : RB P σ f N) : σ 1 2 = N := h.2.2.1
theorem RB.hN {P : Shp} {σ : St} {f : Int → Int} {N : Int} (h : RB P σ f N) : 0 ≤ N ∧ N ≤ 600 := h.2.2.2.1
theorem RB.by' {P : Shp} {σ : St} {f : Int → Int} {N : Int} (h : RB P σ f N) : σ 2 = f := h.2.2.2.2.1
theorem RB.fr {P : Shp} {σ : St} {f : Int → Int} {N : Int} (h : RB P σ f N) : ∀ i, 0 ≤ i → i < N → -128 ≤ f i ∧ f i ≤ 127 := h.2.2.2.2.2
section ZZF
variable {P : Shp} {σ σ' σ1 σ2 σ3 s : St} {f : Int → Int} {a b c d e k h i j x y z v w N tk ts : Int} {n : Nat}
theorem vlF_s : vlF f b z i (n + 1) = vlF f b z i n * b + (f (i + (n : Int)) - z) := rfl
theorem c_skip (R : RB P σ f N) (e0 : 0 ≤ σ 1 3) (e1 : σ 1 3 ≤ N) (kE : St → Option St) : ∃ s, fX5_advance_L0 P 1 kE 1000 σ = kE s ∧ (∀ o, o ≠ 1 → s o = σ o) ∧ (∀ j, j ≠ 3 → s 1 j = σ 1 j) ∧ s 1 3 = tS f N (σ 1 3) := by
  have hN := R.hN
  obtain ⟨s, r1, ⟨i1, i2, i3, i4, i5⟩, r3⟩ := loop_w (fun m (s : St) => fX5_advance_L0 P 1 kE m s) kE (fun s => decide (s 1 3 < N ∧ spB f (s 1 3) = true)) (fun s => wr s 1 3 (s 1 3 + 1)) (fun s => (N - s 1 3).toNat) (fun s => (∀ o, o ≠ 1 → s o = σ o) ∧ (∀ j, j ≠ 3 → s 1 j = σ 1 j) ∧ σ 1 3 ≤ s 1 3 ∧ s 1 3 ≤ N ∧ skp (spB f) N (s 1 3) = skp (spB f) N (σ 1 3))
    (fun m s hI hc => by
      obtain ⟨i1, i2, i3, i4, i5⟩ := hI
      have hc := of_decide_eq_true hc
      have q0 : s 1 0 = 2 := by rw [i2 0 (by omega)]; exact R.r0
      have q2 : s 1 2 = N := by rw [i2 2 (by omega)]; exact R.r2
      have qb : s 2 = f := by rw [i1 2 (by omega)]; exact R.by'
      have fr := R.fr (s 1 3) (by omega) hc.1
      have k1 : ¬ (N ≤ s 1 3) := by omega
      have hk : kdF (f (s 1 3)) = 5 := kdF_5.mpr (of_decide_eq_true hc.2)
      have hr : iR (f (s 1 3)) = true := iR_t (by omega) (by omega)
      refine ⟨?_, ⟨fun o ho => ?_, fun j hj => ?_, ?_, ?_, ?_⟩, ?_⟩
      · simp (disch := first | omega | assumption | (simp (disch := omega) only [ q0, q2, qb ]; done) | fail) only [fX5_advance_L0, ↓z_lt, ↓z_ge, ↓z_gt, ↓z_le, ↓z_eq, ↓z_ne, ↓z_mx, ↓z_mn, ↓z_dv, ↓z_rm, ↓z_i2l, ↓z_lc, ↓z_sw, ↓z_sf, ↓z_sn, ↓z_bd, ↓z_nt, z_b0, z_b1, z_bi, z_bj, ↓z_gF, ↓z_gR, ↓z_pF, ↓z_pZ, ↓z_pR, ↓z_aI, ↓z_aR, ↓z_sI, ↓z_sZ, ↓z_on, z_cl, ↓reduceIte, Int.reduceEq, Int.reduceNeg, Int.reduceLT, Int.reduceLE, Int.reduceAdd, Int.reduceSub, Int.reduceMul, true_and, and_true, or_true, true_or, eq_self, iR_t, sO1 R.sh, sA2 R.sh, q0, q2, qb, k1, ↓e_g (c_kindOfSign (P := P) (σ := s) hr), hk]
      · rw [wr_o ho]; exact i1 o ho
      · rw [wr_i hj]; exact i2 j hj
      · rw [wr_s]; omega
      · rw [wr_s]; omega
      · rw [wr_s, ← i5, skp_u (spB f) N (s 1 3), if_pos hc]
      · rw [wr_s]; omega)
    (fun m s hI hc => by
      obtain ⟨i1, i2, i3, i4, i5⟩ := hI
      have hc := of_decide_eq_false hc
      have q0 : s 1 0 = 2 := by rw [i2 0 (by omega)]; exact R.r0
      have q2 : s 1 2 = N := by rw [i2 2 (by omega)]; exact R.r2
      have qb : s 2 = f := by rw [i1 2 (by omega)]; exact R.by'
      by_cases k1 : N ≤ s 1 3
      · simp (disch := first | omega | assumption | (simp (disch := omega) only [ q0, q2, qb ]; done) | fail) only [fX5_advance_L0, ↓z_lt, ↓z_ge, ↓z_gt, ↓z_le, ↓z_eq, ↓z_ne, ↓z_mx, ↓z_mn, ↓z_dv, ↓z_rm, ↓z_i2l, ↓z_lc, ↓z_sw, ↓z_sf, ↓z_sn, ↓z_bd, ↓z_nt, z_b0, z_b1, z_bi, z_bj, ↓z_gF, ↓z_gR, ↓z_pF, ↓z_pZ, ↓z_pR, ↓z_aI, ↓z_aR, ↓z_sI, ↓z_sZ, ↓z_on, z_cl, ↓reduceIte, Int.reduceEq, Int.reduceNeg, Int.reduceLT, Int.reduceLE, Int.reduceAdd, Int.reduceSub, Int.reduceMul, true_and, and_true, or_true, true_or, eq_self, iR_t, sO1 R.sh, sA2 R.sh, q0, q2, qb, k1]
      · have fr := R.fr (s 1 3) (by omega) (by omega)
        have hr : iR (f (s 1 3)) = true := iR_t (by omega) (by omega)
        have hk : ¬ (kdF (f (s 1 3)) = 5) := fun w => hc ⟨by omega, decide_eq_true (kdF_5.mp w)⟩
        have kr : iR (kdF (f (s 1 3))) = true := kdF_R
        simp (disch := first | omega | assumption | (simp (disch := omega) only [ q0, q2, qb ]; done) | fail) only [fX5_advance_L0, ↓z_lt, ↓z_ge, ↓z_gt, ↓z_le, ↓z_eq, ↓z_ne, ↓z_mx, ↓z_mn, ↓z_dv, ↓z_rm, ↓z_i2l, ↓z_lc, ↓z_sw, ↓z_sf, ↓z_sn, ↓z_bd, ↓z_nt, z_b0, z_b1, z_bi, z_bj, ↓z_gF, ↓z_gR, ↓z_pF, ↓z_pZ, ↓z_pR, ↓z_aI, ↓z_aR, ↓z_sI, ↓z_sZ, ↓z_on, z_cl, ↓reduceIte, Int.reduceEq, Int.reduceNeg, Int.reduceLT, Int.reduceLE, Int.reduceAdd, Int.reduceSub, Int.reduceMul, true_and, and_true, or_true, true_or, eq_self, iR_t, sO1 R.sh, sA2 R.sh, q0, q2, qb, k1, ↓e_g (c_kindOfSign (P := P) (σ := s) hr), hk, kr])
    (N - σ 1 3).toNat 1000 σ (Nat.le_refl _) (by omega) ⟨fun _ _ => rfl, fun _ _ => rfl, Int.le_refl _, e1, rfl⟩
  refine ⟨s, r1, i1, i2, ?_⟩
  have r3 := of_decide_eq_false r3
  unfold tS
  rw [← i5, skp_u, if_neg r3]
theorem c_run (R : RB P σ f N) (cls : Int → Bool) (hcl : ∀ i, 0 ≤ i → i < N → (kdF (f i) = tk ↔ cls i = true)) (htk : tk = 1 ∨ tk = 2) (hb : 0 ≤ b ∧ b ≤ 100) (hz : 0 ≤ z ∧ z ≤ 100) (q4 : σ 1 4 = tk) (q6 : σ 1 6 = 0) (t0 : 0 ≤ ts) (t1 : ts ≤ N) (q3 : σ 1 3 = ts) (kE : St → Option St) : ∃ s, fX5_advance_L150 P 1 b z kE 1000 σ = kE s ∧ (∀ o, o ≠ 1 → s o = σ o) ∧ (∀ j, j ≠ 3 → j ≠ 6 → s 1 j = σ 1 j) ∧ s 1 3 = skp cls N ts ∧ s 1 6 = vlF f b z ts (skp cls N ts - ts).toNat := by
  have hN := R.hN
  obtain ⟨s, r1, ⟨i1, i2, i3, i4, i5, i6⟩, r3⟩ := loop_w (fun m (s : St) => fX5_advance_L150 P 1 b z kE m s) kE (fun s => decide (s 1 3 < N ∧ cls (s 1 3) = true)) (fun s => wr (wr s 1 6 (s 1 6 * b + (f (s 1 3) - z))) 1 3 (s 1 3 + 1)) (fun s => (N - s 1 3).toNat) (fun s => (∀ o, o ≠ 1 → s o = σ o) ∧ (∀ j, j ≠ 3 → j ≠ 6 → s 1 j = σ 1 j) ∧ ts ≤ s 1 3 ∧ s 1 3 ≤ N ∧ skp cls N (s 1 3) = skp cls N ts ∧ s 1 6 = vlF f b z ts (s 1 3 - ts).toNat)
    (fun m s hI hc => by
      obtain ⟨i1, i2, i3, i4, i5, i6⟩ := hI
      have hc := of_decide_eq_true hc
      have q0 : s 1 0 = 2 := by rw [i2 0 (by omega) (by omega)]; exact R.r0
      have q2 : s 1 2 = N := by rw [i2 2 (by omega) (by omega)]; exact R.r2
      have q4' : s 1 4 = tk := by rw [i2 4 (by omega) (by omega)]; exact q4
      have qb : s 2 = f := by rw [i1 2 (by omega)]; exact R.by'
      have fr := R.fr (s 1 3) (by omega) hc.1
      have k1 : ¬ (N ≤ s 1 3) := by omega
      have hk : kdF (f (s 1 3)) = tk := (hcl (s 1 3) (by omega) hc.1).mpr hc.2
      have hr : iR (f (s 1 3)) = true := iR_t (by omega) (by omega)
      have kt : iR tk = true := iR_t (by omega) (by omega)
      refine ⟨?_, ⟨fun o ho => ?_, fun j hj hj2 => ?_, ?_, ?_, ?_, ?_⟩, ?_⟩
      · simp (disch := first | omega | assumption | (simp (disch := omega) only [ q0, q2, qb ]; done) | fail) only [fX5_advance_L150, ↓z_lt, ↓z_ge, ↓z_gt, ↓z_le, ↓z_eq, ↓z_ne, ↓z_mx, ↓z_mn, ↓z_dv, ↓z_rm, ↓z_i2l, ↓z_lc, ↓z_sw, ↓z_sf, ↓z_sn, ↓z_bd, ↓z_nt, z_b0, z_b1, z_bi, z_bj, ↓z_gF, ↓z_gR, ↓z_pF, ↓z_pZ, ↓z_pR, ↓z_aI, ↓z_aR, ↓z_sI, ↓z_sZ, ↓z_on, z_cl, ↓reduceIte, Int.reduceEq, Int.reduceNeg, Int.reduceLT, Int.reduceLE, Int.reduceAdd, Int.reduceSub, Int.reduceMul, true_and, and_true, or_true, true_or, eq_self, iR_t, sO1 R.sh, sA2 R.sh, q0, q2, q4', qb, k1, ↓e_g (c_kindOfSign (P := P) (σ := s) hr), hk, kt, wr_i]
      · rw [wr_o ho, wr_o ho]; exact i1 o ho
      · rw [wr_i hj, wr_i hj2]; exact i2 j hj hj2
      · rw [wr_s]; omega
      · rw [wr_s]; omega
      · rw [wr_s, ← i5, skp_u cls N (s 1 3), if_pos hc]
      · rw [wr_i (by omega), wr_s, wr_s, i6, show (s 1 3 + 1 - ts).toNat = (s 1 3 - ts).toNat + 1 by omega, vlF_s, show ts + (((s 1 3 - ts).toNat : Nat) : Int) = s 1 3 by omega]
      · rw [wr_s]; omega)
    (fun m s hI hc => by
      obtain ⟨i1, i2, i3, i4, i5, i6⟩ := hI
      have hc := of_decide_eq_false hc
      have q0 : s 1 0 = 2 := by rw [i2 0 (by omega) (by omega)]; exact R.r0
      have q2 : s 1 2 = N := by rw [i2 2 (by omega) (by omega)]; exact R.r2
      have q4' : s 1 4 = tk := by rw [i2 4 (by omega) (by omega)]; exact q4
      have qb : s 2 = f := by rw [i1 2 (by omega)]; exact R.by'
      by_cases k1 : N ≤ s 1 3
      · simp (disch := first | omega | assumption | (simp (disch := omega) only [ q0, q2, qb ]; done) | fail) only [fX5_advance_L150, ↓z_lt, ↓z_ge, ↓z_gt, ↓z_le, ↓z_eq, ↓z_ne, ↓z_mx, ↓z_mn, ↓z_dv, ↓z_rm, ↓z_i2l, ↓z_lc, ↓z_sw, ↓z_sf, ↓z_sn, ↓z_bd, ↓z_nt, z_b0, z_b1, z_bi, z_bj, ↓z_gF, ↓z_gR, ↓z_pF, ↓z_pZ, ↓z_pR, ↓z_aI, ↓z_aR, ↓z_sI, ↓z_sZ, ↓z_on, z_cl, ↓reduceIte, Int.reduceEq, Int.reduceNeg, Int.reduceLT, Int.reduceLE, Int.reduceAdd, Int.reduceSub, Int.reduceMul, true_and, and_true, or_true, true_or, eq_self, iR_t, sO1 R.sh, sA2 R.sh, q0, q2, qb, k1]
      · have fr := R.fr (s 1 3) (by omega) (by omega)
        have hr : iR (f (s 1 3)) = true := iR_t (by omega) (by omega)
        have hk : ¬ (kdF (f (s 1 3)) = tk) := fun w => hc ⟨by omega, (hcl (s 1 3) (by omega) (by omega)).mp w⟩
        have kr : iR (kdF (f (s 1 3))) = true := kdF_R
        have kt : iR tk = true := iR_t (by omega) (by omega)
        simp (disch := first | omega | assumption | (simp (disch := omega) only [ q0, q2, qb ]; done) | fail) only [fX5_advance_L150, ↓z_lt, ↓z_ge, ↓z_gt, ↓z_le, ↓z_eq, ↓z_ne, ↓z_mx, ↓z_mn, ↓z_dv, ↓z_rm, ↓z_i2l, ↓z_lc, ↓z_sw, ↓z_sf, ↓z_sn, ↓z_bd, ↓z_nt, z_b0, z_b1, z_bi, z_bj, ↓z_gF, ↓z_gR, ↓z_pF, ↓z_pZ, ↓z_pR, ↓z_aI, ↓z_aR, ↓z_sI, ↓z_sZ, ↓z_on, z_cl, ↓reduceIte, Int.reduceEq, Int.reduceNeg, Int.reduceLT, Int.reduceLE, Int.reduceAdd, Int.reduceSub, Int.reduceMul, true_and, and_true, or_true, true_or, eq_self, iR_t, sO1 R.sh, sA2 R.sh, q0, q2, q4', qb, k1, ↓e_g (c_kindOfSign (P := P) (σ := s) hr), hk, kr, kt])
    (N - σ 1 3).toNat 1000 σ (Nat.le_refl _) (by omega) ⟨fun _ _ => rfl, fun _ _ _ => rfl, by omega, by omega, by rw [q3], by rw [q3, q6, show (ts - ts).toNat = 0 by omega]; rfl⟩
  have r3 := of_decide_eq_false r3
  have es : s 1 3 = skp cls N ts := by rw [← i5, skp_u, if_neg r3]
  refine ⟨s, r1, i1, i2, es, ?_⟩
  rw [i6, es]
/-- what an advance leaves -/
def AD (σ σ' : St) (f : Int → Int) (N e : Int) : Prop :=
  (∀ o, o ≠ 1 → σ' o = σ o) ∧
  (∀ j, (j < 3 ∨ 6 < j) → σ' 1 j = σ 1 j) ∧
  (σ' 1 5 = tS f N e) ∧
  (σ' 1 3 = tE f N e) ∧
  (σ' 1 4 = tT f N e) ∧
  ((tT f N e = 1 ∨ tT f N e = 2) → σ' 1 6 = tV f N e)
theorem AD.oo {σ σ' : St} {f : Int → Int} {N e : Int} (h : AD σ σ' f N e) : ∀ o, o ≠ 1 → σ' o = σ o := h.1
theorem AD.jj {σ σ' : St} {f : Int → Int} {N e : Int} (h : AD σ σ' f N e) : ∀ j, (j < 3 ∨ 6 < j) → σ' 1 j = σ 1 j := h.2.1
theorem AD.ss {σ σ' : St} {f : Int → Int} {N e : Int} (h : AD σ σ' f N e) : σ' 1 5 = tS f N e := h.2.2.1
theorem AD.ee {σ σ' : St} {f : Int → Int} {N e : Int} (h : AD σ σ' f N e) : σ' 1 3 = tE f N e := h.2.2.2.1
theorem AD.tt {σ σ' : St} {f : Int → Int} {N e : Int} (h : AD σ σ' f N e) : σ' 1 4 = tT f N e := h.2.2.2.2.1
theorem AD.vv {σ σ' : St} {f : Int → Int} {N e : Int} (h : AD σ σ' f N e) : (tT f N e = 1 ∨ tT f N e = 2) → σ' 1 6 = tV f N e := h.2.2.2.2.2
theorem tS_in (e1 : e ≤ N) : e ≤ tS f N e ∧ tS f N e ≤ N := by
  have := skp_in (spB f) N _ e e1 rfl
  exact ⟨this.1, this.2.1⟩
theorem c_advance (R : RB P σ f N) (e0 : 0 ≤ σ 1 3) (e1 : σ 1 3 ≤ N) : ∃ σ', fX5_advance P σ 1 = some σ' ∧ AD σ σ' f N (σ 1 3) := by
  have hN := R.hN
  obtain ⟨s, r1, i1, i2, i3⟩ := c_skip R e0 e1 (fun s9 =>
      gF P 5 s9 1 3 fun x10 =>
      pF P 5 s9 1 5 x10 fun s11 =>
      gF P 5 s11 1 3 fun x12 =>
      gF P 5 s11 1 2 fun x13 =>
      jnt
        (fun x14 =>
          pF P 5 s11 1 4 x14 fun s15 =>
          gF P 5 s15 1 4 fun x16 =>
          jnt
            (
              gF P 5 s15 1 4 fun x17 =>
              jnt
                (fun x18 =>
                  gF P 5 s15 1 4 fun x19 =>
                  jnt
                    (fun x20 =>
                      pF P 5 s15 1 6 0 fun s21 =>
                      fX5_advance_L150 P 1 x18 x20
                        (fun s38 =>
                          gF P 5 s38 1 3 fun x39 =>
                          gF P 5 s38 1 5 fun x40 =>
                          gF P 5 s38 1 4 fun x41 =>
                          jnt
                            (fun x42 =>
                              jle (x39 - x40) x42
                                (some s38)
                                (
                                  pF P 5 s38 1 4 4 fun s43 =>
                                  some s43))
                            fun k240 =>
                          jne x41 1
                            (k240 4)
                            (k240 8))
                        1000 s21)
                    fun k144 =>
                  jne x19 1
                    (k144 48)
                    (k144 96))
                fun k128 =>
              jne x17 1
                (k128 10)
                (k128 27))
            fun k113 =>
          jeq x16 1
            (k113)
            (
              gF P 5 s15 1 4 fun x44 =>
              jeq x44 2
                (k113)
                (
                  gF P 5 s15 1 3 fun x45 =>
                  gF P 5 s15 1 2 fun x46 =>
                  mn (x45 + 1) x46 fun x47 =>
                  pF P 5 s15 1 3 x47 fun s48 =>
                  some s48)))
        fun k76 =>
      jge x12 x13
        (k76 0)
        (
          gR P 5 s11 1 0 fun x49 =>
          gF P 5 s11 1 3 fun x50 =>
          aI P 9 s11 x49 x50 fun x51 =>
          cl (fX5_kindOfSign P s11 x51) fun x52 =>
          k76 x52))
  have ti := tS_in (f := f) (e := σ 1 3) e1
  generalize hT : tS f N (σ 1 3) = T at i3 ti
  have q0 : s 1 0 = 2 := by rw [i2 0 (by omega)]; exact R.r0
  have q2 : s 1 2 = N := by rw [i2 2 (by omega)]; exact R.r2
  have qb : s 2 = f := by rw [i1 2 (by omega)]; exact R.by'
  unfold fX5_advance
  by_cases k1 : N ≤ T
  · have k2 : T = N := by omega
    have k3 : N < N + 1 := by omega
    refine ⟨wr (wr (wr s 1 5 N) 1 4 0) 1 3 N, ?_, ?_⟩
    · refine r1.trans ?_
      simp (disch := first | omega | assumption) only [↓z_lt, ↓z_ge, ↓z_gt, ↓z_le, ↓z_eq, ↓z_ne, ↓z_mx, ↓z_mn, ↓z_dv, ↓z_rm, ↓z_i2l, ↓z_lc, ↓z_sw, ↓z_sf, ↓z_sn, ↓z_bd, ↓z_nt, z_b0, z_b1, z_bi, z_bj, ↓z_gF, ↓z_gR, ↓z_pF, ↓z_pZ, ↓z_pR, ↓z_aI, ↓z_aR, ↓z_sI, ↓z_sZ, ↓z_on, z_cl, ↓reduceIte, Int.reduceEq, Int.reduceNeg, Int.reduceLT, Int.reduceLE, Int.reduceAdd, Int.reduceSub, Int.reduceMul, true_and, and_true, or_true, true_or, eq_self, iR_t, sO1 R.sh, i3, k2, q2, wr_s, wr_i, Int.le_refl, k3]
    · have hlt : ¬ (T < N) := by omega
      refine ⟨fun o ho => by rw [wr_o ho, wr_o ho, wr_o ho]; exact i1 o ho, fun j hj => by rw [wr_i (by omega), wr_i (by omega), wr_i (by omega)]; exact i2 j (by omega), ?_, ?_, ?_, ?_⟩
      · rw [wr_i (by omega), wr_i (by omega), wr_s, hT]; exact k2.symm
      · rw [wr_s]; unfold tE; rw [hT, if_neg hlt]
      · rw [wr_i (by omega), wr_s]; unfold tT; rw [hT, if_neg hlt]
      · unfold tT; rw [hT, if_neg hlt]; omega
  · have hlt : T < N := by omega
    have fr := R.fr T (by omega) hlt
    have hr : iR (f T) = true := iR_t (by omega) (by omega)
    have hsp : spB f T = false := by
      have := (skp_in (spB f) N _ (σ 1 3) e1 rfl).2.2.2
      rw [show skp (spB f) N (σ 1 3) = T from hT] at this
      exact this hlt
    have kn5 : kdF (f T) ≠ 5 := fun w => by
      have := kdF_5.mp w
      unfold spB at hsp
      rw [decide_eq_true this] at hsp
      cases hsp
    have kr : iR (kdF (f T)) = true := kdF_R
    by_cases c1 : kdF (f T) = 1
    · have hc : ltB f T = true := decide_eq_true (kdF_1.mp c1)
      have heE : tE f N (σ 1 3) = skp (ltB f) N T := by unfold tE; rw [hT, if_pos hlt, if_pos hc]
      have heT : tT f N (σ 1 3) = if skp (ltB f) N T - T ≤ 8 then 1 else 4 := by unfold tT; rw [hT, if_pos hlt, if_pos hc, heE]
      have heV : tV f N (σ 1 3) = vlF f 27 96 T (skp (ltB f) N T - T).toNat := by unfold tV; rw [hT, if_pos hc, heE]
      have hin := skp_in (ltB f) N _ T ti.2 rfl
      have R2 : RB P (wr (wr (wr s 1 5 T) 1 4 1) 1 6 0) f N := ⟨R.sh, by rw [wr_i (by omega), wr_i (by omega), wr_i (by omega)]; exact q0, by rw [wr_i (by omega), wr_i (by omega), wr_i (by omega)]; exact q2, hN, by rw [wr_o (by omega), wr_o (by omega), wr_o (by omega)]; exact qb, R.fr⟩
      obtain ⟨s', u1, u2, u3, u4, u5⟩ := c_run (b := 27) (z := 96) R2 (ltB f) (fun i _ _ => ⟨fun w => decide_eq_true (kdF_1.mp w), fun w => kdF_1.mpr (of_decide_eq_true w)⟩) (tk := 1) (by omega) (by omega) (by omega) (by rw [wr_i (by omega), wr_s]) (by rw [wr_s]) (ts := T) (by omega) ti.2 (by rw [wr_i (by omega), wr_i (by omega), wr_i (by omega)]; exact i3) (fun s38 =>
        gF P 5 s38 1 3 fun x39 =>
        gF P 5 s38 1 5 fun x40 =>
        gF P 5 s38 1 4 fun x41 =>
        jnt
          (fun x42 =>
            jle (x39 - x40) x42
              (some s38)
              (
                pF P 5 s38 1 4 4 fun s43 =>
                some s43))
          fun k240 =>
        jne x41 1
          (k240 4)
          (k240 8))
      have v5 : s' 1 5 = T := by rw [u3 5 (by omega) (by omega), wr_i (by omega), wr_i (by omega), wr_s]
      have v4 : s' 1 4 = 1 := by rw [u3 4 (by omega) (by omega), wr_i (by omega), wr_s]
      have oo : ∀ o, o ≠ 1 → s' o = σ o := fun o ho => by rw [u2 o ho, wr_o ho, wr_o ho, wr_o ho]; exact i1 o ho
      have jj : ∀ j, (j < 3 ∨ 6 < j) → s' 1 j = σ 1 j := fun j hj => by rw [u3 j (by omega) (by omega), wr_i (by omega), wr_i (by omega), wr_i (by omega)]; exact i2 j (by omega)
      generalize hM : skp (ltB f) N T = M at *
      have run : (fX5_advance_L0 P 1 _ 1000 σ) = _ := r1.trans (by
        refine Eq.trans ?_ u1
        simp (disch := first | omega | assumption | (simp (disch := omega) only [ i3, q0, qb, wr_i, wr_n ]; done) | fail) only [↓z_lt, ↓z_ge, ↓z_gt, ↓z_le, ↓z_eq, ↓z_ne, ↓z_mx, ↓z_mn, ↓z_dv, ↓z_rm, ↓z_i2l, ↓z_lc, ↓z_sw, ↓z_sf, ↓z_sn, ↓z_bd, ↓z_nt, z_b0, z_b1, z_bi, z_bj, ↓z_gF, ↓z_gR, ↓z_pF, ↓z_pZ, ↓z_pR, ↓z_aI, ↓z_aR, ↓z_sI, ↓z_sZ, ↓z_on, z_cl, ↓reduceIte, Int.reduceEq, Int.reduceNeg, Int.reduceLT, Int.reduceLE, Int.reduceAdd, Int.reduceSub, Int.reduceMul, true_and, and_true, or_true, true_or, eq_self, iR_t, sO1 R.sh, sA2 R.sh, i3, k1, q0, q2, qb, wr_s, wr_i, wr_n, ↓e_g (c_kindOfSign (P := P) (σ := wr s 1 5 T) hr), c1, kr])
      by_cases k5 : M - T ≤ 8
      · refine ⟨s', run.trans ?_, oo, jj, by rw [hT]; exact v5, by rw [heE]; exact u4, by rw [heT, if_pos k5]; exact v4, fun _ => by rw [heV]; exact u5⟩
        simp (disch := first | omega | assumption) only [↓z_lt, ↓z_ge, ↓z_gt, ↓z_le, ↓z_eq, ↓z_ne, ↓z_mx, ↓z_mn, ↓z_dv, ↓z_rm, ↓z_i2l, ↓z_lc, ↓z_sw, ↓z_sf, ↓z_sn, ↓z_bd, ↓z_nt, z_b0, z_b1, z_bi, z_bj, ↓z_gF, ↓z_gR, ↓z_pF, ↓z_pZ, ↓z_pR, ↓z_aI, ↓z_aR, ↓z_sI, ↓z_sZ, ↓z_on, z_cl, ↓reduceIte, Int.reduceEq, Int.reduceNeg, Int.reduceLT, Int.reduceLE, Int.reduceAdd, Int.reduceSub, Int.reduceMul, true_and, and_true, or_true, true_or, eq_self, iR_t, sO1 R.sh, v5, v4, u4, k5]
      · refine ⟨wr s' 1 4 4, run.trans ?_, fun o ho => by rw [wr_o ho]; exact oo o ho, fun j hj => by rw [wr_i (by omega)]; exact jj j hj, by rw [wr_i (by omega), hT]; exact v5, by rw [wr_i (by omega), heE]; exact u4, by rw [heT, if_neg k5, wr_s], fun w => by rw [heT, if_neg k5] at w; omega⟩
        simp (disch := first | omega | assumption) only [↓z_lt, ↓z_ge, ↓z_gt, ↓z_le, ↓z_eq, ↓z_ne, ↓z_mx, ↓z_mn, ↓z_dv, ↓z_rm, ↓z_i2l, ↓z_lc, ↓z_sw, ↓z_sf, ↓z_sn, ↓z_bd, ↓z_nt, z_b0, z_b1, z_bi, z_bj, ↓z_gF, ↓z_gR, ↓z_pF, ↓z_pZ, ↓z_pR, ↓z_aI, ↓z_aR, ↓z_sI, ↓z_sZ, ↓z_on, z_cl, ↓reduceIte, Int.reduceEq, Int.reduceNeg, Int.reduceLT, Int.reduceLE, Int.reduceAdd, Int.reduceSub, Int.reduceMul, true_and, and_true, or_true, true_or, eq_self, iR_t, sO1 R.sh, v5, v4, u4, k5]
    · by_cases c2 : kdF (f T) = 2
      · have hc : dgB f T = true := decide_eq_true (kdF_2.mp c2)
        have nl : ltB f T = false := decide_eq_false (fun w => c1 (kdF_1.mpr w))
        have heE : tE f N (σ 1 3) = skp (dgB f) N T := by unfold tE; rw [hT, if_pos hlt, nl, if_neg (by simp), if_pos hc]
        have heT : tT f N (σ 1 3) = if skp (dgB f) N T - T ≤ 4 then 2 else 4 := by unfold tT; rw [hT, if_pos hlt, nl, if_neg (by simp), if_pos hc, heE]
        have heV : tV f N (σ 1 3) = vlF f 10 48 T (skp (dgB f) N T - T).toNat := by unfold tV; rw [hT, nl, if_neg (by simp), heE]
        have hin := skp_in (dgB f) N _ T ti.2 rfl
        have R2 : RB P (wr (wr (wr s 1 5 T) 1 4 2) 1 6 0) f N := ⟨R.sh, by rw [wr_i (by omega), wr_i (by omega), wr_i (by omega)]; exact q0, by rw [wr_i (by omega), wr_i (by omega), wr_i (by omega)]; exact q2, hN, by rw [wr_o (by omega), wr_o (by omega), wr_o (by omega)]; exact qb, R.fr⟩
        obtain ⟨s', u1, u2, u3, u4, u5⟩ := c_run (b := 10) (z := 48) R2 (dgB f) (fun i _ _ => ⟨fun w => decide_eq_true (kdF_2.mp w), fun w => kdF_2.mpr (of_decide_eq_true w)⟩) (tk := 2) (by omega) (by omega) (by omega) (by rw [wr_i (by omega), wr_s]) (by rw [wr_s]) (ts := T) (by omega) ti.2 (by rw [wr_i (by omega), wr_i (by omega), wr_i (by omega)]; exact i3) (fun s38 =>
          gF P 5 s38 1 3 fun x39 =>
          gF P 5 s38 1 5 fun x40 =>
          gF P 5 s38 1 4 fun x41 =>
          jnt
            (fun x42 =>
              jle (x39 - x40) x42
                (some s38)
                (
                  pF P 5 s38 1 4 4 fun s43 =>
                  some s43))
            fun k240 =>
          jne x41 1
            (k240 4)
            (k240 8))
        have v5 : s' 1 5 = T := by rw [u3 5 (by omega) (by omega), wr_i (by omega), wr_i (by omega), wr_s]
        have v4 : s' 1 4 = 2 := by rw [u3 4 (by omega) (by omega), wr_i (by omega), wr_s]
        have oo : ∀ o, o ≠ 1 → s' o = σ o := fun o ho => by rw [u2 o ho, wr_o ho, wr_o ho, wr_o ho]; exact i1 o ho
        have jj : ∀ j, (j < 3 ∨ 6 < j) → s' 1 j = σ 1 j := fun j hj => by rw [u3 j (by omega) (by omega), wr_i (by omega), wr_i (by omega), wr_i (by omega)]; exact i2 j (by omega)
        generalize hM : skp (dgB f) N T = M at *
        have run : (fX5_advance_L0 P 1 _ 1000 σ) = _ := r1.trans (by
          refine Eq.trans ?_ u1
          simp (disch := first | omega | assumption | (simp (disch := omega) only [ i3, q0, qb, wr_i, wr_n ]; done) | fail) only [↓z_lt, ↓z_ge, ↓z_gt, ↓z_le, ↓z_eq, ↓z_ne, ↓z_mx, ↓z_mn, ↓z_dv, ↓z_rm, ↓z_i2l, ↓z_lc, ↓z_sw, ↓z_sf, ↓z_sn, ↓z_bd, ↓z_nt, z_b0, z_b1, z_bi, z_bj, ↓z_gF, ↓z_gR, ↓z_pF, ↓z_pZ, ↓z_pR, ↓z_aI, ↓z_aR, ↓z_sI, ↓z_sZ, ↓z_on, z_cl, ↓reduceIte, Int.reduceEq, Int.reduceNeg, Int.reduceLT, Int.reduceLE, Int.reduceAdd, Int.reduceSub, Int.reduceMul, true_and, and_true, or_true, true_or, eq_self, iR_t, sO1 R.sh, sA2 R.sh, i3, k1, q0, q2, qb, wr_s, wr_i, wr_n, ↓e_g (c_kindOfSign (P := P) (σ := wr s 1 5 T) hr), c2, kr])
        by_cases k5 : M - T ≤ 4
        · refine ⟨s', run.trans ?_, oo, jj, by rw [hT]; exact v5, by rw [heE]; exact u4, by rw [heT, if_pos k5]; exact v4, fun _ => by rw [heV]; exact u5⟩
          simp (disch := first | omega | assumption) only [↓z_lt, ↓z_ge, ↓z_gt, ↓z_le, ↓z_eq, ↓z_ne, ↓z_mx, ↓z_mn, ↓z_dv, ↓z_rm, ↓z_i2l, ↓z_lc, ↓z_sw, ↓z_sf, ↓z_sn, ↓z_bd, ↓z_nt, z_b0, z_b1, z_bi, z_bj, ↓z_gF, ↓z_gR, ↓z_pF, ↓z_pZ, ↓z_pR, ↓z_aI, ↓z_aR, ↓z_sI, ↓z_sZ, ↓z_on, z_cl, ↓reduceIte, Int.reduceEq, Int.reduceNeg, Int.reduceLT, Int.reduceLE, Int.reduceAdd, Int.reduceSub, Int.reduceMul, true_and, and_true, or_true, true_or, eq_self, iR_t, sO1 R.sh, v5, v4, u4, k5]
        · refine ⟨wr s' 1 4 4, run.trans ?_, fun o ho => by rw [wr_o ho]; exact oo o ho, fun j hj => by rw [wr_i (by omega)]; exact jj j hj, by rw [wr_i (by omega), hT]; exact v5, by rw [wr_i (by omega), heE]; exact u4, by rw [heT, if_neg k5, wr_s], fun w => by rw [heT, if_neg k5] at w; omega⟩
          simp (disch := first | omega | assumption) only [↓z_lt, ↓z_ge, ↓z_gt, ↓z_le, ↓z_eq, ↓z_ne, ↓z_mx, ↓z_mn, ↓z_dv, ↓z_rm, ↓z_i2l, ↓z_lc, ↓z_sw, ↓z_sf, ↓z_sn, ↓z_bd, ↓z_nt, z_b0, z_b1, z_bi, z_bj, ↓z_gF, ↓z_gR, ↓z_pF, ↓z_pZ, ↓z_pR, ↓z_aI, ↓z_aR, ↓z_sI, ↓z_sZ, ↓z_on, z_cl, ↓reduceIte, Int.reduceEq, Int.reduceNeg, Int.reduceLT, Int.reduceLE, Int.reduceAdd, Int.reduceSub, Int.reduceMul, true_and, and_true, or_true, true_or, eq_self, iR_t, sO1 R.sh, v5, v4, u4, k5]
      · have ek := kdF_o kn5 c1 c2
        have nl : ltB f T = false := decide_eq_false (fun w => c1 (kdF_1.mpr w))
        have nd : dgB f T = false := decide_eq_false (fun w => c2 (kdF_2.mpr w))
        have k3 : ¬ (N < T + 1) := by omega
        refine ⟨wr (wr (wr s 1 5 T) 1 4 (kdF (f T))) 1 3 (T + 1), ?_, ?_⟩
        · refine r1.trans ?_
          simp (disch := first | omega | assumption | (simp (disch := omega) only [ i3, q0, qb, wr_i, wr_n ]; done) | fail) only [↓z_lt, ↓z_ge, ↓z_gt, ↓z_le, ↓z_eq, ↓z_ne, ↓z_mx, ↓z_mn, ↓z_dv, ↓z_rm, ↓z_i2l, ↓z_lc, ↓z_sw, ↓z_sf, ↓z_sn, ↓z_bd, ↓z_nt, z_b0, z_b1, z_bi, z_bj, ↓z_gF, ↓z_gR, ↓z_pF, ↓z_pZ, ↓z_pR, ↓z_aI, ↓z_aR, ↓z_sI, ↓z_sZ, ↓z_on, z_cl, ↓reduceIte, Int.reduceEq, Int.reduceNeg, Int.reduceLT, Int.reduceLE, Int.reduceAdd, Int.reduceSub, Int.reduceMul, true_and, and_true, or_true, true_or, eq_self, iR_t, sO1 R.sh, sA2 R.sh, i3, k1, q0, q2, qb, wr_s, wr_i, wr_n, ↓e_g (c_kindOfSign (P := P) (σ := wr s 1 5 T) hr), c1, c2, kr, k3]
        · refine ⟨fun o ho => by rw [wr_o ho, wr_o ho, wr_o ho]; exact i1 o ho, fun j hj => by rw [wr_i (by omega), wr_i (by omega), wr_i (by omega)]; exact i2 j (by omega), ?_, ?_, ?_, ?_⟩
          · rw [wr_i (by omega), wr_i (by omega), wr_s, hT]
          · rw [wr_s]; unfold tE; rw [hT, if_pos hlt, nl, nd]; rfl
          · rw [wr_i (by omega), wr_s]; unfold tT; rw [hT, if_pos hlt, nl, nd, ek]; rfl
          · unfold tT; rw [hT, if_pos hlt, nl, nd]; intro w; exfalso; revert w; simp; split <;> omega
end ZZF
