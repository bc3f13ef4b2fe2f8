/-! THE TEXT on both sides, up to its end or its first fault. -/
noncomputable def readL (P : Shp) (s12 : St) : Option (Int × St) :=
  fX5_read_L48 P 1
    (fun s18 =>
      onO P 5 1 <| cl (fX5_fault P s18 1 1) fun (x20, s21) =>
      bz x20 (some ((x20 : Int), s21)))
    (fun s22 =>
      bz 1 (some ((1 : Int), s22)))
    (fun s23 =>
      bz 0 (some ((0 : Int), s23)))
    1000 0 s12
noncomputable def parK (P : Shp) (s34 : St) : Option (Int × St) :=
  gF P 8 s34 265 8 fun x35 =>
  jeq x35 0
    (
      onO P 8 265 <| cl (fX8_takeDraft P s34 265) fun s36 =>
      onO P 8 265 <| cl (fX8_streams P s36 265) fun x37 =>
      some ((x37 : Int), s36))
    (
      gF P 8 s34 265 9 fun x38 =>
      gF P 8 s34 265 8 fun x39 =>
      some ((((-2)) - ((8 * x38) + x39) : Int), s34))
noncomputable def parT (P : Shp) (s30 : St) : Option (Int × St) :=
  fX8_parse_L119 P 265
    (fun s34 =>
      gF P 8 s34 265 8 fun x35 =>
      jeq x35 0
        (
          onO P 8 265 <| cl (fX8_takeDraft P s34 265) fun s36 =>
          onO P 8 265 <| cl (fX8_streams P s36 265) fun x37 =>
          some ((x37 : Int), s36))
        (
          gF P 8 s34 265 9 fun x38 =>
          gF P 8 s34 265 8 fun x39 =>
          some ((((-2)) - ((8 * x38) + x39) : Int), s34)))
    1000 s30
def CF0 (q : Int) (σ σ' : St) : Prop :=
  (∀ o, o ≠ 1 → (o < q ∨ q + 9 < o) → (o < 13 ∨ 15 < o) → σ' o = σ o) ∧
  (∀ j, (j < 2 ∨ 8 < j) → j ≠ 10 → σ' 1 j = σ 1 j) ∧
  (∀ j, 7 ≤ j → σ' q j = σ q j)
theorem CF0.oo {q : Int} {σ σ' : St} (h : CF0 q σ σ') : ∀ o, o ≠ 1 → (o < q ∨ q + 9 < o) → (o < 13 ∨ 15 < o) → σ' o = σ o := h.1
theorem CF0.jj {q : Int} {σ σ' : St} (h : CF0 q σ σ') : ∀ j, (j < 2 ∨ 8 < j) → j ≠ 10 → σ' 1 j = σ 1 j := h.2.1
theorem CF0.qq {q : Int} {σ σ' : St} (h : CF0 q σ σ') : ∀ j, 7 ≤ j → σ' q j = σ q j := h.2.2
def MF0 (τ τ' : St) : Prop :=
  (∀ o, o ≠ 265 → o ≠ 267 → o ≠ 269 → τ' o = τ o) ∧
  (∀ j, (j = 1 ∨ 10 ≤ j) → j ≠ 13 → τ' 265 j = τ 265 j) ∧
  (τ' 265 0 = 0) ∧
  (τ' 265 2 = 0)
theorem MF0.oo {τ τ' : St} (h : MF0 τ τ') : ∀ o, o ≠ 265 → o ≠ 267 → o ≠ 269 → τ' o = τ o := h.1
theorem MF0.jj {τ τ' : St} (h : MF0 τ τ') : ∀ j, (j = 1 ∨ 10 ≤ j) → j ≠ 13 → τ' 265 j = τ 265 j := h.2.1
theorem MF0.z0 {τ τ' : St} (h : MF0 τ τ') : τ' 265 0 = 0 := h.2.2.1
theorem MF0.z2 {τ τ' : St} (h : MF0 τ τ') : τ' 265 2 = 0 := h.2.2.2
section ZZA2
variable {P : Shp} {σ σ' σ0 σ1 σ2 s τ τ' τ0 τ1 τ2 : St} {f g h B B' d d' : Int → Int} {a b c e e' k i j x y z v v' w N q L kd cnt h1 s1 o n : Int}
theorem loop_mF (sh : ShpIs P 279 PL) (h : BAD q σ τ σ' τ') (kE : St → Option (Int × St)) (m : Nat) : fX8_parse_L119 P 265 kE (m + 1) τ' = kE τ' := by
  have k1 := h.k1
  have n8 : ¬ (τ' 265 8 = 0) := by omega
  simp (disch := first | omega | assumption) only [fX8_parse_L119, ↓z_lt, ↓z_ge, ↓z_gt, ↓z_le, ↓z_eq, ↓z_ne, ↓z_mx, ↓z_mn, ↓z_dv, ↓z_rm, ↓z_i2l, ↓z_lc, ↓z_sw, ↓z_sf, ↓z_sn, ↓z_bd, ↓z_nt, z_b0, z_b1, z_bi, z_bj, ↓z_gF, ↓z_gR, ↓z_pF, ↓z_pZ, ↓z_pR, ↓z_aI, ↓z_aR, ↓z_sI, ↓z_sZ, ↓z_on, z_cl, ↓reduceIte, Int.reduceEq, Int.reduceNeg, Int.reduceLT, Int.reduceLE, Int.reduceAdd, Int.reduceSub, Int.reduceMul, true_and, and_true, or_true, true_or, eq_self, iR_t, sO265 sh, n8]
theorem sim_loop : ∀ (r : Nat) (e p2 : Int) (σ τ : St) (d : Int → Int), QQ P σ τ f N e q d → (N - e).toNat ≤ r → 0 ≤ p2 → p2 ≤ e →
    (∃ σ' τ' e' d', (∀ kA kB kC m, r < m → fX5_read_L48 P 1 kA kB kC m p2 σ = kB σ') ∧ (∀ kE m, r < m → fX8_parse_L119 P 265 kE m τ = kE τ') ∧ QQ P σ' τ' f N e' q d' ∧ CFr q σ σ' ∧ MFr τ τ') ∨ (∃ σ' τ', (∀ kA kB kC m, r < m → fX5_read_L48 P 1 kA kB kC m p2 σ = kC σ') ∧ (∀ kE m, r < m → fX8_parse_L119 P 265 kE m τ = kE τ') ∧ BAD q σ τ σ' τ') := by
  intro r
  induction r with
  | zero =>
    intro e p2 σ τ d Q hr p0 pe
    have sh := Q.ct.rb.sh
    have hN := Q.ct.rb.hN
    have e1 := Q.ct.e1
    have ti := tok_in (f := f) Q.ct.e0 Q.ct.e1
    have t0 : tT f N e = 0 := by unfold tT; rw [if_neg (by omega)]
    have tt := Q.ct.tt
    have tm := Q.mt.tt
    have fl := Q.mt.fl
    rw [t0] at tt tm
    have k1 : ¬ (600 < p2) := by omega
    left
    refine ⟨σ, τ, e, d, fun kA kB kC m hm => ?_, fun kE m hm => ?_, Q, CFr.rf, MFr.rf⟩
    · obtain ⟨m, rfl⟩ : ∃ q, m = q + 1 := ⟨m - 1, by omega⟩
      simp (disch := first | omega | assumption) only [fX5_read_L48, ↓z_lt, ↓z_ge, ↓z_gt, ↓z_le, ↓z_eq, ↓z_ne, ↓z_mx, ↓z_mn, ↓z_dv, ↓z_rm, ↓z_i2l, ↓z_lc, ↓z_sw, ↓z_sf, ↓z_sn, ↓z_bd, ↓z_nt, z_b0, z_b1, z_bi, z_bj, ↓z_gF, ↓z_gR, ↓z_pF, ↓z_pZ, ↓z_pR, ↓z_aI, ↓z_aR, ↓z_sI, ↓z_sZ, ↓z_on, z_cl, ↓reduceIte, Int.reduceEq, Int.reduceNeg, Int.reduceLT, Int.reduceLE, Int.reduceAdd, Int.reduceSub, Int.reduceMul, true_and, and_true, or_true, true_or, eq_self, iR_t, sO1 sh, k1, tt]
    · obtain ⟨m, rfl⟩ : ∃ q, m = q + 1 := ⟨m - 1, by omega⟩
      simp (disch := first | omega | assumption) only [fX8_parse_L119, ↓z_lt, ↓z_ge, ↓z_gt, ↓z_le, ↓z_eq, ↓z_ne, ↓z_mx, ↓z_mn, ↓z_dv, ↓z_rm, ↓z_i2l, ↓z_lc, ↓z_sw, ↓z_sf, ↓z_sn, ↓z_bd, ↓z_nt, z_b0, z_b1, z_bi, z_bj, ↓z_gF, ↓z_gR, ↓z_pF, ↓z_pZ, ↓z_pR, ↓z_aI, ↓z_aR, ↓z_sI, ↓z_sZ, ↓z_on, z_cl, ↓reduceIte, Int.reduceEq, Int.reduceNeg, Int.reduceLT, Int.reduceLE, Int.reduceAdd, Int.reduceSub, Int.reduceMul, true_and, and_true, or_true, true_or, eq_self, iR_t, sO265 sh, fl, tm]
  | succ r ih =>
    intro e p2 σ τ d Q hr p0 pe
    have sh := Q.ct.rb.sh
    have hN := Q.ct.rb.hN
    have e1 := Q.ct.e1
    have ti := tok_in (f := f) Q.ct.e0 Q.ct.e1
    have hT := tT_in (f := f) (N := N) (e := e)
    have tt := Q.ct.tt
    have tm := Q.mt.tt
    have fl := Q.mt.fl
    have k1 : ¬ (600 < p2) := by omega
    by_cases t0 : tT f N e = 0
    · rw [t0] at tt tm
      left
      refine ⟨σ, τ, e, d, fun kA kB kC m hm => ?_, fun kE m hm => ?_, Q, CFr.rf, MFr.rf⟩
      · obtain ⟨m, rfl⟩ : ∃ q, m = q + 1 := ⟨m - 1, by omega⟩
        simp (disch := first | omega | assumption) only [fX5_read_L48, ↓z_lt, ↓z_ge, ↓z_gt, ↓z_le, ↓z_eq, ↓z_ne, ↓z_mx, ↓z_mn, ↓z_dv, ↓z_rm, ↓z_i2l, ↓z_lc, ↓z_sw, ↓z_sf, ↓z_sn, ↓z_bd, ↓z_nt, z_b0, z_b1, z_bi, z_bj, ↓z_gF, ↓z_gR, ↓z_pF, ↓z_pZ, ↓z_pR, ↓z_aI, ↓z_aR, ↓z_sI, ↓z_sZ, ↓z_on, z_cl, ↓reduceIte, Int.reduceEq, Int.reduceNeg, Int.reduceLT, Int.reduceLE, Int.reduceAdd, Int.reduceSub, Int.reduceMul, true_and, and_true, or_true, true_or, eq_self, iR_t, sO1 sh, k1, tt]
      · obtain ⟨m, rfl⟩ : ∃ q, m = q + 1 := ⟨m - 1, by omega⟩
        simp (disch := first | omega | assumption) only [fX8_parse_L119, ↓z_lt, ↓z_ge, ↓z_gt, ↓z_le, ↓z_eq, ↓z_ne, ↓z_mx, ↓z_mn, ↓z_dv, ↓z_rm, ↓z_i2l, ↓z_lc, ↓z_sw, ↓z_sf, ↓z_sn, ↓z_bd, ↓z_nt, z_b0, z_b1, z_bi, z_bj, ↓z_gF, ↓z_gR, ↓z_pF, ↓z_pZ, ↓z_pR, ↓z_aI, ↓z_aR, ↓z_sI, ↓z_sZ, ↓z_on, z_cl, ↓reduceIte, Int.reduceEq, Int.reduceNeg, Int.reduceLT, Int.reduceLE, Int.reduceAdd, Int.reduceSub, Int.reduceMul, true_and, and_true, or_true, true_or, eq_self, iR_t, sO265 sh, fl, tm]
    · have S := sim_stmt Q t0
      generalize tT f N e = t at *
      rcases S with ⟨σ1, τ1, e2, d1, hC, hM, Q1, F1, G1, lt⟩ | ⟨σ1, τ1, hC, hM, hB⟩
      · have cC : ∀ kA kB kC m, fX5_read_L48 P 1 kA kB kC (m + 1) p2 σ = fX5_read_L48 P 1 kA kB kC m (p2 + 1) σ1 := fun kA kB kC m => by
          rw [fX5_read_L48]
          simp (disch := first | omega | assumption) only [↓z_lt, ↓z_ge, ↓z_gt, ↓z_le, ↓z_eq, ↓z_ne, ↓z_mx, ↓z_mn, ↓z_dv, ↓z_rm, ↓z_i2l, ↓z_lc, ↓z_sw, ↓z_sf, ↓z_sn, ↓z_bd, ↓z_nt, z_b0, z_b1, z_bi, z_bj, ↓z_gF, ↓z_gR, ↓z_pF, ↓z_pZ, ↓z_pR, ↓z_aI, ↓z_aR, ↓z_sI, ↓z_sZ, ↓z_on, z_cl, ↓reduceIte, Int.reduceEq, Int.reduceNeg, Int.reduceLT, Int.reduceLE, Int.reduceAdd, Int.reduceSub, Int.reduceMul, true_and, and_true, or_true, true_or, eq_self, iR_t, sO1 sh, k1, tt, t0, ↓e_cl hC]
        have cM : ∀ kE m, fX8_parse_L119 P 265 kE (m + 1) τ = fX8_parse_L119 P 265 kE m τ1 := fun kE m => by
          rw [fX8_parse_L119]
          simp (disch := first | omega | assumption) only [↓z_lt, ↓z_ge, ↓z_gt, ↓z_le, ↓z_eq, ↓z_ne, ↓z_mx, ↓z_mn, ↓z_dv, ↓z_rm, ↓z_i2l, ↓z_lc, ↓z_sw, ↓z_sf, ↓z_sn, ↓z_bd, ↓z_nt, z_b0, z_b1, z_bi, z_bj, ↓z_gF, ↓z_gR, ↓z_pF, ↓z_pZ, ↓z_pR, ↓z_aI, ↓z_aR, ↓z_sI, ↓z_sZ, ↓z_on, z_cl, ↓reduceIte, Int.reduceEq, Int.reduceNeg, Int.reduceLT, Int.reduceLE, Int.reduceAdd, Int.reduceSub, Int.reduceMul, true_and, and_true, or_true, true_or, eq_self, iR_t, sO265 sh, fl, tm, t0, ↓e_cl hM]
        rcases ih e2 (p2 + 1) σ1 τ1 d1 Q1 (by omega) (by omega) (by omega) with ⟨σ2, τ2, e3, d2, H1, H2, Q2, F2, G2⟩ | ⟨σ2, τ2, H1, H2, hB⟩
        · left
          refine ⟨σ2, τ2, e3, d2, fun kA kB kC m hm => ?_, fun kE m hm => ?_, Q2, F1.tr F2, G1.tr G2⟩
          · obtain ⟨m, rfl⟩ : ∃ q, m = q + 1 := ⟨m - 1, by omega⟩
            rw [cC]; exact H1 kA kB kC m (by omega)
          · obtain ⟨m, rfl⟩ : ∃ q, m = q + 1 := ⟨m - 1, by omega⟩
            rw [cM]; exact H2 kE m (by omega)
        · right
          refine ⟨σ2, τ2, fun kA kB kC m hm => ?_, fun kE m hm => ?_, hB.pre F1 G1⟩
          · obtain ⟨m, rfl⟩ : ∃ q, m = q + 1 := ⟨m - 1, by omega⟩
            rw [cC]; exact H1 kA kB kC m (by omega)
          · obtain ⟨m, rfl⟩ : ∃ q, m = q + 1 := ⟨m - 1, by omega⟩
            rw [cM]; exact H2 kE m (by omega)
      · right
        refine ⟨σ1, τ1, fun kA kB kC m hm => ?_, fun kE m hm => ?_, hB⟩
        · obtain ⟨m, rfl⟩ : ∃ q, m = q + 1 := ⟨m - 1, by omega⟩
          rw [fX5_read_L48]
          simp (disch := first | omega | assumption) only [↓z_lt, ↓z_ge, ↓z_gt, ↓z_le, ↓z_eq, ↓z_ne, ↓z_mx, ↓z_mn, ↓z_dv, ↓z_rm, ↓z_i2l, ↓z_lc, ↓z_sw, ↓z_sf, ↓z_sn, ↓z_bd, ↓z_nt, z_b0, z_b1, z_bi, z_bj, ↓z_gF, ↓z_gR, ↓z_pF, ↓z_pZ, ↓z_pR, ↓z_aI, ↓z_aR, ↓z_sI, ↓z_sZ, ↓z_on, z_cl, ↓reduceIte, Int.reduceEq, Int.reduceNeg, Int.reduceLT, Int.reduceLE, Int.reduceAdd, Int.reduceSub, Int.reduceMul, true_and, and_true, or_true, true_or, eq_self, iR_t, sO1 sh, k1, tt, t0, ↓e_cl hC]
        · obtain ⟨m, rfl⟩ : ∃ q, m = q + 2 := ⟨m - 2, by omega⟩
          rw [← loop_mF sh hB kE m, fX8_parse_L119]
          simp (disch := first | omega | assumption) only [↓z_lt, ↓z_ge, ↓z_gt, ↓z_le, ↓z_eq, ↓z_ne, ↓z_mx, ↓z_mn, ↓z_dv, ↓z_rm, ↓z_i2l, ↓z_lc, ↓z_sw, ↓z_sf, ↓z_sn, ↓z_bd, ↓z_nt, z_b0, z_b1, z_bi, z_bj, ↓z_gF, ↓z_gR, ↓z_pF, ↓z_pZ, ↓z_pR, ↓z_aI, ↓z_aR, ↓z_sI, ↓z_sZ, ↓z_on, z_cl, ↓reduceIte, Int.reduceEq, Int.reduceNeg, Int.reduceLT, Int.reduceLE, Int.reduceAdd, Int.reduceSub, Int.reduceMul, true_and, and_true, or_true, true_or, eq_self, iR_t, sO265 sh, fl, tm, t0, ↓e_cl hM]
/-- the class, up to the header -/
theorem c_front (sh : ShpIs P 279 PL) (hq : q = 3 ∨ q = 17) (r0 : σ 1 0 = 2) (r9 : σ 1 9 = q) (a0 : 0 ≤ a) (a1 : a ≤ σ 1 1) (a6 : σ 1 1 ≤ 600) (fr : ∀ i, 0 ≤ i → i < a → -128 ≤ σ 2 i ∧ σ 2 i ≤ 127) : ∃ σ9, (∀ σ', fX5_readHeader P σ9 1 = some (0, σ') → fX5_read P σ 1 a = some (0, σ')) ∧ (∀ σ', fX5_readHeader P σ9 1 = some (1, σ') → fX5_read P σ 1 a = readL P σ') ∧ CT P σ9 (σ 2) a 0 ∧ CF0 q σ σ9 ∧ σ9 1 10 = 0 ∧ (σ9 q 0 = 1 ∧ σ9 q 1 = 1 ∧ σ9 q 2 = 10 ∧ σ9 q 3 = 5 ∧ σ9 q 4 = 0 ∧ σ9 q 5 = 0 ∧ σ9 q 6 = 0) := by
  have hq1 : ¬ (q = -1) := by omega
  have e4 : fX4_clear P (wr (wr (wr σ 1 2 a) 1 3 0) 1 10 0) q = some (wr (wr (wr (wr (wr (wr (wr (wr (wr (wr σ 1 2 a) 1 3 0) 1 10 0) q 0 1) q 1 1) q 2 10) q 3 5) q 4 0) q 5 0) q 6 0) := by
    simp (disch := first | omega | assumption) only [fX4_clear, ↓z_lt, ↓z_ge, ↓z_gt, ↓z_le, ↓z_eq, ↓z_ne, ↓z_mx, ↓z_mn, ↓z_dv, ↓z_rm, ↓z_i2l, ↓z_lc, ↓z_sw, ↓z_sf, ↓z_sn, ↓z_bd, ↓z_nt, z_b0, z_b1, z_bi, z_bj, ↓z_gF, ↓z_gR, ↓z_pF, ↓z_pZ, ↓z_pR, ↓z_aI, ↓z_aR, ↓z_sI, ↓z_sZ, ↓z_on, z_cl, ↓reduceIte, Int.reduceEq, Int.reduceNeg, Int.reduceLT, Int.reduceLE, Int.reduceAdd, Int.reduceSub, Int.reduceMul, true_and, and_true, or_true, true_or, eq_self, iR_t, pO sh hq]
  have ss : ∀ o, o ≠ 1 → o ≠ q → (wr (wr (wr (wr (wr (wr (wr (wr (wr (wr σ 1 2 a) 1 3 0) 1 10 0) q 0 1) q 1 1) q 2 10) q 3 5) q 4 0) q 5 0) q 6 0) o = σ o := fun o h1 h2 => by simp (disch := omega) only [wr_o]
  have s1 : ∀ j, j ≠ 2 → j ≠ 3 → j ≠ 10 → (wr (wr (wr (wr (wr (wr (wr (wr (wr (wr σ 1 2 a) 1 3 0) 1 10 0) q 0 1) q 1 1) q 2 10) q 3 5) q 4 0) q 5 0) q 6 0) 1 j = σ 1 j := fun j h1 h2 h3 => by simp (disch := omega) only [wr_n, wr_i]
  have s12 : (wr (wr (wr (wr (wr (wr (wr (wr (wr (wr σ 1 2 a) 1 3 0) 1 10 0) q 0 1) q 1 1) q 2 10) q 3 5) q 4 0) q 5 0) q 6 0) 1 2 = a := by simp (disch := omega) only [wr_n, wr_i, wr_s]
  have s13 : (wr (wr (wr (wr (wr (wr (wr (wr (wr (wr σ 1 2 a) 1 3 0) 1 10 0) q 0 1) q 1 1) q 2 10) q 3 5) q 4 0) q 5 0) q 6 0) 1 3 = 0 := by simp (disch := omega) only [wr_n, wr_i, wr_s]
  have s1a : (wr (wr (wr (wr (wr (wr (wr (wr (wr (wr σ 1 2 a) 1 3 0) 1 10 0) q 0 1) q 1 1) q 2 10) q 3 5) q 4 0) q 5 0) q 6 0) 1 10 = 0 := by simp (disch := omega) only [wr_n, wr_i, wr_s]
  have sq : ∀ j, 7 ≤ j → (wr (wr (wr (wr (wr (wr (wr (wr (wr (wr σ 1 2 a) 1 3 0) 1 10 0) q 0 1) q 1 1) q 2 10) q 3 5) q 4 0) q 5 0) q 6 0) q j = σ q j := fun j h1 => by simp (disch := omega) only [wr_n, wr_i]
  have sv : (wr (wr (wr (wr (wr (wr (wr (wr (wr (wr σ 1 2 a) 1 3 0) 1 10 0) q 0 1) q 1 1) q 2 10) q 3 5) q 4 0) q 5 0) q 6 0) q 0 = 1 ∧ (wr (wr (wr (wr (wr (wr (wr (wr (wr (wr σ 1 2 a) 1 3 0) 1 10 0) q 0 1) q 1 1) q 2 10) q 3 5) q 4 0) q 5 0) q 6 0) q 1 = 1 ∧ (wr (wr (wr (wr (wr (wr (wr (wr (wr (wr σ 1 2 a) 1 3 0) 1 10 0) q 0 1) q 1 1) q 2 10) q 3 5) q 4 0) q 5 0) q 6 0) q 2 = 10 ∧ (wr (wr (wr (wr (wr (wr (wr (wr (wr (wr σ 1 2 a) 1 3 0) 1 10 0) q 0 1) q 1 1) q 2 10) q 3 5) q 4 0) q 5 0) q 6 0) q 3 = 5 ∧ (wr (wr (wr (wr (wr (wr (wr (wr (wr (wr σ 1 2 a) 1 3 0) 1 10 0) q 0 1) q 1 1) q 2 10) q 3 5) q 4 0) q 5 0) q 6 0) q 4 = 0 ∧ (wr (wr (wr (wr (wr (wr (wr (wr (wr (wr σ 1 2 a) 1 3 0) 1 10 0) q 0 1) q 1 1) q 2 10) q 3 5) q 4 0) q 5 0) q 6 0) q 5 = 0 ∧ (wr (wr (wr (wr (wr (wr (wr (wr (wr (wr σ 1 2 a) 1 3 0) 1 10 0) q 0 1) q 1 1) q 2 10) q 3 5) q 4 0) q 5 0) q 6 0) q 6 = 0 := by
    refine ⟨?_, ?_, ?_, ?_, ?_, ?_, ?_⟩ <;> simp (disch := omega) only [wr_i, wr_s]
  have mnx : ¬ (σ 1 1 < a) := by omega
  have w9 : wr (wr (wr σ 1 2 a) 1 3 0) 1 10 0 1 9 = q := by simp (disch := omega) only [wr_i]; exact r9
  have mx0 : ∀ K : Int → Option (Int × St), (mn a (σ 1 1) fun x2 => mx 0 x2 K) = K a := fun K => by
    have e1 : (if σ 1 1 < a then σ 1 1 else a) = a := by split <;> omega
    have e2 : (if 0 < a then a else 0) = a := by split <;> omega
    simp (disch := first | omega | assumption) only [↓z_lt, ↓z_ge, ↓z_gt, ↓z_le, ↓z_eq, ↓z_ne, ↓z_mx, ↓z_mn, ↓z_dv, ↓z_rm, ↓z_i2l, ↓z_lc, ↓z_sw, ↓z_sf, ↓z_sn, ↓z_bd, ↓z_nt, z_b0, z_b1, z_bi, z_bj, ↓z_gF, ↓z_gR, ↓z_pF, ↓z_pZ, ↓z_pR, ↓z_aI, ↓z_aR, ↓z_sI, ↓z_sZ, ↓z_on, z_cl, ↓reduceIte, Int.reduceEq, Int.reduceNeg, Int.reduceLT, Int.reduceLE, Int.reduceAdd, Int.reduceSub, Int.reduceMul, true_and, and_true, or_true, true_or, eq_self, iR_t, e1, e2]
  generalize (wr (wr (wr (wr (wr (wr (wr (wr (wr (wr σ 1 2 a) 1 3 0) 1 10 0) q 0 1) q 1 1) q 2 10) q 3 5) q 4 0) q 5 0) q 6 0) = σ8 at *
  have RB8 : RB P σ8 (σ 2) a := ⟨sh, by rw [s1 0 (by omega) (by omega) (by omega)]; exact r0, s12, by omega, ss 2 (by omega) (by omega), fr⟩
  obtain ⟨σ9, r, A⟩ := c_advance RB8 (by omega) (by omega)
  rw [s13] at A
  have C9 : CT P σ9 (σ 2) a 0 := ⟨⟨sh, by rw [A.jj 0 (by omega)]; exact RB8.r0, by rw [A.jj 2 (by omega)]; exact s12, by omega, by rw [A.oo 2 (by omega)]; exact RB8.by', fr⟩, by omega, by omega, A.ss, A.ee, A.tt, A.vv⟩
  refine ⟨σ9, fun σ' h => ?_, fun σ' h => ?_, C9, ⟨fun o h1 h2 h3 => by rw [A.oo o h1]; exact ss o h1 (by omega), fun j h1 h2 => ?_, fun j h1 => by rw [A.oo q (by omega)]; exact sq j h1⟩, by rw [A.jj 10 (by omega)]; exact s1a, by rw [A.oo q (by omega)]; exact sv⟩
  · unfold fX5_read
    rw [z_gF, if_pos (sO1 sh), mx0]
    simp (disch := first | omega | assumption | (simp (disch := omega) only [ w9 ]; done) | fail) only [↓z_lt, ↓z_ge, ↓z_gt, ↓z_le, ↓z_eq, ↓z_ne, ↓z_mx, ↓z_mn, ↓z_dv, ↓z_rm, ↓z_i2l, ↓z_lc, ↓z_sw, ↓z_sf, ↓z_sn, ↓z_bd, ↓z_nt, z_b0, z_b1, z_bi, z_bj, ↓z_gF, ↓z_gR, ↓z_pF, ↓z_pZ, ↓z_pR, ↓z_aI, ↓z_aR, ↓z_sI, ↓z_sZ, ↓z_on, z_cl, ↓reduceIte, Int.reduceEq, Int.reduceNeg, Int.reduceLT, Int.reduceLE, Int.reduceAdd, Int.reduceSub, Int.reduceMul, true_and, and_true, or_true, true_or, eq_self, iR_t, sO1 sh, pO sh hq, hq1, w9, ↓e_g e4, ↓e_cl r, ↓e_cl h]
  · unfold fX5_read readL
    rw [z_gF, if_pos (sO1 sh), mx0]
    simp (disch := first | omega | assumption | (simp (disch := omega) only [ w9 ]; done) | fail) only [↓z_lt, ↓z_ge, ↓z_gt, ↓z_le, ↓z_eq, ↓z_ne, ↓z_mx, ↓z_mn, ↓z_dv, ↓z_rm, ↓z_i2l, ↓z_lc, ↓z_sw, ↓z_sf, ↓z_sn, ↓z_bd, ↓z_nt, z_b0, z_b1, z_bi, z_bj, ↓z_gF, ↓z_gR, ↓z_pF, ↓z_pZ, ↓z_pR, ↓z_aI, ↓z_aR, ↓z_sI, ↓z_sZ, ↓z_on, z_cl, ↓reduceIte, Int.reduceEq, Int.reduceNeg, Int.reduceLT, Int.reduceLE, Int.reduceAdd, Int.reduceSub, Int.reduceMul, true_and, and_true, or_true, true_or, eq_self, iR_t, sO1 sh, pO sh hq, hq1, w9, ↓e_g e4, ↓e_cl r, ↓e_cl h]
  · by_cases z : j = 2 ∨ j = 3
    · omega
    · rw [A.jj j (by omega)]; exact s1 j (by omega) (by omega) h2
theorem par_eq : fX8_parse P s 265 a = (
  pF P 8 s 265 0 0 fun s1 =>
  gF P 8 s1 265 2 fun x2 =>
  cl (fX8_within P s1 a 0 x2) fun x3 =>
  jne x3 0
    (
      pF P 8 s1 265 3 a fun s4 =>
      pF P 8 s4 265 2 0 fun s5 =>
      pF P 8 s5 265 5 0 fun s6 =>
      pF P 8 s6 265 8 0 fun s7 =>
      onO P 8 265 <| cl (fX8_setDefaults P s7 265) fun s8 =>
      onO P 8 265 <| cl (fX8_nextToken P s8 265) fun s9 =>
      headM P s9 (parT P))
    (
      onO P 8 265 <| cl (fX8_fail0 P s1 265 1) fun (x42, s43) =>
      some ((x42 : Int), s43))) := rfl
/-- the model, up to the header -/
theorem m_front (sh : ShpIs P 279 PL) (q1 : τ 265 1 = 266) (q10 : τ 265 10 = 267) (a0 : 0 ≤ a) (a1 : a ≤ τ 265 2) (a6 : τ 265 2 ≤ 600) (hb : ∀ i, 0 ≤ i → i < a → τ 266 i = f i) (fr : ∀ i, 0 ≤ i → i < a → -128 ≤ f i ∧ f i ≤ 127) : ∃ τ9, fX8_parse P τ 265 a = headM P τ9 (parT P) ∧ MT P τ9 f a 0 ∧ MF0 τ τ9 ∧ τ9 265 13 = 0 ∧ (∀ j, 0 ≤ j → j < 107 → τ9 267 j = dF j) := by
  have w10 : wr (wr (wr (wr (wr τ 265 0 0) 265 3 a) 265 2 0) 265 5 0) 265 8 0 265 10 = 267 := by simp (disch := omega) only [wr_i]; exact q10
  have w2 : wr τ 265 0 0 265 2 = τ 265 2 := wr_i (by omega)
  obtain ⟨τ8, u8, o8, j8, z8, d8⟩ := m_defaults sh w10
  have T : ∀ o, o ≠ 265 → wr (wr (wr (wr (wr τ 265 0 0) 265 3 a) 265 2 0) 265 5 0) 265 8 0 o = τ o := fun o h => by simp (disch := omega) only [wr_o]
  have J : ∀ j, j ≠ 0 → j ≠ 3 → j ≠ 2 → j ≠ 5 → j ≠ 8 → wr (wr (wr (wr (wr τ 265 0 0) 265 3 a) 265 2 0) 265 5 0) 265 8 0 265 j = τ 265 j := fun j h1 h2 h3 h4 h5 => by simp (disch := omega) only [wr_i]
  have J0 : wr (wr (wr (wr (wr τ 265 0 0) 265 3 a) 265 2 0) 265 5 0) 265 8 0 265 0 = 0 := by simp (disch := omega) only [wr_i, wr_s]
  have J3 : wr (wr (wr (wr (wr τ 265 0 0) 265 3 a) 265 2 0) 265 5 0) 265 8 0 265 3 = a := by simp (disch := omega) only [wr_i, wr_s]
  have J2 : wr (wr (wr (wr (wr τ 265 0 0) 265 3 a) 265 2 0) 265 5 0) 265 8 0 265 2 = 0 := by simp (disch := omega) only [wr_i, wr_s]
  have J5 : wr (wr (wr (wr (wr τ 265 0 0) 265 3 a) 265 2 0) 265 5 0) 265 8 0 265 5 = 0 := by simp (disch := omega) only [wr_i, wr_s]
  have J8 : wr (wr (wr (wr (wr τ 265 0 0) 265 3 a) 265 2 0) 265 5 0) 265 8 0 265 8 = 0 := by simp (disch := omega) only [wr_s]
  have B8 : MB P τ8 f a := ⟨sh, by rw [j8 1 (by omega), J 1 (by omega) (by omega) (by omega) (by omega) (by omega)]; exact q1, by rw [j8 3 (by omega)]; exact J3, by omega, fun i i0 i1 => by rw [o8 266 (by omega) (by omega), T 266 (by omega)]; exact hb i i0 i1, fr⟩
  have e5 : τ8 265 5 = 0 := by rw [j8 5 (by omega)]; exact J5
  obtain ⟨τ9, u9, A⟩ := m_next B8 (by omega) (by omega)
  rw [e5] at A
  refine ⟨τ9, ?_, ⟨B8.ag (A.jj 1 (by omega)) (A.jj 3 (by omega)) (A.oo 266 (by omega)), by omega, by omega, A.ss, A.ee, A.tt, A.vv, ?_⟩, ⟨fun o h1 h2 h3 => ?_, fun j h1 h2 => ?_, ?_, ?_⟩, ?_, fun j j0 j1 => ?_⟩
  · have hr : iR a = true := iR_t (by omega) (by omega)
    have hr2 : iR (τ 265 2) = true := iR_t (by omega) (by omega)
    have hr0 : iR 0 = true := rfl
    have hw : 0 ≤ a ∧ a ≤ τ 265 2 := ⟨a0, a1⟩
    generalize hs7 : wr (wr (wr (wr (wr τ 265 0 0) 265 3 a) 265 2 0) 265 5 0) 265 8 0 = s7 at *
    simp (disch := first | omega | assumption | (simp (disch := omega) only [ hs7 ]; done) | fail) only [par_eq, ↓z_lt, ↓z_ge, ↓z_gt, ↓z_le, ↓z_eq, ↓z_ne, ↓z_mx, ↓z_mn, ↓z_dv, ↓z_rm, ↓z_i2l, ↓z_lc, ↓z_sw, ↓z_sf, ↓z_sn, ↓z_bd, ↓z_nt, z_b0, z_b1, z_bi, z_bj, ↓z_gF, ↓z_gR, ↓z_pF, ↓z_pZ, ↓z_pR, ↓z_aI, ↓z_aR, ↓z_sI, ↓z_sZ, ↓z_on, z_cl, ↓reduceIte, Int.reduceEq, Int.reduceNeg, Int.reduceLT, Int.reduceLE, Int.reduceAdd, Int.reduceSub, Int.reduceMul, true_and, and_true, or_true, true_or, eq_self, iR_t, sO265 sh, w2, ↓m_within', hr, hr2, hw, and_self, ↓e_g u8, ↓e_cl u9]
  · rw [A.jj 8 (by omega), j8 8 (by omega)]; exact J8
  · rw [A.oo o h1, o8 o h1 h2]; exact T o h1
  · rw [A.jj j (by omega), j8 j h2]; exact J j (by omega) (by omega) (by omega) (by omega) (by omega)
  · rw [A.jj 0 (by omega), j8 0 (by omega)]; exact J0
  · rw [A.jj 2 (by omega), j8 2 (by omega)]; exact J2
  · rw [A.jj 13 (by omega)]; exact z8
  · rw [A.oo 267 (by omega)]; exact d8 j j0 j1
theorem CF0.trC (h : CF0 q σ σ1) (g : CFr q σ1 σ') : CF0 q σ σ' :=
  ⟨fun o a b c => (g.oo o a b c).trans (h.oo o a b c), fun j a b => (g.jj j a b).trans (h.jj j a b), fun j a => (g.qq j a).trans (h.qq j a)⟩
theorem MF0.trM (h : MF0 τ τ1) (g : MFr τ1 τ') : MF0 τ τ' :=
  ⟨fun o a b c => (g.oo o a b c).trans (h.oo o a b c), fun j a b => (g.jj j (by omega) b).trans (h.jj j a b), (g.jj 0 (by omega) (by omega)).trans h.z0, (g.jj 2 (by omega) (by omega)).trans h.z2⟩
theorem dF_TV : TV dF := by
  have hb : ∀ j, 0 ≤ dF j ∧ dF j ≤ 10 := fun j => by unfold dF; repeat' split <;> omega
  have d0 : dF 0 = 0 := rfl
  have d1 : dF 1 = 0 := rfl
  have d2 : dF 2 = 0 := rfl
  have d4 : dF 4 = 1 := rfl
  refine ⟨fun j => ?_, by omega, by omega, by omega, by omega, ?_, ?_, ?_, ?_, ?_, ?_, ?_⟩
  · have := hb j; omega
  all_goals (intro p p0 p1; omega)
theorem dF_PR (hq : q = 3 ∨ q = 17) (h : PP σ q) (hv : σ q 0 = 1 ∧ σ q 1 = 1 ∧ σ q 2 = 10 ∧ σ q 3 = 5 ∧ σ q 4 = 0 ∧ σ q 5 = 0 ∧ σ q 6 = 0) : PR σ q dF := by
  have d0 : dF 0 = 0 := rfl
  have d1 : dF 1 = 0 := rfl
  have d2 : dF 2 = 0 := rfl
  obtain ⟨v0, v1, v2, v3, v4, v5, v6⟩ := hv
  refine ⟨hq, h.r7, h.r8, h.r9, h.r10, h.r11, h.r12, h.r13, h.r14, h.r15, v0, v1, v2, v3, v4, v5, v6, ?_, ?_, ?_, ?_, ?_, ?_, ?_, ?_, ?_⟩
  · intro i i0 i1; omega
  · intro i i0 i1; omega
  · intro i i0 i1; omega
  · intro i j i0 i1; omega
  · intro i i0 i1; omega
  · intro i i0 i1; omega
  · intro i i0 i1; omega
  · intro i i0 i1; omega
  · intro i i0 i1; omega
/-- BOTH READERS over the whole text -/
theorem sim_read (sh : ShpIs P 279 PL) (hq : q = 3 ∨ q = 17) (r0 : σ 1 0 = 2) (r9 : σ 1 9 = q) (r11 : σ 1 11 = 13) (r12 : σ 1 12 = 14) (r13 : σ 1 13 = 15) (pp : PP σ q) (a0 : 0 ≤ a) (a1 : a ≤ σ 1 1) (a6 : σ 1 1 ≤ 600) (fr : ∀ i, 0 ≤ i → i < a → -128 ≤ σ 2 i ∧ σ 2 i ≤ 127)
    (q1 : τ 265 1 = 266) (q10 : τ 265 10 = 267) (q12 : τ 265 12 = 269) (q2 : τ 265 2 = σ 1 1) (hb : ∀ i, 0 ≤ i → i < a → τ 266 i = σ 2 i) :
    (∃ σ' τ' e' d', fX5_read P σ 1 a = some (1, σ') ∧ fX8_parse P τ 265 a = parK P τ' ∧ QQ P σ' τ' (σ 2) a e' q d' ∧ CF0 q σ σ' ∧ MF0 τ τ') ∨ (∃ σ' τ', fX5_read P σ 1 a = some (0, σ') ∧ fX8_parse P τ 265 a = parK P τ' ∧ CF0 q σ σ' ∧ MF0 τ τ' ∧ (1 ≤ τ' 265 8 ∧ τ' 265 8 ≤ 5) ∧ σ' 1 8 = τ' 265 8 ∧ σ' 1 7 = τ' 265 9 ∧ (0 ≤ τ' 265 9 ∧ τ' 265 9 ≤ 600)) := by
  obtain ⟨σ9, H0, H1, C9, F9, z10, hv⟩ := c_front sh hq r0 r9 a0 a1 a6 fr
  obtain ⟨τ9, u9, M9, G9, z13, d9⟩ := m_front (f := σ 2) sh q1 q10 a0 (by omega) (by omega) hb fr
  have NM0 : ∀ (h B : Int → Int) (b : Int), NM h B b 0 := fun h B b j j0 j1 => by omega
  have Q9 : QQ P σ9 τ9 (σ 2) a 0 q dF := by
    refine ⟨C9, M9, dF_PR hq ?_ hv, dF_TV, ?_, ?_, ?_, ?_, ?_, Or.inl z13, ?_, ?_, d9, NM0 _ _ _, NM0 _ _ _, NM0 _ _ _, by decide, by decide, fun k k0 k1 => ?_⟩
    · refine ⟨?_, ?_, ?_, ?_, ?_, ?_, ?_, ?_, ?_⟩
      · rw [F9.qq 7 (by omega)]; exact pp.r7
      · rw [F9.qq 8 (by omega)]; exact pp.r8
      · rw [F9.qq 9 (by omega)]; exact pp.r9
      · rw [F9.qq 10 (by omega)]; exact pp.r10
      · rw [F9.qq 11 (by omega)]; exact pp.r11
      · rw [F9.qq 12 (by omega)]; exact pp.r12
      · rw [F9.qq 13 (by omega)]; exact pp.r13
      · rw [F9.qq 14 (by omega)]; exact pp.r14
      · rw [F9.qq 15 (by omega)]; exact pp.r15
    · rw [F9.jj 9 (by omega) (by omega)]; exact r9
    · rw [F9.jj 11 (by omega) (by omega)]; exact r11
    · rw [F9.jj 12 (by omega) (by omega)]; exact r12
    · rw [F9.jj 13 (by omega) (by omega)]; exact r13
    · rw [z10, z13]
    · rw [G9.jj 10 (by omega) (by omega)]; exact q10
    · rw [G9.jj 12 (by omega) (by omega)]; exact q12
    · have : dF 1 = 0 := rfl
      omega
  obtain ⟨σ1, x, τ1, hC, hM, hX⟩ := sim_header Q9 rfl
  rcases hX with ⟨rfl, e1, d1, Q1, F1, G1⟩ | ⟨rfl, hB⟩
  · have e0 := Q1.ct.e0
    have e1' := Q1.ct.e1
    rcases sim_loop (a - e1).toNat e1 0 σ1 τ1 d1 Q1 (Nat.le_refl _) (by omega) e0 with ⟨σ2, τ2, e2, d2, L1, L2, Q2, F2, G2⟩ | ⟨σ2, τ2, L1, L2, hB⟩
    · left
      refine ⟨σ2, τ2, e2, d2, ?_, ?_, Q2, F9.trC (F1.tr F2), G9.trM (G1.tr G2)⟩
      · rw [H1 σ1 hC]
        unfold readL
        exact L1 _ _ _ 1000 (by omega)
      · rw [u9, hM]
        unfold parT parK
        exact L2 _ 1000 (by omega)
    · right
      refine ⟨σ2, τ2, ?_, ?_, F9.trC (F1.tr hB.cf), G9.trM (G1.tr hB.mf), hB.k1, hB.k2, hB.k3, hB.k4⟩
      · rw [H1 σ1 hC]
        unfold readL
        exact L1 _ _ _ 1000 (by omega)
      · rw [u9, hM]
        unfold parT parK
        exact L2 _ 1000 (by omega)
  · right
    refine ⟨σ1, τ1, H0 σ1 hC, ?_, F9.trC hB.cf, G9.trM hB.mf, hB.k1, hB.k2, hB.k3, hB.k4⟩
    rw [u9, hM]
    unfold parT parK
    exact loop_mF sh hB _ 999
end ZZA2
