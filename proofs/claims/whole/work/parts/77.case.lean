/-! THE LAW'S CASES. -/
section ZZD
variable {P : Shp} {σ σ' σ1 σ2 σ3 σ4 σ5 s s3 s8 : St} {t f f' f2 g g' : Int → Int} {B B' : Int} {a b b' d k p q kind who m h j c x y z i e v v' w part N K D : Int} {n L : Nat} {xs : Nat → Int32} {kE : St → Option Unit}
theorem sc_iR : iR (sc xs j) = true := i32_inR _
/-- as ChOk; a parse may change plan and text -/
def ChE (P : Shp) (B : Int) (σ : St) (FL : Option (Int × St)) (FM : St → Option (Int × St)) : Prop :=
  ∃ e v s3 v' s8, FL = some (e, s3) ∧ FM s3 = some (v', s8) ∧ s8 265 0 = e ∧ 0 ≤ e ∧ e ≤ 3 ∧ (e = 0 → s8 278 0 = v ∧ v' = v ∧ iR v = true) ∧ ∃ p t, GR P s8 p t B
theorem ChOk.toE {FL : Option (Int × St)} {FM : St → Option (Int × St)} (h : ChOk P p t B σ FL FM) : ChE P B σ FL FM := by
  obtain ⟨e, v, s3, v', s8, h1, h2, h3, h4, h5, h6, h7⟩ := h
  exact ⟨e, v, s3, v', s8, h1, h2, h3, h4, h5, h6, p, t, h7⟩
theorem tailW (sh : ShpIs P 279 PL) (hT : s8 265 0 = e) (h0 : 0 ≤ e) (h3 : e ≤ 3) (hv : e = 0 → s8 278 0 = v ∧ v' = v ∧ iR v = true) (hk : kE s8 = some ()) :
    (onO P 8 265 <| cl (fX8_thrown P s8 265) fun x10 =>
  jeq x10 e (
    jne e 0 (
      kE s8) (
      aI P 11 s8 278 0 fun x13 =>
      i2l v' fun x14 =>
      lc x13 x14 fun x15 =>
      jeq x15 0 (
        kE s8) none)) none) = some () := by
  have ft : fX8_thrown P s8 265 = some e := by
    simp (disch := first | omega | assumption) only [fX8_thrown, ↓z_lt, ↓z_ge, ↓z_gt, ↓z_le, ↓z_eq, ↓z_ne, ↓z_mx, ↓z_mn, ↓z_dv, ↓z_rm, ↓z_i2l, ↓z_lc, ↓z_sw, ↓z_sf, ↓z_sn, ↓z_bd, ↓z_nt, z_b0, z_b1, z_bi, z_bj, ↓z_gF, ↓z_gR, ↓z_pF, ↓z_pZ, ↓z_pR, ↓z_aI, ↓z_aR, ↓z_sI, ↓z_sZ, ↓z_on, z_cl, ↓reduceIte, Int.reduceEq, Int.reduceNeg, Int.reduceLT, Int.reduceLE, Int.reduceAdd, Int.reduceSub, Int.reduceMul, true_and, and_true, or_true, true_or, eq_self, sO265 sh, hT]
  rw [z_on, if_pos (sO265 sh), e_cl ft]
  by_cases c : e = 0
  · obtain ⟨a1, a2, a3⟩ := hv c
    have b := iR_of a3
    have c1 : iL v = true := iL_t (by omega) (by omega)
    have c2 : ¬ (v < v) := by omega
    subst c
    subst a2
    simp (disch := first | omega | assumption) only [↓z_lt, ↓z_ge, ↓z_gt, ↓z_le, ↓z_eq, ↓z_ne, ↓z_mx, ↓z_mn, ↓z_dv, ↓z_rm, ↓z_i2l, ↓z_lc, ↓z_sw, ↓z_sf, ↓z_sn, ↓z_bd, ↓z_nt, z_b0, z_b1, z_bi, z_bj, ↓z_gF, ↓z_gR, ↓z_pF, ↓z_pZ, ↓z_pR, ↓z_aI, ↓z_aR, ↓z_sI, ↓z_sZ, ↓z_on, z_cl, ↓reduceIte, Int.reduceEq, Int.reduceNeg, Int.reduceLT, Int.reduceLE, Int.reduceAdd, Int.reduceSub, Int.reduceMul, true_and, and_true, or_true, true_or, eq_self, iR_t, sA278 sh, a1, a3, c1, c2, hk]
  · simp (disch := first | omega | assumption) only [↓z_lt, ↓z_ge, ↓z_gt, ↓z_le, ↓z_eq, ↓z_ne, ↓z_mx, ↓z_mn, ↓z_dv, ↓z_rm, ↓z_i2l, ↓z_lc, ↓z_sw, ↓z_sf, ↓z_sn, ↓z_bd, ↓z_nt, z_b0, z_b1, z_bi, z_bj, ↓z_gF, ↓z_gR, ↓z_pF, ↓z_pZ, ↓z_pR, ↓z_aI, ↓z_aR, ↓z_sI, ↓z_sZ, ↓z_on, z_cl, ↓reduceIte, Int.reduceEq, Int.reduceNeg, Int.reduceLT, Int.reduceLE, Int.reduceAdd, Int.reduceSub, Int.reduceMul, true_and, and_true, or_true, true_or, eq_self, iR_t, c, hk]
theorem tailL (sh : ShpIs P 279 PL) (hT : s8 265 0 = e) (h0 : 0 ≤ e) (h3 : e ≤ 3) (hv : e = 0 → s8 278 0 = v ∧ v' = v ∧ iL v = true) (hk : kE s8 = some ()) :
    (onO P 8 265 <| cl (fX8_thrown P s8 265) fun x10 =>
  jeq x10 e (
    jne e 0 (
      kE s8) (
      aI P 11 s8 278 0 fun x13 =>
      lc x13 v' fun x14 =>
      jeq x14 0 (
        kE s8) none)) none) = some () := by
  have ft : fX8_thrown P s8 265 = some e := by
    simp (disch := first | omega | assumption) only [fX8_thrown, ↓z_lt, ↓z_ge, ↓z_gt, ↓z_le, ↓z_eq, ↓z_ne, ↓z_mx, ↓z_mn, ↓z_dv, ↓z_rm, ↓z_i2l, ↓z_lc, ↓z_sw, ↓z_sf, ↓z_sn, ↓z_bd, ↓z_nt, z_b0, z_b1, z_bi, z_bj, ↓z_gF, ↓z_gR, ↓z_pF, ↓z_pZ, ↓z_pR, ↓z_aI, ↓z_aR, ↓z_sI, ↓z_sZ, ↓z_on, z_cl, ↓reduceIte, Int.reduceEq, Int.reduceNeg, Int.reduceLT, Int.reduceLE, Int.reduceAdd, Int.reduceSub, Int.reduceMul, true_and, and_true, or_true, true_or, eq_self, sO265 sh, hT]
  rw [z_on, if_pos (sO265 sh), e_cl ft]
  by_cases c : e = 0
  · obtain ⟨a1, a2, a3⟩ := hv c
    have c2 : ¬ (v < v) := by omega
    subst c
    subst a2
    simp (disch := first | omega | assumption) only [↓z_lt, ↓z_ge, ↓z_gt, ↓z_le, ↓z_eq, ↓z_ne, ↓z_mx, ↓z_mn, ↓z_dv, ↓z_rm, ↓z_i2l, ↓z_lc, ↓z_sw, ↓z_sf, ↓z_sn, ↓z_bd, ↓z_nt, z_b0, z_b1, z_bi, z_bj, ↓z_gF, ↓z_gR, ↓z_pF, ↓z_pZ, ↓z_pR, ↓z_aI, ↓z_aR, ↓z_sI, ↓z_sZ, ↓z_on, z_cl, ↓reduceIte, Int.reduceEq, Int.reduceNeg, Int.reduceLT, Int.reduceLE, Int.reduceAdd, Int.reduceSub, Int.reduceMul, true_and, and_true, or_true, true_or, eq_self, iR_t, sA278 sh, a1, a3, c2, hk]
  · simp (disch := first | omega | assumption) only [↓z_lt, ↓z_ge, ↓z_gt, ↓z_le, ↓z_eq, ↓z_ne, ↓z_mx, ↓z_mn, ↓z_dv, ↓z_rm, ↓z_i2l, ↓z_lc, ↓z_sw, ↓z_sf, ↓z_sn, ↓z_bd, ↓z_nt, z_b0, z_b1, z_bi, z_bj, ↓z_gF, ↓z_gR, ↓z_pF, ↓z_pZ, ↓z_pR, ↓z_aI, ↓z_aR, ↓z_sI, ↓z_sZ, ↓z_on, z_cl, ↓reduceIte, Int.reduceEq, Int.reduceNeg, Int.reduceLT, Int.reduceLE, Int.reduceAdd, Int.reduceSub, Int.reduceMul, true_and, and_true, or_true, true_or, eq_self, iR_t, c, hk]
theorem aS_i {α : Type} {K : Int → Option α} (h0 : 0 ≤ j) (h1 : j < (L : Int)) : aS L xs j K = K (sc xs j) := if_pos ⟨h0, h1⟩
/-- the relation after n calls -/
def RR (P : Shp) (n : Nat) (σ : St) : Prop := ∃ p t, GR P σ p t (100000 + 200000 * (n : Int))
theorem fc2_ok (hn : n < 512) (hR : RR P n s) (i0 : 0 ≤ i) (i1 : i + 6 ≤ (L : Int)) (hk : ∀ s', RR P (n + 1) s' → kE s' = some ()) : fc_2 P L xs s 0 265 278 i kE = some () := by
  obtain ⟨p, t, G⟩ := hR
  have sh := G.cr.sh
  have H : ChE P (100000 + 200000 * ((n + 1 : Nat) : Int)) s (fL_size P s 0 (sc xs (i + 1)) 278) (fun s => fX8_size P s 265 (sc xs (i + 1))) := ((rd_size G sc_iR).ch G (B' := 100000 + 200000 * ((n + 1 : Nat) : Int)) (by push_cast; omega) (by push_cast; omega)).toE
  obtain ⟨e, v, s3, v', s8, h1, h2, h3, h4, h5, h6, h7⟩ := H
  unfold fc_2
  rw [aS_i (j := i + 1) (by omega) (by omega)]
  rw [e_cl h1]
  dsimp only
  rw [aS_i (j := i + 1) (by omega) (by omega)]
  rw [z_on, if_pos (sO265 sh), e_cl h2]
  exact tailW sh h3 h4 h5 h6 (hk s8 h7)
theorem fc3_ok (hn : n < 512) (hR : RR P n s) (i0 : 0 ≤ i) (i1 : i + 6 ≤ (L : Int)) (hk : ∀ s', RR P (n + 1) s' → kE s' = some ()) : fc_3 P L xs s 0 265 278 i kE = some () := by
  obtain ⟨p, t, G⟩ := hR
  have sh := G.cr.sh
  have H : ChE P (100000 + 200000 * ((n + 1 : Nat) : Int)) s (fL_deviceAt P s 0 (sc xs (i + 1)) 278) (fun s => fX8_deviceAt P s 265 (sc xs (i + 1))) := ((rd_deviceAt G sc_iR).ch G (B' := 100000 + 200000 * ((n + 1 : Nat) : Int)) (by push_cast; omega) (by push_cast; omega)).toE
  obtain ⟨e, v, s3, v', s8, h1, h2, h3, h4, h5, h6, h7⟩ := H
  unfold fc_3
  rw [aS_i (j := i + 1) (by omega) (by omega)]
  rw [e_cl h1]
  dsimp only
  rw [aS_i (j := i + 1) (by omega) (by omega)]
  rw [z_on, if_pos (sO265 sh), e_cl h2]
  exact tailW sh h3 h4 h5 h6 (hk s8 h7)
theorem fc4_ok (hn : n < 512) (hR : RR P n s) (i0 : 0 ≤ i) (i1 : i + 6 ≤ (L : Int)) (hk : ∀ s', RR P (n + 1) s' → kE s' = some ()) : fc_4 P L xs s 0 265 278 i kE = some () := by
  obtain ⟨p, t, G⟩ := hR
  have sh := G.cr.sh
  have H : ChE P (100000 + 200000 * ((n + 1 : Nat) : Int)) s (fL_device P s 0 (sc xs (i + 1)) (sc xs (i + 2)) 278) (fun s => fX8_device P s 265 (sc xs (i + 1)) (sc xs (i + 2))) := ((rd_device G sc_iR sc_iR).ch G (B' := 100000 + 200000 * ((n + 1 : Nat) : Int)) (by push_cast; omega) (by push_cast; omega)).toE
  obtain ⟨e, v, s3, v', s8, h1, h2, h3, h4, h5, h6, h7⟩ := H
  unfold fc_4
  rw [aS_i (j := i + 1) (by omega) (by omega)]
  rw [aS_i (j := i + 2) (by omega) (by omega)]
  rw [e_cl h1]
  dsimp only
  rw [aS_i (j := i + 1) (by omega) (by omega)]
  rw [aS_i (j := i + 2) (by omega) (by omega)]
  rw [z_on, if_pos (sO265 sh), e_cl h2]
  exact tailW sh h3 h4 h5 h6 (hk s8 h7)
theorem fc5_ok (hn : n < 512) (hR : RR P n s) (i0 : 0 ≤ i) (i1 : i + 6 ≤ (L : Int)) (hk : ∀ s', RR P (n + 1) s' → kE s' = some ()) : fc_5 P L xs s 0 265 278 i kE = some () := by
  obtain ⟨p, t, G⟩ := hR
  have sh := G.cr.sh
  have H : ChE P (100000 + 200000 * ((n + 1 : Nat) : Int)) s (fL_stream P s 0 (sc xs (i + 1)) (sc xs (i + 2)) 278) (fun s => fX8_stream P s 265 (sc xs (i + 1)) (sc xs (i + 2))) := ((rd_stream G sc_iR sc_iR).ch G (B' := 100000 + 200000 * ((n + 1 : Nat) : Int)) (by push_cast; omega) (by push_cast; omega)).toE
  obtain ⟨e, v, s3, v', s8, h1, h2, h3, h4, h5, h6, h7⟩ := H
  unfold fc_5
  rw [aS_i (j := i + 1) (by omega) (by omega)]
  rw [aS_i (j := i + 2) (by omega) (by omega)]
  rw [e_cl h1]
  dsimp only
  rw [aS_i (j := i + 1) (by omega) (by omega)]
  rw [aS_i (j := i + 2) (by omega) (by omega)]
  rw [z_on, if_pos (sO265 sh), e_cl h2]
  exact tailW sh h3 h4 h5 h6 (hk s8 h7)
theorem fc7_ok (hn : n < 512) (hR : RR P n s) (i0 : 0 ≤ i) (i1 : i + 6 ≤ (L : Int)) (hk : ∀ s', RR P (n + 1) s' → kE s' = some ()) : fc_7 P L xs s 0 265 278 i kE = some () := by
  obtain ⟨p, t, G⟩ := hR
  have sh := G.cr.sh
  have H : ChE P (100000 + 200000 * ((n + 1 : Nat) : Int)) s (fL_error P s 0 (sc xs (i + 1)) (sc xs (i + 2)) (sc xs (i + 3)) 278) (fun s => fX8_error P s 265 (sc xs (i + 1)) (sc xs (i + 2)) (sc xs (i + 3))) := ((rd_error G sc_iR sc_iR sc_iR).ch G (B' := 100000 + 200000 * ((n + 1 : Nat) : Int)) (by push_cast; omega) (by push_cast; omega)).toE
  obtain ⟨e, v, s3, v', s8, h1, h2, h3, h4, h5, h6, h7⟩ := H
  unfold fc_7
  rw [aS_i (j := i + 1) (by omega) (by omega)]
  rw [aS_i (j := i + 2) (by omega) (by omega)]
  rw [aS_i (j := i + 3) (by omega) (by omega)]
  rw [e_cl h1]
  dsimp only
  rw [aS_i (j := i + 1) (by omega) (by omega)]
  rw [aS_i (j := i + 2) (by omega) (by omega)]
  rw [aS_i (j := i + 3) (by omega) (by omega)]
  rw [z_on, if_pos (sO265 sh), e_cl h2]
  exact tailW sh h3 h4 h5 h6 (hk s8 h7)
theorem fc8_ok (hn : n < 512) (hR : RR P n s) (i0 : 0 ≤ i) (i1 : i + 6 ≤ (L : Int)) (hk : ∀ s', RR P (n + 1) s' → kE s' = some ()) : fc_8 P L xs s 0 265 278 i kE = some () := by
  obtain ⟨p, t, G⟩ := hR
  have sh := G.cr.sh
  have H : ChE P (100000 + 200000 * ((n + 1 : Nat) : Int)) s (fL_cause P s 0 (sc xs (i + 1)) (sc xs (i + 2)) 278) (fun s => fX8_cause P s 265 (sc xs (i + 1)) (sc xs (i + 2))) := ((rd_cause G sc_iR sc_iR).ch G (B' := 100000 + 200000 * ((n + 1 : Nat) : Int)) (by push_cast; omega) (by push_cast; omega)).toE
  obtain ⟨e, v, s3, v', s8, h1, h2, h3, h4, h5, h6, h7⟩ := H
  unfold fc_8
  rw [aS_i (j := i + 1) (by omega) (by omega)]
  rw [aS_i (j := i + 2) (by omega) (by omega)]
  rw [e_cl h1]
  dsimp only
  rw [aS_i (j := i + 1) (by omega) (by omega)]
  rw [aS_i (j := i + 2) (by omega) (by omega)]
  rw [z_on, if_pos (sO265 sh), e_cl h2]
  exact tailW sh h3 h4 h5 h6 (hk s8 h7)
theorem fc9_ok (hn : n < 512) (hR : RR P n s) (i0 : 0 ≤ i) (i1 : i + 6 ≤ (L : Int)) (hk : ∀ s', RR P (n + 1) s' → kE s' = some ()) : fc_9 P L xs s 0 265 278 i kE = some () := by
  obtain ⟨p, t, G⟩ := hR
  have sh := G.cr.sh
  have H : ChE P (100000 + 200000 * ((n + 1 : Nat) : Int)) s (fL_scoreWith P s 0 (sc xs (i + 1)) (sc xs (i + 2)) 278) (fun s => fX8_scoreWith P s 265 (sc xs (i + 1)) (sc xs (i + 2))) := ((rd_scoreWith G (by omega) sc_iR sc_iR).ch G (B' := 100000 + 200000 * ((n + 1 : Nat) : Int)) (by push_cast; omega) (by push_cast; omega)).toE
  obtain ⟨e, v, s3, v', s8, h1, h2, h3, h4, h5, h6, h7⟩ := H
  unfold fc_9
  rw [aS_i (j := i + 1) (by omega) (by omega)]
  rw [aS_i (j := i + 2) (by omega) (by omega)]
  rw [e_cl h1]
  dsimp only
  rw [aS_i (j := i + 1) (by omega) (by omega)]
  rw [aS_i (j := i + 2) (by omega) (by omega)]
  rw [z_on, if_pos (sO265 sh), e_cl h2]
  exact tailW sh h3 h4 h5 h6 (hk s8 h7)
theorem fc10_ok (hn : n < 512) (hR : RR P n s) (i0 : 0 ≤ i) (i1 : i + 6 ≤ (L : Int)) (hk : ∀ s', RR P (n + 1) s' → kE s' = some ()) : fc_10 P L xs s 0 265 278 i kE = some () := by
  obtain ⟨p, t, G⟩ := hR
  have sh := G.cr.sh
  have H : ChE P (100000 + 200000 * ((n + 1 : Nat) : Int)) s (fL_feared P s 0 (sc xs (i + 1)) 278) (fun s => fX8_feared P s 265 (sc xs (i + 1))) := ((rd_feared G (by omega) sc_iR).ch G (B' := 100000 + 200000 * ((n + 1 : Nat) : Int)) (by push_cast; omega) (by push_cast; omega)).toE
  obtain ⟨e, v, s3, v', s8, h1, h2, h3, h4, h5, h6, h7⟩ := H
  unfold fc_10
  rw [aS_i (j := i + 1) (by omega) (by omega)]
  rw [e_cl h1]
  dsimp only
  rw [aS_i (j := i + 1) (by omega) (by omega)]
  rw [z_on, if_pos (sO265 sh), e_cl h2]
  exact tailW sh h3 h4 h5 h6 (hk s8 h7)
theorem fc11_ok (hn : n < 512) (hR : RR P n s) (i0 : 0 ≤ i) (i1 : i + 6 ≤ (L : Int)) (hk : ∀ s', RR P (n + 1) s' → kE s' = some ()) : fc_11 P L xs s 0 265 278 i kE = some () := by
  obtain ⟨p, t, G⟩ := hR
  have sh := G.cr.sh
  have H : ChE P (100000 + 200000 * ((n + 1 : Nat) : Int)) s (fL_framesToClear P s 0 (sc xs (i + 1)) 278) (fun s => fX8_framesToClear P s 265 (sc xs (i + 1))) := ((rd_framesToClear G sc_iR).ch G (B' := 100000 + 200000 * ((n + 1 : Nat) : Int)) (by push_cast; omega) (by push_cast; omega)).toE
  obtain ⟨e, v, s3, v', s8, h1, h2, h3, h4, h5, h6, h7⟩ := H
  unfold fc_11
  rw [aS_i (j := i + 1) (by omega) (by omega)]
  rw [e_cl h1]
  dsimp only
  rw [aS_i (j := i + 1) (by omega) (by omega)]
  rw [z_on, if_pos (sO265 sh), e_cl h2]
  exact tailW sh h3 h4 h5 h6 (hk s8 h7)
theorem fc12_ok (hn : n < 512) (hR : RR P n s) (i0 : 0 ≤ i) (i1 : i + 6 ≤ (L : Int)) (hk : ∀ s', RR P (n + 1) s' → kE s' = some ()) : fc_12 P L xs s 0 265 278 i kE = some () := by
  obtain ⟨p, t, G⟩ := hR
  have sh := G.cr.sh
  have H : ChE P (100000 + 200000 * ((n + 1 : Nat) : Int)) s (fL_atStake P s 0 (sc xs (i + 1)) 278) (fun s => fX8_atStake P s 265 (sc xs (i + 1))) := ((rd_atStake G sc_iR).ch G (B' := 100000 + 200000 * ((n + 1 : Nat) : Int)) (by push_cast; omega) (by push_cast; omega)).toE
  obtain ⟨e, v, s3, v', s8, h1, h2, h3, h4, h5, h6, h7⟩ := H
  unfold fc_12
  rw [aS_i (j := i + 1) (by omega) (by omega)]
  rw [e_cl h1]
  dsimp only
  rw [aS_i (j := i + 1) (by omega) (by omega)]
  rw [z_on, if_pos (sO265 sh), e_cl h2]
  exact tailW sh h3 h4 h5 h6 (hk s8 h7)
theorem fc14_ok (hn : n < 512) (hR : RR P n s) (i0 : 0 ≤ i) (i1 : i + 6 ≤ (L : Int)) (hk : ∀ s', RR P (n + 1) s' → kE s' = some ()) : fc_14 P L xs s 0 265 278 i kE = some () := by
  obtain ⟨p, t, G⟩ := hR
  have sh := G.cr.sh
  have H : ChE P (100000 + 200000 * ((n + 1 : Nat) : Int)) s (fL_whyNotRunning P s 0 (sc xs (i + 1)) 278) (fun s => fX8_whyNotRunning P s 265 (sc xs (i + 1))) := ((rd_whyNotRunning G sc_iR).ch G (B' := 100000 + 200000 * ((n + 1 : Nat) : Int)) (by push_cast; omega) (by push_cast; omega)).toE
  obtain ⟨e, v, s3, v', s8, h1, h2, h3, h4, h5, h6, h7⟩ := H
  unfold fc_14
  rw [aS_i (j := i + 1) (by omega) (by omega)]
  rw [e_cl h1]
  dsimp only
  rw [aS_i (j := i + 1) (by omega) (by omega)]
  rw [z_on, if_pos (sO265 sh), e_cl h2]
  exact tailW sh h3 h4 h5 h6 (hk s8 h7)
theorem fc15_ok (hn : n < 512) (hR : RR P n s) (i0 : 0 ≤ i) (i1 : i + 6 ≤ (L : Int)) (hk : ∀ s', RR P (n + 1) s' → kE s' = some ()) : fc_15 P L xs s 0 265 278 i kE = some () := by
  obtain ⟨p, t, G⟩ := hR
  have sh := G.cr.sh
  have H : ChE P (100000 + 200000 * ((n + 1 : Nat) : Int)) s (fL_event P s 0 (sc xs (i + 1)) (sc xs (i + 2)) 278) (fun s => fX8_event P s 265 (sc xs (i + 1)) (sc xs (i + 2))) := ((rd_event G sc_iR sc_iR).ch G (B' := 100000 + 200000 * ((n + 1 : Nat) : Int)) (by push_cast; omega) (by push_cast; omega)).toE
  obtain ⟨e, v, s3, v', s8, h1, h2, h3, h4, h5, h6, h7⟩ := H
  unfold fc_15
  rw [aS_i (j := i + 1) (by omega) (by omega)]
  rw [aS_i (j := i + 2) (by omega) (by omega)]
  rw [e_cl h1]
  dsimp only
  rw [aS_i (j := i + 1) (by omega) (by omega)]
  rw [aS_i (j := i + 2) (by omega) (by omega)]
  rw [z_on, if_pos (sO265 sh), e_cl h2]
  exact tailW sh h3 h4 h5 h6 (hk s8 h7)
theorem fc16_ok (hn : n < 512) (hR : RR P n s) (i0 : 0 ≤ i) (i1 : i + 6 ≤ (L : Int)) (hk : ∀ s', RR P (n + 1) s' → kE s' = some ()) : fc_16 P L xs s 0 265 278 i kE = some () := by
  obtain ⟨p, t, G⟩ := hR
  have sh := G.cr.sh
  have H : ChE P (100000 + 200000 * ((n + 1 : Nat) : Int)) s (fL_account P s 0 (sc xs (i + 1)) 278) (fun s => fX8_account P s 265 (sc xs (i + 1))) := ((rd_account G sc_iR).ch G (B' := 100000 + 200000 * ((n + 1 : Nat) : Int)) (by push_cast; omega) (by push_cast; omega)).toE
  obtain ⟨e, v, s3, v', s8, h1, h2, h3, h4, h5, h6, h7⟩ := H
  unfold fc_16
  rw [aS_i (j := i + 1) (by omega) (by omega)]
  rw [e_cl h1]
  dsimp only
  rw [aS_i (j := i + 1) (by omega) (by omega)]
  rw [z_on, if_pos (sO265 sh), e_cl h2]
  exact tailW sh h3 h4 h5 h6 (hk s8 h7)
theorem fc18_ok (hn : n < 512) (hR : RR P n s) (i0 : 0 ≤ i) (i1 : i + 6 ≤ (L : Int)) (hk : ∀ s', RR P (n + 1) s' → kE s' = some ()) : fc_18 P L xs s 0 265 278 i kE = some () := by
  obtain ⟨p, t, G⟩ := hR
  have sh := G.cr.sh
  have H : ChE P (100000 + 200000 * ((n + 1 : Nat) : Int)) s (fL_frames P s 0 (sc xs (i + 1)) 278) (fun s => fX8_frames P s 265 (sc xs (i + 1))) := by rw [show (100000 : Int) + 200000 * ((n + 1 : Nat) : Int) = 100000 + 200000 * (n : Int) + 200000 by push_cast; omega]; exact (rd_frames G (by omega) (by omega) sc_iR).toE
  obtain ⟨e, v, s3, v', s8, h1, h2, h3, h4, h5, h6, h7⟩ := H
  unfold fc_18
  rw [aS_i (j := i + 1) (by omega) (by omega)]
  rw [e_cl h1]
  dsimp only
  rw [aS_i (j := i + 1) (by omega) (by omega)]
  rw [z_on, if_pos (sO265 sh), e_cl h2]
  exact tailW sh h3 h4 h5 h6 (hk s8 h7)
theorem fc19_ok (hn : n < 512) (hR : RR P n s) (i0 : 0 ≤ i) (i1 : i + 6 ≤ (L : Int)) (hk : ∀ s', RR P (n + 1) s' → kE s' = some ()) : fc_19 P L xs s 0 265 278 i kE = some () := by
  obtain ⟨p, t, G⟩ := hR
  have sh := G.cr.sh
  have H : ChE P (100000 + 200000 * ((n + 1 : Nat) : Int)) s (fL_fail P s 0 (sc xs (i + 1)) (sc xs (i + 2)) 278) (fun s => fX8_fail P s 265 (sc xs (i + 1)) (sc xs (i + 2))) := by rw [show (100000 : Int) + 200000 * ((n + 1 : Nat) : Int) = 100000 + 200000 * (n : Int) + 200000 by push_cast; omega]; exact (rd_fail G (by omega) (by omega) sc_iR sc_iR).toE
  obtain ⟨e, v, s3, v', s8, h1, h2, h3, h4, h5, h6, h7⟩ := H
  unfold fc_19
  rw [aS_i (j := i + 1) (by omega) (by omega)]
  rw [aS_i (j := i + 2) (by omega) (by omega)]
  rw [e_cl h1]
  dsimp only
  rw [aS_i (j := i + 1) (by omega) (by omega)]
  rw [aS_i (j := i + 2) (by omega) (by omega)]
  rw [z_on, if_pos (sO265 sh), e_cl h2]
  exact tailW sh h3 h4 h5 h6 (hk s8 h7)
theorem fc20_ok (hn : n < 512) (hR : RR P n s) (i0 : 0 ≤ i) (i1 : i + 6 ≤ (L : Int)) (hk : ∀ s', RR P (n + 1) s' → kE s' = some ()) : fc_20 P L xs s 0 265 278 i kE = some () := by
  obtain ⟨p, t, G⟩ := hR
  have sh := G.cr.sh
  have H : ChE P (100000 + 200000 * ((n + 1 : Nat) : Int)) s (fL_warn P s 0 (sc xs (i + 1)) 278) (fun s => fX8_warn P s 265 (sc xs (i + 1))) := by rw [show (100000 : Int) + 200000 * ((n + 1 : Nat) : Int) = 100000 + 200000 * (n : Int) + 200000 by push_cast; omega]; exact (rd_warn G (by omega) (by omega) sc_iR).toE
  obtain ⟨e, v, s3, v', s8, h1, h2, h3, h4, h5, h6, h7⟩ := H
  unfold fc_20
  rw [aS_i (j := i + 1) (by omega) (by omega)]
  rw [e_cl h1]
  dsimp only
  rw [aS_i (j := i + 1) (by omega) (by omega)]
  rw [z_on, if_pos (sO265 sh), e_cl h2]
  exact tailW sh h3 h4 h5 h6 (hk s8 h7)
theorem fc21_ok (hn : n < 512) (hR : RR P n s) (i0 : 0 ≤ i) (i1 : i + 6 ≤ (L : Int)) (hk : ∀ s', RR P (n + 1) s' → kE s' = some ()) : fc_21 P L xs s 0 265 278 i kE = some () := by
  obtain ⟨p, t, G⟩ := hR
  have sh := G.cr.sh
  have H : ChE P (100000 + 200000 * ((n + 1 : Nat) : Int)) s (fL_callOff P s 0 (sc xs (i + 1)) 278) (fun s => fX8_callOff P s 265 (sc xs (i + 1))) := by rw [show (100000 : Int) + 200000 * ((n + 1 : Nat) : Int) = 100000 + 200000 * (n : Int) + 200000 by push_cast; omega]; exact (rd_callOff G (by omega) (by omega) sc_iR).toE
  obtain ⟨e, v, s3, v', s8, h1, h2, h3, h4, h5, h6, h7⟩ := H
  unfold fc_21
  rw [aS_i (j := i + 1) (by omega) (by omega)]
  rw [e_cl h1]
  dsimp only
  rw [aS_i (j := i + 1) (by omega) (by omega)]
  rw [z_on, if_pos (sO265 sh), e_cl h2]
  exact tailW sh h3 h4 h5 h6 (hk s8 h7)
theorem fc22_ok (hn : n < 512) (hR : RR P n s) (i0 : 0 ≤ i) (i1 : i + 6 ≤ (L : Int)) (hk : ∀ s', RR P (n + 1) s' → kE s' = some ()) : fc_22 P L xs s 0 265 278 i kE = some () := by
  obtain ⟨p, t, G⟩ := hR
  have sh := G.cr.sh
  have H : ChE P (100000 + 200000 * ((n + 1 : Nat) : Int)) s (fL_unplug P s 0 (sc xs (i + 1)) 278) (fun s => fX8_unplug P s 265 (sc xs (i + 1))) := by rw [show (100000 : Int) + 200000 * ((n + 1 : Nat) : Int) = 100000 + 200000 * (n : Int) + 200000 by push_cast; omega]; exact (rd_unplug G (by omega) (by omega) sc_iR).toE
  obtain ⟨e, v, s3, v', s8, h1, h2, h3, h4, h5, h6, h7⟩ := H
  unfold fc_22
  rw [aS_i (j := i + 1) (by omega) (by omega)]
  rw [e_cl h1]
  dsimp only
  rw [aS_i (j := i + 1) (by omega) (by omega)]
  rw [z_on, if_pos (sO265 sh), e_cl h2]
  exact tailW sh h3 h4 h5 h6 (hk s8 h7)
theorem fc23_ok (hn : n < 512) (hR : RR P n s) (i0 : 0 ≤ i) (i1 : i + 6 ≤ (L : Int)) (hk : ∀ s', RR P (n + 1) s' → kE s' = some ()) : fc_23 P L xs s 0 265 278 i kE = some () := by
  obtain ⟨p, t, G⟩ := hR
  have sh := G.cr.sh
  have H : ChE P (100000 + 200000 * ((n + 1 : Nat) : Int)) s (fL_plug P s 0 (sc xs (i + 1)) (sc xs (i + 2)) 278) (fun s => fX8_plug P s 265 (sc xs (i + 1)) (sc xs (i + 2))) := by rw [show (100000 : Int) + 200000 * ((n + 1 : Nat) : Int) = 100000 + 200000 * (n : Int) + 200000 by push_cast; omega]; exact (rd_plug G (by omega) (by omega) sc_iR sc_iR).toE
  obtain ⟨e, v, s3, v', s8, h1, h2, h3, h4, h5, h6, h7⟩ := H
  unfold fc_23
  rw [aS_i (j := i + 1) (by omega) (by omega)]
  rw [aS_i (j := i + 2) (by omega) (by omega)]
  rw [e_cl h1]
  dsimp only
  rw [aS_i (j := i + 1) (by omega) (by omega)]
  rw [aS_i (j := i + 2) (by omega) (by omega)]
  rw [z_on, if_pos (sO265 sh), e_cl h2]
  exact tailW sh h3 h4 h5 h6 (hk s8 h7)
theorem fc24_ok (hn : n < 512) (hR : RR P n s) (i0 : 0 ≤ i) (i1 : i + 6 ≤ (L : Int)) (hk : ∀ s', RR P (n + 1) s' → kE s' = some ()) : fc_24 P L xs s 0 265 278 i kE = some () := by
  obtain ⟨p, t, G⟩ := hR
  have sh := G.cr.sh
  have H : ChE P (100000 + 200000 * ((n + 1 : Nat) : Int)) s (fL_setScore P s 0 (sc xs (i + 1)) 278) (fun s => fX8_setScore P s 265 (sc xs (i + 1))) := by rw [show (100000 : Int) + 200000 * ((n + 1 : Nat) : Int) = 100000 + 200000 * (n : Int) + 200000 by push_cast; omega]; exact (rd_setScore G (by omega) (by omega) sc_iR).toE
  obtain ⟨e, v, s3, v', s8, h1, h2, h3, h4, h5, h6, h7⟩ := H
  unfold fc_24
  rw [aS_i (j := i + 1) (by omega) (by omega)]
  rw [e_cl h1]
  dsimp only
  rw [aS_i (j := i + 1) (by omega) (by omega)]
  rw [z_on, if_pos (sO265 sh), e_cl h2]
  exact tailW sh h3 h4 h5 h6 (hk s8 h7)
theorem fc6_ok (hn : n < 512) (hR : RR P n s) (i0 : 0 ≤ i) (i1 : i + 6 ≤ (L : Int)) (hk : ∀ s', RR P (n + 1) s' → kE s' = some ()) : fc_6 P L xs s 0 265 278 i kE = some () := by
  obtain ⟨p, t, G⟩ := hR
  have sh := G.cr.sh
  obtain ⟨e, v, s3, v', s8, h1, h2, h3, h4, h5, h6, h7, h8⟩ := rd_packets (a := sc xs (i + 1)) G sc_iR
  have G8 := (G.to h7 fun j j0 _ => h8 j j0).mono (B' := 100000 + 200000 * ((n + 1 : Nat) : Int)) (by push_cast; omega) (by push_cast; omega)
  unfold fc_6
  rw [aS_i (j := i + 1) (by omega) (by omega)]
  rw [e_cl h1]
  dsimp only
  rw [aS_i (j := i + 1) (by omega) (by omega)]
  rw [z_on, if_pos (sO265 sh), e_cl h2]
  exact tailL sh h3 h4 h5 h6 (hk s8 ⟨p, t, G8⟩)
theorem w_to (G : GR P σ p t B) (h : B ≤ B') (h2 : B' ≤ 2000000000) : GR P (st2 (wr σ 265 0 0) (σ 270) (σ 271)) p t B' := by
  refine (G.to (fun o h1 h2 h3 => ?_) (fun j j0 _ => ?_)).mono h h2
  · by_cases e : o = 270
    · subst e; rfl
    · by_cases e2 : o = 271
      · subst e2; rfl
      · rw [st2_o e e2, wr_o h1]
  · rw [st2_o (by omega) (by omega), wr_i (by omega)]
theorem fc13_ok (hn : n < 512) (hR : RR P n s) (i0 : 0 ≤ i) (i1 : i + 6 ≤ (L : Int)) (hk : ∀ s', RR P (n + 1) s' → kE s' = some ()) : fc_13 P L xs s 0 265 278 i kE = some () := by
  obtain ⟨p, t, G⟩ := hR
  have sh := G.cr.sh
  obtain ⟨h1, h2, h3⟩ := rd_weakest G
  unfold fc_13
  rw [z_on, if_pos (sO0 sh), e_cl h1, z_on, if_pos (sO265 sh), e_cl h2]
  dsimp only
  rw [z_eq, if_pos h3, if_pos h3, if_pos rfl]
  exact hk _ ⟨p, t, w_to G (by push_cast; omega) (by push_cast; omega)⟩
theorem fc17_ok (hn : n < 512) (hR : RR P n s) (i0 : 0 ≤ i) (i1 : i + 6 ≤ (L : Int)) (hk : ∀ s', RR P (n + 1) s' → kE s' = some ()) : fc_17 P L xs s 0 265 278 i kE = some () := by
  obtain ⟨p, t, G⟩ := hR
  have sh := G.cr.sh
  obtain ⟨h1, h2, h3⟩ := rd_share G (by omega)
  unfold fc_17
  rw [z_on, if_pos (sO0 sh), e_cl h1, z_on, if_pos (sO265 sh), e_cl h2]
  dsimp only
  unfold deq
  rw [if_pos h3]
  exact hk _ ⟨p, t, w_to G (by push_cast; omega) (by push_cast; omega)⟩
theorem fc25_ok (hn : n < 512) (hR : RR P n s) (i0 : 0 ≤ i) (i1 : i + 6 ≤ (L : Int)) (hk : ∀ s', RR P (n + 1) s' → kE s' = some ()) : fc_25 P L xs s 0 265 278 i kE = some () := by
  obtain ⟨p, t, G⟩ := hR
  have sh := G.cr.sh
  obtain ⟨v, s2, s5, h1, h2, h3, h4⟩ := rd_undo G
  unfold fc_25
  rw [z_on, if_pos (sO0 sh), e_cl h1]
  dsimp only
  rw [z_on, if_pos (sO265 sh), e_cl h2]
  dsimp only
  rw [z_eq, if_pos h3, if_pos h3, if_pos rfl]
  exact hk _ ⟨p, t, h4.mono (by push_cast; omega) (by push_cast; omega)⟩
theorem fc0_ok (hn : n < 512) (hR : RR P n s) (i0 : 0 ≤ i) (i1 : i + 6 ≤ (L : Int)) (hk : ∀ s', RR P (n + 1) s' → kE s' = some ()) : fc_0 P L xs s 0 265 278 i kE = some () := by
  obtain ⟨p, t, G⟩ := hR
  have sh := G.cr.sh
  obtain ⟨v, s2, s5, h1, h2, h3, h4⟩ := rd_append G (B' := 100000 + 200000 * ((n + 1 : Nat) : Int)) (by push_cast; omega) (by push_cast; omega) (sc xs (i + 1)) (sc xs (i + 2)) (sc xs (i + 3)) (sc xs (i + 4)) (sc xs (i + 5))
  unfold fc_0
  rw [aS_i (j := i + 1) (by omega) (by omega), aS_i (j := i + 2) (by omega) (by omega), aS_i (j := i + 3) (by omega) (by omega), aS_i (j := i + 4) (by omega) (by omega), aS_i (j := i + 5) (by omega) (by omega)]
  rw [z_on, if_pos (sO0 sh), e_cl h1]
  dsimp only
  rw [aS_i (j := i + 1) (by omega) (by omega), aS_i (j := i + 2) (by omega) (by omega), aS_i (j := i + 3) (by omega) (by omega), aS_i (j := i + 4) (by omega) (by omega), aS_i (j := i + 5) (by omega) (by omega)]
  rw [z_on, if_pos (sO265 sh), e_cl h2]
  dsimp only
  rw [z_eq, if_pos h3, if_pos h3, if_pos rfl]
  exact hk _ ⟨p, t, h4⟩
theorem fc26_ok (hn : n < 512) (hR : RR P n s) (i0 : 0 ≤ i) (i1 : i + 6 ≤ (L : Int)) (hk : ∀ s', RR P (n + 1) s' → kE s' = some ()) : fc_26 P L xs s 0 265 278 i kE = some () := by
  obtain ⟨p, t, G⟩ := hR
  have sh := G.cr.sh
  obtain ⟨v, s2, s5, h1, h2, h3, h4⟩ := rd_save (a := sc xs (i + 1)) G sc_iR
  unfold fc_26
  rw [aS_i (j := i + 1) (by omega) (by omega)]
  rw [z_on, if_pos (sO0 sh), e_cl h1]
  dsimp only
  rw [aS_i (j := i + 1) (by omega) (by omega)]
  rw [z_on, if_pos (sO265 sh), e_cl h2]
  dsimp only
  rw [z_eq, if_pos h3, if_pos h3, if_pos rfl]
  exact hk _ ⟨p, t, h4.mono (by push_cast; omega) (by push_cast; omega)⟩
theorem fc27_ok (hn : n < 512) (hR : RR P n s) (i0 : 0 ≤ i) (i1 : i + 6 ≤ (L : Int)) (hk : ∀ s', RR P (n + 1) s' → kE s' = some ()) : fc_27 P L xs s 0 265 278 i kE = some () := by
  obtain ⟨p, t, G⟩ := hR
  have sh := G.cr.sh
  obtain ⟨v, s2, s5, h1, h2, h3, h4⟩ := rd_restore (a := sc xs (i + 1)) G sc_iR
  unfold fc_27
  rw [aS_i (j := i + 1) (by omega) (by omega)]
  rw [z_on, if_pos (sO0 sh), e_cl h1]
  dsimp only
  rw [aS_i (j := i + 1) (by omega) (by omega)]
  rw [z_on, if_pos (sO265 sh), e_cl h2]
  dsimp only
  rw [z_eq, if_pos h3, if_pos h3, if_pos rfl]
  exact hk _ ⟨p, t, h4.mono (by push_cast; omega) (by push_cast; omega)⟩
end ZZD
