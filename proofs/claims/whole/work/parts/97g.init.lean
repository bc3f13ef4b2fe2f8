/-! WHAT THE MODEL'S CONSTRUCTOR LEAVES. -/
section ZZA8
variable {α : Type} {P : Shp} {σ σ' s s3 τ τ' : St} {t f g d : Int → Int} {i j k o v x : Int} {n kk : Nat} {len : Int} {r : α}
theorem mkA_e {K : Shp → Nat → Int → St → Option α} (h : mkA P n σ kk len K = some r) : K (al P n kk len.toNat) (n + 1) (n : Int) (nwA σ n (if kk = 13 then -1 else 0)) = some r := (gd h).2
theorem mkO_e {K : Shp → Nat → Int → St → Option α} (h : mkO P n σ kk K = some r) : K (al P n kk 0) (n + 1) (n : Int) (nwO σ n kk) = some r := h
theorem pR_e {K : St → Option α} (h : pR P kk σ o i v K = some r) : K (wr σ o i v) = some r := (gd h).2
theorem nwA_p (h : o ≠ (n : Int)) : nwA σ n v o = σ o := by
  funext j
  unfold nwA
  rw [if_neg h]
theorem nwA_q : nwA σ n v (n : Int) = fun _ => v := by
  funext j
  unfold nwA
  rw [if_pos rfl]
/-- the shapes that the model's constructor needs -/
def HS (P : Shp) : Prop :=
  (okO P 8 265 = true) ∧
  (∀ i, 0 ≤ i → i < 107 → okA P 10 267 i = true) ∧
  (∀ i, 0 ≤ i → i < 107 → okA P 10 268 i = true) ∧
  (∀ i, 0 ≤ i → i < 410 → okA P 10 270 i = true) ∧
  (∀ i, 0 ≤ i → i < 12 → okA P 11 271 i = true) ∧
  (∀ i, 0 ≤ i → i < 2 → okA P 12 276 i = true)
theorem HS.o265 {P : Shp} (h : HS P) : okO P 8 265 = true := h.1
theorem HS.a267 {P : Shp} (h : HS P) : ∀ i, 0 ≤ i → i < 107 → okA P 10 267 i = true := h.2.1
theorem HS.a268 {P : Shp} (h : HS P) : ∀ i, 0 ≤ i → i < 107 → okA P 10 268 i = true := h.2.2.1
theorem HS.a270 {P : Shp} (h : HS P) : ∀ i, 0 ≤ i → i < 410 → okA P 10 270 i = true := h.2.2.2.1
theorem HS.a271 {P : Shp} (h : HS P) : ∀ i, 0 ≤ i → i < 12 → okA P 11 271 i = true := h.2.2.2.2.1
theorem HS.a276 {P : Shp} (h : HS P) : ∀ i, 0 ≤ i → i < 2 → okA P 12 276 i = true := h.2.2.2.2.2
theorem st_def0 (H : HS P) (h10 : τ 265 10 = 267) (kE : St → Option St) : ∃ s, fX8_setDefaults_L2 P 265 kE 1000 0 τ = kE s ∧ (∀ o, o ≠ 267 → s o = τ o) ∧ ∀ j, 0 ≤ j → j < 107 → s 267 j = 0 := by
  have H1 := H.o265
  have H2 := H.a267
  obtain ⟨s, e1, i1, i2⟩ := loop_r (γ := Unit) (fun m k (s : St) => fX8_setDefaults_L2 P 265 kE m k s) kE 107 (fun _ a => a) (fun k s _ => (∀ o, o ≠ 267 → s o = τ o) ∧ ∀ j, 0 ≤ j → j < (k : Int) → s 267 j = 0)
    (fun k m s _ hk1 hI => by
      obtain ⟨i1, i2⟩ := hI
      have k1 : ¬ (107 ≤ (k : Int)) := by omega
      have s10 : s 265 10 = 267 := by rw [i1 265 (by omega)]; exact h10
      refine ⟨wr s 267 (k : Int) 0, ?_, fun o ho => by rw [wr_o ho]; exact i1 o ho, fun j j0 j1 => ?_⟩
      · simp (disch := first | omega | assumption) only [fX8_setDefaults_L2, ↓z_lt, ↓z_ge, ↓z_gt, ↓z_le, ↓z_eq, ↓z_ne, ↓z_mx, ↓z_mn, ↓z_dv, ↓z_rm, ↓z_i2l, ↓z_lc, ↓z_sw, ↓z_sf, ↓z_sn, ↓z_bd, ↓z_nt, z_b0, z_b1, z_bi, z_bj, ↓z_gF, ↓z_gR, ↓z_pF, ↓z_pZ, ↓z_pR, ↓z_aI, ↓z_aR, ↓z_sI, ↓z_sZ, ↓z_on, z_cl, ↓reduceIte, Int.reduceEq, Int.reduceNeg, Int.reduceLT, Int.reduceLE, Int.reduceAdd, Int.reduceSub, Int.reduceMul, true_and, and_true, or_true, true_or, eq_self, iR_t, H1, H2, s10, k1]
      · by_cases z : j = (k : Int)
        · subst z; rw [wr_s]
        · rw [wr_i z]; exact i2 j j0 (by push_cast at j1; omega))
    (fun m s _ hI => by
      have k1 : (107 : Int) ≤ (((107 : Nat)) : Int) := by decide
      show fX8_setDefaults_L2 P 265 kE (m + 1) (((107 : Nat)) : Int) s = kE s
      rw [fX8_setDefaults_L2, z_ge, if_pos (show iR (((107 : Nat)) : Int) = true from rfl), if_pos (show iR 107 = true from rfl), if_pos k1]) (m := 1000) (a := τ) (c := ()) (by omega) ⟨fun _ _ => rfl, fun j j0 j1 => by omega⟩
  exact ⟨s, e1, i1, i2⟩
theorem st_def (H : HS P) (h10 : τ 265 10 = 267) : ∃ τ', fX8_setDefaults P τ 265 = some τ' ∧ (∀ o, o ≠ 265 → o ≠ 267 → τ' o = τ o) ∧ (∀ j, j ≠ 13 → τ' 265 j = τ 265 j) ∧ (∀ j, 0 ≤ j → j < 107 → τ' 267 j = dF j) := by
  have H1 := H.o265
  have H2 := H.a267
  obtain ⟨s, e1, i1, i2⟩ := st_def0 H h10 (fun s4 =>
      gR P 8 s4 265 10 fun x5 =>
      sI P 10 s4 x5 3 1 fun s6 =>
      gR P 8 s6 265 10 fun x7 =>
      sI P 10 s6 x7 4 1 fun s8 =>
      gR P 8 s8 265 10 fun x9 =>
      sI P 10 s8 x9 5 10 fun s10 =>
      gR P 8 s10 265 10 fun x11 =>
      sI P 10 s10 x11 6 5 fun s12 =>
      pZ P 8 s12 265 13 0 fun s13 =>
      some s13)
  have s10 : s 265 10 = 267 := by rw [i1 265 (by omega)]; exact h10
  refine ⟨wr (wr (wr (wr (wr s 267 3 1) 267 4 1) 267 5 10) 267 6 5) 265 13 0, ?_, ?_, ?_, ?_⟩
  · unfold fX8_setDefaults
    refine e1.trans ?_
    simp (disch := first | omega | assumption) only [↓z_lt, ↓z_ge, ↓z_gt, ↓z_le, ↓z_eq, ↓z_ne, ↓z_mx, ↓z_mn, ↓z_dv, ↓z_rm, ↓z_i2l, ↓z_lc, ↓z_sw, ↓z_sf, ↓z_sn, ↓z_bd, ↓z_nt, z_b0, z_b1, z_bi, z_bj, ↓z_gF, ↓z_gR, ↓z_pF, ↓z_pZ, ↓z_pR, ↓z_aI, ↓z_aR, ↓z_sI, ↓z_sZ, ↓z_on, z_cl, ↓reduceIte, Int.reduceEq, Int.reduceNeg, Int.reduceLT, Int.reduceLE, Int.reduceAdd, Int.reduceSub, Int.reduceMul, true_and, and_true, or_true, true_or, eq_self, iR_t, H1, H2, s10, wr_n]
  · intro o h1 h2
    rw [wr_o h1, wr_o h2, wr_o h2, wr_o h2, wr_o h2]; exact i1 o h2
  · intro j hj
    rw [wr_i hj, wr_n (by omega), wr_n (by omega), wr_n (by omega), wr_n (by omega), i1 265 (by omega)]
  · intro j j0 j1
    have i3 := i2 j j0 j1
    unfold dF
    rw [wr_n (by omega)]
    by_cases c6 : j = 6
    · subst c6; rw [wr_s]; rfl
    · rw [wr_i c6]
      by_cases c5 : j = 5
      · subst c5; rw [wr_s]; rfl
      · rw [wr_i c5]
        by_cases c4 : j = 4
        · subst c4; rw [wr_s]; rfl
        · rw [wr_i c4]
          by_cases c3 : j = 3
          · subst c3; rw [wr_s]; rfl
          · rw [wr_i c3, if_neg c3, if_neg c4, if_neg c5, if_neg c6]; exact i3
theorem st_take1 (H : HS P) (q10 : τ 265 10 = 267) (q11 : τ 265 11 = 268) (hd : ∀ j, 0 ≤ j → j < 107 → τ 267 j = d j) (kE : St → Option St) : ∃ s, fX8_takeDraft_L2 P 265 kE 1000 0 τ = kE s ∧ (∀ o, o ≠ 268 → s o = τ o) ∧ s 268 = tkT d (τ 268) := by
  have H1 := H.o265
  have H2 := H.a267
  have H3 := H.a268
  obtain ⟨s, e1, i1, i2⟩ := loop_r (γ := Unit) (fun m k (s : St) => fX8_takeDraft_L2 P 265 kE m k s) kE 107 (fun _ a => a) (fun k s _ => (∀ o, o ≠ 268 → s o = τ o) ∧ ∀ j, s 268 j = if 0 ≤ j ∧ j < (k : Int) then d j else τ 268 j)
    (fun k m s _ hk1 hI => by
      obtain ⟨i1, i2⟩ := hI
      have k1 : ¬ (107 ≤ (k : Int)) := by omega
      have w10 : s 265 10 = 267 := by rw [i1 265 (by omega)]; exact q10
      have w11 : s 265 11 = 268 := by rw [i1 265 (by omega)]; exact q11
      have qd : s 267 (k : Int) = d (k : Int) := by rw [i1 267 (by omega)]; exact hd _ (by omega) (by omega)
      refine ⟨wr s 268 (k : Int) (d (k : Int)), ?_, fun o ho => by rw [wr_o ho]; exact i1 o ho, fun j => ?_⟩
      · simp (disch := first | omega | assumption) only [fX8_takeDraft_L2, ↓z_lt, ↓z_ge, ↓z_gt, ↓z_le, ↓z_eq, ↓z_ne, ↓z_mx, ↓z_mn, ↓z_dv, ↓z_rm, ↓z_i2l, ↓z_lc, ↓z_sw, ↓z_sf, ↓z_sn, ↓z_bd, ↓z_nt, z_b0, z_b1, z_bi, z_bj, ↓z_gF, ↓z_gR, ↓z_pF, ↓z_pZ, ↓z_pR, ↓z_aI, ↓z_aR, ↓z_sI, ↓z_sZ, ↓z_on, z_cl, ↓reduceIte, Int.reduceEq, Int.reduceNeg, Int.reduceLT, Int.reduceLE, Int.reduceAdd, Int.reduceSub, Int.reduceMul, true_and, and_true, or_true, true_or, eq_self, iR_t, H1, H2, H3, w10, w11, qd, k1]
      · by_cases z : j = (k : Int)
        · subst z; rw [wr_s, if_pos (by push_cast; omega)]
        · rw [wr_i z, i2]
          by_cases y : 0 ≤ j ∧ j < (k : Int)
          · rw [if_pos y, if_pos (by push_cast; omega)]
          · rw [if_neg y, if_neg (by push_cast; omega)])
    (fun m s _ hI => by
      show fX8_takeDraft_L2 P 265 kE (m + 1) (((107 : Nat)) : Int) s = kE s
      rw [fX8_takeDraft_L2, z_ge, if_pos (show iR (((107 : Nat)) : Int) = true from rfl), if_pos (show iR 107 = true from rfl), if_pos (show (107 : Int) ≤ (((107 : Nat)) : Int) by decide)]) (m := 1000) (a := τ) (c := ()) (by omega) ⟨fun _ _ => rfl, fun j => by rw [if_neg (by push_cast; omega)]⟩
  exact ⟨s, e1, i1, funext i2⟩
theorem st_take2 (H : HS P) (q14 : τ 265 14 = 270) (kE : St → Option St) : ∃ s, fX8_takeDraft_L28 P 265 kE 1000 0 τ = kE s ∧ (∀ o, o ≠ 270 → s o = τ o) ∧ (∀ j, s 270 j = if 0 ≤ j ∧ j < 410 then 0 else τ 270 j) := by
  have H1 := H.o265
  have H2 := H.a270
  obtain ⟨s, e1, i1, i2⟩ := loop_r (γ := Unit) (fun m k (s : St) => fX8_takeDraft_L28 P 265 kE m k s) kE 410 (fun _ a => a) (fun k s _ => (∀ o, o ≠ 270 → s o = τ o) ∧ ∀ j, s 270 j = if 0 ≤ j ∧ j < (k : Int) then 0 else τ 270 j)
    (fun k m s _ hk1 hI => by
      obtain ⟨i1, i2⟩ := hI
      have k1 : ¬ (410 ≤ (k : Int)) := by omega
      have q1 : s 265 14 = 270 := by rw [i1 265 (by omega)]; exact q14
      refine ⟨wr s 270 (k : Int) 0, ?_, fun o ho => by rw [wr_o ho]; exact i1 o ho, fun j => ?_⟩
      · simp (disch := first | omega | assumption) only [fX8_takeDraft_L28, ↓z_lt, ↓z_ge, ↓z_gt, ↓z_le, ↓z_eq, ↓z_ne, ↓z_mx, ↓z_mn, ↓z_dv, ↓z_rm, ↓z_i2l, ↓z_lc, ↓z_sw, ↓z_sf, ↓z_sn, ↓z_bd, ↓z_nt, z_b0, z_b1, z_bi, z_bj, ↓z_gF, ↓z_gR, ↓z_pF, ↓z_pZ, ↓z_pR, ↓z_aI, ↓z_aR, ↓z_sI, ↓z_sZ, ↓z_on, z_cl, ↓reduceIte, Int.reduceEq, Int.reduceNeg, Int.reduceLT, Int.reduceLE, Int.reduceAdd, Int.reduceSub, Int.reduceMul, true_and, and_true, or_true, true_or, eq_self, iR_t, H1, H2, q1, k1]
      · by_cases z : j = (k : Int)
        · subst z; rw [wr_s, if_pos (by push_cast; omega)]
        · rw [wr_i z, i2]
          by_cases y : 0 ≤ j ∧ j < (k : Int)
          · rw [if_pos y, if_pos (by push_cast; omega)]
          · rw [if_neg y, if_neg (by push_cast; omega)])
    (fun m s _ hI => by
      show fX8_takeDraft_L28 P 265 kE (m + 1) (((410 : Nat)) : Int) s = kE s
      rw [fX8_takeDraft_L28, z_ge, if_pos (show iR (((410 : Nat)) : Int) = true from rfl), if_pos (show iR 410 = true from rfl), if_pos (show (410 : Int) ≤ (((410 : Nat)) : Int) by decide)]) (m := 1000) (a := τ) (c := ()) (by omega) ⟨fun _ _ => rfl, fun j => by rw [if_neg (by push_cast; omega)]⟩
  exact ⟨s, e1, i1, i2⟩
theorem st_take3 (H : HS P) (q15 : τ 265 15 = 271) (kE : St → Option St) : ∃ s, fX8_takeDraft_L50 P 265 kE 1000 0 τ = kE s ∧ (∀ o, o ≠ 271 → s o = τ o) ∧ s 271 = frG (τ 271) := by
  have H1 := H.o265
  have H2 := H.a271
  obtain ⟨s, e1, i1, i2⟩ := loop_r (γ := Unit) (fun m k (s : St) => fX8_takeDraft_L50 P 265 kE m k s) kE 12 (fun _ a => a) (fun k s _ => (∀ o, o ≠ 271 → s o = τ o) ∧ ∀ j, s 271 j = if 0 ≤ j ∧ j < (k : Int) then 0 else τ 271 j)
    (fun k m s _ hk1 hI => by
      obtain ⟨i1, i2⟩ := hI
      have k1 : ¬ (12 ≤ (k : Int)) := by omega
      have q1 : s 265 15 = 271 := by rw [i1 265 (by omega)]; exact q15
      refine ⟨wr s 271 (k : Int) 0, ?_, fun o ho => by rw [wr_o ho]; exact i1 o ho, fun j => ?_⟩
      · simp (disch := first | omega | assumption) only [fX8_takeDraft_L50, ↓z_lt, ↓z_ge, ↓z_gt, ↓z_le, ↓z_eq, ↓z_ne, ↓z_mx, ↓z_mn, ↓z_dv, ↓z_rm, ↓z_i2l, ↓z_lc, ↓z_sw, ↓z_sf, ↓z_sn, ↓z_bd, ↓z_nt, z_b0, z_b1, z_bi, z_bj, ↓z_gF, ↓z_gR, ↓z_pF, ↓z_pZ, ↓z_pR, ↓z_aI, ↓z_aR, ↓z_sI, ↓z_sZ, ↓z_on, z_cl, ↓reduceIte, Int.reduceEq, Int.reduceNeg, Int.reduceLT, Int.reduceLE, Int.reduceAdd, Int.reduceSub, Int.reduceMul, true_and, and_true, or_true, true_or, eq_self, iR_t, H1, H2, q1, k1]
      · by_cases z : j = (k : Int)
        · subst z; rw [wr_s, if_pos (by push_cast; omega)]
        · rw [wr_i z, i2]
          by_cases y : 0 ≤ j ∧ j < (k : Int)
          · rw [if_pos y, if_pos (by push_cast; omega)]
          · rw [if_neg y, if_neg (by push_cast; omega)])
    (fun m s _ hI => by
      show fX8_takeDraft_L50 P 265 kE (m + 1) (((12 : Nat)) : Int) s = kE s
      rw [fX8_takeDraft_L50, z_ge, if_pos (show iR (((12 : Nat)) : Int) = true from rfl), if_pos (show iR 12 = true from rfl), if_pos (show (12 : Int) ≤ (((12 : Nat)) : Int) by decide)]) (m := 1000) (a := τ) (c := ()) (by omega) ⟨fun _ _ => rfl, fun j => by rw [if_neg (by push_cast; omega)]⟩
  exact ⟨s, e1, i1, funext i2⟩
theorem dF_tk : tkT dF (fun _ => 0) = dF := by
  funext j
  unfold tkT
  by_cases c : 0 ≤ j ∧ j < 107
  · rw [if_pos c]
  · rw [if_neg c]
    unfold dF
    rw [if_neg (by omega), if_neg (by omega), if_neg (by omega), if_neg (by omega)]
theorem st_take (H : HS P) (q10 : τ 265 10 = 267) (q11 : τ 265 11 = 268) (q14 : τ 265 14 = 270) (q15 : τ 265 15 = 271) (q21 : τ 265 21 = 276) (hd : ∀ j, 0 ≤ j → j < 107 → τ 267 j = dF j) (z8 : τ 268 = fun _ => 0) (z0 : τ 270 = fun _ => 0) (z1 : τ 271 = fun _ => 0) : ∃ τ', fX8_takeDraft P τ 265 = some τ' ∧ τ' 268 = dF ∧ τ' 270 = frF dF (fun _ => 0) ∧ τ' 271 = frG (fun _ => 0) := by
  have H1 := H.o265
  have H8 := H.a268
  have H0 := H.a270
  have H6 := H.a276
  obtain ⟨s1, l1, o1, t1⟩ := st_take1 H q10 q11 hd (fun s6 =>
      fX8_takeDraft_L28 P 265
        (fun s10 =>
          fX8_takeDraft_L50 P 265
            (fun s14 =>
              gR P 8 s14 265 14 fun x15 =>
              gR P 8 s14 265 11 fun x16 =>
              aI P 10 s14 x16 5 fun x17 =>
              sI P 10 s14 x15 1 x17 fun s18 =>
              fX8_takeDraft_L83 P 265
                (fun s26 =>
                  fX8_takeDraft_L119 P 265
                    (fun s32 =>
                      pF P 8 s32 265 18 0 fun s33 =>
                      gR P 8 s33 265 21 fun x34 =>
                      sZ P 12 s33 x34 0 0 fun s35 =>
                      gR P 8 s35 265 21 fun x36 =>
                      sZ P 12 s35 x36 1 0 fun s37 =>
                      onO P 8 265 <| cl (fX8_settles P s37 265) fun s38 =>
                      some s38)
                    1000 0 s26)
                1000 0 s18)
            1000 0 s10)
        1000 0 s6)
  have p1 : ∀ j, s1 265 j = τ 265 j := fun j => by rw [o1 265 (by omega)]
  obtain ⟨s2, l2, o2, f2⟩ := st_take2 (τ := s1) H ((p1 14).trans q14) (fun s10 =>
          fX8_takeDraft_L50 P 265
            (fun s14 =>
              gR P 8 s14 265 14 fun x15 =>
              gR P 8 s14 265 11 fun x16 =>
              aI P 10 s14 x16 5 fun x17 =>
              sI P 10 s14 x15 1 x17 fun s18 =>
              fX8_takeDraft_L83 P 265
                (fun s26 =>
                  fX8_takeDraft_L119 P 265
                    (fun s32 =>
                      pF P 8 s32 265 18 0 fun s33 =>
                      gR P 8 s33 265 21 fun x34 =>
                      sZ P 12 s33 x34 0 0 fun s35 =>
                      gR P 8 s35 265 21 fun x36 =>
                      sZ P 12 s35 x36 1 0 fun s37 =>
                      onO P 8 265 <| cl (fX8_settles P s37 265) fun s38 =>
                      some s38)
                    1000 0 s26)
                1000 0 s18)
            1000 0 s10)
  have p2 : ∀ j, s2 265 j = τ 265 j := fun j => by rw [o2 265 (by omega)]; exact p1 j
  obtain ⟨s3, l3, o3, g3⟩ := st_take3 (τ := s2) H ((p2 15).trans q15) (fun s14 =>
              gR P 8 s14 265 14 fun x15 =>
              gR P 8 s14 265 11 fun x16 =>
              aI P 10 s14 x16 5 fun x17 =>
              sI P 10 s14 x15 1 x17 fun s18 =>
              fX8_takeDraft_L83 P 265
                (fun s26 =>
                  fX8_takeDraft_L119 P 265
                    (fun s32 =>
                      pF P 8 s32 265 18 0 fun s33 =>
                      gR P 8 s33 265 21 fun x34 =>
                      sZ P 12 s33 x34 0 0 fun s35 =>
                      gR P 8 s35 265 21 fun x36 =>
                      sZ P 12 s35 x36 1 0 fun s37 =>
                      onO P 8 265 <| cl (fX8_settles P s37 265) fun s38 =>
                      some s38)
                    1000 0 s26)
                1000 0 s18)
  have p3 : ∀ j, s3 265 j = τ 265 j := fun j => by rw [o3 265 (by omega)]; exact p2 j
  have t3 : s3 268 = dF := by rw [o3 268 (by omega), o2 268 (by omega), t1, z8]; exact dF_tk
  have t35 : s3 268 5 = 10 := by rw [t3]; rfl
  have K : ∀ s : St, s 265 11 = 268 → s 268 = dF → fX8_devices P s 265 = some 0 ∧ fX8_streams P s 265 = some 0 := fun s e1 e2 => by
    have d1 : s 268 1 = 0 := by rw [e2]; rfl
    have d2 : s 268 2 = 0 := by rw [e2]; rfl
    constructor
    · simp (disch := first | omega | assumption) only [fX8_devices, ↓z_lt, ↓z_ge, ↓z_gt, ↓z_le, ↓z_eq, ↓z_ne, ↓z_mx, ↓z_mn, ↓z_dv, ↓z_rm, ↓z_i2l, ↓z_lc, ↓z_sw, ↓z_sf, ↓z_sn, ↓z_bd, ↓z_nt, z_b0, z_b1, z_bi, z_bj, ↓z_gF, ↓z_gR, ↓z_pF, ↓z_pZ, ↓z_pR, ↓z_aI, ↓z_aR, ↓z_sI, ↓z_sZ, ↓z_on, z_cl, ↓reduceIte, Int.reduceEq, Int.reduceNeg, Int.reduceLT, Int.reduceLE, Int.reduceAdd, Int.reduceSub, Int.reduceMul, true_and, and_true, or_true, true_or, eq_self, iR_t, H1, H8, e1, d1]
    · simp (disch := first | omega | assumption) only [fX8_streams, ↓z_lt, ↓z_ge, ↓z_gt, ↓z_le, ↓z_eq, ↓z_ne, ↓z_mx, ↓z_mn, ↓z_dv, ↓z_rm, ↓z_i2l, ↓z_lc, ↓z_sw, ↓z_sf, ↓z_sn, ↓z_bd, ↓z_nt, z_b0, z_b1, z_bi, z_bj, ↓z_gF, ↓z_gR, ↓z_pF, ↓z_pZ, ↓z_pR, ↓z_aI, ↓z_aR, ↓z_sI, ↓z_sZ, ↓z_on, z_cl, ↓reduceIte, Int.reduceEq, Int.reduceNeg, Int.reduceLT, Int.reduceLE, Int.reduceAdd, Int.reduceSub, Int.reduceMul, true_and, and_true, or_true, true_or, eq_self, iR_t, H1, H8, e1, d2]
  have K83 : ∀ (s : St) (kE : St → Option St) (m : Nat), s 265 11 = 268 → s 268 = dF → fX8_takeDraft_L83 P 265 kE (m + 1) 0 s = kE s := fun s kE m e1 e2 => by
    have e := (K s e1 e2).1
    simp (disch := first | omega | assumption) only [fX8_takeDraft_L83, ↓z_lt, ↓z_ge, ↓z_gt, ↓z_le, ↓z_eq, ↓z_ne, ↓z_mx, ↓z_mn, ↓z_dv, ↓z_rm, ↓z_i2l, ↓z_lc, ↓z_sw, ↓z_sf, ↓z_sn, ↓z_bd, ↓z_nt, z_b0, z_b1, z_bi, z_bj, ↓z_gF, ↓z_gR, ↓z_pF, ↓z_pZ, ↓z_pR, ↓z_aI, ↓z_aR, ↓z_sI, ↓z_sZ, ↓z_on, z_cl, ↓reduceIte, Int.reduceEq, Int.reduceNeg, Int.reduceLT, Int.reduceLE, Int.reduceAdd, Int.reduceSub, Int.reduceMul, true_and, and_true, or_true, true_or, eq_self, iR_t, H1, ↓e_cl e, Int.le_refl]
  have K119 : ∀ (s : St) (kE : St → Option St) (m : Nat), s 265 11 = 268 → s 268 = dF → fX8_takeDraft_L119 P 265 kE (m + 1) 0 s = kE s := fun s kE m e1 e2 => by
    have e := (K s e1 e2).2
    simp (disch := first | omega | assumption) only [fX8_takeDraft_L119, ↓z_lt, ↓z_ge, ↓z_gt, ↓z_le, ↓z_eq, ↓z_ne, ↓z_mx, ↓z_mn, ↓z_dv, ↓z_rm, ↓z_i2l, ↓z_lc, ↓z_sw, ↓z_sf, ↓z_sn, ↓z_bd, ↓z_nt, z_b0, z_b1, z_bi, z_bj, ↓z_gF, ↓z_gR, ↓z_pF, ↓z_pZ, ↓z_pR, ↓z_aI, ↓z_aR, ↓z_sI, ↓z_sZ, ↓z_on, z_cl, ↓reduceIte, Int.reduceEq, Int.reduceNeg, Int.reduceLT, Int.reduceLE, Int.reduceAdd, Int.reduceSub, Int.reduceMul, true_and, and_true, or_true, true_or, eq_self, iR_t, H1, ↓e_cl e, Int.le_refl]
  have KS2 : ∀ (s : St) (kE : St → Option St) (m : Nat), s 265 11 = 268 → s 268 = dF → fX8_settles_L2 P 265 kE (m + 1) 0 s = kE s := fun s kE m e1 e2 => by
    have e := (K s e1 e2).2
    simp (disch := first | omega | assumption) only [fX8_settles_L2, ↓z_lt, ↓z_ge, ↓z_gt, ↓z_le, ↓z_eq, ↓z_ne, ↓z_mx, ↓z_mn, ↓z_dv, ↓z_rm, ↓z_i2l, ↓z_lc, ↓z_sw, ↓z_sf, ↓z_sn, ↓z_bd, ↓z_nt, z_b0, z_b1, z_bi, z_bj, ↓z_gF, ↓z_gR, ↓z_pF, ↓z_pZ, ↓z_pR, ↓z_aI, ↓z_aR, ↓z_sI, ↓z_sZ, ↓z_on, z_cl, ↓reduceIte, Int.reduceEq, Int.reduceNeg, Int.reduceLT, Int.reduceLE, Int.reduceAdd, Int.reduceSub, Int.reduceMul, true_and, and_true, or_true, true_or, eq_self, iR_t, H1, ↓e_cl e, Int.le_refl]
  have KS35 : ∀ (s : St) (kE : St → Option St) (m : Nat), s 265 11 = 268 → s 268 = dF → fX8_settles_L35 P 265 kE (m + 1) 0 s = kE s := fun s kE m e1 e2 => by
    have e := (K s e1 e2).2
    simp (disch := first | omega | assumption) only [fX8_settles_L35, ↓z_lt, ↓z_ge, ↓z_gt, ↓z_le, ↓z_eq, ↓z_ne, ↓z_mx, ↓z_mn, ↓z_dv, ↓z_rm, ↓z_i2l, ↓z_lc, ↓z_sw, ↓z_sf, ↓z_sn, ↓z_bd, ↓z_nt, z_b0, z_b1, z_bi, z_bj, ↓z_gF, ↓z_gR, ↓z_pF, ↓z_pZ, ↓z_pR, ↓z_aI, ↓z_aR, ↓z_sI, ↓z_sZ, ↓z_on, z_cl, ↓reduceIte, Int.reduceEq, Int.reduceNeg, Int.reduceLT, Int.reduceLE, Int.reduceAdd, Int.reduceSub, Int.reduceMul, true_and, and_true, or_true, true_or, eq_self, iR_t, H1, ↓e_cl e, Int.le_refl]
  have KS : ∀ s : St, s 265 11 = 268 → s 268 = dF → fX8_settles P s 265 = some s := fun s e1 e2 => by
    unfold fX8_settles
    exact (KS2 s _ 999 e1 e2).trans (KS35 s _ 999 e1 e2)
  have r14 : s3 265 14 = 270 := (p3 14).trans q14
  have r11 : s3 265 11 = 268 := (p3 11).trans q11
  have r21 : s3 265 21 = 276 := (p3 21).trans q21
  have a1 : wr s3 270 1 10 265 11 = 268 := by rw [wr_n (by omega)]; exact r11
  have a2 : wr s3 270 1 10 268 = dF := by rw [wr_o (by omega)]; exact t3
  have w21 : wr (wr s3 270 1 10) 265 18 0 265 21 = 276 := by rw [wr_i (by omega), wr_n (by omega)]; exact r21
  have w22 : wr (wr (wr s3 270 1 10) 265 18 0) 276 0 0 265 21 = 276 := by rw [wr_n (by omega)]; exact w21
  have S := KS (wr (wr (wr (wr s3 270 1 10) 265 18 0) 276 0 0) 276 1 0) (by rw [wr_n (by omega), wr_n (by omega), wr_i (by omega)]; exact a1) (by rw [wr_o (by omega), wr_o (by omega), wr_o (by omega)]; exact a2)
  refine ⟨wr (wr (wr (wr s3 270 1 10) 265 18 0) 276 0 0) 276 1 0, ?_, ?_, ?_, ?_⟩
  · unfold fX8_takeDraft
    refine l1.trans (l2.trans (l3.trans ?_))
    rw [z_gR, if_pos H1, if_neg (by rw [r14]; omega), r14, z_gR, if_pos H1, if_neg (by rw [r11]; omega), r11, z_aI, if_pos (H8 5 (by omega) (by omega)), t35, z_sI, if_pos (H0 1 (by omega) (by omega))]
    refine (K83 _ _ 999 a1 a2).trans ((K119 _ _ 999 a1 a2).trans ?_)
    simp (disch := first | omega | assumption) only [↓z_lt, ↓z_ge, ↓z_gt, ↓z_le, ↓z_eq, ↓z_ne, ↓z_mx, ↓z_mn, ↓z_dv, ↓z_rm, ↓z_i2l, ↓z_lc, ↓z_sw, ↓z_sf, ↓z_sn, ↓z_bd, ↓z_nt, z_b0, z_b1, z_bi, z_bj, ↓z_gF, ↓z_gR, ↓z_pF, ↓z_pZ, ↓z_pR, ↓z_aI, ↓z_aR, ↓z_sI, ↓z_sZ, ↓z_on, z_cl, ↓reduceIte, Int.reduceEq, Int.reduceNeg, Int.reduceLT, Int.reduceLE, Int.reduceAdd, Int.reduceSub, Int.reduceMul, true_and, and_true, or_true, true_or, eq_self, iR_t, H1, H6, w21, w22, ↓e_cl S]
  · rw [wr_o (by omega), wr_o (by omega), wr_o (by omega)]; exact a2
  · rw [wr_o (by omega), wr_o (by omega), wr_o (by omega)]
    funext j
    have d1 : dF 1 = 0 := rfl
    have d2 : dF 2 = 0 := rfl
    have d5 : dF 5 = 10 := rfl
    unfold frF
    by_cases c1 : j = 1
    · subst c1; rw [wr_s, if_pos (by omega), if_pos rfl, d5]
    · rw [wr_i c1, o3 270 (by omega), f2, o1 270 (by omega), z0]
      by_cases c : 0 ≤ j ∧ j < 410
      · rw [if_pos c, if_pos c, if_neg c1, if_neg (show ¬ (14 ≤ j ∧ j < 14 + 28 * dF 1 ∧ (j - 14) % 28 = 0) by omega), if_neg (show ¬ (238 ≤ j ∧ j < 238 + 3 * dF 2 ∧ (j - 238) % 3 = 1) by omega)]
      · rw [if_neg c, if_neg c]
  · rw [wr_o (by omega), wr_o (by omega), wr_o (by omega), wr_o (by omega), g3, o2 271 (by omega), o1 271 (by omega), z1]
end ZZA8
