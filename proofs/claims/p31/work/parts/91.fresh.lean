/-! A FRESH STATE on both sides. -/
def frF (t f : Int → Int) (j : Int) : Int := if 0 ≤ j ∧ j < 410 then (if j = 1 then t 5 else if 14 ≤ j ∧ j < 14 + 28 * t 1 ∧ (j - 14) % 28 = 0 then t (55 + (j - 14) / 28) else if 238 ≤ j ∧ j < 238 + 3 * t 2 ∧ (j - 238) % 3 = 1 then -1 else 0) else f j
def frG (g : Int → Int) (j : Int) : Int := if 0 ≤ j ∧ j < 12 then 0 else g j
section ZZA3
variable {P : Shp} {σ σ' σ0 σ1 σ2 s : St} {t f g h d d' : Int → Int} {a b c e i j k x y z v w q B : Int}
theorem frF_0 (h0 : 0 ≤ j) (h1 : j < 410) (n1 : j ≠ 1) (n2 : ¬ (14 ≤ j ∧ j < 14 + 28 * t 1 ∧ (j - 14) % 28 = 0)) (n3 : ¬ (238 ≤ j ∧ j < 238 + 3 * t 2 ∧ (j - 238) % 3 = 1)) : frF t f j = 0 := by
  unfold frF
  rw [if_pos ⟨h0, h1⟩, if_neg n1, if_neg n2, if_neg n3]
theorem frF_1 : frF t f 1 = t 5 := rfl
theorem frF_p (T : TV t) (h0 : 0 ≤ k) (h1 : k < t 1) : frF t f (14 + 28 * k + 0) = t (55 + k) := by
  have n1 := T.n1
  unfold frF
  rw [if_pos (by omega), if_neg (by omega), if_pos (by omega), show (14 + 28 * k + 0 - 14) / 28 = k by omega]
theorem frF_d (T : TV t) (h0 : 0 ≤ k) (h1 : k < t 1) (i0 : 1 ≤ i) (i1 : i < 28) : frF t f (14 + 28 * k + i) = 0 := by
  have n1 := T.n1
  have n2 := T.n2
  exact frF_0 (by omega) (by omega) (by omega) (by omega) (by omega)
theorem frF_h (T : TV t) (h0 : 0 ≤ k) (h1 : k < t 2) : frF t f (238 + 3 * k + 1) = -1 := by
  have n1 := T.n1
  have n2 := T.n2
  unfold frF
  rw [if_pos (by omega), if_neg (by omega), if_neg (by omega), if_pos (by omega)]
theorem frF_m (T : TV t) (h0 : 0 ≤ k) (h1 : k < t 2) : frF t f (238 + 3 * k) = 0 ∧ frF t f (238 + 3 * k + 2) = 0 := by
  have n1 := T.n1
  have n2 := T.n2
  exact ⟨frF_0 (by omega) (by omega) (by omega) (by omega) (by omega), frF_0 (by omega) (by omega) (by omega) (by omega) (by omega)⟩
theorem frF_s (T : TV t) (h0 : 2 ≤ j) (h1 : j < 14) : frF t f j = 0 := frF_0 (by omega) (by omega) (by omega) (by omega) (by omega)
theorem frF_z : frF t f 0 = 0 := frF_0 (by omega) (by omega) (by omega) (by omega) (by omega)
theorem frF_in (T : TV t) (hf : ∀ j, -1 ≤ f j ∧ f j ≤ B) (h5 : 0 ≤ t 5) (hB : 9999 ≤ B) : ∀ j, -1 ≤ frF t f j ∧ frF t f j ≤ B := by
  intro j
  have b5 := T.b 5
  have bj := T.b (55 + (j - 14) / 28)
  have := hf j
  unfold frF
  repeat' split
  all_goals omega
theorem forI_0 (hq : ∀ c : Int, h c = 0) : ∀ n : Nat, forI (fun c a => a + h c) n 0 = 0
  | 0 => rfl
  | n + 1 => by
    show forI (fun c a => a + h c) n 0 + h (n : Int) = 0
    rw [forI_0 hq n, hq _]
    rfl
theorem couK_0 (h : f 13 = 0) : couK f c = f 13 := by
  unfold couK
  rw [h]
  rfl
theorem CV_0 (h : f 13 = 0) : CV f := by
  refine ⟨by omega, ?_, fun k k0 k1 => by omega, fun k k0 k1 => by omega⟩
  rw [h]
  refine forI_0 (h := fun c => if couK f c = 0 then 0 else 1) (fun c => ?_) 32
  show (if couK f c = 0 then (0 : Int) else 1) = 0
  rw [if_pos (by rw [couK_0 h, h])]
theorem frF_FV (T : TV t) (F0 : 0 ≤ B ∧ B ≤ 2000000000) (hf : ∀ j, -1 ≤ f j ∧ f j ≤ B) (hg : ∀ j, 0 ≤ g j ∧ g j ≤ 10000 * B) (h5 : 0 ≤ t 5) (hB : 9999 ≤ B) (hp : ∀ k, 0 ≤ k → k < t 1 → 0 ≤ t (55 + k)) : FV B t (frF t f) (frG g) := by
  have n1 := T.n1
  have n2 := T.n2
  refine ⟨F0, frF_in T hf h5 hB, fun j => ?_, ⟨?_, ?_, ?_⟩, ?_, ?_, ?_, ?_, ?_, ?_, ?_, ?_⟩
  · have := hg j
    unfold frG
    split <;> omega
  · rw [frF_z]; exact Int.le_refl _
  · rw [frF_s T (by omega) (by omega)]; exact Int.le_refl _
  · rw [frF_s T (by omega) (by omega)]; exact Int.le_refl _
  · rw [frF_s T (by omega) (by omega)]; exact Int.le_refl _
  · intro d d0 d1; exact Or.inl (frF_d T d0 d1 (by omega) (by omega))
  · intro d d0 d1 h
    rw [frF_p T d0 d1] at h
    have := hp d d0 d1
    omega
  · intro d d0 d1; rw [frF_d T d0 d1 (by omega) (by omega)]; exact Int.le_refl _
  · intro d d0 d1; rw [frF_d T d0 d1 (by omega) (by omega)]; omega
  · intro k k0 k1; exact Or.inl (frF_m T k0 k1).1
  · intro k k0 k1; exact Or.inl ⟨(frF_m T k0 k1).1, frF_h T k0 k1⟩
  · intro k k0 k1
    rw [(frF_m T k0 k1).2]
    have := T.pa k k0 k1
    omega
/-- the class's cleared book of errors -/
theorem c_clear0 (sh : ShpIs P 279 PL) (e0 : s 34 0 = 35) (e5 : s 34 5 = 39) : ∃ s', fX0_clear P s 34 = some s' ∧ (∀ o, o ≠ 34 → o ≠ 35 → o ≠ 39 → s' o = s o) ∧ (∀ j, j ≠ 3 → s' 34 j = s 34 j) ∧ s' 34 3 = 0 ∧ (∀ j, 0 ≤ j → j < 32 → s' 39 j = 0) ∧ (∀ j, 0 ≤ j → j < 8 → s' 35 j = 0) := by
  have L1 : ∀ kE : St → Option St, ∃ s1, fX0_clear_L7 P 34 kE 1000 0 (wr s 34 3 0) = kE s1 ∧ (∀ o, o ≠ 39 → s1 o = wr s 34 3 0 o) ∧ ∀ j, 0 ≤ j → j < 32 → s1 39 j = 0 := by
    intro kE
    obtain ⟨s1, e1, i1, i2⟩ := loop_r (γ := Unit) (fun m k (s : St) => fX0_clear_L7 P 34 kE m k s) kE 32 (fun _ a => a) (fun k s1 _ => (∀ o, o ≠ 39 → s1 o = wr s 34 3 0 o) ∧ ∀ j, 0 ≤ j → j < (k : Int) → s1 39 j = 0)
      (fun k m s1 _ hk1 hI => by
        obtain ⟨i1, i2⟩ := hI
        have k1 : ¬ (32 ≤ (k : Int)) := by omega
        have q5 : s1 34 5 = 39 := by rw [i1 34 (by omega), wr_i (by omega)]; exact e5
        refine ⟨wr s1 39 (k : Int) 0, ?_, fun o ho => by rw [wr_o ho]; exact i1 o ho, fun j j0 j1 => ?_⟩
        · simp (disch := first | omega | assumption) only [fX0_clear_L7, ↓z_lt, ↓z_ge, ↓z_gt, ↓z_le, ↓z_eq, ↓z_ne, ↓z_mx, ↓z_mn, ↓z_dv, ↓z_rm, ↓z_i2l, ↓z_lc, ↓z_sw, ↓z_sf, ↓z_sn, ↓z_bd, ↓z_nt, z_b0, z_b1, z_bi, z_bj, ↓z_gF, ↓z_gR, ↓z_pF, ↓z_pZ, ↓z_pR, ↓z_aI, ↓z_aR, ↓z_sI, ↓z_sZ, ↓z_on, z_cl, ↓reduceIte, Int.reduceEq, Int.reduceNeg, Int.reduceLT, Int.reduceLE, Int.reduceAdd, Int.reduceSub, Int.reduceMul, true_and, and_true, or_true, true_or, eq_self, iR_t, sO34 sh, sA39 sh, q5, k1]
        · by_cases z : j = (k : Int)
          · subst z; rw [wr_s]
          · rw [wr_i z]; exact i2 j j0 (by push_cast at j1; omega))
      (fun m s1 _ hI => by
        show fX0_clear_L7 P 34 kE (m + 1) (((32 : Nat)) : Int) s1 = kE s1
        rw [fX0_clear_L7, z_ge, if_pos (show iR (((32 : Nat)) : Int) = true from rfl), if_pos (show iR 32 = true from rfl), if_pos (show (32 : Int) ≤ (((32 : Nat)) : Int) by decide)]) (m := 1000) (a := wr s 34 3 0) (c := ()) (by omega) ⟨fun _ _ => rfl, fun j j0 j1 => by omega⟩
    exact ⟨s1, e1, i1, fun j j0 j1 => i2 j j0 (by push_cast; omega)⟩
  have L2 : ∀ (s0 : St) (kE : St → Option St), s0 34 0 = 35 → ∃ s1, fX0_clear_L28 P 34 kE 1000 0 s0 = kE s1 ∧ (∀ o, o ≠ 35 → s1 o = s0 o) ∧ ∀ j, 0 ≤ j → j < 8 → s1 35 j = 0 := by
    intro s0 kE h00
    obtain ⟨s1, e1, i1, i2⟩ := loop_r (γ := Unit) (fun m k (s : St) => fX0_clear_L28 P 34 kE m k s) kE 8 (fun _ a => a) (fun k s1 _ => (∀ o, o ≠ 35 → s1 o = s0 o) ∧ ∀ j, 0 ≤ j → j < (k : Int) → s1 35 j = 0)
      (fun k m s1 _ hk1 hI => by
        obtain ⟨i1, i2⟩ := hI
        have k1 : ¬ (8 ≤ (k : Int)) := by omega
        have q5 : s1 34 0 = 35 := by rw [i1 34 (by omega)]; exact h00
        refine ⟨wr s1 35 (k : Int) 0, ?_, fun o ho => by rw [wr_o ho]; exact i1 o ho, fun j j0 j1 => ?_⟩
        · simp (disch := first | omega | assumption) only [fX0_clear_L28, ↓z_lt, ↓z_ge, ↓z_gt, ↓z_le, ↓z_eq, ↓z_ne, ↓z_mx, ↓z_mn, ↓z_dv, ↓z_rm, ↓z_i2l, ↓z_lc, ↓z_sw, ↓z_sf, ↓z_sn, ↓z_bd, ↓z_nt, z_b0, z_b1, z_bi, z_bj, ↓z_gF, ↓z_gR, ↓z_pF, ↓z_pZ, ↓z_pR, ↓z_aI, ↓z_aR, ↓z_sI, ↓z_sZ, ↓z_on, z_cl, ↓reduceIte, Int.reduceEq, Int.reduceNeg, Int.reduceLT, Int.reduceLE, Int.reduceAdd, Int.reduceSub, Int.reduceMul, true_and, and_true, or_true, true_or, eq_self, iR_t, sO34 sh, sA35 sh, q5, k1]
        · by_cases z : j = (k : Int)
          · subst z; rw [wr_s]
          · rw [wr_i z]; exact i2 j j0 (by push_cast at j1; omega))
      (fun m s1 _ hI => by
        show fX0_clear_L28 P 34 kE (m + 1) (((8 : Nat)) : Int) s1 = kE s1
        rw [fX0_clear_L28, z_ge, if_pos (show iR (((8 : Nat)) : Int) = true from rfl), if_pos (show iR 8 = true from rfl), if_pos (show (8 : Int) ≤ (((8 : Nat)) : Int) by decide)]) (m := 1000) (a := s0) (c := ()) (by omega) ⟨fun _ _ => rfl, fun j j0 j1 => by omega⟩
    exact ⟨s1, e1, i1, fun j j0 j1 => i2 j j0 (by push_cast; omega)⟩
  obtain ⟨s1, l1, o1, z1⟩ := L1 (fun s5 => fX0_clear_L28 P 34 (fun s9 => some s9) 1000 0 s5)
  obtain ⟨s2, l2, o2, z2⟩ := L2 s1 (fun s9 => some s9) (by rw [o1 34 (by omega), wr_i (by omega)]; exact e0)
  refine ⟨s2, ?_, fun o h1 h2 h3 => by rw [o2 o h2, o1 o h3, wr_o h1], fun j hj => by rw [o2 34 (by omega), o1 34 (by omega), wr_i hj], by rw [o2 34 (by omega), o1 34 (by omega), wr_s], fun j j0 j1 => by rw [o2 39 (by omega)]; exact z1 j j0 j1, z2⟩
  unfold fX0_clear
  rw [z_pF, if_pos (sO34 sh)]
  exact l1.trans l2
/-- the class's cleared log -/
theorem c_clear3 (sh : ShpIs P 279 PL) (e5 : s 40 5 = 44) : ∃ s', fX3_clear P s 40 = some s' ∧ (∀ o, o ≠ 40 → o ≠ 44 → s' o = s o) ∧ (∀ j, 2 ≤ j → s' 40 j = s 40 j) ∧ s' 40 0 = 0 ∧ s' 40 1 = 0 ∧ (∀ j, 0 ≤ j → j < 10 → s' 44 j = 0) := by
  obtain ⟨s1, e1, i1, i2⟩ := loop_r (γ := Unit) (fun m k (s : St) => fX3_clear_L12 P 40 (fun s6 => some s6) m k s) (fun s6 => some s6) 10 (fun _ a => a) (fun k s1 _ => (∀ o, o ≠ 44 → s1 o = wr (wr s 40 0 0) 40 1 0 o) ∧ ∀ j, 0 ≤ j → j < (k : Int) → s1 44 j = 0)
      (fun k m s1 _ hk1 hI => by
        obtain ⟨i1, i2⟩ := hI
        have k1 : ¬ (10 ≤ (k : Int)) := by omega
        have q5 : s1 40 5 = 44 := by rw [i1 40 (by omega), wr_i (by omega), wr_i (by omega)]; exact e5
        refine ⟨wr s1 44 (k : Int) 0, ?_, fun o ho => by rw [wr_o ho]; exact i1 o ho, fun j j0 j1 => ?_⟩
        · simp (disch := first | omega | assumption) only [fX3_clear_L12, ↓z_lt, ↓z_ge, ↓z_gt, ↓z_le, ↓z_eq, ↓z_ne, ↓z_mx, ↓z_mn, ↓z_dv, ↓z_rm, ↓z_i2l, ↓z_lc, ↓z_sw, ↓z_sf, ↓z_sn, ↓z_bd, ↓z_nt, z_b0, z_b1, z_bi, z_bj, ↓z_gF, ↓z_gR, ↓z_pF, ↓z_pZ, ↓z_pR, ↓z_aI, ↓z_aR, ↓z_sI, ↓z_sZ, ↓z_on, z_cl, ↓reduceIte, Int.reduceEq, Int.reduceNeg, Int.reduceLT, Int.reduceLE, Int.reduceAdd, Int.reduceSub, Int.reduceMul, true_and, and_true, or_true, true_or, eq_self, iR_t, sO40 sh, sA44 sh, q5, k1]
        · by_cases z : j = (k : Int)
          · subst z; rw [wr_s]
          · rw [wr_i z]; exact i2 j j0 (by push_cast at j1; omega))
      (fun m s1 _ hI => by
        show fX3_clear_L12 P 40 (fun s6 => some s6) (m + 1) (((10 : Nat)) : Int) s1 = (fun s6 => some s6) s1
        rw [fX3_clear_L12, z_ge, if_pos (show iR (((10 : Nat)) : Int) = true from rfl), if_pos (show iR 10 = true from rfl), if_pos (show (10 : Int) ≤ (((10 : Nat)) : Int) by decide)]) (m := 1000) (a := wr (wr s 40 0 0) 40 1 0) (c := ()) (by omega) ⟨fun _ _ => rfl, fun j j0 j1 => by omega⟩
  refine ⟨s1, ?_, fun o h1 h2 => by rw [i1 o h2, wr_o h1, wr_o h1], fun j hj => by rw [i1 40 (by omega), wr_i (by omega), wr_i (by omega)], by rw [i1 40 (by omega), wr_i (by omega), wr_s], by rw [i1 40 (by omega), wr_s], fun j j0 j1 => i2 j j0 (by push_cast; omega)⟩
  unfold fX3_clear
  rw [z_pF, if_pos (sO40 sh), z_pF, if_pos (sO40 sh)]
  exact e1
/-- the class's state, begun -/
theorem begL_1 (sh : ShpIs P 279 PL) (hq : q = 3 ∨ q = 17) (p2 : s 27 2 = 28) (p3 : s 27 3 = 29) (w5 : s q 5 = z) (z8 : 0 ≤ z ∧ z ≤ 8) (k0 : 0 ≤ k) (k8 : k < 8) (c : z ≤ k) (kE : St → Option St) (m : Nat) : fX6_begin_L15 P 27 q kE (m + 1) k s = fX6_begin_L15 P 27 q kE m (k + 1) (wr (wr s 28 k (-1)) 29 k (-1)) := by
  have k9 : iR k = true := iR_t (by omega) (by omega)
  have z9 : iR z = true := iR_t (by omega) (by omega)
  have p3' : wr s 28 k (-1) 27 3 = 29 := by rw [wr_n (by omega)]; exact p3
  rw [fX6_begin_L15, z_ge, if_pos k9, if_pos (show iR 8 = true from rfl), if_neg (show ¬ (8 ≤ k) by omega), z_gR, if_pos (sO27 sh), if_neg (show ¬ (s 27 2 = -1) by rw [p2]; omega), p2, z_gF, if_pos (pO sh hq), w5, z_nt, z_ge, if_pos k9, if_pos z9, if_pos c]
  dsimp only
  rw [z_sI, if_pos (sA28 sh k0 k8), z_gR, if_pos (sO27 sh), if_neg (show ¬ (wr s 28 k (-1) 27 3 = -1) by rw [p3']; omega), p3', z_sI, if_pos (sA29 sh k0 k8), z_bd]
theorem begL_2 (sh : ShpIs P 279 PL) (hq : q = 3 ∨ q = 17) (p2 : s 27 2 = 28) (p3 : s 27 3 = 29) (w5 : s q 5 = z) (z8 : 0 ≤ z ∧ z ≤ 8) (w11 : s q 11 = q + 5) (wf : s (q + 5) k = v) (k0 : 0 ≤ k) (k8 : k < 8) (c : ¬ (z ≤ k)) (kE : St → Option St) (m : Nat) : fX6_begin_L15 P 27 q kE (m + 1) k s = fX6_begin_L15 P 27 q kE m (k + 1) (wr (wr s 28 k v) 29 k (-1)) := by
  have k9 : iR k = true := iR_t (by omega) (by omega)
  have z9 : iR z = true := iR_t (by omega) (by omega)
  have p3' : wr s 28 k v 27 3 = 29 := by rw [wr_n (by omega)]; exact p3
  rw [fX6_begin_L15, z_ge, if_pos k9, if_pos (show iR 8 = true from rfl), if_neg (show ¬ (8 ≤ k) by omega), z_gR, if_pos (sO27 sh), if_neg (show ¬ (s 27 2 = -1) by rw [p2]; omega), p2, z_gF, if_pos (pO sh hq), w5, z_nt, z_ge, if_pos k9, if_pos z9, if_neg c, z_gR, if_pos (pO sh hq), if_neg (show ¬ (s q 11 = -1) by rw [w11]; omega), w11, z_aI, if_pos (pA5 sh hq k0 k8), wf]
  dsimp only
  rw [z_sI, if_pos (sA28 sh k0 k8), z_gR, if_pos (sO27 sh), if_neg (show ¬ (wr s 28 k v 27 3 = -1) by rw [p3']; omega), p3', z_sI, if_pos (sA29 sh k0 k8), z_bd]
theorem c_begL (sh : ShpIs P 279 PL) (hq : q = 3 ∨ q = 17) (T : TV t) (R : PR σ q t) (S : SP σ 27) (kE : St → Option St) : ∃ s, fX6_begin_L15 P 27 q kE 1000 0 σ = kE s ∧ (∀ o, o ≠ 28 → o ≠ 29 → s o = σ o) ∧ (∀ j, 0 ≤ j → j < t 1 → s 28 j = t (55 + j)) ∧ (∀ j, 0 ≤ j → j < 8 → s 29 j = -1) := by
  have n1 := T.n1
  have hq1 : ¬ (q = -1) := by omega
  have hq5 : ¬ (q + 5 = -1) := by omega
  have v5 := R.v5
  have r11 := R.r11
  obtain ⟨s, e1, i1, i2, i3⟩ := loop_r (γ := Unit) (fun m k (s : St) => fX6_begin_L15 P 27 q kE m k s) kE 8 (fun _ a => a) (fun k s _ => (∀ o, o ≠ 28 → o ≠ 29 → s o = σ o) ∧ (∀ j, 0 ≤ j → j < (k : Int) → j < t 1 → s 28 j = t (55 + j)) ∧ (∀ j, 0 ≤ j → j < (k : Int) → s 29 j = -1))
    (fun k m s _ hk1 hI => by
      obtain ⟨i1, i2, i3⟩ := hI
      have k1 : ¬ (8 ≤ (k : Int)) := by omega
      have p2 : s 27 2 = 28 := by rw [i1 27 (by omega) (by omega)]; exact S.p2
      have p3 : s 27 3 = 29 := by rw [i1 27 (by omega) (by omega)]; exact S.p3
      have w5 : s q 5 = t 1 := by rw [i1 q (by omega) (by omega)]; exact v5
      have w11 : s q 11 = q + 5 := by rw [i1 q (by omega) (by omega)]; exact r11
      by_cases c : t 1 ≤ (k : Int)
      · refine ⟨wr (wr s 28 (k : Int) (-1)) 29 (k : Int) (-1), ?_, fun o h1 h2 => by rw [wr_o h2, wr_o h1]; exact i1 o h1 h2, fun j j0 j1 j2 => ?_, fun j j0 j1 => ?_⟩
        · exact begL_1 sh hq p2 p3 w5 n1 (by omega) (by omega) c kE m
        · rw [wr_n (by omega), wr_i (by omega)]; exact i2 j j0 (by omega) j2
        · by_cases z : j = (k : Int)
          · subst z; rw [wr_s]
          · rw [wr_i z, wr_n (by omega)]; exact i3 j j0 (by push_cast at j1; omega)
      · have fp := R.fp (k : Int) (by omega) (by omega)
        have wf : s (q + 5) (k : Int) = t (55 + (k : Int)) := by rw [i1 (q + 5) (by omega) (by omega)]; exact fp
        refine ⟨wr (wr s 28 (k : Int) (t (55 + (k : Int)))) 29 (k : Int) (-1), ?_, fun o h1 h2 => by rw [wr_o h2, wr_o h1]; exact i1 o h1 h2, fun j j0 j1 j2 => ?_, fun j j0 j1 => ?_⟩
        · exact begL_2 sh hq p2 p3 w5 n1 w11 wf (by omega) (by omega) c kE m
        · rw [wr_n (by omega)]
          by_cases z : j = (k : Int)
          · subst z; rw [wr_s]
          · rw [wr_i z]; exact i2 j j0 (by push_cast at j1; omega) j2
        · by_cases z : j = (k : Int)
          · subst z; rw [wr_s]
          · rw [wr_i z, wr_n (by omega)]; exact i3 j j0 (by push_cast at j1; omega))
    (fun m s _ hI => by
      show fX6_begin_L15 P 27 q kE (m + 1) (((8 : Nat)) : Int) s = kE s
      rw [fX6_begin_L15, z_ge, if_pos (show iR (((8 : Nat)) : Int) = true from rfl), if_pos (show iR 8 = true from rfl), if_pos (show (8 : Int) ≤ (((8 : Nat)) : Int) by decide)]) (m := 1000) (a := σ) (c := ()) (by omega) ⟨fun _ _ _ => rfl, fun j j0 j1 => by omega, fun j j0 j1 => by omega⟩
  exact ⟨s, e1, i1, fun j j0 j1 => i2 j j0 (by push_cast; omega) j1, fun j j0 j1 => i3 j j0 (by push_cast; omega)⟩
theorem c_begM (sh : ShpIs P 279 PL) (S : SP σ 27) (kE : St → Option St) : ∃ s, fX6_begin_L60 P 27 kE 1000 0 σ = kE s ∧ (∀ o, (o < 30 ∨ 33 < o) → s o = σ o) ∧ (∀ j, 0 ≤ j → j < 12 → s 30 j = -1 ∧ s 31 j = 0 ∧ s 32 j = 0 ∧ s 33 j = 0) := by
  obtain ⟨s, e1, i1, i2⟩ := loop_r (γ := Unit) (fun m k (s : St) => fX6_begin_L60 P 27 kE m k s) kE 12 (fun _ a => a) (fun k s _ => (∀ o, (o < 30 ∨ 33 < o) → s o = σ o) ∧ (∀ j, 0 ≤ j → j < (k : Int) → s 30 j = -1 ∧ s 31 j = 0 ∧ s 32 j = 0 ∧ s 33 j = 0))
    (fun k m s _ hk1 hI => by
      obtain ⟨i1, i2⟩ := hI
      have k1 : ¬ (12 ≤ (k : Int)) := by omega
      have p4 : s 27 4 = 30 := by rw [i1 27 (by omega)]; exact S.p4
      have p5 : s 27 5 = 31 := by rw [i1 27 (by omega)]; exact S.p5
      have p6 : s 27 6 = 32 := by rw [i1 27 (by omega)]; exact S.p6
      have p7 : s 27 7 = 33 := by rw [i1 27 (by omega)]; exact S.p7
      refine ⟨wr (wr (wr (wr s 30 (k : Int) (-1)) 31 (k : Int) 0) 32 (k : Int) 0) 33 (k : Int) 0, ?_, fun o h1 => by rw [wr_o (by omega), wr_o (by omega), wr_o (by omega), wr_o (by omega)]; exact i1 o h1, fun j j0 j1 => ?_⟩
      · simp (disch := first | omega | assumption) only [fX6_begin_L60, ↓z_lt, ↓z_ge, ↓z_gt, ↓z_le, ↓z_eq, ↓z_ne, ↓z_mx, ↓z_mn, ↓z_dv, ↓z_rm, ↓z_i2l, ↓z_lc, ↓z_sw, ↓z_sf, ↓z_sn, ↓z_bd, ↓z_nt, z_b0, z_b1, z_bi, z_bj, ↓z_gF, ↓z_gR, ↓z_pF, ↓z_pZ, ↓z_pR, ↓z_aI, ↓z_aR, ↓z_sI, ↓z_sZ, ↓z_on, z_cl, ↓reduceIte, Int.reduceEq, Int.reduceNeg, Int.reduceLT, Int.reduceLE, Int.reduceAdd, Int.reduceSub, Int.reduceMul, true_and, and_true, or_true, true_or, eq_self, iR_t, sO27 sh, sA30 sh, sA31 sh, sA32 sh, sA33 sh, p4, p5, p6, p7, k1, wr_n]
      · by_cases z : j = (k : Int)
        · subst z
          refine ⟨?_, ?_, ?_, ?_⟩
          · rw [wr_n (by omega), wr_n (by omega), wr_n (by omega), wr_s]
          · rw [wr_n (by omega), wr_n (by omega), wr_s]
          · rw [wr_n (by omega), wr_s]
          · rw [wr_s]
        · have := i2 j j0 (by push_cast at j1; omega)
          refine ⟨?_, ?_, ?_, ?_⟩
          · rw [wr_n (by omega), wr_n (by omega), wr_n (by omega), wr_i z]; exact this.1
          · rw [wr_n (by omega), wr_n (by omega), wr_i z, wr_n (by omega)]; exact this.2.1
          · rw [wr_n (by omega), wr_i z, wr_n (by omega), wr_n (by omega)]; exact this.2.2.1
          · rw [wr_i z, wr_n (by omega), wr_n (by omega), wr_n (by omega)]; exact this.2.2.2)
    (fun m s _ hI => by
      show fX6_begin_L60 P 27 kE (m + 1) (((12 : Nat)) : Int) s = kE s
      rw [fX6_begin_L60, z_ge, if_pos (show iR (((12 : Nat)) : Int) = true from rfl), if_pos (show iR 12 = true from rfl), if_pos (show (12 : Int) ≤ (((12 : Nat)) : Int) by decide)]) (m := 1000) (a := σ) (c := ()) (by omega) ⟨fun _ _ => rfl, fun j j0 j1 => by omega⟩
  exact ⟨s, e1, i1, fun j j0 j1 => i2 j j0 (by push_cast; omega)⟩
theorem SP.fr2 (S : SP σ 27) (h : ∀ o, o ≠ 28 → o ≠ 29 → s o = σ o) : SP s 27 := by
  refine ⟨?_, ?_, ?_, ?_, ?_, ?_, ?_, ?_, ?_, ?_, ?_, ?_, ?_, ?_, ?_, ?_, ?_⟩
  · rw [h _ (by omega) (by omega)]; exact S.p2
  · rw [h _ (by omega) (by omega)]; exact S.p3
  · rw [h _ (by omega) (by omega)]; exact S.p4
  · rw [h _ (by omega) (by omega)]; exact S.p5
  · rw [h _ (by omega) (by omega)]; exact S.p6
  · rw [h _ (by omega) (by omega)]; exact S.p7
  · rw [h _ (by omega) (by omega)]; exact S.p8
  · rw [h _ (by omega) (by omega)]; exact S.p9
  · rw [h _ (by omega) (by omega)]; exact S.e0
  · rw [h _ (by omega) (by omega)]; exact S.e1
  · rw [h _ (by omega) (by omega)]; exact S.e2
  · rw [h _ (by omega) (by omega)]; exact S.e4
  · rw [h _ (by omega) (by omega)]; exact S.e5
  · rw [h _ (by omega) (by omega)]; exact S.l2
  · rw [h _ (by omega) (by omega)]; exact S.l3
  · rw [h _ (by omega) (by omega)]; exact S.l4
  · rw [h _ (by omega) (by omega)]; exact S.l5
theorem c_begin (sh : ShpIs P 279 PL) (hq : q = 3 ∨ q = 17) (T : TV t) (R : PR σ q t) (S : SP σ 27) : ∃ s, fX6_begin P σ 27 q = some s ∧ SR s 27 t (frF t f) (frG g) ∧ Fr σ s := by
  have n1 := T.n1
  have n2 := T.n2
  have v2 := R.v2
  have e1 : wr (wr σ 27 0 0) 27 1 (t 5) 27 1 = t 5 := wr_s
  have z0 : wr σ 27 0 0 q 2 = t 5 := by rw [wr_n (by omega)]; exact v2
  have W : ∀ o, o ≠ 27 → wr (wr σ 27 0 0) 27 1 (t 5) o = σ o := fun o ho => by rw [wr_o ho, wr_o ho]
  have W2 : ∀ j, 2 ≤ j → wr (wr σ 27 0 0) 27 1 (t 5) 27 j = σ 27 j := fun j hj => by rw [wr_i (by omega), wr_i (by omega)]
  have W0 : wr (wr σ 27 0 0) 27 1 (t 5) 27 0 = 0 := by rw [wr_i (by omega), wr_s]
  generalize hs : wr (wr σ 27 0 0) 27 1 (t 5) = s0 at *
  have R0 : PR s0 q t := R.ag fun o h1 h2 => W o (by omega)
  have S0 : SP s0 27 := by
    refine ⟨?_, ?_, ?_, ?_, ?_, ?_, ?_, ?_, ?_, ?_, ?_, ?_, ?_, ?_, ?_, ?_, ?_⟩
    · rw [W2 _ (by omega)]; exact S.p2
    · rw [W2 _ (by omega)]; exact S.p3
    · rw [W2 _ (by omega)]; exact S.p4
    · rw [W2 _ (by omega)]; exact S.p5
    · rw [W2 _ (by omega)]; exact S.p6
    · rw [W2 _ (by omega)]; exact S.p7
    · rw [W2 _ (by omega)]; exact S.p8
    · rw [W2 _ (by omega)]; exact S.p9
    · rw [W _ (by omega)]; exact S.e0
    · rw [W _ (by omega)]; exact S.e1
    · rw [W _ (by omega)]; exact S.e2
    · rw [W _ (by omega)]; exact S.e4
    · rw [W _ (by omega)]; exact S.e5
    · rw [W _ (by omega)]; exact S.l2
    · rw [W _ (by omega)]; exact S.l3
    · rw [W _ (by omega)]; exact S.l4
    · rw [W _ (by omega)]; exact S.l5
  obtain ⟨s1, l1, o1, a28, a29⟩ := c_begL sh hq T R0 S0 (fun s13 =>
      fX6_begin_L60 P 27
        (fun s23 =>
          gR P 6 s23 27 8 fun x24 =>
          onO P 0 x24 <| cl (fX0_clear P s23 x24) fun s25 =>
          gR P 6 s25 27 9 fun x26 =>
          onO P 3 x26 <| cl (fX3_clear P s25 x26) fun s27 =>
          some s27)
        1000 0 s13)
  have S1 : SP s1 27 := S0.fr2 o1
  obtain ⟨s2, l2, o2, a30⟩ := c_begM sh S1 (fun s23 =>
          gR P 6 s23 27 8 fun x24 =>
          onO P 0 x24 <| cl (fX0_clear P s23 x24) fun s25 =>
          gR P 6 s25 27 9 fun x26 =>
          onO P 3 x26 <| cl (fX3_clear P s25 x26) fun s27 =>
          some s27)
  have k2 : ∀ o, (o < 28 ∨ 33 < o) → s2 o = s0 o := fun o ho => by rw [o2 o (by omega), o1 o (by omega) (by omega)]
  obtain ⟨s3, l3, o3, p3, c3, z39, z35⟩ := c_clear0 (s := s2) sh (by rw [k2 34 (by omega)]; exact S0.e0) (by rw [k2 34 (by omega)]; exact S0.e5)
  have k3 : ∀ o, (o < 28 ∨ 33 < o) → o ≠ 34 → o ≠ 35 → o ≠ 39 → s3 o = s0 o := fun o ho h1 h2 h3 => by rw [o3 o h1 h2 h3, k2 o ho]
  obtain ⟨s4, l4, o4, p4, c40, c41, z44⟩ := c_clear3 (s := s3) sh (by rw [k3 40 (by omega) (by omega) (by omega) (by omega)]; exact S0.l5)
  have k4 : ∀ o, (o < 28 ∨ 33 < o) → o ≠ 34 → o ≠ 35 → o ≠ 39 → o ≠ 40 → o ≠ 44 → s4 o = s0 o := fun o ho h1 h2 h3 h4 h5 => by rw [o4 o h4 h5, k3 o ho h1 h2 h3]
  have q27 : s4 27 = s0 27 := k4 27 (by omega) (by omega) (by omega) (by omega) (by omega) (by omega)
  have q34 : ∀ j, j ≠ 3 → s4 34 j = s0 34 j := fun j hj => by rw [o4 34 (by omega) (by omega), p3 j hj, k2 34 (by omega)]
  have q40 : ∀ j, 2 ≤ j → s4 40 j = s0 40 j := fun j hj => by rw [p4 j hj, k3 40 (by omega) (by omega) (by omega) (by omega)]
  refine ⟨s4, ?_, ?_, fun o ho => ?_⟩
  · have w8 : s2 27 8 = 34 := by rw [k2 27 (by omega)]; exact S0.p8
    have w9 : s3 27 9 = 40 := by rw [k3 27 (by omega) (by omega) (by omega) (by omega)]; exact S0.p9
    unfold fX6_begin
    rw [z_pF, if_pos (sO27 sh), z_gF, if_pos (pO sh hq), z0, z_pF, if_pos (sO27 sh), hs]
    refine l1.trans (l2.trans ?_)
    simp (disch := first | omega | assumption) only [↓z_lt, ↓z_ge, ↓z_gt, ↓z_le, ↓z_eq, ↓z_ne, ↓z_mx, ↓z_mn, ↓z_dv, ↓z_rm, ↓z_i2l, ↓z_lc, ↓z_sw, ↓z_sf, ↓z_sn, ↓z_bd, ↓z_nt, z_b0, z_b1, z_bi, z_bj, ↓z_gF, ↓z_gR, ↓z_pF, ↓z_pZ, ↓z_pR, ↓z_aI, ↓z_aR, ↓z_sI, ↓z_sZ, ↓z_on, z_cl, ↓reduceIte, Int.reduceEq, Int.reduceNeg, Int.reduceLT, Int.reduceLE, Int.reduceAdd, Int.reduceSub, Int.reduceMul, true_and, and_true, or_true, true_or, eq_self, iR_t, sO27 sh, sO34 sh, sO40 sh, w8, ↓e_cl l3, w9, ↓e_cl l4]
  · have f13 : frF t f 13 = 0 := frF_s T (by omega) (by omega)
    have f12 : frF t f 12 = 0 := frF_s T (by omega) (by omega)
    refine ⟨?_, ?_, ?_, ?_, ?_, ?_, ?_, ?_, ?_, ?_, ?_, ?_, ?_, ?_, ?_, ?_, ?_, ?_, ?_, ?_, ?_, ?_, ?_, ?_, ?_, ?_, ?_, ?_, ?_, ?_, ?_, ?_, ?_, ?_, ?_, ?_, ?_⟩
    · rw [q27]; exact S0.p2
    · rw [q27]; exact S0.p3
    · rw [q27]; exact S0.p4
    · rw [q27]; exact S0.p5
    · rw [q27]; exact S0.p6
    · rw [q27]; exact S0.p7
    · rw [q27]; exact S0.p8
    · rw [q27]; exact S0.p9
    · show s4 34 0 = _; rw [q34 0 (by omega)]; exact S0.e0
    · show s4 34 1 = _; rw [q34 1 (by omega)]; exact S0.e1
    · show s4 34 2 = _; rw [q34 2 (by omega)]; exact S0.e2
    · show s4 34 4 = _; rw [q34 4 (by omega)]; exact S0.e4
    · show s4 34 5 = _; rw [q34 5 (by omega)]; exact S0.e5
    · show s4 40 2 = _; rw [q40 2 (by omega)]; exact S0.l2
    · show s4 40 3 = _; rw [q40 3 (by omega)]; exact S0.l3
    · show s4 40 4 = _; rw [q40 4 (by omega)]; exact S0.l4
    · show s4 40 5 = _; rw [q40 5 (by omega)]; exact S0.l5
    · rw [q27, W0, frF_z]
    · rw [q27, e1, frF_1]
    · intro k k0 k1
      show s4 28 k = _
      rw [o4 28 (by omega) (by omega), o3 28 (by omega) (by omega) (by omega), o2 28 (by omega), a28 k k0 k1, frF_p T k0 k1]
    · intro k k0 k1
      show s4 29 k = _
      rw [o4 29 (by omega) (by omega), o3 29 (by omega) (by omega) (by omega), o2 29 (by omega), a29 k k0 (by omega), frF_d T k0 k1 (by omega) (by omega), if_pos rfl]
    · intro k k0 k1
      show s4 30 k = _
      rw [o4 30 (by omega) (by omega), o3 30 (by omega) (by omega) (by omega), (a30 k k0 (by omega)).1, frF_h T k0 k1]
    · intro k k0 k1
      show s4 31 k = _
      rw [o4 31 (by omega) (by omega), o3 31 (by omega) (by omega) (by omega), (a30 k k0 (by omega)).2.1, (frF_m T k0 k1).1]
    · intro k k0 k1
      show s4 32 k = _
      rw [o4 32 (by omega) (by omega), o3 32 (by omega) (by omega) (by omega), (a30 k k0 (by omega)).2.2.1, (frF_m T k0 k1).2]
    · intro k k0 k1
      show s4 33 k = _
      rw [o4 33 (by omega) (by omega), o3 33 (by omega) (by omega) (by omega), (a30 k k0 (by omega)).2.2.2]
      unfold frG
      rw [if_pos (by omega)]
    · intro k k0 k1
      show s4 35 k = _
      rw [o4 35 (by omega) (by omega), z35 k k0 (by omega), frF_d T k0 k1 (by omega) (by omega)]
    · intro k u k0 k1 u0 u1
      rw [frF_d T k0 k1 (by omega) (by omega)] at u1
      omega
    · intro k u k0 k1 u0 u1
      rw [frF_d T k0 k1 (by omega) (by omega)] at u1
      omega
    · show s4 34 3 = _
      rw [o4 34 (by omega) (by omega), c3, f13]
    · intro k k0 k1; omega
    · intro k k0 k1
      show s4 39 k = _
      rw [o4 39 (by omega) (by omega), z39 k k0 k1, couK_0 f13, if_pos rfl]
    · show s4 40 0 = _
      rw [c40, f12]; rfl
    · show 0 ≤ s4 40 1 ∧ s4 40 1 ≤ 24 ∧ s4 40 1 % 24 = _
      rw [c41, f12]; omega
    · intro k k0 k1 k2; omega
    · intro k k0 k1 k2; omega
    · intro k k0 k1 k2; omega
    · intro k k0 k1
      show s4 44 k = _
      rw [z44 k k0 k1, frF_s T (by omega) (by omega)]
  · rw [k4 o (by omega) (by omega) (by omega) (by omega) (by omega) (by omega), W o (by omega)]
end ZZA3
