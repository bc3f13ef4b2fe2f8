/-! MORE OF THE REFERENCE'S WRITERS. -/
section ZI
variable {P : Shp} {σ σ' : St} {t f f' g : Int → Int} {B : Int} {d k p kind who m h j c x y : Int}
theorem MP.to (M : MP P σ t) (h1 : ∀ j, 0 < j → (j < 2 ∨ 9 < j) → σ' 265 j = σ 265 j) (h2 : σ' 268 = σ 268) : MP P σ' t := by
  obtain ⟨a0, a1, a2, a3, a4, a5, a6, a7, a8, a9, a10, a11, a12, a13⟩ := M
  refine ⟨a0, ?_, ?_, ?_, ?_, ?_, ?_, ?_, ?_, ?_, ?_, ?_, ?_, h2.trans a13⟩
  all_goals (rw [h1 _ (by omega) (by omega)]; assumption)
/-- the numbers set aside -/
theorem m_scoreThen (M : MP P σ t) (T : TV t) (F : FV B t f g) (h0 : 0 ≤ d) (h1 : d < t 1) (hp : f (14 + 28 * d + 0) ≠ -1) (k0 : 0 ≤ kind) (k1 : kind < 4) (h4 : 12 ≤ B) :
    ∃ σ', fX8_scoreThen P (st2 σ f g) 265 d kind = some (scoF t (keeF f d kind) d, st2 σ' f g) ∧ (∀ o, o ≠ 277 → σ' o = σ o) := by
  have n1 := T.n1
  have mn := F.mn d h0 h1
  have F2 := F.kee T h0 h1 hp k0 k1 h4
  have l1 : ∀ (kE : St → Option (Int × St)), ∃ σ', fX8_scoreThen_L2 P 265 d kind kE 1000 0 (st2 σ f g) = kE (st2 σ' f g) ∧ (∀ o, o ≠ 277 → σ' o = σ o) ∧ MP P σ' t ∧ ∀ j, 0 ≤ j → j < 28 → σ' 277 j = f (14 + 28 * d + j) := by
    intro kE
    have l2 := loop_v (fun m k a => fX8_scoreThen_L2 P 265 d kind kE m k (st2 a f g)) (fun a => kE (st2 a f g)) 28 (fun k a => wr a 277 k (f (14 + 28 * d + k))) (fun k a => (∀ o, o ≠ 277 → a o = σ o) ∧ MP P a t ∧ ∀ j, 0 ≤ j → j < (k : Int) → a 277 j = f (14 + 28 * d + j))
      (fun k m a hk hI => by
        obtain ⟨I1, M, I3⟩ := hI
        have hk2 : ¬ ((28 : Int) ≤ (k : Int)) := by omega
        refine ⟨?_, ?_, ?_, ?_⟩
        · simp (disch := first | omega | assumption) only [fX8_scoreThen_L2, ↓z_lt, ↓z_ge, ↓z_gt, ↓z_le, ↓z_eq, ↓z_ne, ↓z_mx, ↓z_mn, ↓z_dv, ↓z_rm, ↓z_i2l, ↓z_lc, ↓z_sw, ↓z_sf, ↓z_sn, ↓z_bd, ↓z_nt, z_b0, z_b1, z_bi, z_bj, ↓z_gF, ↓z_gR, ↓z_pF, ↓z_pZ, ↓z_pR, ↓z_aI, ↓z_aR, ↓z_sI, ↓z_sZ, ↓z_on, z_cl, ↓reduceIte, Int.reduceEq, Int.reduceNeg, Int.reduceLT, Int.reduceLE, Int.reduceAdd, Int.reduceSub, Int.reduceMul, true_and, and_true, or_true, true_or, eq_self, st2_f, st2_g, st2_o, M.q1, M.q10, M.q11, M.q12, M.q14, M.q15, M.q16, M.q17, M.q19, M.q20, M.q21, M.q22, M.tl, sO265 M.sh, sA266 M.sh, sA267 M.sh, sA268 M.sh, sA269 M.sh, sA270 M.sh, sA271 M.sh, sA272 M.sh, sA273 M.sh, sA274 M.sh, sA275 M.sh, sA276 M.sh, sA277 M.sh, iR_t, ↓m_at', hk2, st2_wo]
        · intro o ho; rw [wr_o ho]; exact I1 o ho
        · exact M.to (fun j _ _ => by rw [wr_n (by omega)]) (by rw [wr_o (by omega)])
        · intro j j0 j1
          by_cases e : j = (k : Int)
          · subst e; exact wr_s
          · rw [wr_i e]; exact I3 j j0 (by push_cast at j1; omega))
      (fun m a hI => by
        obtain ⟨I1, M, I3⟩ := hI
        show fX8_scoreThen_L2 P 265 d kind kE (m + 1) 28 (st2 a f g) = _
        simp (disch := first | omega | assumption) only [fX8_scoreThen_L2, ↓z_lt, ↓z_ge, ↓z_gt, ↓z_le, ↓z_eq, ↓z_ne, ↓z_mx, ↓z_mn, ↓z_dv, ↓z_rm, ↓z_i2l, ↓z_lc, ↓z_sw, ↓z_sf, ↓z_sn, ↓z_bd, ↓z_nt, z_b0, z_b1, z_bi, z_bj, ↓z_gF, ↓z_gR, ↓z_pF, ↓z_pZ, ↓z_pR, ↓z_aI, ↓z_aR, ↓z_sI, ↓z_sZ, ↓z_on, z_cl, ↓reduceIte, Int.reduceEq, Int.reduceNeg, Int.reduceLT, Int.reduceLE, Int.reduceAdd, Int.reduceSub, Int.reduceMul, true_and, and_true, or_true, true_or, eq_self, st2_f, st2_g, st2_o, M.q1, M.q10, M.q11, M.q12, M.q14, M.q15, M.q16, M.q17, M.q19, M.q20, M.q21, M.q22, M.tl, sO265 M.sh, sA266 M.sh, sA267 M.sh, sA268 M.sh, sA269 M.sh, sA270 M.sh, sA271 M.sh, sA272 M.sh, sA273 M.sh, sA274 M.sh, sA275 M.sh, sA276 M.sh, sA277 M.sh, iR_t, ↓m_at', Int.le_refl]) (m := 1000) (a := σ) (by omega) ⟨fun _ _ => rfl, M, fun j j0 j1 => absurd j1 (by push_cast; omega)⟩
    exact ⟨_, l2.1, l2.2.1, l2.2.2.1, l2.2.2.2⟩
  obtain ⟨σ1, e1, e2, M1, e4⟩ := l1 (fun s7 =>
      onO P 8 265 <| cl (fX8_keepsError P s7 265 d kind) fun s8 =>
      onO P 8 265 <| cl (fX8_scoreOf P s8 265 d) fun x9 =>
      fX8_scoreThen_L46 P 265 d x9
        (fun s16 =>
          some ((x9 : Int), s16))
        1000 0 s8)
  refine ⟨σ1, ?_, e2⟩
  refine e1.trans ?_
  have M := M1
  have l3 := loop_v (fun m k a => fX8_scoreThen_L46 P 265 d (scoF t (keeF f d kind) d) (fun s16 => some (scoF t (keeF f d kind) d, s16)) m k (st2 σ1 a g)) (fun a => some (scoF t (keeF f d kind) d, st2 σ1 a g)) 28 (fun k a => zu a (14 + 28 * d + k) (σ1 277 k)) (fun k a => a = fun j => if 14 + 28 * d ≤ j ∧ j < 14 + 28 * d + (k : Int) then f j else keeF f d kind j)
    (fun k m a hk hI => by
      have hk2 : ¬ ((28 : Int) ≤ (k : Int)) := by omega
      refine ⟨?_, ?_⟩
      · simp (disch := first | omega | assumption) only [fX8_scoreThen_L46, ↓z_lt, ↓z_ge, ↓z_gt, ↓z_le, ↓z_eq, ↓z_ne, ↓z_mx, ↓z_mn, ↓z_dv, ↓z_rm, ↓z_i2l, ↓z_lc, ↓z_sw, ↓z_sf, ↓z_sn, ↓z_bd, ↓z_nt, z_b0, z_b1, z_bi, z_bj, ↓z_gF, ↓z_gR, ↓z_pF, ↓z_pZ, ↓z_pR, ↓z_aI, ↓z_aR, ↓z_sI, ↓z_sZ, ↓z_on, z_cl, ↓reduceIte, Int.reduceEq, Int.reduceNeg, Int.reduceLT, Int.reduceLE, Int.reduceAdd, Int.reduceSub, Int.reduceMul, true_and, and_true, or_true, true_or, eq_self, st2_f, st2_g, st2_o, M.q1, M.q10, M.q11, M.q12, M.q14, M.q15, M.q16, M.q17, M.q19, M.q20, M.q21, M.q22, M.tl, sO265 M.sh, sA266 M.sh, sA267 M.sh, sA268 M.sh, sA269 M.sh, sA270 M.sh, sA271 M.sh, sA272 M.sh, sA273 M.sh, sA274 M.sh, sA275 M.sh, sA276 M.sh, sA277 M.sh, iR_t, ↓m_at', hk2, st2_wf]
      · rw [hI, e4 (k : Int) (by omega) (by omega)]
        funext j
        unfold zu
        by_cases e : j = 14 + 28 * d + (k : Int)
        · rw [if_pos e, if_pos (by push_cast; omega), e]
        · rw [if_neg e]
          show (if 14 + 28 * d ≤ j ∧ j < 14 + 28 * d + (k : Int) then f j else keeF f d kind j) = _
          by_cases e2 : 14 + 28 * d ≤ j ∧ j < 14 + 28 * d + (k : Int)
          · rw [if_pos e2, if_pos (by push_cast; omega)]
          · rw [if_neg e2, if_neg (by push_cast; omega)])
    (fun m a hI => by
      show fX8_scoreThen_L46 P 265 d (scoF t (keeF f d kind) d) (fun s16 => some (scoF t (keeF f d kind) d, s16)) (m + 1) 28 (st2 σ1 a g) = _
      simp (disch := first | omega | assumption) only [fX8_scoreThen_L46, ↓z_lt, ↓z_ge, ↓z_gt, ↓z_le, ↓z_eq, ↓z_ne, ↓z_mx, ↓z_mn, ↓z_dv, ↓z_rm, ↓z_i2l, ↓z_lc, ↓z_sw, ↓z_sf, ↓z_sn, ↓z_bd, ↓z_nt, z_b0, z_b1, z_bi, z_bj, ↓z_gF, ↓z_gR, ↓z_pF, ↓z_pZ, ↓z_pR, ↓z_aI, ↓z_aR, ↓z_sI, ↓z_sZ, ↓z_on, z_cl, ↓reduceIte, Int.reduceEq, Int.reduceNeg, Int.reduceLT, Int.reduceLE, Int.reduceAdd, Int.reduceSub, Int.reduceMul, true_and, and_true, or_true, true_or, eq_self, st2_f, st2_g, st2_o, M.q1, M.q10, M.q11, M.q12, M.q14, M.q15, M.q16, M.q17, M.q19, M.q20, M.q21, M.q22, M.tl, sO265 M.sh, sA266 M.sh, sA267 M.sh, sA268 M.sh, sA269 M.sh, sA270 M.sh, sA271 M.sh, sA272 M.sh, sA273 M.sh, sA274 M.sh, sA275 M.sh, sA276 M.sh, sA277 M.sh, iR_t, ↓m_at', Int.le_refl]) (m := 1000) (a := keeF f d kind) (by omega) (by
        funext j
        rw [if_neg (by push_cast; omega)])
  have l4 := l3.2
  rw [show (fun j => if 14 + 28 * d ≤ j ∧ j < 14 + 28 * d + ((28 : Nat) : Int) then f j else keeF f d kind j) = f from by
    funext j
    by_cases e : 14 + 28 * d ≤ j ∧ j < 14 + 28 * d + ((28 : Nat) : Int)
    · exact if_pos e
    · rw [if_neg e]
      exact keeF_o h0 mn.1 mn.2 (by push_cast at e; omega)] at l4
  have l5 := l3.1
  rw [l4] at l5
  simp (disch := first | omega | assumption) only [↓z_lt, ↓z_ge, ↓z_gt, ↓z_le, ↓z_eq, ↓z_ne, ↓z_mx, ↓z_mn, ↓z_dv, ↓z_rm, ↓z_i2l, ↓z_lc, ↓z_sw, ↓z_sf, ↓z_sn, ↓z_bd, ↓z_nt, z_b0, z_b1, z_bi, z_bj, ↓z_gF, ↓z_gR, ↓z_pF, ↓z_pZ, ↓z_pR, ↓z_aI, ↓z_aR, ↓z_sI, ↓z_sZ, ↓z_on, z_cl, ↓reduceIte, Int.reduceEq, Int.reduceNeg, Int.reduceLT, Int.reduceLE, Int.reduceAdd, Int.reduceSub, Int.reduceMul, true_and, and_true, or_true, true_or, eq_self, st2_f, st2_g, st2_o, M.q1, M.q10, M.q11, M.q12, M.q14, M.q15, M.q16, M.q17, M.q19, M.q20, M.q21, M.q22, M.tl, sO265 M.sh, sA266 M.sh, sA267 M.sh, sA268 M.sh, sA269 M.sh, sA270 M.sh, sA271 M.sh, sA272 M.sh, sA273 M.sh, sA274 M.sh, sA275 M.sh, sA276 M.sh, sA277 M.sh, iR_t, ↓m_keepsError' M T F, ↓m_scoreOf' M T F2]
  exact l5
theorem fstI_in {p : Int → Bool} : ∀ (n : Nat) (k : Int), fstI p n k = -1 ∨ (k ≤ fstI p n k ∧ fstI p n k < k + (n : Int) ∧ p (fstI p n k) = true)
  | 0, _ => Or.inl rfl
  | n + 1, k => by
    unfold fstI
    by_cases h : p k = true
    · rw [if_pos h]; exact Or.inr ⟨Int.le_refl _, by push_cast; omega, h⟩
    · rw [if_neg h]
      rcases fstI_in (p := p) n (k + 1) with e | ⟨e1, e2, e3⟩
      · exact Or.inl e
      · exact Or.inr ⟨by omega, by push_cast; omega, e3⟩
theorem fstI_no {p : Int → Bool} : ∀ (n : Nat) (k : Int), 0 ≤ k → fstI p n k = -1 → ∀ j, k ≤ j → j < k + (n : Int) → p j = false
  | 0, k, _, _, j, h1, h2 => absurd h2 (by push_cast; omega)
  | n + 1, k, h0, h, j, h1, h2 => by
    unfold fstI at h
    by_cases c : p k = true
    · rw [if_pos c] at h; omega
    · rw [if_neg c] at h
      by_cases e : j = k
      · subst e; simpa using c
      · exact fstI_no n (k + 1) (by omega) h j (by omega) (by push_cast at h2; omega)
theorem fstI_lt {p : Int → Bool} : ∀ (n : Nat) (k : Int) (j : Int), 0 ≤ k → k ≤ j → j < fstI p n k → p j = false
  | 0, k, j, h0, h1, h2 => absurd h2 (by unfold fstI; omega)
  | n + 1, k, j, h0, h1, h2 => by
    unfold fstI at h2
    by_cases c : p k = true
    · rw [if_pos c] at h2; omega
    · rw [if_neg c] at h2
      by_cases e : j = k
      · subst e; simpa using c
      · exact fstI_lt n (k + 1) j (by omega) (by omega) h2
theorem couK_in (h : 0 ≤ f 13) : couK f c = f 13 ∨ (0 ≤ couK f c ∧ couK f c < f 13 ∧ f (274 + 2 * couK f c) = c) := by
  unfold couK
  have h2 := fstI_in (p := fun k => decide (f (274 + 2 * k) = c)) (f 13).toNat 0
  split
  · exact Or.inl rfl
  · rename_i e
    rcases h2 with h2 | ⟨h2, h3, h4⟩
    · exact absurd h2 e
    · exact Or.inr ⟨h2, by omega, of_decide_eq_true h4⟩
theorem couK_no (h : 0 ≤ f 13) (e : couK f c = f 13) (h0 : 0 ≤ k) (h1 : k < f 13) : f (274 + 2 * k) ≠ c := by
  have h2 := fstI_in (p := fun k => decide (f (274 + 2 * k) = c)) (f 13).toNat 0
  have h3 : fstI (fun k => decide (f (274 + 2 * k) = c)) (f 13).toNat 0 = -1 := by
    unfold couK at e
    split at e
    · assumption
    · omega
  exact of_decide_eq_false (fstI_no (p := fun k => decide (f (274 + 2 * k) = c)) (f 13).toNat 0 (Int.le_refl _) h3 k h0 (by omega))
theorem couK_lt (h : 0 ≤ f 13) (h0 : 0 ≤ j) (h1 : j < couK f c) : f (274 + 2 * j) ≠ c := by
  by_cases e : couK f c = f 13
  · exact couK_no h e h0 (by omega)
  · have h2 : couK f c = fstI (fun k => decide (f (274 + 2 * k) = c)) (f 13).toNat 0 := by
      unfold couK at e ⊢
      split
      · rename_i e2; rw [if_pos e2] at e; exact absurd rfl e
      · rfl
    rw [h2] at h1
    exact of_decide_eq_false (fstI_lt (p := fun k => decide (f (274 + 2 * k) = c)) (f 13).toNat 0 j (Int.le_refl _) h0 h1)
theorem couK_is (h : 0 ≤ f 13) (h0 : 0 ≤ k) (h1 : k < f 13) (e : f (274 + 2 * k) = c) (hn : ∀ j, 0 ≤ j → j < k → f (274 + 2 * j) ≠ c) : couK f c = k := by
  rcases couK_in (c := c) h with q | ⟨q0, q1, q2⟩
  · exact absurd e (couK_no h q h0 h1)
  · rcases Int.lt_trichotomy (couK f c) k with z | z | z
    · exact absurd q2 (hn _ q0 z)
    · exact z
    · exact absurd e (couK_lt h h0 z)
theorem couK_nn (h : 0 ≤ f 13) (hn : ∀ j, 0 ≤ j → j < f 13 → f (274 + 2 * j) ≠ c) : couK f c = f 13 := by
  rcases couK_in (c := c) h with q | ⟨q0, q1, q2⟩
  · exact q
  · exact absurd q2 (hn _ q0 q1)
theorem couK_c (h : 0 ≤ f 13) (h13 : f' 13 = f 13) (hj : ∀ j, 0 ≤ j → j < f 13 → f' (274 + 2 * j) = f (274 + 2 * j)) : couK f' c = couK f c := by
  rcases couK_in (c := c) h with q | ⟨q0, q1, q2⟩
  · rw [q, ← h13]
    exact couK_nn (by omega) fun j j0 j1 => by rw [hj j j0 (by omega)]; exact couK_no h q j0 (by omega)
  · exact couK_is (by omega) q0 (by omega) (by rw [hj _ q0 q1]; exact q2) fun j j0 j1 => by rw [hj j j0 (by omega)]; exact couK_lt h j0 j1
def CV (f : Int → Int) : Prop :=
  (0 ≤ f 13) ∧
  (forI (fun c a => a + (if couK f c = f 13 then 0 else 1)) 32 0 = f 13) ∧
  (∀ k, 0 ≤ k → k < f 13 → 0 ≤ f (274 + 2 * k) ∧ f (274 + 2 * k) < 32 ∧ 1 ≤ f (274 + 2 * k + 1)) ∧
  (∀ k, 0 ≤ k → k < f 13 → couK f (f (274 + 2 * k)) = k)
theorem CV.c0 {f : Int → Int} (h : CV f) : 0 ≤ f 13 := h.1
theorem CV.cn {f : Int → Int} (h : CV f) : forI (fun c a => a + (if couK f c = f 13 then 0 else 1)) 32 0 = f 13 := h.2.1
theorem CV.cr {f : Int → Int} (h : CV f) : ∀ k, 0 ≤ k → k < f 13 → 0 ≤ f (274 + 2 * k) ∧ f (274 + 2 * k) < 32 ∧ 1 ≤ f (274 + 2 * k + 1) := h.2.2.1
theorem CV.cd {f : Int → Int} (h : CV f) : ∀ k, 0 ≤ k → k < f 13 → couK f (f (274 + 2 * k)) = k := h.2.2.2
theorem cnt_le (q : Int → Int) (hq : ∀ c, 0 ≤ q c ∧ q c ≤ 1) : ∀ n : Nat, 0 ≤ forI (fun c a => a + q c) n 0 ∧ forI (fun c a => a + q c) n 0 ≤ (n : Int)
  | 0 => ⟨Int.le_refl _, Int.le_refl _⟩
  | n + 1 => by
    have i1 := cnt_le q hq n
    have := hq (n : Int)
    show 0 ≤ _ + _ ∧ _ + _ ≤ _
    push_cast
    omega
theorem cnt_in (q q' : Int → Int) (c : Int) (h1 : q' c = q c + 1) (h2 : ∀ x, x ≠ c → q' x = q x) (h0 : 0 ≤ c) : ∀ n : Nat, forI (fun c a => a + q' c) n 0 = forI (fun c a => a + q c) n 0 + (if c < (n : Int) then 1 else 0)
  | 0 => by show (0 : Int) = 0 + _; rw [if_neg (by push_cast; omega)]; rfl
  | n + 1 => by
    have i1 := cnt_in q q' c h1 h2 h0 n
    show forI (fun c a => a + q' c) n 0 + q' (n : Int) = forI (fun c a => a + q c) n 0 + q (n : Int) + _
    rw [i1]
    by_cases e : (n : Int) = c
    · rw [e, h1, if_neg (by omega), if_pos (by push_cast; omega)]; omega
    · rw [h2 _ e]
      by_cases e2 : c < (n : Int)
      · rw [if_pos e2, if_pos (by push_cast; omega)]; omega
      · rw [if_neg e2, if_neg (by push_cast; omega)]; omega
theorem CV.le (h : CV f) : f 13 ≤ 32 := by
  have := cnt_le (fun c => if couK f c = f 13 then 0 else 1) (fun c => by split <;> omega) 32
  rw [h.cn] at this
  exact this.2
theorem CV.lt (h : CV f) (h0 : 0 ≤ c) (h1 : c < 32) (e : couK f c = f 13) : f 13 < 32 := by
  have h2 := cnt_in (fun x => if couK f x = f 13 then 0 else 1) (fun x => if x = c then 1 else if couK f x = f 13 then 0 else 1) c (by simp [e]) (fun x hx => if_neg hx) h0 32
  have h3 := cnt_le (fun x => if x = c then 1 else if couK f x = f 13 then 0 else 1) (fun x => by repeat' split <;> omega) 32
  rw [h.cn, if_pos (by push_cast; omega)] at h2
  omega
theorem CV.to (h : CV f) (hf : ∀ j, j = 13 ∨ (274 ≤ j ∧ j < 338) → f' j = f j) : CV f' := by
  have h13 := hf 13 (Or.inl rfl)
  have c0 := h.c0
  have cl := h.le
  have hk : ∀ c, couK f' c = couK f c := fun c => couK_c c0 h13 fun j j0 j1 => hf _ (Or.inr ⟨by omega, by omega⟩)
  refine ⟨by omega, ?_, fun k k0 k1 => ?_, fun k k0 k1 => ?_⟩
  · simp only [hk, h13]; exact h.cn
  · rw [h13] at k1; rw [hf _ (Or.inr ⟨by omega, by omega⟩), hf (274 + 2 * k + 1) (Or.inr ⟨by omega, by omega⟩)]; exact h.cr k k0 k1
  · rw [h13] at k1; rw [hf _ (Or.inr ⟨by omega, by omega⟩), hk]; exact h.cd k k0 k1
theorem CV.cou (h : CV f) (h0 : 0 ≤ c) (h1 : c < 32) : CV (couF f c) := by
  have c0 := h.c0
  have cl := h.le
  by_cases e : couK f c = f 13
  · have n32 := h.lt h0 h1 e
    have ht : couF f c = couP (zu (zu (zu f (274 + 2 * f 13) c) (274 + 2 * f 13 + 1) 0) 13 (f 13 + 1)) (f 13) := by unfold couF; rw [if_pos e, e]
    generalize hg : couF f c = f2 at ht ⊢
    have a13 : f2 13 = f 13 + 1 := by rw [ht]; unfold couP; simp (disch := omega) only [zu_s, zu_n]
    have ae : ∀ j, 0 ≤ j → j < f 13 → f2 (274 + 2 * j) = f (274 + 2 * j) := by intro j j0 j1; rw [ht]; unfold couP; simp (disch := omega) only [zu_s, zu_n]
    have ao : ∀ j, 0 ≤ j → j < f 13 → f2 (274 + 2 * j + 1) = f (274 + 2 * j + 1) := by intro j j0 j1; rw [ht]; unfold couP; simp (disch := omega) only [zu_s, zu_n]
    have an : f2 (274 + 2 * f 13) = c := by rw [ht]; unfold couP; simp (disch := omega) only [zu_s, zu_n]
    have am : f2 (274 + 2 * f 13 + 1) = 1 := by rw [ht]; unfold couP; simp (disch := omega) only [zu_s, zu_n]; rfl
    clear ht hg
    have kc : couK f2 c = f 13 := couK_is (by omega) c0 (by omega) an fun j j0 j1 => by rw [ae j j0 j1]; exact couK_no c0 e j0 j1
    have ko : ∀ x, x ≠ c → (couK f2 x = f 13 + 1 ↔ couK f x = f 13) := by
      intro x hx
      rcases couK_in (c := x) c0 with q | ⟨q0, q1, q2⟩
      · refine ⟨fun _ => q, fun _ => ?_⟩
        rw [← a13]
        refine couK_nn (by omega) fun j j0 j1 => ?_
        by_cases z : j = f 13
        · subst z; rw [an]; exact fun w => hx w.symm
        · rw [ae j j0 (by omega)]; exact couK_no c0 q j0 (by omega)
      · have : couK f2 x = couK f x := couK_is (by omega) q0 (by omega) (by rw [ae _ q0 q1]; exact q2) fun j j0 j1 => by rw [ae j j0 (by omega)]; exact couK_lt c0 j0 j1
        omega
    refine ⟨by omega, ?_, fun k k0 k1 => ?_, fun k k0 k1 => ?_⟩
    · rw [a13]
      have h2 := cnt_in (fun x => if couK f x = f 13 then 0 else 1) (fun x => if couK f2 x = f 13 + 1 then 0 else 1) c (by rw [kc, if_neg (by omega), if_pos e]; rfl) (fun x hx => by by_cases z : couK f x = f 13 <;> simp only [ko x hx, z, if_true, if_false]) h0 32
      rw [h.cn, if_pos (by push_cast; omega)] at h2
      exact h2
    · by_cases z : k = f 13
      · subst z; rw [an, am]; omega
      · rw [ae k k0 (by omega), ao k k0 (by omega)]; exact h.cr k k0 (by omega)
    · by_cases z : k = f 13
      · subst z; rw [an]; exact kc
      · rw [ae k k0 (by omega)]
        have q := h.cd k k0 (by omega)
        exact couK_is (by omega) k0 (by omega) (ae k k0 (by omega)) fun j j0 j1 => by rw [ae j j0 (by omega)]; exact couK_lt c0 j0 (by omega)
  · have q := couK_in (c := c) c0
    have ht : couF f c = couP f (couK f c) := by unfold couF; rw [if_neg e]
    generalize couK f c = x at q e ht
    generalize hg : couF f c = f2 at ht ⊢
    have a13 : f2 13 = f 13 := by rw [ht]; unfold couP; simp (disch := omega) only [zu_s, zu_n]
    have ae : ∀ j, 0 ≤ j → j < f 13 → f2 (274 + 2 * j) = f (274 + 2 * j) := by intro j j0 j1; rw [ht]; unfold couP; simp (disch := omega) only [zu_s, zu_n]
    have ao : ∀ j, 0 ≤ j → j < f 13 → f (274 + 2 * j + 1) ≤ f2 (274 + 2 * j + 1) := by
      intro j j0 j1; rw [ht]; unfold couP
      by_cases z : j = x
      · subst z; simp (disch := omega) only [zu_s, zu_n]; omega
      · simp (disch := omega) only [zu_s, zu_n]; omega
    clear ht hg
    have hk : ∀ c, couK f2 c = couK f c := fun c => couK_c c0 a13 ae
    refine ⟨by omega, ?_, fun k k0 k1 => ?_, fun k k0 k1 => ?_⟩
    · simp only [hk, a13]; exact h.cn
    · rw [a13] at k1; have := h.cr k k0 k1; have := ao k k0 k1; rw [ae k k0 k1]; omega
    · rw [a13] at k1; rw [ae k k0 k1, hk]; exact h.cd k k0 k1
theorem m_counts (M : MP P σ t) (F : FV B t f g) (C : CV f) (hc : iR (4 * d + kind) = true) : fX8_counts P (st2 σ f g) 265 d kind = some (st2 σ (couF f (4 * d + kind)) g) := by
  have c0 := C.c0
  have cl := C.le
  have q := couK_in (c := 4 * d + kind) c0
  have l1 : ∀ (kE : Int → Option St), fX8_counts_L9 P (st2 σ f g) 265 (4 * d + kind) kE 1000 0 = kE (couK f (4 * d + kind)) := by
    intro kE
    have hN : ((f 13).toNat : Int) = f 13 := by omega
    have l2 := loop_f (fun m k => fX8_counts_L9 P (st2 σ f g) 265 (4 * d + kind) kE m k) (kE (f 13)) (fun k => kE (if k = -1 then f 13 else k)) (f 13).toNat (fun k => decide (f (274 + 2 * k) = 4 * d + kind)) (fun k m hk => by
        have hk2 : ¬ (f 13 ≤ (k : Int)) := by omega
        have hk3 : ¬ ((k : Int) = -1) := by omega
        by_cases e : f (274 + 2 * (k : Int)) = 4 * d + kind
        · simp (disch := first | omega | assumption) only [fX8_counts_L9, ↓z_lt, ↓z_ge, ↓z_gt, ↓z_le, ↓z_eq, ↓z_ne, ↓z_mx, ↓z_mn, ↓z_dv, ↓z_rm, ↓z_i2l, ↓z_lc, ↓z_sw, ↓z_sf, ↓z_sn, ↓z_bd, ↓z_nt, z_b0, z_b1, z_bi, z_bj, ↓z_gF, ↓z_gR, ↓z_pF, ↓z_pZ, ↓z_pR, ↓z_aI, ↓z_aR, ↓z_sI, ↓z_sZ, ↓z_on, z_cl, ↓reduceIte, Int.reduceEq, Int.reduceNeg, Int.reduceLT, Int.reduceLE, Int.reduceAdd, Int.reduceSub, Int.reduceMul, true_and, and_true, or_true, true_or, eq_self, st2_f, st2_g, st2_o, M.q1, M.q10, M.q11, M.q12, M.q14, M.q15, M.q16, M.q17, M.q19, M.q20, M.q21, M.q22, M.tl, sO265 M.sh, sA266 M.sh, sA267 M.sh, sA268 M.sh, sA269 M.sh, sA270 M.sh, sA271 M.sh, sA272 M.sh, sA273 M.sh, sA274 M.sh, sA275 M.sh, sA276 M.sh, sA277 M.sh, iR_t, hk2, hk3, e, hc, F.vr, decide_true]
        · simp (disch := first | omega | assumption) only [fX8_counts_L9, ↓z_lt, ↓z_ge, ↓z_gt, ↓z_le, ↓z_eq, ↓z_ne, ↓z_mx, ↓z_mn, ↓z_dv, ↓z_rm, ↓z_i2l, ↓z_lc, ↓z_sw, ↓z_sf, ↓z_sn, ↓z_bd, ↓z_nt, z_b0, z_b1, z_bi, z_bj, ↓z_gF, ↓z_gR, ↓z_pF, ↓z_pZ, ↓z_pR, ↓z_aI, ↓z_aR, ↓z_sI, ↓z_sZ, ↓z_on, z_cl, ↓reduceIte, Int.reduceEq, Int.reduceNeg, Int.reduceLT, Int.reduceLE, Int.reduceAdd, Int.reduceSub, Int.reduceMul, true_and, and_true, or_true, true_or, eq_self, st2_f, st2_g, st2_o, M.q1, M.q10, M.q11, M.q12, M.q14, M.q15, M.q16, M.q17, M.q19, M.q20, M.q21, M.q22, M.tl, sO265 M.sh, sA266 M.sh, sA267 M.sh, sA268 M.sh, sA269 M.sh, sA270 M.sh, sA271 M.sh, sA272 M.sh, sA273 M.sh, sA274 M.sh, sA275 M.sh, sA276 M.sh, sA277 M.sh, iR_t, hk2, hk3, e, hc, F.vr, decide_false, Bool.false_eq_true])
      (fun m => by simp (disch := first | omega | assumption) only [fX8_counts_L9, ↓z_lt, ↓z_ge, ↓z_gt, ↓z_le, ↓z_eq, ↓z_ne, ↓z_mx, ↓z_mn, ↓z_dv, ↓z_rm, ↓z_i2l, ↓z_lc, ↓z_sw, ↓z_sf, ↓z_sn, ↓z_bd, ↓z_nt, z_b0, z_b1, z_bi, z_bj, ↓z_gF, ↓z_gR, ↓z_pF, ↓z_pZ, ↓z_pR, ↓z_aI, ↓z_aR, ↓z_sI, ↓z_sZ, ↓z_on, z_cl, ↓reduceIte, Int.reduceEq, Int.reduceNeg, Int.reduceLT, Int.reduceLE, Int.reduceAdd, Int.reduceSub, Int.reduceMul, true_and, and_true, or_true, true_or, eq_self, st2_f, st2_g, st2_o, M.q1, M.q10, M.q11, M.q12, M.q14, M.q15, M.q16, M.q17, M.q19, M.q20, M.q21, M.q22, M.tl, sO265 M.sh, sA266 M.sh, sA267 M.sh, sA268 M.sh, sA269 M.sh, sA270 M.sh, sA271 M.sh, sA272 M.sh, sA273 M.sh, sA274 M.sh, sA275 M.sh, sA276 M.sh, sA277 M.sh, iR_t, hN, Int.le_refl, F.vr]) (m := 1000) (by omega) rfl
    refine l2.trans ?_
    unfold couK
    rfl
  by_cases e : couK f (4 * d + kind) = f 13
  · simp (disch := first | omega | assumption) only [fX8_counts, couF, couP, ↓z_lt, ↓z_ge, ↓z_gt, ↓z_le, ↓z_eq, ↓z_ne, ↓z_mx, ↓z_mn, ↓z_dv, ↓z_rm, ↓z_i2l, ↓z_lc, ↓z_sw, ↓z_sf, ↓z_sn, ↓z_bd, ↓z_nt, z_b0, z_b1, z_bi, z_bj, ↓z_gF, ↓z_gR, ↓z_pF, ↓z_pZ, ↓z_pR, ↓z_aI, ↓z_aR, ↓z_sI, ↓z_sZ, ↓z_on, z_cl, ↓reduceIte, Int.reduceEq, Int.reduceNeg, Int.reduceLT, Int.reduceLE, Int.reduceAdd, Int.reduceSub, Int.reduceMul, true_and, and_true, or_true, true_or, eq_self, st2_f, st2_g, st2_o, M.q1, M.q10, M.q11, M.q12, M.q14, M.q15, M.q16, M.q17, M.q19, M.q20, M.q21, M.q22, M.tl, sO265 M.sh, sA266 M.sh, sA267 M.sh, sA268 M.sh, sA269 M.sh, sA270 M.sh, sA271 M.sh, sA272 M.sh, sA273 M.sh, sA274 M.sh, sA275 M.sh, sA276 M.sh, sA277 M.sh, iR_t, ↓l1, e, F.vr, st2_wf, zu_s, zu_n]
  · simp (disch := first | omega | assumption) only [fX8_counts, couF, couP, ↓z_lt, ↓z_ge, ↓z_gt, ↓z_le, ↓z_eq, ↓z_ne, ↓z_mx, ↓z_mn, ↓z_dv, ↓z_rm, ↓z_i2l, ↓z_lc, ↓z_sw, ↓z_sf, ↓z_sn, ↓z_bd, ↓z_nt, z_b0, z_b1, z_bi, z_bj, ↓z_gF, ↓z_gR, ↓z_pF, ↓z_pZ, ↓z_pR, ↓z_aI, ↓z_aR, ↓z_sI, ↓z_sZ, ↓z_on, z_cl, ↓reduceIte, Int.reduceEq, Int.reduceNeg, Int.reduceLT, Int.reduceLE, Int.reduceAdd, Int.reduceSub, Int.reduceMul, true_and, and_true, or_true, true_or, eq_self, st2_f, st2_g, st2_o, M.q1, M.q10, M.q11, M.q12, M.q14, M.q15, M.q16, M.q17, M.q19, M.q20, M.q21, M.q22, M.tl, sO265 M.sh, sA266 M.sh, sA267 M.sh, sA268 M.sh, sA269 M.sh, sA270 M.sh, sA271 M.sh, sA272 M.sh, sA273 M.sh, sA274 M.sh, sA275 M.sh, sA276 M.sh, sA277 M.sh, iR_t, ↓l1, e, F.vr, st2_wf, zu_s, zu_n]
theorem m_counts' {ω : Type} {K : _ → Option ω} (M : MP P σ t) (F : FV B t f g) (C : CV f) (hc : iR (4 * d + kind) = true) : cl (fX8_counts P (st2 σ f g) 265 d kind) K = K ((st2 σ (couF f (4 * d + kind)) g)) := e_cl (m_counts M F C hc)
theorem bl_zu {i v : Int} (h : ∀ j, -1 ≤ f j ∧ f j ≤ B) (hv : -1 ≤ v ∧ v ≤ B) : ∀ j, -1 ≤ zu f i v j ∧ zu f i v j ≤ B := by
  intro j
  unfold zu
  split
  · exact hv
  · exact h j
theorem FV.cou (F : FV B t f g) (T : TV t) (C : CV f) (h0 : 0 ≤ c) (h1 : c < 32) (h4 : 100 ≤ B) (hB : B < 2000000000) : FV (B + 1) t (couF f c) g := by
  have n1 := T.n1
  have n2 := T.n2
  have b0 := F.b0
  have c0 := C.c0
  have cl := C.le
  have q := couK_in (c := c) c0
  have key : ∀ j, (j < 11 ∨ j = 12 ∨ (14 ≤ j ∧ j < 274)) → couF f c j = f j := by
    intro j hj
    unfold couF couP
    by_cases e : couK f c = f 13
    · rw [if_pos e]; simp (disch := omega) only [zu_n]
    · rw [if_neg e]; simp (disch := omega) only [zu_n]
  refine ⟨by omega, fun j => ?_, fun j => ?_, ?_, ?_, ?_, ?_, ?_, ?_, ?_, ?_, ?_⟩
  · have q2 := F.bl 13
    have w0 : ∀ j, -1 ≤ f j ∧ f j ≤ B + 1 := fun j => by have := F.bl j; omega
    have w1 : ∃ f1, (∀ j, -1 ≤ f1 j ∧ f1 j ≤ B + 1) ∧ f1 11 = f 11 ∧ (f1 (274 + 2 * couK f c + 1) = 0 ∨ f1 (274 + 2 * couK f c + 1) = f (274 + 2 * couK f c + 1)) ∧ couF f c = couP f1 (couK f c) := by
      unfold couF
      by_cases e : couK f c = f 13
      · rw [if_pos e]
        refine ⟨_, bl_zu (bl_zu (bl_zu w0 (by omega)) (by omega)) (by omega), ?_, Or.inl ?_, rfl⟩
        · simp (disch := omega) only [zu_n]
        · simp (disch := omega) only [zu_n, zu_s]
      · rw [if_neg e]
        exact ⟨f, w0, rfl, Or.inr rfl, rfl⟩
    obtain ⟨f1, w2, w3, w4, w5⟩ := w1
    have q3 := F.bl 11
    have q4 := F.bl (274 + 2 * couK f c + 1)
    rw [w5]
    unfold couP
    rw [w3]
    exact bl_zu (bl_zu w2 (by omega)) (by omega) j
  · have := F.bg j; omega
  · rw [key 0 (by omega), key 3 (by omega), key 4 (by omega)]; exact F.tq
  · rw [key _ (by omega)]; exact F.ev
  · intro d d0 d1; have := F.al d d0 d1; simp (disch := omega) only [key]; exact this
  · intro d d0 d1; have := F.un d d0 d1; simp (disch := omega) only [key]; exact this
  · intro d d0 d1; have := F.si d d0 d1; simp (disch := omega) only [key]; exact this
  · intro d d0 d1; have := F.mn d d0 d1; simp (disch := omega) only [key]; exact this
  · intro d d0 d1; have := F.mo d d0 d1; simp (disch := omega) only [key]; exact this
  · intro d d0 d1; have := F.ho d d0 d1; simp (disch := omega) only [key]; exact this
  · intro d d0 d1; have := F.dn d d0 d1; simp (disch := omega) only [key]; exact this
end ZI
