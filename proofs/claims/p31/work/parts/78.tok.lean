/-! THE TOKENS of a text, and the class's advance. -/
section ZZE
variable {P : Shp} {σ σ' σ1 σ2 σ3 s : St} {by' : Int → Int} {a b c d e k h i j x y z v w N : Int} {n : Nat}
/-- while c holds -/
def whF (c : Int → Bool) (N : Int) : Nat → Int → Int
  | 0, i => i
  | m + 1, i => if i < N ∧ c i = true then whF c N m (i + 1) else i
def skp (c : Int → Bool) (N i : Int) : Int := whF c N (N - i).toNat i
theorem skp_u (c : Int → Bool) (N i : Int) : skp c N i = if i < N ∧ c i = true then skp c N (i + 1) else i := by
  unfold skp
  by_cases h : i < N
  · rw [show (N - i).toNat = (N - (i + 1)).toNat + 1 by omega]
    rfl
  · rw [show (N - i).toNat = 0 by omega, if_neg (fun w => h w.1)]
    rfl
theorem skp_in (c : Int → Bool) (N : Int) : ∀ (m : Nat) (i : Int), i ≤ N → (N - i).toNat = m → i ≤ skp c N i ∧ skp c N i ≤ N ∧ (∀ j, i ≤ j → j < skp c N i → c j = true) ∧ (skp c N i < N → c (skp c N i) = false) := by
  intro m
  induction m with
  | zero =>
    intro i h1 h2
    rw [skp_u, if_neg (by omega)]
    exact ⟨by omega, h1, fun j _ _ => by omega, fun w => by omega⟩
  | succ m ih =>
    intro i h1 h2
    rw [skp_u]
    by_cases w : i < N ∧ c i = true
    · rw [if_pos w]
      obtain ⟨g1, g2, g3, g4⟩ := ih (i + 1) (by omega) (by omega)
      refine ⟨by omega, g2, fun j j0 j1 => ?_, g4⟩
      by_cases z : j = i
      · subst z; exact w.2
      · exact g3 j (by omega) j1
    · rw [if_neg w]
      refine ⟨by omega, h1, fun j _ _ => by omega, fun q => ?_⟩
      by_cases z : c i = true
      · exact absurd ⟨q, z⟩ w
      · simpa using z
def spB (f : Int → Int) (i : Int) : Bool := decide (f i = 32 ∨ f i = 10)
def ltB (f : Int → Int) (i : Int) : Bool := decide (97 ≤ f i ∧ f i ≤ 122)
def dgB (f : Int → Int) (i : Int) : Bool := decide (48 ≤ f i ∧ f i ≤ 57)
def vlF (f : Int → Int) (b z i : Int) (n : Nat) : Int := forI (fun k a => a * b + (f (i + k) - z)) n 0
/-- a token: start, end, kind, value -/
def tS (f : Int → Int) (N e : Int) : Int := skp (spB f) N e
def tE (f : Int → Int) (N e : Int) : Int := if tS f N e < N then (if ltB f (tS f N e) = true then skp (ltB f) N (tS f N e) else if dgB f (tS f N e) = true then skp (dgB f) N (tS f N e) else tS f N e + 1) else N
def tT (f : Int → Int) (N e : Int) : Int := if tS f N e < N then (if ltB f (tS f N e) = true then (if tE f N e - tS f N e ≤ 8 then 1 else 4) else if dgB f (tS f N e) = true then (if tE f N e - tS f N e ≤ 4 then 2 else 4) else if f (tS f N e) = 59 then 3 else 4) else 0
def tV (f : Int → Int) (N e : Int) : Int := if ltB f (tS f N e) = true then vlF f 27 96 (tS f N e) (tE f N e - tS f N e).toNat else vlF f 10 48 (tS f N e) (tE f N e - tS f N e).toNat
theorem loop_w {α β : Type} (L : Nat → α → Option β) (kE : α → Option β) (c : α → Bool) (F : α → α) (μ : α → Nat) (I : α → Prop)
    (hs : ∀ (m : Nat) (a : α), I a → c a = true → L (m + 1) a = L m (F a) ∧ I (F a) ∧ μ (F a) < μ a)
    (he : ∀ (m : Nat) (a : α), I a → c a = false → L (m + 1) a = kE a) : ∀ (q : Nat) (m : Nat) (a : α), μ a ≤ q → q < m → I a → ∃ a', L m a = kE a' ∧ I a' ∧ c a' = false := by
  intro q
  induction q with
  | zero =>
    intro m a h1 h2 hI
    obtain ⟨m, rfl⟩ : ∃ r, m = r + 1 := ⟨m - 1, by omega⟩
    by_cases z : c a = true
    · have := (hs m a hI z).2.2; omega
    · exact ⟨a, he m a hI (by simpa using z), hI, by simpa using z⟩
  | succ q ih =>
    intro m a h1 h2 hI
    obtain ⟨m, rfl⟩ : ∃ r, m = r + 1 := ⟨m - 1, by omega⟩
    by_cases z : c a = true
    · obtain ⟨g1, g2, g3⟩ := hs m a hI z
      obtain ⟨a', r1, r2, r3⟩ := ih m (F a) (by omega) (by omega) g2
      exact ⟨a', g1.trans r1, r2, r3⟩
    · exact ⟨a, he m a hI (by simpa using z), hI, by simpa using z⟩
/-- the kind of a byte as the class sees it -/
def kdF (c : Int) : Int := if c = 32 then 5 else if c = 10 then 5 else if c < 97 then (if c < 48 then (if c = 59 then 3 else 4) else if 57 < c then (if c = 59 then 3 else 4) else 2) else if 122 < c then (if c < 48 then (if c = 59 then 3 else 4) else if 57 < c then (if c = 59 then 3 else 4) else 2) else 1
theorem c_kindOfSign (h : iR c = true) : fX5_kindOfSign P σ c = some (kdF c) := by
  unfold kdF
  by_cases c1 : c = 32
  · simp (disch := first | omega | assumption) only [fX5_kindOfSign, ↓z_lt, ↓z_ge, ↓z_gt, ↓z_le, ↓z_eq, ↓z_ne, ↓z_mx, ↓z_mn, ↓z_dv, ↓z_rm, ↓z_i2l, ↓z_lc, ↓z_sw, ↓z_sf, ↓z_sn, ↓z_bd, ↓z_nt, z_b0, z_b1, z_bi, z_bj, ↓z_gF, ↓z_gR, ↓z_pF, ↓z_pZ, ↓z_pR, ↓z_aI, ↓z_aR, ↓z_sI, ↓z_sZ, ↓z_on, z_cl, ↓reduceIte, Int.reduceEq, Int.reduceNeg, Int.reduceLT, Int.reduceLE, Int.reduceAdd, Int.reduceSub, Int.reduceMul, true_and, and_true, or_true, true_or, eq_self, iR_t, h, c1]
  · by_cases c2 : c = 10
    · simp (disch := first | omega | assumption) only [fX5_kindOfSign, ↓z_lt, ↓z_ge, ↓z_gt, ↓z_le, ↓z_eq, ↓z_ne, ↓z_mx, ↓z_mn, ↓z_dv, ↓z_rm, ↓z_i2l, ↓z_lc, ↓z_sw, ↓z_sf, ↓z_sn, ↓z_bd, ↓z_nt, z_b0, z_b1, z_bi, z_bj, ↓z_gF, ↓z_gR, ↓z_pF, ↓z_pZ, ↓z_pR, ↓z_aI, ↓z_aR, ↓z_sI, ↓z_sZ, ↓z_on, z_cl, ↓reduceIte, Int.reduceEq, Int.reduceNeg, Int.reduceLT, Int.reduceLE, Int.reduceAdd, Int.reduceSub, Int.reduceMul, true_and, and_true, or_true, true_or, eq_self, iR_t, h, c1, c2]
    · by_cases c3 : c < 97
      · by_cases c4 : c < 48
        · by_cases c5 : c = 59
          · omega
          · simp (disch := first | omega | assumption) only [fX5_kindOfSign, ↓z_lt, ↓z_ge, ↓z_gt, ↓z_le, ↓z_eq, ↓z_ne, ↓z_mx, ↓z_mn, ↓z_dv, ↓z_rm, ↓z_i2l, ↓z_lc, ↓z_sw, ↓z_sf, ↓z_sn, ↓z_bd, ↓z_nt, z_b0, z_b1, z_bi, z_bj, ↓z_gF, ↓z_gR, ↓z_pF, ↓z_pZ, ↓z_pR, ↓z_aI, ↓z_aR, ↓z_sI, ↓z_sZ, ↓z_on, z_cl, ↓reduceIte, Int.reduceEq, Int.reduceNeg, Int.reduceLT, Int.reduceLE, Int.reduceAdd, Int.reduceSub, Int.reduceMul, true_and, and_true, or_true, true_or, eq_self, iR_t, h, c1, c2, c3, c4, c5]
        · by_cases c6 : 57 < c
          · by_cases c5 : c = 59
            · simp (disch := first | omega | assumption) only [fX5_kindOfSign, ↓z_lt, ↓z_ge, ↓z_gt, ↓z_le, ↓z_eq, ↓z_ne, ↓z_mx, ↓z_mn, ↓z_dv, ↓z_rm, ↓z_i2l, ↓z_lc, ↓z_sw, ↓z_sf, ↓z_sn, ↓z_bd, ↓z_nt, z_b0, z_b1, z_bi, z_bj, ↓z_gF, ↓z_gR, ↓z_pF, ↓z_pZ, ↓z_pR, ↓z_aI, ↓z_aR, ↓z_sI, ↓z_sZ, ↓z_on, z_cl, ↓reduceIte, Int.reduceEq, Int.reduceNeg, Int.reduceLT, Int.reduceLE, Int.reduceAdd, Int.reduceSub, Int.reduceMul, true_and, and_true, or_true, true_or, eq_self, iR_t, h, c5]
            · simp (disch := first | omega | assumption) only [fX5_kindOfSign, ↓z_lt, ↓z_ge, ↓z_gt, ↓z_le, ↓z_eq, ↓z_ne, ↓z_mx, ↓z_mn, ↓z_dv, ↓z_rm, ↓z_i2l, ↓z_lc, ↓z_sw, ↓z_sf, ↓z_sn, ↓z_bd, ↓z_nt, z_b0, z_b1, z_bi, z_bj, ↓z_gF, ↓z_gR, ↓z_pF, ↓z_pZ, ↓z_pR, ↓z_aI, ↓z_aR, ↓z_sI, ↓z_sZ, ↓z_on, z_cl, ↓reduceIte, Int.reduceEq, Int.reduceNeg, Int.reduceLT, Int.reduceLE, Int.reduceAdd, Int.reduceSub, Int.reduceMul, true_and, and_true, or_true, true_or, eq_self, iR_t, h, c1, c2, c3, c4, c5, c6]
          · simp (disch := first | omega | assumption) only [fX5_kindOfSign, ↓z_lt, ↓z_ge, ↓z_gt, ↓z_le, ↓z_eq, ↓z_ne, ↓z_mx, ↓z_mn, ↓z_dv, ↓z_rm, ↓z_i2l, ↓z_lc, ↓z_sw, ↓z_sf, ↓z_sn, ↓z_bd, ↓z_nt, z_b0, z_b1, z_bi, z_bj, ↓z_gF, ↓z_gR, ↓z_pF, ↓z_pZ, ↓z_pR, ↓z_aI, ↓z_aR, ↓z_sI, ↓z_sZ, ↓z_on, z_cl, ↓reduceIte, Int.reduceEq, Int.reduceNeg, Int.reduceLT, Int.reduceLE, Int.reduceAdd, Int.reduceSub, Int.reduceMul, true_and, and_true, or_true, true_or, eq_self, iR_t, h, c1, c2, c3, c4, c6]
      · by_cases c7 : 122 < c
        · have c4 : ¬ (c < 48) := by omega
          have c6 : 57 < c := by omega
          have c5 : ¬ (c = 59) := by omega
          simp (disch := first | omega | assumption) only [fX5_kindOfSign, ↓z_lt, ↓z_ge, ↓z_gt, ↓z_le, ↓z_eq, ↓z_ne, ↓z_mx, ↓z_mn, ↓z_dv, ↓z_rm, ↓z_i2l, ↓z_lc, ↓z_sw, ↓z_sf, ↓z_sn, ↓z_bd, ↓z_nt, z_b0, z_b1, z_bi, z_bj, ↓z_gF, ↓z_gR, ↓z_pF, ↓z_pZ, ↓z_pR, ↓z_aI, ↓z_aR, ↓z_sI, ↓z_sZ, ↓z_on, z_cl, ↓reduceIte, Int.reduceEq, Int.reduceNeg, Int.reduceLT, Int.reduceLE, Int.reduceAdd, Int.reduceSub, Int.reduceMul, true_and, and_true, or_true, true_or, eq_self, iR_t, h, c1, c2, c3, c4, c5, c6, c7]
        · simp (disch := first | omega | assumption) only [fX5_kindOfSign, ↓z_lt, ↓z_ge, ↓z_gt, ↓z_le, ↓z_eq, ↓z_ne, ↓z_mx, ↓z_mn, ↓z_dv, ↓z_rm, ↓z_i2l, ↓z_lc, ↓z_sw, ↓z_sf, ↓z_sn, ↓z_bd, ↓z_nt, z_b0, z_b1, z_bi, z_bj, ↓z_gF, ↓z_gR, ↓z_pF, ↓z_pZ, ↓z_pR, ↓z_aI, ↓z_aR, ↓z_sI, ↓z_sZ, ↓z_on, z_cl, ↓reduceIte, Int.reduceEq, Int.reduceNeg, Int.reduceLT, Int.reduceLE, Int.reduceAdd, Int.reduceSub, Int.reduceMul, true_and, and_true, or_true, true_or, eq_self, iR_t, h, c1, c2, c3, c7]
theorem c_kindOfSign' {ω : Type} {K : _ → Option ω} (h : iR c = true) : cl (fX5_kindOfSign P σ c) K = K ((kdF c)) := e_cl (c_kindOfSign h)
theorem kdF_5 : (kdF c = 5) ↔ (c = 32 ∨ c = 10) := by
  unfold kdF
  repeat' split
  all_goals omega
theorem kdF_1 : (kdF c = 1) ↔ (97 ≤ c ∧ c ≤ 122) := by
  unfold kdF
  repeat' split
  all_goals omega
theorem kdF_2 : (kdF c = 2) ↔ (48 ≤ c ∧ c ≤ 57) := by
  unfold kdF
  repeat' split
  all_goals omega
theorem kdF_o (h5 : kdF c ≠ 5) (h1 : kdF c ≠ 1) (h2 : kdF c ≠ 2) : kdF c = if c = 59 then 3 else 4 := by
  unfold kdF at *
  repeat' split
  all_goals first | rfl | omega | (exfalso; simp_all; try omega)
theorem kdF_R : iR (kdF c) = true := by
  unfold kdF
  repeat' split
  all_goals rfl
end ZZE
