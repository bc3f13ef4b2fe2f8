/-! NAMES on both sides. -/
def nm1 (h1 : Int) (B : Int → Int) (s : Int) : Prop := ∃ l : Nat, 1 ≤ l ∧ l ≤ 8 ∧ h1 = vlF B 27 96 s l ∧ (∀ i : Int, 0 ≤ i → i < l → 97 ≤ B (s + i) ∧ B (s + i) ≤ 122) ∧ (∀ i : Int, (l : Int) ≤ i → i < 8 → B (s + i) = 0)
def NM (h B : Int → Int) (b cnt : Int) : Prop := ∀ j, 0 ≤ j → j < cnt → nm1 (h j) B (b + 8 * j)
def eq8 (B : Int → Int) (s : Int) (f : Int → Int) (ts L : Int) : Nat → Int → Bool
  | 0, _ => true
  | n + 1, k => decide (B (s + k) = if k < L then f (ts + k) else 0) && eq8 B s f ts L n (k + 1)
def cpN (k : Int) : Int := if k = 0 then 6 else if k = 1 then 8 else 12
def fdI (h : Int → Int) (v : Int) (cnt : Int) : Int := fstI (fun j => decide (h j = v)) cnt.toNat 0
section ZZJ
variable {P : Shp} {σ σ' s τ τ' : St} {f g h B : Int → Int} {a b c d e k i j x y z v w N tk ts tt q L kd cnt h1 s1 : Int} {n m r : Nat}
theorem vl_w (hd : ∀ k : Nat, k < n → 97 ≤ f (ts + (k : Int)) ∧ f (ts + (k : Int)) ≤ 122) : 0 ≤ vlF f 27 96 ts n ∧ (1 ≤ n → 1 ≤ vlF f 27 96 ts n) ∧ vlF f 27 96 ts n + 1 ≤ 27 ^ n := by
  induction n with
  | zero => exact ⟨Int.le_refl _, fun w => by omega, by show (0 : Int) + 1 ≤ 1; omega⟩
  | succ n ih =>
    obtain ⟨a0, a1, a2⟩ := ih (fun k hk => hd k (by omega))
    have := hd n (by omega)
    rw [vlF_s, Int.pow_succ]
    generalize vlF f 27 96 ts n = V at *
    generalize (27 : Int) ^ n = W at *
    refine ⟨by omega, fun _ => by omega, by omega⟩
theorem vl_L (hd : ∀ k : Nat, k < n → 97 ≤ f (ts + (k : Int)) ∧ f (ts + (k : Int)) ≤ 122) (h8 : n ≤ 8) : iL (vlF f 27 96 ts n) = true := by
  obtain ⟨a0, a1, a2⟩ := vl_w hd
  have : (27 : Int) ^ n ≤ 282429536481 := by
    have : n = 0 ∨ n = 1 ∨ n = 2 ∨ n = 3 ∨ n = 4 ∨ n = 5 ∨ n = 6 ∨ n = 7 ∨ n = 8 := by omega
    rcases this with rfl | rfl | rfl | rfl | rfl | rfl | rfl | rfl | rfl <;> decide
  exact iL_t (by omega) (by omega)
theorem vl_inj : ∀ (n m : Nat), (∀ k : Nat, k < n → 97 ≤ f (ts + (k : Int)) ∧ f (ts + (k : Int)) ≤ 122) → (∀ k : Nat, k < m → 97 ≤ g (tt + (k : Int)) ∧ g (tt + (k : Int)) ≤ 122) → vlF f 27 96 ts n = vlF g 27 96 tt m → n = m ∧ ∀ k : Nat, k < n → f (ts + (k : Int)) = g (tt + (k : Int)) := by
  intro n
  induction n with
  | zero =>
    intro m h1 h2 he
    cases m with
    | zero => exact ⟨rfl, fun k hk => by omega⟩
    | succ m =>
      have := (vl_w h2).2.1 (by omega)
      have h0 : vlF f 27 96 ts 0 = 0 := rfl
      omega
  | succ n ih =>
    intro m h1 h2 he
    cases m with
    | zero =>
      have := (vl_w h1).2.1 (by omega)
      have h0 : vlF g 27 96 tt 0 = 0 := rfl
      omega
    | succ m =>
      rw [vlF_s, vlF_s] at he
      have a1 := h1 n (by omega)
      have a2 := h2 m (by omega)
      obtain ⟨e1, e2⟩ := ih m (fun k hk => h1 k (by omega)) (fun k hk => h2 k (by omega)) (by omega)
      subst e1
      refine ⟨rfl, fun k hk => ?_⟩
      by_cases z : k = n
      · subst z; omega
      · exact e2 k (by omega)
theorem vl_cg : ∀ (n : Nat), (∀ k : Nat, k < n → f (ts + (k : Int)) = g (tt + (k : Int))) → vlF f 27 96 ts n = vlF g 27 96 tt n := by
  intro n
  induction n with
  | zero => intro _; rfl
  | succ n ih =>
    intro hh
    rw [vlF_s, vlF_s, ih (fun k hk => hh k (by omega)), hh n (by omega)]
theorem eq8_i : ∀ (n : Nat) (k : Int), eq8 B s1 f ts L n k = true ↔ ∀ i, k ≤ i → i < k + n → B (s1 + i) = if i < L then f (ts + i) else 0 := by
  intro n
  induction n with
  | zero => intro k; exact ⟨fun _ i h1 h2 => by omega, fun _ => rfl⟩
  | succ n ih =>
    intro k
    rw [eq8, Bool.and_eq_true, ih (k + 1), decide_eq_true_eq]
    constructor
    · rintro ⟨a1, a2⟩ i h1 h2
      by_cases z : i = k
      · subst z; exact a1
      · exact a2 i (by omega) (by push_cast at h2; omega)
    · intro hh
      exact ⟨hh k (by omega) (by push_cast; omega), fun i h1 h2 => hh i (by omega) (by push_cast; omega)⟩
theorem nm_eq (hn : nm1 h1 B s1) (hL : 1 ≤ L ∧ L ≤ 8) (hf : ∀ i : Int, 0 ≤ i → i < L → 97 ≤ f (ts + i) ∧ f (ts + i) ≤ 122) : eq8 B s1 f ts L 8 0 = true ↔ h1 = vlF f 27 96 ts L.toNat := by
  obtain ⟨l, l1, l8, hh, hb, hz⟩ := hn
  rw [eq8_i]
  constructor
  · intro q
    have e : (l : Int) = L := by
      by_cases z1 : (l : Int) < L
      · have a1 := q l (by omega) (by push_cast; omega)
        rw [if_pos z1, hz l (by omega) (by omega)] at a1
        have := hf l (by omega) z1
        omega
      · by_cases z2 : L < (l : Int)
        · have a1 := q L (by omega) (by push_cast; omega)
          rw [if_neg (by omega)] at a1
          have := hb L (by omega) z2
          omega
        · omega
    rw [hh, show L.toNat = l by omega]
    refine vl_cg l fun k hk => ?_
    have := q k (by omega) (by push_cast; omega)
    rw [if_pos (by omega)] at this
    exact this
  · intro q i i0 i1
    rw [hh] at q
    obtain ⟨e1, e2⟩ := vl_inj l L.toNat (fun k hk => hb k (by omega) (by omega)) (fun k hk => hf k (by omega) (by omega)) q
    by_cases z : i < L
    · rw [if_pos z]
      have := e2 i.toNat (by omega)
      rw [show ((i.toNat : Nat) : Int) = i by omega] at this
      exact this
    · rw [if_neg z]
      exact hz i (by omega) (by push_cast at i1; omega)
/-- a word -/
theorem tw_in (e0 : 0 ≤ e) (e1 : e ≤ N) (h : tT f N e = 1) : 1 ≤ tE f N e - tS f N e ∧ tE f N e - tS f N e ≤ 8 ∧ (∀ i, 0 ≤ i → i < tE f N e - tS f N e → 97 ≤ f (tS f N e + i) ∧ f (tS f N e + i) ≤ 122) ∧ tV f N e = vlF f 27 96 (tS f N e) (tE f N e - tS f N e).toNat := by
  have a := tS_in (f := f) e1
  have ti := tok_in (f := f) e0 e1
  have b2 := skp_in (ltB f) N _ (tS f N e) a.2 rfl
  unfold tT at h
  by_cases c : tS f N e < N
  · rw [if_pos c] at h
    by_cases c1 : ltB f (tS f N e) = true
    · rw [if_pos c1] at h
      have h8 : tE f N e - tS f N e ≤ 8 := by
        by_cases y : tE f N e - tS f N e ≤ 8
        · exact y
        · rw [if_neg y] at h; omega
      have hE : tE f N e = skp (ltB f) N (tS f N e) := by unfold tE; rw [if_pos c, if_pos c1]
      refine ⟨by have := ti.2.2.2 c; omega, h8, fun i i0 i1 => ?_, ?_⟩
      · exact of_decide_eq_true (b2.2.2.1 (tS f N e + i) (by omega) (by omega))
      · unfold tV; rw [if_pos c1]
    · rw [if_neg c1] at h
      exfalso; revert h
      repeat' split
      all_goals omega
  · rw [if_neg c] at h; omega
theorem fdI_in (h0 : 0 ≤ cnt) : (fdI h v cnt = -1 ∧ ∀ j, 0 ≤ j → j < cnt → h j ≠ v) ∨ (0 ≤ fdI h v cnt ∧ fdI h v cnt < cnt ∧ h (fdI h v cnt) = v) := by
  unfold fdI
  have key : ∀ (n : Nat) (k : Int), 0 ≤ k → (fstI (fun j => decide (h j = v)) n k = -1 ∧ ∀ j, k ≤ j → j < k + n → h j ≠ v) ∨ (k ≤ fstI (fun j => decide (h j = v)) n k ∧ fstI (fun j => decide (h j = v)) n k < k + n ∧ h (fstI (fun j => decide (h j = v)) n k) = v) := by
    intro n
    induction n with
    | zero => intro k _; exact Or.inl ⟨rfl, fun j a b => by omega⟩
    | succ n ih =>
      intro k hk
      by_cases c : h k = v
      · right
        have : fstI (fun j => decide (h j = v)) (n + 1) k = k := by
          show (if decide (h k = v) = true then k else _) = k
          rw [if_pos (decide_eq_true c)]
        rw [this]
        exact ⟨Int.le_refl _, by push_cast; omega, c⟩
      · have : fstI (fun j => decide (h j = v)) (n + 1) k = fstI (fun j => decide (h j = v)) n (k + 1) := by
          show (if decide (h k = v) = true then k else _) = _
          rw [if_neg (by simpa using c)]
        rw [this]
        rcases ih (k + 1) (by omega) with ⟨a1, a2⟩ | ⟨a1, a2, a3⟩
        · left
          refine ⟨a1, fun j j0 j1 => ?_⟩
          by_cases z : j = k
          · subst z; exact c
          · exact a2 j (by omega) (by push_cast at j1; omega)
        · right
          exact ⟨by omega, by push_cast; omega, a3⟩
  have := key cnt.toNat 0 (by omega)
  rw [show (0 : Int) + ((cnt.toNat : Nat) : Int) = cnt by omega] at this
  exact this
theorem nA (sh : ShpIs P 279 PL) (hk : kd = 0 ∨ kd = 1 ∨ kd = 2) (h0 : 0 ≤ i) (h1 : i < cpN kd) : okA P 11 (13 + kd) i = true := by
  unfold cpN at h1
  rcases hk with rfl | rfl | rfl
  · exact sA13 sh h0 (by simpa using h1)
  · exact sA14 sh h0 (by simpa using h1)
  · exact sA15 sh h0 (by simpa using h1)
theorem nL {α : Type} {K : Int → Option α} (sh : ShpIs P 279 PL) (hk : kd = 0 ∨ kd = 1 ∨ kd = 2) : aL P 11 (13 + kd) K = K (cpN kd) := by
  rcases hk with rfl | rfl | rfl
  · exact e_aL (len := 6) (shA sh 13 (by decide +kernel))
  · exact e_aL (len := 8) (shA sh 14 (by decide +kernel))
  · exact e_aL (len := 12) (shA sh 15 (by decide +kernel))
theorem nm_iL (hn : nm1 h1 B s1) : iL h1 = true := by
  obtain ⟨l, l1, l8, hh, hb, hz⟩ := hn
  rw [hh]
  exact vl_L (fun k hk => hb k (by omega) (by omega)) l8
theorem c_index (C : CT P σ f N e) (hw : tT f N e = 1) (hk : kd = 0 ∨ kd = 1 ∨ kd = 2) (ha : a = 13 + kd) (h0 : 0 ≤ cnt) (h1 : cnt ≤ cpN kd) (hn : NM (σ a) B b cnt) : fX5_indexOfWord P σ 1 a cnt = some (fdI (σ a) (tV f N e) cnt) := by
  have tw := tw_in C.e0 C.e1 hw
  have v6 : σ 1 6 = tV f N e := C.vv (Or.inl hw)
  have vL : iL (tV f N e) = true := by
    rw [tw.2.2.2]
    exact vl_L (fun k hk => tw.2.2.1 k (by omega) (by omega)) (by omega)
  have c12 : cpN kd ≤ 12 := by unfold cpN; repeat' split <;> omega
  unfold fdI fX5_indexOfWord
  refine loop_f (fun m k => fX5_indexOfWord_L2 P σ 1 a cnt (some (-1)) (fun x6 => some x6) m k) (some (-1)) (fun x => some x) cnt.toNat _ (fun k m hk1 => ?_) (fun m => ?_) (by omega) rfl
  · have k1 : ¬ (cnt ≤ (k : Int)) := by omega
    have k2 : ¬ (cpN kd ≤ (k : Int)) := by omega
    have hl := nm_iL (hn k (by omega) (by omega))
    have hA : okA P 11 a (k : Int) = true := by rw [ha]; exact nA C.rb.sh hk (by omega) (by omega)
    have hB : ∀ (K : Int → Option Int), aL P 11 a K = K (cpN kd) := fun K => by rw [ha]; exact nL C.rb.sh hk
    by_cases c : σ a (k : Int) = tV f N e
    · have c3 : ¬ (tV f N e < tV f N e) := by omega
      rw [if_pos (decide_eq_true c)]
      simp (disch := first | omega | assumption) only [fX5_indexOfWord_L2, ↓z_lt, ↓z_ge, ↓z_gt, ↓z_le, ↓z_eq, ↓z_ne, ↓z_mx, ↓z_mn, ↓z_dv, ↓z_rm, ↓z_i2l, ↓z_lc, ↓z_sw, ↓z_sf, ↓z_sn, ↓z_bd, ↓z_nt, z_b0, z_b1, z_bi, z_bj, ↓z_gF, ↓z_gR, ↓z_pF, ↓z_pZ, ↓z_pR, ↓z_aI, ↓z_aR, ↓z_sI, ↓z_sZ, ↓z_on, z_cl, ↓reduceIte, Int.reduceEq, Int.reduceNeg, Int.reduceLT, Int.reduceLE, Int.reduceAdd, Int.reduceSub, Int.reduceMul, true_and, and_true, or_true, true_or, eq_self, iR_t, sO1 C.rb.sh, hA, ↓hB, v6, vL, c, c3, k1, k2]
    · rw [if_neg (by simpa using c)]
      by_cases c2 : tV f N e < σ a (k : Int)
      · simp (disch := first | omega | assumption) only [fX5_indexOfWord_L2, ↓z_lt, ↓z_ge, ↓z_gt, ↓z_le, ↓z_eq, ↓z_ne, ↓z_mx, ↓z_mn, ↓z_dv, ↓z_rm, ↓z_i2l, ↓z_lc, ↓z_sw, ↓z_sf, ↓z_sn, ↓z_bd, ↓z_nt, z_b0, z_b1, z_bi, z_bj, ↓z_gF, ↓z_gR, ↓z_pF, ↓z_pZ, ↓z_pR, ↓z_aI, ↓z_aR, ↓z_sI, ↓z_sZ, ↓z_on, z_cl, ↓reduceIte, Int.reduceEq, Int.reduceNeg, Int.reduceLT, Int.reduceLE, Int.reduceAdd, Int.reduceSub, Int.reduceMul, true_and, and_true, or_true, true_or, eq_self, iR_t, sO1 C.rb.sh, hA, ↓hB, v6, vL, hl, c, c2, k1, k2]
      · simp (disch := first | omega | assumption) only [fX5_indexOfWord_L2, ↓z_lt, ↓z_ge, ↓z_gt, ↓z_le, ↓z_eq, ↓z_ne, ↓z_mx, ↓z_mn, ↓z_dv, ↓z_rm, ↓z_i2l, ↓z_lc, ↓z_sw, ↓z_sf, ↓z_sn, ↓z_bd, ↓z_nt, z_b0, z_b1, z_bi, z_bj, ↓z_gF, ↓z_gR, ↓z_pF, ↓z_pZ, ↓z_pR, ↓z_aI, ↓z_aR, ↓z_sI, ↓z_sZ, ↓z_on, z_cl, ↓reduceIte, Int.reduceEq, Int.reduceNeg, Int.reduceLT, Int.reduceLE, Int.reduceAdd, Int.reduceSub, Int.reduceMul, true_and, and_true, or_true, true_or, eq_self, iR_t, sO1 C.rb.sh, hA, ↓hB, v6, vL, hl, c, c2, k1, k2]
  · have k1 : cnt ≤ ((cnt.toNat : Nat) : Int) := by omega
    simp (disch := first | omega | assumption) only [fX5_indexOfWord_L2, ↓z_lt, ↓z_ge, ↓z_gt, ↓z_le, ↓z_eq, ↓z_ne, ↓z_mx, ↓z_mn, ↓z_dv, ↓z_rm, ↓z_i2l, ↓z_lc, ↓z_sw, ↓z_sf, ↓z_sn, ↓z_bd, ↓z_nt, z_b0, z_b1, z_bi, z_bj, ↓z_gF, ↓z_gR, ↓z_pF, ↓z_pZ, ↓z_pR, ↓z_aI, ↓z_aR, ↓z_sI, ↓z_sZ, ↓z_on, z_cl, ↓reduceIte, Int.reduceEq, Int.reduceNeg, Int.reduceLT, Int.reduceLE, Int.reduceAdd, Int.reduceSub, Int.reduceMul, true_and, and_true, or_true, true_or, eq_self, iR_t, k1]
theorem c_index' {ω : Type} {K : _ → Option ω} (C : CT P σ f N e) (hw : tT f N e = 1) (hk : kd = 0 ∨ kd = 1 ∨ kd = 2) (ha : a = 13 + kd) (h0 : 0 ≤ cnt) (h1 : cnt ≤ cpN kd) (hn : NM (σ a) B b cnt) : cl (fX5_indexOfWord P σ 1 a cnt) K = K ((fdI (σ a) (tV f N e) cnt)) := e_cl (c_index C hw hk ha h0 h1 hn)
theorem find_0 (kE : Int → Option Int) : ∀ (r k m : Nat), (k : Int) + (r : Int) = 8 → r < m → fX8_draftFind_L28 P τ 265 a L x kE m 0 (k : Int) = kE 0 := by
  intro r
  induction r with
  | zero =>
    intro k m h1 h2
    obtain ⟨m, rfl⟩ : ∃ q, m = q + 1 := ⟨m - 1, by omega⟩
    have k1 : 8 ≤ (k : Int) := by omega
    simp (disch := first | omega | assumption) only [fX8_draftFind_L28, ↓z_lt, ↓z_ge, ↓z_gt, ↓z_le, ↓z_eq, ↓z_ne, ↓z_mx, ↓z_mn, ↓z_dv, ↓z_rm, ↓z_i2l, ↓z_lc, ↓z_sw, ↓z_sf, ↓z_sn, ↓z_bd, ↓z_nt, z_b0, z_b1, z_bi, z_bj, ↓z_gF, ↓z_gR, ↓z_pF, ↓z_pZ, ↓z_pR, ↓z_aI, ↓z_aR, ↓z_sI, ↓z_sZ, ↓z_on, z_cl, ↓reduceIte, Int.reduceEq, Int.reduceNeg, Int.reduceLT, Int.reduceLE, Int.reduceAdd, Int.reduceSub, Int.reduceMul, true_and, and_true, or_true, true_or, eq_self, iR_t, k1]
  | succ r ih =>
    intro k m h1 h2
    obtain ⟨m, rfl⟩ : ∃ q, m = q + 1 := ⟨m - 1, by omega⟩
    have k1 : ¬ (8 ≤ (k : Int)) := by omega
    have ih := ih (k + 1) m (by push_cast; omega) (by omega)
    rw [show (((k + 1 : Nat)) : Int) = (k : Int) + 1 by push_cast; rfl] at ih
    rw [← ih, fX8_draftFind_L28]
    simp (disch := first | omega | assumption) only [↓z_lt, ↓z_ge, ↓z_gt, ↓z_le, ↓z_eq, ↓z_ne, ↓z_mx, ↓z_mn, ↓z_dv, ↓z_rm, ↓z_i2l, ↓z_lc, ↓z_sw, ↓z_sf, ↓z_sn, ↓z_bd, ↓z_nt, z_b0, z_b1, z_bi, z_bj, ↓z_gF, ↓z_gR, ↓z_pF, ↓z_pZ, ↓z_pR, ↓z_aI, ↓z_aR, ↓z_sI, ↓z_sZ, ↓z_on, z_cl, ↓reduceIte, Int.reduceEq, Int.reduceNeg, Int.reduceLT, Int.reduceLE, Int.reduceAdd, Int.reduceSub, Int.reduceMul, true_and, and_true, or_true, true_or, eq_self, iR_t, k1]
theorem m_nameAt {α : Type} {K : Int → Option α} : cl (fX8_nameAt P τ a b) K = K (96 * a + 8 * b) := e_cl (show fX8_nameAt P τ a b = some (96 * a + 8 * b) from rfl)
theorem find_1 (M : MT P τ f N e) (hL : L = tE f N e - tS f N e) (hL8 : L ≤ 8) (q12 : τ 265 12 = 269) (h0 : 0 ≤ 96 * a + 8 * x) (h1 : 96 * a + 8 * x + 8 ≤ 288) (hB : ∀ i, 0 ≤ i → i < 8 → iR (τ 269 (96 * a + 8 * x + i)) = true) (kE : Int → Option Int) : ∀ (r k m : Nat), (k : Int) + (r : Int) = 8 → r < m → fX8_draftFind_L28 P τ 265 a L x kE m 1 (k : Int) = kE (if eq8 (τ 269) (96 * a + 8 * x) f (tS f N e) L r (k : Int) = true then 1 else 0) := by
  have e0 := M.e0
  have e1 := M.e1
  have ti := tok_in (f := f) M.e0 M.e1
  have hN := M.mb.hN
  generalize hb9 : 96 * a + 8 * x = b8 at *
  intro r
  induction r with
  | zero =>
    intro k m h1 h2
    obtain ⟨m, rfl⟩ : ∃ q, m = q + 1 := ⟨m - 1, by omega⟩
    have k1 : 8 ≤ (k : Int) := by omega
    rw [eq8, if_pos rfl]
    simp (disch := first | omega | assumption) only [fX8_draftFind_L28, ↓z_lt, ↓z_ge, ↓z_gt, ↓z_le, ↓z_eq, ↓z_ne, ↓z_mx, ↓z_mn, ↓z_dv, ↓z_rm, ↓z_i2l, ↓z_lc, ↓z_sw, ↓z_sf, ↓z_sn, ↓z_bd, ↓z_nt, z_b0, z_b1, z_bi, z_bj, ↓z_gF, ↓z_gR, ↓z_pF, ↓z_pZ, ↓z_pR, ↓z_aI, ↓z_aR, ↓z_sI, ↓z_sZ, ↓z_on, z_cl, ↓reduceIte, Int.reduceEq, Int.reduceNeg, Int.reduceLT, Int.reduceLE, Int.reduceAdd, Int.reduceSub, Int.reduceMul, true_and, and_true, or_true, true_or, eq_self, iR_t, k1]
  | succ r ih =>
    intro k m h2 h3
    obtain ⟨m, rfl⟩ : ∃ q, m = q + 1 := ⟨m - 1, by omega⟩
    have k1 : ¬ (8 ≤ (k : Int)) := by omega
    have ih := ih (k + 1) m (by push_cast; omega) (by omega)
    have Z := find_0 (P := P) (τ := τ) (a := a) (L := L) (x := x) kE r (k + 1) m (by push_cast; omega) (by omega)
    rw [show (((k + 1 : Nat)) : Int) = (k : Int) + 1 by push_cast; rfl] at ih Z
    have hb := hB k (by omega) (by omega)
    have hk9 : iR (k : Int) = true := iR_t (by omega) (by omega)
    have hL9 : iR L = true := iR_t (by omega) (by omega)
    rw [eq8]
    by_cases c2 : (k : Int) < L
    · have k2 : ¬ (L ≤ (k : Int)) := by omega
      have by9 := M.mb.by' (tS f N e + k) (by omega) (by omega)
      have fr := M.mb.fr (tS f N e + k) (by omega) (by omega)
      have hr : iR (f (tS f N e + (k : Int))) = true := iR_t (by omega) (by omega)
      rw [if_pos c2]
      by_cases c : τ 269 (b8 + (k : Int)) = f (tS f N e + (k : Int))
      · rw [decide_eq_true c, Bool.true_and, ← ih]
        rw [fX8_draftFind_L28, z_ge, if_pos hk9, if_pos (show iR 8 = true from rfl), if_neg k1, z_nt, z_nt, z_eq, if_pos (show iR 1 = true from rfl), if_pos (show iR 0 = true from rfl), if_neg (show ¬ ((1 : Int) = 0) by omega), z_gR, if_pos (sO265 M.mb.sh), if_neg (show ¬ (τ 265 12 = -1) by rw [q12]; omega), q12, m_nameAt, hb9, z_aI, if_pos (sA269 M.mb.sh (show 0 ≤ b8 + (k : Int) by omega) (by omega)), z_nt, z_ge, if_pos hk9, if_pos hL9, if_neg k2, z_gR, if_pos (sO265 M.mb.sh), if_neg (show ¬ (τ 265 1 = -1) by rw [M.mb.r1]; omega), M.mb.r1, z_gF, if_pos (sO265 M.mb.sh), M.ss, z_aI, if_pos (sA266 M.mb.sh (show 0 ≤ tS f N e + (k : Int) by omega) (by omega)), by9]
        dsimp only
        rw [z_ne, if_pos hb, if_pos hr, if_pos c, z_bd]
      · rw [decide_eq_false c, Bool.false_and, if_neg (by simp), ← Z]
        rw [fX8_draftFind_L28, z_ge, if_pos hk9, if_pos (show iR 8 = true from rfl), if_neg k1, z_nt, z_nt, z_eq, if_pos (show iR 1 = true from rfl), if_pos (show iR 0 = true from rfl), if_neg (show ¬ ((1 : Int) = 0) by omega), z_gR, if_pos (sO265 M.mb.sh), if_neg (show ¬ (τ 265 12 = -1) by rw [q12]; omega), q12, m_nameAt, hb9, z_aI, if_pos (sA269 M.mb.sh (show 0 ≤ b8 + (k : Int) by omega) (by omega)), z_nt, z_ge, if_pos hk9, if_pos hL9, if_neg k2, z_gR, if_pos (sO265 M.mb.sh), if_neg (show ¬ (τ 265 1 = -1) by rw [M.mb.r1]; omega), M.mb.r1, z_gF, if_pos (sO265 M.mb.sh), M.ss, z_aI, if_pos (sA266 M.mb.sh (show 0 ≤ tS f N e + (k : Int) by omega) (by omega)), by9]
        dsimp only
        rw [z_ne, if_pos hb, if_pos hr, if_neg c, z_bd]
    · have k2 : L ≤ (k : Int) := by omega
      rw [if_neg c2]
      by_cases c : τ 269 (b8 + (k : Int)) = 0
      · rw [decide_eq_true c, Bool.true_and, ← ih]
        rw [fX8_draftFind_L28, z_ge, if_pos hk9, if_pos (show iR 8 = true from rfl), if_neg k1, z_nt, z_nt, z_eq, if_pos (show iR 1 = true from rfl), if_pos (show iR 0 = true from rfl), if_neg (show ¬ ((1 : Int) = 0) by omega), z_gR, if_pos (sO265 M.mb.sh), if_neg (show ¬ (τ 265 12 = -1) by rw [q12]; omega), q12, m_nameAt, hb9, z_aI, if_pos (sA269 M.mb.sh (show 0 ≤ b8 + (k : Int) by omega) (by omega)), z_nt, z_ge, if_pos hk9, if_pos hL9, if_pos k2]
        dsimp only
        rw [z_ne, if_pos hb, if_pos (show iR 0 = true from rfl), if_pos c, z_bd]
      · rw [decide_eq_false c, Bool.false_and, if_neg (by simp), ← Z]
        rw [fX8_draftFind_L28, z_ge, if_pos hk9, if_pos (show iR 8 = true from rfl), if_neg k1, z_nt, z_nt, z_eq, if_pos (show iR 1 = true from rfl), if_pos (show iR 0 = true from rfl), if_neg (show ¬ ((1 : Int) = 0) by omega), z_gR, if_pos (sO265 M.mb.sh), if_neg (show ¬ (τ 265 12 = -1) by rw [q12]; omega), q12, m_nameAt, hb9, z_aI, if_pos (sA269 M.mb.sh (show 0 ≤ b8 + (k : Int) by omega) (by omega)), z_nt, z_ge, if_pos hk9, if_pos hL9, if_pos k2]
        dsimp only
        rw [z_ne, if_pos hb, if_pos (show iR 0 = true from rfl), if_neg c, z_bd]
theorem nm_byte (hn : nm1 h1 B s1) (h0 : 0 ≤ i) (h8 : i < 8) : iR (B (s1 + i)) = true := by
  obtain ⟨l, l1, l8, hh, hb, hz⟩ := hn
  by_cases c : i < (l : Int)
  · have := hb i h0 c
    exact iR_t (by omega) (by omega)
  · rw [hz i (by omega) h8]; rfl
theorem m_find (M : MT P τ f N e) (hw : tT f N e = 1) (hk : kd = 0 ∨ kd = 1 ∨ kd = 2) (q12 : τ 265 12 = 269) (q10 : τ 265 10 = 267) (hc : τ 267 kd = cnt) (h0 : 0 ≤ cnt) (h1 : cnt ≤ cpN kd) (hn : NM h (τ 269) (96 * kd) cnt) : fX8_draftFind P τ 265 kd = some (fdI h (tV f N e) cnt) := by
  have tw := tw_in M.e0 M.e1 hw
  have ti := tok_in (f := f) M.e0 M.e1
  have e0 := M.e0
  have hN := M.mb.hN
  have c12 : cpN kd ≤ 12 := by unfold cpN; repeat' split <;> omega
  have hk2 : 0 ≤ kd ∧ kd ≤ 2 := by omega
  generalize hL : tE f N e - tS f N e = L at tw
  have key : fX8_draftFind_L12 P τ 265 kd L (some (-1)) (fun x17 => some x17) 1000 0 = some (fdI h (tV f N e) cnt) := by
    unfold fdI
    refine loop_f (fun m k => fX8_draftFind_L12 P τ 265 kd L (some (-1)) (fun x6 => some x6) m k) (some (-1)) (fun x => some x) cnt.toNat _ (fun k m hk1 => ?_) (fun m => ?_) (by omega) rfl
    · have k1 : ¬ (cnt ≤ (k : Int)) := by omega
      have hn1 := hn k (by omega) (by omega)
      have E := nm_eq hn1 (L := L) (f := f) (ts := tS f N e) ⟨tw.1, tw.2.1⟩ tw.2.2.1
      rw [← tw.2.2.2] at E
      have F := find_1 M hL.symm tw.2.1 q12 (a := kd) (x := (k : Int)) (by omega) (by omega) (fun i i0 i1 => nm_byte hn1 i0 i1) (fun x15 => jeq x15 0 (bd ((k : Int) + 1) fun x16 => fX8_draftFind_L12 P τ 265 kd L (some (-1)) (fun x6 => some x6) m x16) (some (k : Int))) 8 0 1000 (by decide) (by omega)
      rw [show ((0 : Nat) : Int) = 0 from rfl] at F
      show fX8_draftFind_L12 P τ 265 kd L (some (-1)) (fun x6 => some x6) (m + 1) (k : Int) = _
      rw [fX8_draftFind_L12, z_gR, if_pos (sO265 M.mb.sh), if_neg (by rw [q10]; omega), q10, z_aI, if_pos (sA267 M.mb.sh (by omega) (by omega)), hc, z_ge, if_pos (iR_t (by omega) (by omega)), if_pos (iR_t (by omega) (by omega)), if_neg k1, F]
      by_cases c : h (k : Int) = tV f N e
      · rw [if_pos (E.mpr c), if_pos (decide_eq_true c)]
        rfl
      · rw [if_neg (fun w => c (E.mp w)), if_neg (by simpa using c)]
        rfl
    · have k1 : cnt ≤ ((cnt.toNat : Nat) : Int) := by omega
      simp (disch := first | omega | assumption) only [fX8_draftFind_L12, ↓z_lt, ↓z_ge, ↓z_gt, ↓z_le, ↓z_eq, ↓z_ne, ↓z_mx, ↓z_mn, ↓z_dv, ↓z_rm, ↓z_i2l, ↓z_lc, ↓z_sw, ↓z_sf, ↓z_sn, ↓z_bd, ↓z_nt, z_b0, z_b1, z_bi, z_bj, ↓z_gF, ↓z_gR, ↓z_pF, ↓z_pZ, ↓z_pR, ↓z_aI, ↓z_aR, ↓z_sI, ↓z_sZ, ↓z_on, z_cl, ↓reduceIte, Int.reduceEq, Int.reduceNeg, Int.reduceLT, Int.reduceLE, Int.reduceAdd, Int.reduceSub, Int.reduceMul, true_and, and_true, or_true, true_or, eq_self, iR_t, sO265 M.mb.sh, sA267 M.mb.sh, q10, hc, k1]
  unfold fX8_draftFind
  rw [z_gF, if_pos (sO265 M.mb.sh), z_gF, if_pos (sO265 M.mb.sh), z_bd, M.ss, M.ee, hL]
  exact key
theorem m_find' {ω : Type} {K : _ → Option ω} (M : MT P τ f N e) (hw : tT f N e = 1) (hk : kd = 0 ∨ kd = 1 ∨ kd = 2) (q12 : τ 265 12 = 269) (q10 : τ 265 10 = 267) (hc : τ 267 kd = cnt) (h0 : 0 ≤ cnt) (h1 : cnt ≤ cpN kd) (hn : NM h (τ 269) (96 * kd) cnt) : cl (fX8_draftFind P τ 265 kd) K = K ((fdI h (tV f N e) cnt)) := e_cl (m_find M hw hk q12 q10 hc h0 h1 hn)
end ZZJ
