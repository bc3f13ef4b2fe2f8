/-! THE CLASS AT A TOKEN. -/
def lnZ (z : Int) : Int := ((lenS.getD (-2 - z).toNat 0 : Nat) : Int)
def chZ (z i : Int) : Int := ((bytS.getD (-2 - z).toNat []).getD i.toNat 0).toInt
def eqF (g : Int → Int) (s z : Int) : Nat → Int → Bool
  | 0, _ => true
  | n + 1, k => decide (g (s + k) = chZ z k) && eqF g s z n (k + 1)
def wdB (f : Int → Int) (N e z : Int) : Bool := decide (tT f N e = 1) && decide (tE f N e - tS f N e = lnZ z) && eqF f (tS f N e) z (lnZ z).toNat 0
def CT (P : Shp) (σ : St) (f : Int → Int) (N e : Int) : Prop :=
  (RB P σ f N) ∧
  (0 ≤ e) ∧
  (e ≤ N) ∧
  (σ 1 5 = tS f N e) ∧
  (σ 1 3 = tE f N e) ∧
  (σ 1 4 = tT f N e) ∧
  ((tT f N e = 1 ∨ tT f N e = 2) → σ 1 6 = tV f N e)
theorem CT.rb {P : Shp} {σ : St} {f : Int → Int} {N e : Int} (h : CT P σ f N e) : RB P σ f N := h.1
theorem CT.e0 {P : Shp} {σ : St} {f : Int → Int} {N e : Int} (h : CT P σ f N e) : 0 ≤ e := h.2.1
theorem CT.e1 {P : Shp} {σ : St} {f : Int → Int} {N e : Int} (h : CT P σ f N e) : e ≤ N := h.2.2.1
theorem CT.ss {P : Shp} {σ : St} {f : Int → Int} {N e : Int} (h : CT P σ f N e) : σ 1 5 = tS f N e := h.2.2.2.1
theorem CT.ee {P : Shp} {σ : St} {f : Int → Int} {N e : Int} (h : CT P σ f N e) : σ 1 3 = tE f N e := h.2.2.2.2.1
theorem CT.tt {P : Shp} {σ : St} {f : Int → Int} {N e : Int} (h : CT P σ f N e) : σ 1 4 = tT f N e := h.2.2.2.2.2.1
theorem CT.vv {P : Shp} {σ : St} {f : Int → Int} {N e : Int} (h : CT P σ f N e) : (tT f N e = 1 ∨ tT f N e = 2) → σ 1 6 = tV f N e := h.2.2.2.2.2.2
section ZZH
variable {P : Shp} {σ σ' s : St} {f g h : Int → Int} {a b c d e k i j x y z v w N tk ts tt q cnt kd : Int} {n r l L : Nat}
theorem z_sln {α : Type} {K : Int → Option α} : sln z K = if 0 ≤ -2 - z ∧ -2 - z < 25 then K (lnZ z) else none := rfl
theorem z_sch {α : Type} {K : Int → Option α} : sch z i K = if 0 ≤ -2 - z ∧ -2 - z < 25 ∧ 0 ≤ i ∧ i < lnZ z then K (chZ z i) else none := rfl
theorem lnZ_in (h : 0 ≤ -2 - z ∧ -2 - z < 10) : 3 ≤ lnZ z ∧ lnZ z ≤ 7 := by
  have key : ∀ i : Nat, i < 10 → (3 : Int) ≤ ((lenS.getD i 0 : Nat) : Int) ∧ ((lenS.getD i 0 : Nat) : Int) ≤ 7 := by decide +kernel
  exact key (-2 - z).toNat (by omega)
theorem vl_d (hd : ∀ k : Nat, k < n → 48 ≤ f (ts + (k : Int)) ∧ f (ts + (k : Int)) ≤ 57) : 0 ≤ vlF f 10 48 ts n ∧ (n = 0 → vlF f 10 48 ts n = 0) ∧ (n = 1 → vlF f 10 48 ts n ≤ 9) ∧ (n = 2 → vlF f 10 48 ts n ≤ 99) ∧ (n = 3 → vlF f 10 48 ts n ≤ 999) ∧ (n = 4 → vlF f 10 48 ts n ≤ 9999) := by
  induction n with
  | zero => exact ⟨Int.le_refl _, fun _ => rfl, fun w => by omega, fun w => by omega, fun w => by omega, fun w => by omega⟩
  | succ n ih =>
    obtain ⟨a0, a1, a2, a3, a4, a5⟩ := ih (fun k hk => hd k (by omega))
    have := hd n (by omega)
    rw [vlF_s]
    refine ⟨by omega, fun w => by omega, fun w => ?_, fun w => ?_, fun w => ?_, fun w => ?_⟩
    · have := a1 (by omega); omega
    · have := a2 (by omega); omega
    · have := a3 (by omega); omega
    · have := a4 (by omega); omega
theorem chZ_R (z i : Int) : iR (chZ z i) = true := by
  have := i32_inR ((bytS.getD (-2 - z).toNat []).getD i.toNat 0)
  exact this
theorem tok_in (e0 : 0 ≤ e) (e1 : e ≤ N) : e ≤ tS f N e ∧ tS f N e ≤ tE f N e ∧ tE f N e ≤ N ∧ (tS f N e < N → tS f N e < tE f N e) := by
  have a := tS_in (f := f) e1
  have b1 := skp_in (ltB f) N _ (tS f N e) a.2 rfl
  have b2 := skp_in (dgB f) N _ (tS f N e) a.2 rfl
  unfold tE
  by_cases c : tS f N e < N
  · rw [if_pos c]
    by_cases c1 : ltB f (tS f N e) = true
    · rw [if_pos c1]
      refine ⟨a.1, b1.1, b1.2.1, fun _ => ?_⟩
      by_cases y : tS f N e < skp (ltB f) N (tS f N e)
      · exact y
      · have y2 : skp (ltB f) N (tS f N e) = tS f N e := by omega
        have := b1.2.2.2 (by omega)
        rw [y2, c1] at this
        cases this
    · rw [if_neg c1]
      by_cases c2 : dgB f (tS f N e) = true
      · rw [if_pos c2]
        refine ⟨a.1, b2.1, b2.2.1, fun _ => ?_⟩
        by_cases y : tS f N e < skp (dgB f) N (tS f N e)
        · exact y
        · have y2 : skp (dgB f) N (tS f N e) = tS f N e := by omega
          have := b2.2.2.2 (by omega)
          rw [y2, c2] at this
          cases this
      · rw [if_neg c2]; omega
  · rw [if_neg c]; omega
theorem tT_in : 0 ≤ tT f N e ∧ tT f N e ≤ 4 := by
  unfold tT
  repeat' split
  all_goals omega
theorem tV_in (e0 : 0 ≤ e) (e1 : e ≤ N) (h : tT f N e = 2) : 0 ≤ tV f N e ∧ tV f N e ≤ 9999 := by
  have a := tS_in (f := f) e1
  have b2 := skp_in (dgB f) N _ (tS f N e) a.2 rfl
  unfold tT at h
  by_cases c : tS f N e < N
  · rw [if_pos c] at h
    by_cases c1 : ltB f (tS f N e) = true
    · rw [if_pos c1] at h
      exfalso; revert h; split <;> omega
    · rw [if_neg c1] at h
      by_cases c2 : dgB f (tS f N e) = true
      · rw [if_pos c2] at h
        have hE : tE f N e = skp (dgB f) N (tS f N e) := by unfold tE; rw [if_pos c, if_neg c1, if_pos c2]
        have h4 : tE f N e - tS f N e ≤ 4 := by
          by_cases y : tE f N e - tS f N e ≤ 4
          · exact y
          · rw [if_neg y] at h; omega
        unfold tV
        rw [if_neg c1, hE]
        rw [hE] at h4
        have key := vl_d (f := f) (ts := tS f N e) (n := (skp (dgB f) N (tS f N e) - tS f N e).toNat) (fun k hk => by
          have := b2.2.2.1 (tS f N e + k) (by omega) (by omega)
          exact of_decide_eq_true this)
        obtain ⟨k0, k1, k2, k3, k4, k5⟩ := key
        refine ⟨k0, ?_⟩
        have : (skp (dgB f) N (tS f N e) - tS f N e).toNat = 0 ∨ (skp (dgB f) N (tS f N e) - tS f N e).toNat = 1 ∨ (skp (dgB f) N (tS f N e) - tS f N e).toNat = 2 ∨ (skp (dgB f) N (tS f N e) - tS f N e).toNat = 3 ∨ (skp (dgB f) N (tS f N e) - tS f N e).toNat = 4 := by omega
        rcases this with w | w | w | w | w
        · have := k1 w; omega
        · have := k2 w; omega
        · have := k3 w; omega
        · have := k4 w; omega
        · have := k5 w; omega
      · rw [if_neg c2] at h
        exfalso; revert h; split <;> omega
  · rw [if_neg c] at h; omega
theorem CT.fr (C : CT P σ f N e) (h : ∀ j, 0 ≤ j → j ≤ 6 → s 1 j = σ 1 j) (h2 : s 2 = σ 2) : CT P s f N e := by
  obtain ⟨R, e0, e1, ss, ee, tt, vv⟩ := C
  refine ⟨⟨R.sh, by rw [h 0 (by omega) (by omega)]; exact R.r0, by rw [h 2 (by omega) (by omega)]; exact R.r2, R.hN, h2.trans R.by', R.fr⟩, e0, e1, ?_, ?_, ?_, ?_⟩
  · rw [h 5 (by omega) (by omega)]; exact ss
  · rw [h 3 (by omega) (by omega)]; exact ee
  · rw [h 4 (by omega) (by omega)]; exact tt
  · rw [h 6 (by omega) (by omega)]; exact vv
theorem c_adv (C : CT P σ f N e) : ∃ σ', fX5_advance P σ 1 = some σ' ∧ CT P σ' f N (tE f N e) ∧ (∀ o, o ≠ 1 → σ' o = σ o) ∧ (∀ j, (j < 3 ∨ 6 < j) → σ' 1 j = σ 1 j) := by
  have e0 := C.e0
  have e1 := C.e1
  have ti := tok_in (f := f) C.e0 C.e1
  obtain ⟨σ', r, A⟩ := c_advance C.rb (by rw [C.ee]; omega) (by rw [C.ee]; omega)
  rw [C.ee] at A
  refine ⟨σ', r, ⟨⟨C.rb.sh, ?_, ?_, C.rb.hN, ?_, C.rb.fr⟩, by omega, by omega, A.ss, A.ee, A.tt, A.vv⟩, A.oo, A.jj⟩
  · rw [A.jj 0 (by omega)]; exact C.rb.r0
  · rw [A.jj 2 (by omega)]; exact C.rb.r2
  · rw [A.oo 2 (by omega)]; exact C.rb.by'
theorem c_word_L (C : CT P σ f N e) (hz : 0 ≤ -2 - z ∧ -2 - z < 10) (hl : tE f N e - tS f N e = lnZ z) (kA kB : Option Int) : ∀ (r k m : Nat), (k : Int) + (r : Int) = lnZ z → r < m → fX5_isWord_L28 P σ 1 z kA kB m (k : Int) = if eqF f (tS f N e) z r (k : Int) = true then kA else kB := by
  have e0 := C.e0
  have e1 := C.e1
  have ti := tok_in (f := f) C.e0 C.e1
  have hN := C.rb.hN
  have hln := lnZ_in hz
  have hz25 : -2 - z < 25 := by omega
  intro r
  induction r with
  | zero =>
    intro k m h1 h2
    obtain ⟨m, rfl⟩ : ∃ q, m = q + 1 := ⟨m - 1, by omega⟩
    have k1 : lnZ z ≤ (k : Int) := by omega
    rw [eqF, if_pos rfl]
    simp (disch := first | omega | assumption) only [fX5_isWord_L28, ↓z_lt, ↓z_ge, ↓z_gt, ↓z_le, ↓z_eq, ↓z_ne, ↓z_mx, ↓z_mn, ↓z_dv, ↓z_rm, ↓z_i2l, ↓z_lc, ↓z_sw, ↓z_sf, ↓z_sn, ↓z_bd, ↓z_nt, z_b0, z_b1, z_bi, z_bj, ↓z_gF, ↓z_gR, ↓z_pF, ↓z_pZ, ↓z_pR, ↓z_aI, ↓z_aR, ↓z_sI, ↓z_sZ, ↓z_on, z_cl, ↓reduceIte, Int.reduceEq, Int.reduceNeg, Int.reduceLT, Int.reduceLE, Int.reduceAdd, Int.reduceSub, Int.reduceMul, true_and, and_true, or_true, true_or, eq_self, iR_t, hz25, z_sln, hz, k1]
  | succ r ih =>
    intro k m h1 h2
    obtain ⟨m, rfl⟩ : ∃ q, m = q + 1 := ⟨m - 1, by omega⟩
    have k1 : ¬ (lnZ z ≤ (k : Int)) := by omega
    have k2 : 0 ≤ -2 - z ∧ -2 - z < 10 ∧ 0 ≤ (k : Int) ∧ (k : Int) < lnZ z := by omega
    have fr := C.rb.fr (tS f N e + k) (by omega) (by omega)
    have hr : iR (f (tS f N e + (k : Int))) = true := iR_t (by omega) (by omega)
    have hc : iR (chZ z (k : Int)) = true := chZ_R _ _
    have ih := ih (k + 1) m (by push_cast; omega) (by omega)
    rw [show (((k + 1 : Nat)) : Int) = (k : Int) + 1 by push_cast; rfl] at ih
    rw [eqF]
    by_cases c : f (tS f N e + (k : Int)) = chZ z (k : Int)
    · rw [decide_eq_true c, Bool.true_and, ← ih]
      simp (disch := first | omega | assumption) only [fX5_isWord_L28, ↓z_lt, ↓z_ge, ↓z_gt, ↓z_le, ↓z_eq, ↓z_ne, ↓z_mx, ↓z_mn, ↓z_dv, ↓z_rm, ↓z_i2l, ↓z_lc, ↓z_sw, ↓z_sf, ↓z_sn, ↓z_bd, ↓z_nt, z_b0, z_b1, z_bi, z_bj, ↓z_gF, ↓z_gR, ↓z_pF, ↓z_pZ, ↓z_pR, ↓z_aI, ↓z_aR, ↓z_sI, ↓z_sZ, ↓z_on, z_cl, ↓reduceIte, Int.reduceEq, Int.reduceNeg, Int.reduceLT, Int.reduceLE, Int.reduceAdd, Int.reduceSub, Int.reduceMul, true_and, and_true, or_true, true_or, eq_self, iR_t, sO1 C.rb.sh, sA2 C.rb.sh, C.rb.r0, C.rb.by', C.ss, hz25, z_sln, z_sch, hz, k1, k2, hr, hc, c, and_self]
    · rw [decide_eq_false c, Bool.false_and, if_neg (by simp)]
      simp (disch := first | omega | assumption) only [fX5_isWord_L28, ↓z_lt, ↓z_ge, ↓z_gt, ↓z_le, ↓z_eq, ↓z_ne, ↓z_mx, ↓z_mn, ↓z_dv, ↓z_rm, ↓z_i2l, ↓z_lc, ↓z_sw, ↓z_sf, ↓z_sn, ↓z_bd, ↓z_nt, z_b0, z_b1, z_bi, z_bj, ↓z_gF, ↓z_gR, ↓z_pF, ↓z_pZ, ↓z_pR, ↓z_aI, ↓z_aR, ↓z_sI, ↓z_sZ, ↓z_on, z_cl, ↓reduceIte, Int.reduceEq, Int.reduceNeg, Int.reduceLT, Int.reduceLE, Int.reduceAdd, Int.reduceSub, Int.reduceMul, true_and, and_true, or_true, true_or, eq_self, iR_t, sO1 C.rb.sh, sA2 C.rb.sh, C.rb.r0, C.rb.by', C.ss, hz25, z_sln, z_sch, hz, k1, k2, hr, hc, c, and_self]
theorem c_isWord (C : CT P σ f N e) (hz : 0 ≤ -2 - z ∧ -2 - z < 10) : fX5_isWord P σ 1 z = some (if wdB f N e z = true then 1 else 0) := by
  have e0 := C.e0
  have e1 := C.e1
  have ti := tok_in (f := f) C.e0 C.e1
  have hN := C.rb.hN
  have hln := lnZ_in hz
  have hz25 : -2 - z < 25 := by omega
  have htt := tT_in (f := f) (N := N) (e := e)
  unfold wdB
  by_cases c1 : tT f N e = 1
  · by_cases c2 : tE f N e - tS f N e = lnZ z
    · have L := c_word_L C hz c2 (bz 1 (some (1 : Int))) (bz 0 (some (0 : Int))) (lnZ z).toNat 0 1000 (by push_cast; omega) (by omega)
      rw [show ((0 : Nat) : Int) = 0 from rfl] at L
      rw [decide_eq_true c1, decide_eq_true c2, Bool.true_and, Bool.true_and]
      unfold fX5_isWord
      rw [z_gF, if_pos (sO1 C.rb.sh), C.tt, c1]
      simp (disch := first | omega | assumption) only [↓z_lt, ↓z_ge, ↓z_gt, ↓z_le, ↓z_eq, ↓z_ne, ↓z_mx, ↓z_mn, ↓z_dv, ↓z_rm, ↓z_i2l, ↓z_lc, ↓z_sw, ↓z_sf, ↓z_sn, ↓z_bd, ↓z_nt, z_b0, z_b1, z_bi, z_bj, ↓z_gF, ↓z_gR, ↓z_pF, ↓z_pZ, ↓z_pR, ↓z_aI, ↓z_aR, ↓z_sI, ↓z_sZ, ↓z_on, z_cl, ↓reduceIte, Int.reduceEq, Int.reduceNeg, Int.reduceLT, Int.reduceLE, Int.reduceAdd, Int.reduceSub, Int.reduceMul, true_and, and_true, or_true, true_or, eq_self, iR_t, sO1 C.rb.sh, C.ss, C.ee, hz25, z_sln, hz, c2]
      refine L.trans ?_
      split <;> rfl
    · rw [decide_eq_true c1, decide_eq_false c2]
      simp (disch := first | omega | assumption) only [fX5_isWord, ↓z_lt, ↓z_ge, ↓z_gt, ↓z_le, ↓z_eq, ↓z_ne, ↓z_mx, ↓z_mn, ↓z_dv, ↓z_rm, ↓z_i2l, ↓z_lc, ↓z_sw, ↓z_sf, ↓z_sn, ↓z_bd, ↓z_nt, z_b0, z_b1, z_bi, z_bj, ↓z_gF, ↓z_gR, ↓z_pF, ↓z_pZ, ↓z_pR, ↓z_aI, ↓z_aR, ↓z_sI, ↓z_sZ, ↓z_on, z_cl, ↓reduceIte, Int.reduceEq, Int.reduceNeg, Int.reduceLT, Int.reduceLE, Int.reduceAdd, Int.reduceSub, Int.reduceMul, true_and, and_true, or_true, true_or, eq_self, iR_t, sO1 C.rb.sh, C.tt, C.ss, C.ee, c1, hz25, z_sln, hz, c2, Bool.and_false, Bool.false_and, Bool.false_eq_true]
  · rw [decide_eq_false c1]
    simp (disch := first | omega | assumption) only [fX5_isWord, ↓z_lt, ↓z_ge, ↓z_gt, ↓z_le, ↓z_eq, ↓z_ne, ↓z_mx, ↓z_mn, ↓z_dv, ↓z_rm, ↓z_i2l, ↓z_lc, ↓z_sw, ↓z_sf, ↓z_sn, ↓z_bd, ↓z_nt, z_b0, z_b1, z_bi, z_bj, ↓z_gF, ↓z_gR, ↓z_pF, ↓z_pZ, ↓z_pR, ↓z_aI, ↓z_aR, ↓z_sI, ↓z_sZ, ↓z_on, z_cl, ↓reduceIte, Int.reduceEq, Int.reduceNeg, Int.reduceLT, Int.reduceLE, Int.reduceAdd, Int.reduceSub, Int.reduceMul, true_and, and_true, or_true, true_or, eq_self, iR_t, sO1 C.rb.sh, C.tt, c1, Bool.false_and, Bool.false_eq_true]
theorem c_isWord' {ω : Type} {K : _ → Option ω} (C : CT P σ f N e) (hz : 0 ≤ -2 - z ∧ -2 - z < 10) : cl (fX5_isWord P σ 1 z) K = K ((if wdB f N e z = true then 1 else 0)) := e_cl (c_isWord C hz)
theorem c_num1 (C : CT P σ f N e) (h : tT f N e = 2) (ha : iR a = true) (hb : iR b = true) (h1 : a ≤ tV f N e) (h2 : tV f N e ≤ b) : fX5_isNumberWithin P σ 1 a b = some (1, σ) := by
  have hv := tV_in C.e0 C.e1 h
  have v6 : σ 1 6 = tV f N e := C.vv (Or.inr h)
  have hl : iL (tV f N e) = true := iL_t (by omega) (by omega)
  have aR := iR_of ha
  have bR := iR_of hb
  have la : iL a = true := iL_t (by omega) (by omega)
  have lb : iL b = true := iL_t (by omega) (by omega)
  have k1 : ¬ (tV f N e < a) := by omega
  by_cases k2 : a < tV f N e
  · by_cases k3 : tV f N e < b
    · have k4 : ¬ (b < tV f N e) := by omega
      have k5 : ¬ (tV f N e = b) := by omega
      simp (disch := first | omega | assumption) only [fX5_isNumberWithin, ↓z_lt, ↓z_ge, ↓z_gt, ↓z_le, ↓z_eq, ↓z_ne, ↓z_mx, ↓z_mn, ↓z_dv, ↓z_rm, ↓z_i2l, ↓z_lc, ↓z_sw, ↓z_sf, ↓z_sn, ↓z_bd, ↓z_nt, z_b0, z_b1, z_bi, z_bj, ↓z_gF, ↓z_gR, ↓z_pF, ↓z_pZ, ↓z_pR, ↓z_aI, ↓z_aR, ↓z_sI, ↓z_sZ, ↓z_on, z_cl, ↓reduceIte, Int.reduceEq, Int.reduceNeg, Int.reduceLT, Int.reduceLE, Int.reduceAdd, Int.reduceSub, Int.reduceMul, true_and, and_true, or_true, true_or, eq_self, iR_t, sO1 C.rb.sh, C.tt, h, v6, ha, hb, hl, la, lb, k1, k2, k3, k4, k5]
    · have k4 : ¬ (b < tV f N e) := by omega
      have k5 : tV f N e = b := by omega
      simp (disch := first | omega | assumption) only [fX5_isNumberWithin, ↓z_lt, ↓z_ge, ↓z_gt, ↓z_le, ↓z_eq, ↓z_ne, ↓z_mx, ↓z_mn, ↓z_dv, ↓z_rm, ↓z_i2l, ↓z_lc, ↓z_sw, ↓z_sf, ↓z_sn, ↓z_bd, ↓z_nt, z_b0, z_b1, z_bi, z_bj, ↓z_gF, ↓z_gR, ↓z_pF, ↓z_pZ, ↓z_pR, ↓z_aI, ↓z_aR, ↓z_sI, ↓z_sZ, ↓z_on, z_cl, ↓reduceIte, Int.reduceEq, Int.reduceNeg, Int.reduceLT, Int.reduceLE, Int.reduceAdd, Int.reduceSub, Int.reduceMul, true_and, and_true, or_true, true_or, eq_self, iR_t, sO1 C.rb.sh, C.tt, h, v6, ha, hb, hl, la, lb, k1, k2, k3, k4, ↓reduceIte]
      simp (disch := first | omega | assumption) only [k5, ↓z_lt, ↓z_ge, ↓z_gt, ↓z_le, ↓z_eq, ↓z_ne, ↓z_mx, ↓z_mn, ↓z_dv, ↓z_rm, ↓z_i2l, ↓z_lc, ↓z_sw, ↓z_sf, ↓z_sn, ↓z_bd, ↓z_nt, z_b0, z_b1, z_bi, z_bj, ↓z_gF, ↓z_gR, ↓z_pF, ↓z_pZ, ↓z_pR, ↓z_aI, ↓z_aR, ↓z_sI, ↓z_sZ, ↓z_on, z_cl, ↓reduceIte, Int.reduceEq, Int.reduceNeg, Int.reduceLT, Int.reduceLE, Int.reduceAdd, Int.reduceSub, Int.reduceMul, true_and, and_true, or_true, true_or, eq_self, iR_t]
  · have k6 : tV f N e = a := by omega
    by_cases k3 : tV f N e < b
    · have k4 : ¬ (b < tV f N e) := by omega
      have k5 : ¬ (tV f N e = b) := by omega
      simp (disch := first | omega | assumption) only [fX5_isNumberWithin, ↓z_lt, ↓z_ge, ↓z_gt, ↓z_le, ↓z_eq, ↓z_ne, ↓z_mx, ↓z_mn, ↓z_dv, ↓z_rm, ↓z_i2l, ↓z_lc, ↓z_sw, ↓z_sf, ↓z_sn, ↓z_bd, ↓z_nt, z_b0, z_b1, z_bi, z_bj, ↓z_gF, ↓z_gR, ↓z_pF, ↓z_pZ, ↓z_pR, ↓z_aI, ↓z_aR, ↓z_sI, ↓z_sZ, ↓z_on, z_cl, ↓reduceIte, Int.reduceEq, Int.reduceNeg, Int.reduceLT, Int.reduceLE, Int.reduceAdd, Int.reduceSub, Int.reduceMul, true_and, and_true, or_true, true_or, eq_self, iR_t, sO1 C.rb.sh, C.tt, h, v6, ha, hb, hl, la, lb, k1, k2, k3, k4, k5]
      try simp (disch := first | omega | assumption) only [k6, ↓z_lt, ↓z_ge, ↓z_gt, ↓z_le, ↓z_eq, ↓z_ne, ↓z_mx, ↓z_mn, ↓z_dv, ↓z_rm, ↓z_i2l, ↓z_lc, ↓z_sw, ↓z_sf, ↓z_sn, ↓z_bd, ↓z_nt, z_b0, z_b1, z_bi, z_bj, ↓z_gF, ↓z_gR, ↓z_pF, ↓z_pZ, ↓z_pR, ↓z_aI, ↓z_aR, ↓z_sI, ↓z_sZ, ↓z_on, z_cl, ↓reduceIte, Int.reduceEq, Int.reduceNeg, Int.reduceLT, Int.reduceLE, Int.reduceAdd, Int.reduceSub, Int.reduceMul, true_and, and_true, or_true, true_or, eq_self, iR_t]
    · have k4 : ¬ (b < tV f N e) := by omega
      have k5 : tV f N e = b := by omega
      simp (disch := first | omega | assumption) only [fX5_isNumberWithin, ↓z_lt, ↓z_ge, ↓z_gt, ↓z_le, ↓z_eq, ↓z_ne, ↓z_mx, ↓z_mn, ↓z_dv, ↓z_rm, ↓z_i2l, ↓z_lc, ↓z_sw, ↓z_sf, ↓z_sn, ↓z_bd, ↓z_nt, z_b0, z_b1, z_bi, z_bj, ↓z_gF, ↓z_gR, ↓z_pF, ↓z_pZ, ↓z_pR, ↓z_aI, ↓z_aR, ↓z_sI, ↓z_sZ, ↓z_on, z_cl, ↓reduceIte, Int.reduceEq, Int.reduceNeg, Int.reduceLT, Int.reduceLE, Int.reduceAdd, Int.reduceSub, Int.reduceMul, true_and, and_true, or_true, true_or, eq_self, iR_t, sO1 C.rb.sh, C.tt, h, v6, ha, hb, hl, la, lb, k1, k2, k3, k4]
      try simp (disch := first | omega | assumption) only [k5, ↓z_lt, ↓z_ge, ↓z_gt, ↓z_le, ↓z_eq, ↓z_ne, ↓z_mx, ↓z_mn, ↓z_dv, ↓z_rm, ↓z_i2l, ↓z_lc, ↓z_sw, ↓z_sf, ↓z_sn, ↓z_bd, ↓z_nt, z_b0, z_b1, z_bi, z_bj, ↓z_gF, ↓z_gR, ↓z_pF, ↓z_pZ, ↓z_pR, ↓z_aI, ↓z_aR, ↓z_sI, ↓z_sZ, ↓z_on, z_cl, ↓reduceIte, Int.reduceEq, Int.reduceNeg, Int.reduceLT, Int.reduceLE, Int.reduceAdd, Int.reduceSub, Int.reduceMul, true_and, and_true, or_true, true_or, eq_self, iR_t]
      try simp (disch := first | omega | assumption) only [k6, ↓z_lt, ↓z_ge, ↓z_gt, ↓z_le, ↓z_eq, ↓z_ne, ↓z_mx, ↓z_mn, ↓z_dv, ↓z_rm, ↓z_i2l, ↓z_lc, ↓z_sw, ↓z_sf, ↓z_sn, ↓z_bd, ↓z_nt, z_b0, z_b1, z_bi, z_bj, ↓z_gF, ↓z_gR, ↓z_pF, ↓z_pZ, ↓z_pR, ↓z_aI, ↓z_aR, ↓z_sI, ↓z_sZ, ↓z_on, z_cl, ↓reduceIte, Int.reduceEq, Int.reduceNeg, Int.reduceLT, Int.reduceLE, Int.reduceAdd, Int.reduceSub, Int.reduceMul, true_and, and_true, or_true, true_or, eq_self, iR_t]
      rw [if_pos (show b = a by omega), if_neg (by omega)]
theorem c_num1' {ω : Type} {K : _ → Option ω} (C : CT P σ f N e) (h : tT f N e = 2) (ha : iR a = true) (hb : iR b = true) (h1 : a ≤ tV f N e) (h2 : tV f N e ≤ b) : cl (fX5_isNumberWithin P σ 1 a b) K = K ((1, σ)) := e_cl (c_num1 C h ha hb h1 h2)
theorem c_semi (C : CT P σ f N e) (h : tT f N e = 3) : ∃ σ', fX5_takeSemicolon P σ 1 = some (1, σ') ∧ CT P σ' f N (tE f N e) ∧ (∀ o, o ≠ 1 → σ' o = σ o) ∧ (∀ j, (j < 3 ∨ 6 < j) → σ' 1 j = σ 1 j) := by
  obtain ⟨σ', r, q⟩ := c_adv C
  refine ⟨σ', ?_, q⟩
  simp (disch := first | omega | assumption) only [fX5_takeSemicolon, ↓z_lt, ↓z_ge, ↓z_gt, ↓z_le, ↓z_eq, ↓z_ne, ↓z_mx, ↓z_mn, ↓z_dv, ↓z_rm, ↓z_i2l, ↓z_lc, ↓z_sw, ↓z_sf, ↓z_sn, ↓z_bd, ↓z_nt, z_b0, z_b1, z_bi, z_bj, ↓z_gF, ↓z_gR, ↓z_pF, ↓z_pZ, ↓z_pR, ↓z_aI, ↓z_aR, ↓z_sI, ↓z_sZ, ↓z_on, z_cl, ↓reduceIte, Int.reduceEq, Int.reduceNeg, Int.reduceLT, Int.reduceLE, Int.reduceAdd, Int.reduceSub, Int.reduceMul, true_and, and_true, or_true, true_or, eq_self, iR_t, sO1 C.rb.sh, C.tt, h, ↓e_cl r]
def cpN (k : Int) : Int := if k = 0 then 6 else if k = 1 then 8 else 12
def fdI (h : Int → Int) (v : Int) (cnt : Int) : Int := fstI (fun j => decide (h j = v)) cnt.toNat 0
theorem fdI_in (h0 : 0 ≤ cnt) : (fdI h v cnt = -1 ∧ ∀ j, 0 ≤ j → j < cnt → h j ≠ v) ∨ (0 ≤ fdI h v cnt ∧ fdI h v cnt < cnt ∧ h (fdI h v cnt) = v) := by
  unfold fdI
  have key : ∀ (n : Nat) (k : Int), 0 ≤ k → (fstI (fun j => decide (h j = v)) n k = -1 ∧ ∀ j, k ≤ j → j < k + n → h j ≠ v) ∨ (k ≤ fstI (fun j => decide (h j = v)) n k ∧ fstI (fun j => decide (h j = v)) n k < k + n ∧ h (fstI (fun j => decide (h j = v)) n k) = v) := by
    intro n
    induction n with
    | zero => intro k _; exact Or.inl ⟨rfl, fun j a b => by omega⟩
    | succ n ih =>
      intro k hk
      by_cases c : h k = v
      · right
        have : fstI (fun j => decide (h j = v)) (n + 1) k = k := by
          show (if decide (h k = v) = true then k else _) = k
          rw [if_pos (decide_eq_true c)]
        rw [this]
        exact ⟨Int.le_refl _, by push_cast; omega, c⟩
      · have : fstI (fun j => decide (h j = v)) (n + 1) k = fstI (fun j => decide (h j = v)) n (k + 1) := by
          show (if decide (h k = v) = true then k else _) = _
          rw [if_neg (by simpa using c)]
        rw [this]
        rcases ih (k + 1) (by omega) with ⟨a1, a2⟩ | ⟨a1, a2, a3⟩
        · left
          refine ⟨a1, fun j j0 j1 => ?_⟩
          by_cases z : j = k
          · subst z; exact c
          · exact a2 j (by omega) (by push_cast at j1; omega)
        · right
          exact ⟨by omega, by push_cast; omega, a3⟩
  have := key cnt.toNat 0 (by omega)
  rw [show (0 : Int) + ((cnt.toNat : Nat) : Int) = cnt by omega] at this
  exact this
theorem nA (sh : ShpIs P 279 PL) (hk : kd = 0 ∨ kd = 1 ∨ kd = 2) (h0 : 0 ≤ i) (h1 : i < cpN kd) : okA P 11 (13 + kd) i = true := by
  unfold cpN at h1
  rcases hk with rfl | rfl | rfl
  · exact sA13 sh h0 (by simpa using h1)
  · exact sA14 sh h0 (by simpa using h1)
  · exact sA15 sh h0 (by simpa using h1)
theorem nL {α : Type} {K : Int → Option α} (sh : ShpIs P 279 PL) (hk : kd = 0 ∨ kd = 1 ∨ kd = 2) : aL P 11 (13 + kd) K = K (cpN kd) := by
  rcases hk with rfl | rfl | rfl
  · exact e_aL (len := 6) (shA sh 13 (by decide +kernel))
  · exact e_aL (len := 8) (shA sh 14 (by decide +kernel))
  · exact e_aL (len := 12) (shA sh 15 (by decide +kernel))
theorem c_index (C : CT P σ f N e) (hw : tT f N e = 1) (hk : kd = 0 ∨ kd = 1 ∨ kd = 2) (ha : a = 13 + kd) (h0 : 0 ≤ cnt) (h1 : cnt ≤ cpN kd) (vL : iL (tV f N e) = true) (hn : ∀ k, 0 ≤ k → k < cnt → iL (σ a k) = true) : fX5_indexOfWord P σ 1 a cnt = some (fdI (σ a) (tV f N e) cnt) := by
  have v6 : σ 1 6 = tV f N e := C.vv (Or.inl hw)
  have c12 : cpN kd ≤ 12 := by unfold cpN; repeat' split <;> omega
  unfold fdI fX5_indexOfWord
  refine loop_f (fun m k => fX5_indexOfWord_L2 P σ 1 a cnt (some (-1)) (fun x6 => some x6) m k) (some (-1)) (fun x => some x) cnt.toNat _ (fun k m hk1 => ?_) (fun m => ?_) (by omega) rfl
  · have k1 : ¬ (cnt ≤ (k : Int)) := by omega
    have k2 : ¬ (cpN kd ≤ (k : Int)) := by omega
    have hl := hn k (by omega) (by omega)
    have hA : okA P 11 a (k : Int) = true := by rw [ha]; exact nA C.rb.sh hk (by omega) (by omega)
    have hB : ∀ (K : Int → Option Int), aL P 11 a K = K (cpN kd) := fun K => by rw [ha]; exact nL C.rb.sh hk
    by_cases c : σ a (k : Int) = tV f N e
    · have c3 : ¬ (tV f N e < tV f N e) := by omega
      rw [if_pos (decide_eq_true c)]
      simp (disch := first | omega | assumption) only [fX5_indexOfWord_L2, ↓z_lt, ↓z_ge, ↓z_gt, ↓z_le, ↓z_eq, ↓z_ne, ↓z_mx, ↓z_mn, ↓z_dv, ↓z_rm, ↓z_i2l, ↓z_lc, ↓z_sw, ↓z_sf, ↓z_sn, ↓z_bd, ↓z_nt, z_b0, z_b1, z_bi, z_bj, ↓z_gF, ↓z_gR, ↓z_pF, ↓z_pZ, ↓z_pR, ↓z_aI, ↓z_aR, ↓z_sI, ↓z_sZ, ↓z_on, z_cl, ↓reduceIte, Int.reduceEq, Int.reduceNeg, Int.reduceLT, Int.reduceLE, Int.reduceAdd, Int.reduceSub, Int.reduceMul, true_and, and_true, or_true, true_or, eq_self, iR_t, sO1 C.rb.sh, hA, ↓hB, v6, vL, c, c3, k1, k2]
    · rw [if_neg (by simpa using c)]
      by_cases c2 : tV f N e < σ a (k : Int)
      · simp (disch := first | omega | assumption) only [fX5_indexOfWord_L2, ↓z_lt, ↓z_ge, ↓z_gt, ↓z_le, ↓z_eq, ↓z_ne, ↓z_mx, ↓z_mn, ↓z_dv, ↓z_rm, ↓z_i2l, ↓z_lc, ↓z_sw, ↓z_sf, ↓z_sn, ↓z_bd, ↓z_nt, z_b0, z_b1, z_bi, z_bj, ↓z_gF, ↓z_gR, ↓z_pF, ↓z_pZ, ↓z_pR, ↓z_aI, ↓z_aR, ↓z_sI, ↓z_sZ, ↓z_on, z_cl, ↓reduceIte, Int.reduceEq, Int.reduceNeg, Int.reduceLT, Int.reduceLE, Int.reduceAdd, Int.reduceSub, Int.reduceMul, true_and, and_true, or_true, true_or, eq_self, iR_t, sO1 C.rb.sh, hA, ↓hB, v6, vL, hl, c, c2, k1, k2]
      · simp (disch := first | omega | assumption) only [fX5_indexOfWord_L2, ↓z_lt, ↓z_ge, ↓z_gt, ↓z_le, ↓z_eq, ↓z_ne, ↓z_mx, ↓z_mn, ↓z_dv, ↓z_rm, ↓z_i2l, ↓z_lc, ↓z_sw, ↓z_sf, ↓z_sn, ↓z_bd, ↓z_nt, z_b0, z_b1, z_bi, z_bj, ↓z_gF, ↓z_gR, ↓z_pF, ↓z_pZ, ↓z_pR, ↓z_aI, ↓z_aR, ↓z_sI, ↓z_sZ, ↓z_on, z_cl, ↓reduceIte, Int.reduceEq, Int.reduceNeg, Int.reduceLT, Int.reduceLE, Int.reduceAdd, Int.reduceSub, Int.reduceMul, true_and, and_true, or_true, true_or, eq_self, iR_t, sO1 C.rb.sh, hA, ↓hB, v6, vL, hl, c, c2, k1, k2]
  · have k1 : cnt ≤ ((cnt.toNat : Nat) : Int) := by omega
    simp (disch := first | omega | assumption) only [fX5_indexOfWord_L2, ↓z_lt, ↓z_ge, ↓z_gt, ↓z_le, ↓z_eq, ↓z_ne, ↓z_mx, ↓z_mn, ↓z_dv, ↓z_rm, ↓z_i2l, ↓z_lc, ↓z_sw, ↓z_sf, ↓z_sn, ↓z_bd, ↓z_nt, z_b0, z_b1, z_bi, z_bj, ↓z_gF, ↓z_gR, ↓z_pF, ↓z_pZ, ↓z_pR, ↓z_aI, ↓z_aR, ↓z_sI, ↓z_sZ, ↓z_on, z_cl, ↓reduceIte, Int.reduceEq, Int.reduceNeg, Int.reduceLT, Int.reduceLE, Int.reduceAdd, Int.reduceSub, Int.reduceMul, true_and, and_true, or_true, true_or, eq_self, iR_t, k1]
theorem c_index' {ω : Type} {K : _ → Option ω} (C : CT P σ f N e) (hw : tT f N e = 1) (hk : kd = 0 ∨ kd = 1 ∨ kd = 2) (ha : a = 13 + kd) (h0 : 0 ≤ cnt) (h1 : cnt ≤ cpN kd) (vL : iL (tV f N e) = true) (hn : ∀ k, 0 ≤ k → k < cnt → iL (σ a k) = true) : cl (fX5_indexOfWord P σ 1 a cnt) K = K ((fdI (σ a) (tV f N e) cnt)) := e_cl (c_index C hw hk ha h0 h1 vL hn)
def kwF (f : Int → Int) (N e : Int) : Int := if wdB f N e (-8) = true then 0 else if wdB f N e (-9) = true then 1 else if wdB f N e (-10) = true then 2 else if wdB f N e (-11) = true then 3 else -1
theorem c_kindOfWord (C : CT P σ f N e) : fX5_kindOfWord P σ 1 = some (kwF f N e) := by
  have w8 := c_isWord C (z := -8) (by omega)
  have w9 := c_isWord C (z := -9) (by omega)
  have w10 := c_isWord C (z := -10) (by omega)
  have w11 := c_isWord C (z := -11) (by omega)
  unfold kwF
  by_cases c8 : wdB f N e (-8) = true
  · rw [if_pos c8] at w8 ⊢
    simp (disch := first | omega | assumption) only [fX5_kindOfWord, ↓z_lt, ↓z_ge, ↓z_gt, ↓z_le, ↓z_eq, ↓z_ne, ↓z_mx, ↓z_mn, ↓z_dv, ↓z_rm, ↓z_i2l, ↓z_lc, ↓z_sw, ↓z_sf, ↓z_sn, ↓z_bd, ↓z_nt, z_b0, z_b1, z_bi, z_bj, ↓z_gF, ↓z_gR, ↓z_pF, ↓z_pZ, ↓z_pR, ↓z_aI, ↓z_aR, ↓z_sI, ↓z_sZ, ↓z_on, z_cl, ↓reduceIte, Int.reduceEq, Int.reduceNeg, Int.reduceLT, Int.reduceLE, Int.reduceAdd, Int.reduceSub, Int.reduceMul, true_and, and_true, or_true, true_or, eq_self, iR_t, sO1 C.rb.sh, ↓e_cl w8]
  · rw [if_neg c8] at w8 ⊢
    by_cases c9 : wdB f N e (-9) = true
    · rw [if_pos c9] at w9 ⊢
      simp (disch := first | omega | assumption) only [fX5_kindOfWord, ↓z_lt, ↓z_ge, ↓z_gt, ↓z_le, ↓z_eq, ↓z_ne, ↓z_mx, ↓z_mn, ↓z_dv, ↓z_rm, ↓z_i2l, ↓z_lc, ↓z_sw, ↓z_sf, ↓z_sn, ↓z_bd, ↓z_nt, z_b0, z_b1, z_bi, z_bj, ↓z_gF, ↓z_gR, ↓z_pF, ↓z_pZ, ↓z_pR, ↓z_aI, ↓z_aR, ↓z_sI, ↓z_sZ, ↓z_on, z_cl, ↓reduceIte, Int.reduceEq, Int.reduceNeg, Int.reduceLT, Int.reduceLE, Int.reduceAdd, Int.reduceSub, Int.reduceMul, true_and, and_true, or_true, true_or, eq_self, iR_t, sO1 C.rb.sh, ↓e_cl w8, ↓e_cl w9]
    · rw [if_neg c9] at w9 ⊢
      by_cases c10 : wdB f N e (-10) = true
      · rw [if_pos c10] at w10 ⊢
        simp (disch := first | omega | assumption) only [fX5_kindOfWord, ↓z_lt, ↓z_ge, ↓z_gt, ↓z_le, ↓z_eq, ↓z_ne, ↓z_mx, ↓z_mn, ↓z_dv, ↓z_rm, ↓z_i2l, ↓z_lc, ↓z_sw, ↓z_sf, ↓z_sn, ↓z_bd, ↓z_nt, z_b0, z_b1, z_bi, z_bj, ↓z_gF, ↓z_gR, ↓z_pF, ↓z_pZ, ↓z_pR, ↓z_aI, ↓z_aR, ↓z_sI, ↓z_sZ, ↓z_on, z_cl, ↓reduceIte, Int.reduceEq, Int.reduceNeg, Int.reduceLT, Int.reduceLE, Int.reduceAdd, Int.reduceSub, Int.reduceMul, true_and, and_true, or_true, true_or, eq_self, iR_t, sO1 C.rb.sh, ↓e_cl w8, ↓e_cl w9, ↓e_cl w10]
      · rw [if_neg c10] at w10 ⊢
        by_cases c11 : wdB f N e (-11) = true
        · rw [if_pos c11] at w11 ⊢
          simp (disch := first | omega | assumption) only [fX5_kindOfWord, ↓z_lt, ↓z_ge, ↓z_gt, ↓z_le, ↓z_eq, ↓z_ne, ↓z_mx, ↓z_mn, ↓z_dv, ↓z_rm, ↓z_i2l, ↓z_lc, ↓z_sw, ↓z_sf, ↓z_sn, ↓z_bd, ↓z_nt, z_b0, z_b1, z_bi, z_bj, ↓z_gF, ↓z_gR, ↓z_pF, ↓z_pZ, ↓z_pR, ↓z_aI, ↓z_aR, ↓z_sI, ↓z_sZ, ↓z_on, z_cl, ↓reduceIte, Int.reduceEq, Int.reduceNeg, Int.reduceLT, Int.reduceLE, Int.reduceAdd, Int.reduceSub, Int.reduceMul, true_and, and_true, or_true, true_or, eq_self, iR_t, sO1 C.rb.sh, ↓e_cl w8, ↓e_cl w9, ↓e_cl w10, ↓e_cl w11]
        · rw [if_neg c11] at w11 ⊢
          simp (disch := first | omega | assumption) only [fX5_kindOfWord, ↓z_lt, ↓z_ge, ↓z_gt, ↓z_le, ↓z_eq, ↓z_ne, ↓z_mx, ↓z_mn, ↓z_dv, ↓z_rm, ↓z_i2l, ↓z_lc, ↓z_sw, ↓z_sf, ↓z_sn, ↓z_bd, ↓z_nt, z_b0, z_b1, z_bi, z_bj, ↓z_gF, ↓z_gR, ↓z_pF, ↓z_pZ, ↓z_pR, ↓z_aI, ↓z_aR, ↓z_sI, ↓z_sZ, ↓z_on, z_cl, ↓reduceIte, Int.reduceEq, Int.reduceNeg, Int.reduceLT, Int.reduceLE, Int.reduceAdd, Int.reduceSub, Int.reduceMul, true_and, and_true, or_true, true_or, eq_self, iR_t, sO1 C.rb.sh, ↓e_cl w8, ↓e_cl w9, ↓e_cl w10, ↓e_cl w11]
theorem c_kindOfWord' {ω : Type} {K : _ → Option ω} (C : CT P σ f N e) : cl (fX5_kindOfWord P σ 1) K = K ((kwF f N e)) := e_cl (c_kindOfWord C)
end ZZH
