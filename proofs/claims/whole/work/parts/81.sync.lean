/-! BOTH READERS AT ONE TOKEN. -/
def lnZ (z : Int) : Int := ((lenS.getD (-2 - z).toNat 0 : Nat) : Int)
def chZ (z i : Int) : Int := ((bytS.getD (-2 - z).toNat []).getD i.toNat 0).toInt
def eqF (g : Int → Int) (s z : Int) : Nat → Int → Bool
  | 0, _ => true
  | n + 1, k => decide (g (s + k) = chZ z k) && eqF g s z n (k + 1)
def wdB (f : Int → Int) (N e z : Int) : Bool := decide (tT f N e = 1) && decide (tE f N e - tS f N e = lnZ z) && eqF f (tS f N e) z (lnZ z).toNat 0
def nuB (f : Int → Int) (N e a b : Int) : Bool := decide (a ≤ tV f N e ∧ tV f N e ≤ b)
def CT (P : Shp) (σ : St) (f : Int → Int) (N e : Int) : Prop :=
  (RB P σ f N) ∧
  (0 ≤ e) ∧
  (e ≤ N) ∧
  (σ 1 5 = tS f N e) ∧
  (σ 1 3 = tE f N e) ∧
  (σ 1 4 = tT f N e) ∧
  ((tT f N e = 1 ∨ tT f N e = 2) → σ 1 6 = tV f N e)
theorem CT.rb {P : Shp} {σ : St} {f : Int → Int} {N e : Int} (h : CT P σ f N e) : RB P σ f N := h.1
theorem CT.e0 {P : Shp} {σ : St} {f : Int → Int} {N e : Int} (h : CT P σ f N e) : 0 ≤ e := h.2.1
theorem CT.e1 {P : Shp} {σ : St} {f : Int → Int} {N e : Int} (h : CT P σ f N e) : e ≤ N := h.2.2.1
theorem CT.ss {P : Shp} {σ : St} {f : Int → Int} {N e : Int} (h : CT P σ f N e) : σ 1 5 = tS f N e := h.2.2.2.1
theorem CT.ee {P : Shp} {σ : St} {f : Int → Int} {N e : Int} (h : CT P σ f N e) : σ 1 3 = tE f N e := h.2.2.2.2.1
theorem CT.tt {P : Shp} {σ : St} {f : Int → Int} {N e : Int} (h : CT P σ f N e) : σ 1 4 = tT f N e := h.2.2.2.2.2.1
theorem CT.vv {P : Shp} {σ : St} {f : Int → Int} {N e : Int} (h : CT P σ f N e) : (tT f N e = 1 ∨ tT f N e = 2) → σ 1 6 = tV f N e := h.2.2.2.2.2.2
def MT (P : Shp) (τ : St) (f : Int → Int) (N e : Int) : Prop :=
  (MB P τ f N) ∧
  (0 ≤ e) ∧
  (e ≤ N) ∧
  (τ 265 4 = tS f N e) ∧
  (τ 265 5 = tE f N e) ∧
  (τ 265 6 = tT f N e) ∧
  (tT f N e = 2 → τ 265 7 = tV f N e) ∧
  (τ 265 8 = 0)
theorem MT.mb {P : Shp} {τ : St} {f : Int → Int} {N e : Int} (h : MT P τ f N e) : MB P τ f N := h.1
theorem MT.e0 {P : Shp} {τ : St} {f : Int → Int} {N e : Int} (h : MT P τ f N e) : 0 ≤ e := h.2.1
theorem MT.e1 {P : Shp} {τ : St} {f : Int → Int} {N e : Int} (h : MT P τ f N e) : e ≤ N := h.2.2.1
theorem MT.ss {P : Shp} {τ : St} {f : Int → Int} {N e : Int} (h : MT P τ f N e) : τ 265 4 = tS f N e := h.2.2.2.1
theorem MT.ee {P : Shp} {τ : St} {f : Int → Int} {N e : Int} (h : MT P τ f N e) : τ 265 5 = tE f N e := h.2.2.2.2.1
theorem MT.tt {P : Shp} {τ : St} {f : Int → Int} {N e : Int} (h : MT P τ f N e) : τ 265 6 = tT f N e := h.2.2.2.2.2.1
theorem MT.vv {P : Shp} {τ : St} {f : Int → Int} {N e : Int} (h : MT P τ f N e) : tT f N e = 2 → τ 265 7 = tV f N e := h.2.2.2.2.2.2.1
theorem MT.fl {P : Shp} {τ : St} {f : Int → Int} {N e : Int} (h : MT P τ f N e) : τ 265 8 = 0 := h.2.2.2.2.2.2.2
section ZZH
variable {P : Shp} {σ σ' s τ τ' : St} {f g : Int → Int} {a b c d e k h i j x y z v w N tk ts q : Int} {n r : Nat}
theorem z_sln {α : Type} {K : Int → Option α} : sln z K = if 0 ≤ -2 - z ∧ -2 - z < 10 then K (lnZ z) else none := rfl
theorem z_sch {α : Type} {K : Int → Option α} : sch z i K = if 0 ≤ -2 - z ∧ -2 - z < 10 ∧ 0 ≤ i ∧ i < lnZ z then K (chZ z i) else none := rfl
theorem lnZ_in (h : 0 ≤ -2 - z ∧ -2 - z < 10) : 3 ≤ lnZ z ∧ lnZ z ≤ 7 := by
  have key : ∀ i : Nat, i < 10 → (3 : Int) ≤ ((lenS.getD i 0 : Nat) : Int) ∧ ((lenS.getD i 0 : Nat) : Int) ≤ 7 := by decide +kernel
  exact key (-2 - z).toNat (by omega)
theorem chZ_R (z i : Int) : iR (chZ z i) = true := by
  have := i32_inR ((bytS.getD (-2 - z).toNat []).getD i.toNat 0)
  exact this
theorem tok_in (e0 : 0 ≤ e) (e1 : e ≤ N) : e ≤ tS f N e ∧ tS f N e ≤ tE f N e ∧ tE f N e ≤ N ∧ (tS f N e < N → tS f N e < tE f N e) := by
  have a := tS_in (f := f) e1
  have b1 := skp_in (ltB f) N _ (tS f N e) a.2 rfl
  have b2 := skp_in (dgB f) N _ (tS f N e) a.2 rfl
  unfold tE
  by_cases c : tS f N e < N
  · rw [if_pos c]
    by_cases c1 : ltB f (tS f N e) = true
    · rw [if_pos c1]
      refine ⟨a.1, b1.1, b1.2.1, fun _ => ?_⟩
      by_cases y : tS f N e < skp (ltB f) N (tS f N e)
      · exact y
      · have y2 : skp (ltB f) N (tS f N e) = tS f N e := by omega
        have := b1.2.2.2 (by omega)
        rw [y2, c1] at this
        cases this
    · rw [if_neg c1]
      by_cases c2 : dgB f (tS f N e) = true
      · rw [if_pos c2]
        refine ⟨a.1, b2.1, b2.2.1, fun _ => ?_⟩
        by_cases y : tS f N e < skp (dgB f) N (tS f N e)
        · exact y
        · have y2 : skp (dgB f) N (tS f N e) = tS f N e := by omega
          have := b2.2.2.2 (by omega)
          rw [y2, c2] at this
          cases this
      · rw [if_neg c2]; omega
  · rw [if_neg c]; omega
theorem tT_in : 0 ≤ tT f N e ∧ tT f N e ≤ 4 := by
  unfold tT
  repeat' split
  all_goals omega
/-- digits of a number are few -/
theorem tV_in (e0 : 0 ≤ e) (e1 : e ≤ N) (h : tT f N e = 2) : 0 ≤ tV f N e ∧ tV f N e ≤ 9999 := by
  have a := tS_in (f := f) e1
  have b2 := skp_in (dgB f) N _ (tS f N e) a.2 rfl
  unfold tT at h
  by_cases c : tS f N e < N
  · rw [if_pos c] at h
    by_cases c1 : ltB f (tS f N e) = true
    · rw [if_pos c1] at h
      exfalso; revert h; split <;> omega
    · rw [if_neg c1] at h
      by_cases c2 : dgB f (tS f N e) = true
      · rw [if_pos c2] at h
        have hE : tE f N e = skp (dgB f) N (tS f N e) := by unfold tE; rw [if_pos c, if_neg c1, if_pos c2]
        have h4 : tE f N e - tS f N e ≤ 4 := by
          by_cases y : tE f N e - tS f N e ≤ 4
          · exact y
          · rw [if_neg y] at h; omega
        unfold tV
        rw [if_neg c1, hE]
        rw [hE] at h4
        have key := vl_d (f := f) (ts := tS f N e) (n := (skp (dgB f) N (tS f N e) - tS f N e).toNat) (fun k hk => by
          have := b2.2.2.1 (tS f N e + k) (by omega) (by omega)
          exact of_decide_eq_true this)
        obtain ⟨k0, k1, k2, k3, k4, k5⟩ := key
        refine ⟨k0, ?_⟩
        have : (skp (dgB f) N (tS f N e) - tS f N e).toNat = 0 ∨ (skp (dgB f) N (tS f N e) - tS f N e).toNat = 1 ∨ (skp (dgB f) N (tS f N e) - tS f N e).toNat = 2 ∨ (skp (dgB f) N (tS f N e) - tS f N e).toNat = 3 ∨ (skp (dgB f) N (tS f N e) - tS f N e).toNat = 4 := by omega
        rcases this with w | w | w | w | w
        · have := k1 w; omega
        · have := k2 w; omega
        · have := k3 w; omega
        · have := k4 w; omega
        · have := k5 w; omega
      · rw [if_neg c2] at h
        exfalso; revert h; split <;> omega
  · rw [if_neg c] at h; omega
theorem CT.fr (C : CT P σ f N e) (h : ∀ j, 0 ≤ j → j ≤ 6 → s 1 j = σ 1 j) (h2 : s 2 = σ 2) : CT P s f N e := by
  obtain ⟨R, e0, e1, ss, ee, tt, vv⟩ := C
  refine ⟨⟨R.sh, by rw [h 0 (by omega) (by omega)]; exact R.r0, by rw [h 2 (by omega) (by omega)]; exact R.r2, R.hN, h2.trans R.by', R.fr⟩, e0, e1, ?_, ?_, ?_, ?_⟩
  · rw [h 5 (by omega) (by omega)]; exact ss
  · rw [h 3 (by omega) (by omega)]; exact ee
  · rw [h 4 (by omega) (by omega)]; exact tt
  · rw [h 6 (by omega) (by omega)]; exact vv
theorem MT.fr (M : MT P τ f N e) (h : ∀ j, 0 ≤ j → j ≤ 8 → s 265 j = τ 265 j) (h2 : s 266 = τ 266) : MT P s f N e := by
  obtain ⟨R, e0, e1, ss, ee, tt, vv, fl⟩ := M
  refine ⟨R.ag (h 1 (by omega) (by omega)) (h 3 (by omega) (by omega)) h2, e0, e1, ?_, ?_, ?_, ?_, ?_⟩
  · rw [h 4 (by omega) (by omega)]; exact ss
  · rw [h 5 (by omega) (by omega)]; exact ee
  · rw [h 6 (by omega) (by omega)]; exact tt
  · rw [h 7 (by omega) (by omega)]; exact vv
  · rw [h 8 (by omega) (by omega)]; exact fl
theorem c_adv (C : CT P σ f N e) : ∃ σ', fX5_advance P σ 1 = some σ' ∧ CT P σ' f N (tE f N e) ∧ (∀ o, o ≠ 1 → σ' o = σ o) ∧ (∀ j, (j < 3 ∨ 6 < j) → σ' 1 j = σ 1 j) := by
  have e0 := C.e0
  have e1 := C.e1
  have ti := tok_in (f := f) C.e0 C.e1
  obtain ⟨σ', r, A⟩ := c_advance C.rb (by rw [C.ee]; omega) (by rw [C.ee]; omega)
  rw [C.ee] at A
  refine ⟨σ', r, ⟨⟨C.rb.sh, ?_, ?_, C.rb.hN, ?_, C.rb.fr⟩, by omega, by omega, A.ss, A.ee, A.tt, A.vv⟩, A.oo, A.jj⟩
  · rw [A.jj 0 (by omega)]; exact C.rb.r0
  · rw [A.jj 2 (by omega)]; exact C.rb.r2
  · rw [A.oo 2 (by omega)]; exact C.rb.by'
theorem m_nxt (M : MT P τ f N e) : ∃ τ', fX8_nextToken P τ 265 = some τ' ∧ MT P τ' f N (tE f N e) ∧ (∀ o, o ≠ 265 → τ' o = τ o) ∧ (∀ j, (j < 4 ∨ 7 < j) → τ' 265 j = τ 265 j) := by
  have e0 := M.e0
  have e1 := M.e1
  have ti := tok_in (f := f) M.e0 M.e1
  obtain ⟨τ', r, A⟩ := m_next M.mb (by rw [M.ee]; omega) (by rw [M.ee]; omega)
  rw [M.ee] at A
  refine ⟨τ', r, ⟨M.mb.ag (A.jj 1 (by omega)) (A.jj 3 (by omega)) (A.oo 266 (by omega)), by omega, by omega, A.ss, A.ee, A.tt, A.vv, ?_⟩, A.oo, A.jj⟩
  rw [A.jj 8 (by omega)]; exact M.fl
theorem m_goOn (M : MT P τ f N e) : ∃ τ', fX8_goOn P τ 265 = some τ' ∧ MT P τ' f N (tE f N e) ∧ (∀ o, o ≠ 265 → τ' o = τ o) ∧ (∀ j, (j < 4 ∨ 7 < j) → τ' 265 j = τ 265 j) := by
  obtain ⟨τ', r, h⟩ := m_nxt M
  refine ⟨τ', ?_, h⟩
  simp (disch := first | omega | assumption) only [fX8_goOn, ↓z_lt, ↓z_ge, ↓z_gt, ↓z_le, ↓z_eq, ↓z_ne, ↓z_mx, ↓z_mn, ↓z_dv, ↓z_rm, ↓z_i2l, ↓z_lc, ↓z_sw, ↓z_sf, ↓z_sn, ↓z_bd, ↓z_nt, z_b0, z_b1, z_bi, z_bj, ↓z_gF, ↓z_gR, ↓z_pF, ↓z_pZ, ↓z_pR, ↓z_aI, ↓z_aR, ↓z_sI, ↓z_sZ, ↓z_on, z_cl, ↓reduceIte, Int.reduceEq, Int.reduceNeg, Int.reduceLT, Int.reduceLE, Int.reduceAdd, Int.reduceSub, Int.reduceMul, true_and, and_true, or_true, true_or, eq_self, iR_t, sO265 M.mb.sh, M.fl, ↓e_cl r]
theorem f_goOn (sh : ShpIs P 279 PL) (h : ¬ (τ 265 8 = 0)) (hr : iR (τ 265 8) = true) : fX8_goOn P τ 265 = some τ := by
  simp (disch := first | omega | assumption) only [fX8_goOn, ↓z_lt, ↓z_ge, ↓z_gt, ↓z_le, ↓z_eq, ↓z_ne, ↓z_mx, ↓z_mn, ↓z_dv, ↓z_rm, ↓z_i2l, ↓z_lc, ↓z_sw, ↓z_sf, ↓z_sn, ↓z_bd, ↓z_nt, z_b0, z_b1, z_bi, z_bj, ↓z_gF, ↓z_gR, ↓z_pF, ↓z_pZ, ↓z_pR, ↓z_aI, ↓z_aR, ↓z_sI, ↓z_sZ, ↓z_on, z_cl, ↓reduceIte, Int.reduceEq, Int.reduceNeg, Int.reduceLT, Int.reduceLE, Int.reduceAdd, Int.reduceSub, Int.reduceMul, true_and, and_true, or_true, true_or, eq_self, iR_t, sO265 sh, h, hr]
theorem f_goOn' {ω : Type} {K : _ → Option ω} (sh : ShpIs P 279 PL) (h : ¬ (τ 265 8 = 0)) (hr : iR (τ 265 8) = true) : cl (fX8_goOn P τ 265) K = K (τ) := e_cl (f_goOn sh h hr)
theorem f_must (sh : ShpIs P 279 PL) (h : ¬ (τ 265 8 = 0)) (hr : iR (τ 265 8) = true) : fX8_must P τ 265 a b = some (0, τ) := by
  simp (disch := first | omega | assumption) only [fX8_must, ↓z_lt, ↓z_ge, ↓z_gt, ↓z_le, ↓z_eq, ↓z_ne, ↓z_mx, ↓z_mn, ↓z_dv, ↓z_rm, ↓z_i2l, ↓z_lc, ↓z_sw, ↓z_sf, ↓z_sn, ↓z_bd, ↓z_nt, z_b0, z_b1, z_bi, z_bj, ↓z_gF, ↓z_gR, ↓z_pF, ↓z_pZ, ↓z_pR, ↓z_aI, ↓z_aR, ↓z_sI, ↓z_sZ, ↓z_on, z_cl, ↓reduceIte, Int.reduceEq, Int.reduceNeg, Int.reduceLT, Int.reduceLE, Int.reduceAdd, Int.reduceSub, Int.reduceMul, true_and, and_true, or_true, true_or, eq_self, iR_t, sO265 sh, h, hr]
theorem f_must' {ω : Type} {K : _ → Option ω} (sh : ShpIs P 279 PL) (h : ¬ (τ 265 8 = 0)) (hr : iR (τ 265 8) = true) : cl (fX8_must P τ 265 a b) K = K ((0, τ)) := e_cl (f_must sh h hr)
theorem f_isWord (sh : ShpIs P 279 PL) (h : ¬ (τ 265 8 = 0)) (hr : iR (τ 265 8) = true) (hz : 0 ≤ -2 - z ∧ -2 - z < 10) : fX8_isWord P τ 265 z = some 0 := by
  have := lnZ_in hz
  have k1 : ¬ (lnZ z ≤ 0) := by omega
  simp (disch := first | omega | assumption) only [fX8_isWord, fX8_isWord_L39, ↓z_lt, ↓z_ge, ↓z_gt, ↓z_le, ↓z_eq, ↓z_ne, ↓z_mx, ↓z_mn, ↓z_dv, ↓z_rm, ↓z_i2l, ↓z_lc, ↓z_sw, ↓z_sf, ↓z_sn, ↓z_bd, ↓z_nt, z_b0, z_b1, z_bi, z_bj, ↓z_gF, ↓z_gR, ↓z_pF, ↓z_pZ, ↓z_pR, ↓z_aI, ↓z_aR, ↓z_sI, ↓z_sZ, ↓z_on, z_cl, ↓reduceIte, Int.reduceEq, Int.reduceNeg, Int.reduceLT, Int.reduceLE, Int.reduceAdd, Int.reduceSub, Int.reduceMul, true_and, and_true, or_true, true_or, eq_self, iR_t, sO265 sh, h, hr, z_sln, hz, k1]
theorem f_isWord' {ω : Type} {K : _ → Option ω} (sh : ShpIs P 279 PL) (h : ¬ (τ 265 8 = 0)) (hr : iR (τ 265 8) = true) (hz : 0 ≤ -2 - z ∧ -2 - z < 10) : cl (fX8_isWord P τ 265 z) K = K (0) := e_cl (f_isWord sh h hr hz)
/-- the model's state at a fault -/
def mlt (τ : St) (k : Int) : St := wr (wr τ 265 8 k) 265 9 (τ 265 4)
def clt (σ : St) (k : Int) : St := wr (wr σ 1 7 (σ 1 5)) 1 8 k
theorem m_must1 (M : MT P τ f N e) : fX8_must P τ 265 1 b = some (1, τ) := by
  simp (disch := first | omega | assumption) only [fX8_must, ↓z_lt, ↓z_ge, ↓z_gt, ↓z_le, ↓z_eq, ↓z_ne, ↓z_mx, ↓z_mn, ↓z_dv, ↓z_rm, ↓z_i2l, ↓z_lc, ↓z_sw, ↓z_sf, ↓z_sn, ↓z_bd, ↓z_nt, z_b0, z_b1, z_bi, z_bj, ↓z_gF, ↓z_gR, ↓z_pF, ↓z_pZ, ↓z_pR, ↓z_aI, ↓z_aR, ↓z_sI, ↓z_sZ, ↓z_on, z_cl, ↓reduceIte, Int.reduceEq, Int.reduceNeg, Int.reduceLT, Int.reduceLE, Int.reduceAdd, Int.reduceSub, Int.reduceMul, true_and, and_true, or_true, true_or, eq_self, iR_t, sO265 M.mb.sh, M.fl]
theorem m_must1' {ω : Type} {K : _ → Option ω} (M : MT P τ f N e) : cl (fX8_must P τ 265 1 b) K = K ((1, τ)) := e_cl (m_must1 M)
theorem m_must0 (M : MT P τ f N e) (h : 1 ≤ b ∧ b ≤ 5) : fX8_must P τ 265 0 b = some (0, mlt τ b) := by
  have hb : ¬ (b = 0) := by omega
  simp (disch := first | omega | assumption) only [fX8_must, mlt, ↓z_lt, ↓z_ge, ↓z_gt, ↓z_le, ↓z_eq, ↓z_ne, ↓z_mx, ↓z_mn, ↓z_dv, ↓z_rm, ↓z_i2l, ↓z_lc, ↓z_sw, ↓z_sf, ↓z_sn, ↓z_bd, ↓z_nt, z_b0, z_b1, z_bi, z_bj, ↓z_gF, ↓z_gR, ↓z_pF, ↓z_pZ, ↓z_pR, ↓z_aI, ↓z_aR, ↓z_sI, ↓z_sZ, ↓z_on, z_cl, ↓reduceIte, Int.reduceEq, Int.reduceNeg, Int.reduceLT, Int.reduceLE, Int.reduceAdd, Int.reduceSub, Int.reduceMul, true_and, and_true, or_true, true_or, eq_self, iR_t, sO265 M.mb.sh, M.fl, wr_s, wr_i, hb]
theorem m_must0' {ω : Type} {K : _ → Option ω} (M : MT P τ f N e) (h : 1 ≤ b ∧ b ≤ 5) : cl (fX8_must P τ 265 0 b) K = K ((0, mlt τ b)) := e_cl (m_must0 M h)
theorem c_fault (C : CT P σ f N e) : fX5_fault P σ 1 b = some (0, clt σ b) := by
  simp (disch := first | omega | assumption) only [fX5_fault, clt, ↓z_lt, ↓z_ge, ↓z_gt, ↓z_le, ↓z_eq, ↓z_ne, ↓z_mx, ↓z_mn, ↓z_dv, ↓z_rm, ↓z_i2l, ↓z_lc, ↓z_sw, ↓z_sf, ↓z_sn, ↓z_bd, ↓z_nt, z_b0, z_b1, z_bi, z_bj, ↓z_gF, ↓z_gR, ↓z_pF, ↓z_pZ, ↓z_pR, ↓z_aI, ↓z_aR, ↓z_sI, ↓z_sZ, ↓z_on, z_cl, ↓reduceIte, Int.reduceEq, Int.reduceNeg, Int.reduceLT, Int.reduceLE, Int.reduceAdd, Int.reduceSub, Int.reduceMul, true_and, and_true, or_true, true_or, eq_self, iR_t, sO1 C.rb.sh, wr_s, wr_i]
theorem c_fault' {ω : Type} {K : _ → Option ω} (C : CT P σ f N e) : cl (fX5_fault P σ 1 b) K = K ((0, clt σ b)) := e_cl (c_fault C)
/-- words -/
theorem c_word_L (C : CT P σ f N e) (hz : 0 ≤ -2 - z ∧ -2 - z < 10) (hl : tE f N e - tS f N e = lnZ z) (kA kB : Option Int) : ∀ (r k m : Nat), (k : Int) + (r : Int) = lnZ z → r < m → fX5_isWord_L28 P σ 1 z kA kB m (k : Int) = if eqF f (tS f N e) z r (k : Int) = true then kA else kB := by
  have e0 := C.e0
  have e1 := C.e1
  have ti := tok_in (f := f) C.e0 C.e1
  have hN := C.rb.hN
  have hln := lnZ_in hz
  intro r
  induction r with
  | zero =>
    intro k m h1 h2
    obtain ⟨m, rfl⟩ : ∃ q, m = q + 1 := ⟨m - 1, by omega⟩
    have k1 : lnZ z ≤ (k : Int) := by omega
    rw [eqF, if_pos rfl]
    simp (disch := first | omega | assumption) only [fX5_isWord_L28, ↓z_lt, ↓z_ge, ↓z_gt, ↓z_le, ↓z_eq, ↓z_ne, ↓z_mx, ↓z_mn, ↓z_dv, ↓z_rm, ↓z_i2l, ↓z_lc, ↓z_sw, ↓z_sf, ↓z_sn, ↓z_bd, ↓z_nt, z_b0, z_b1, z_bi, z_bj, ↓z_gF, ↓z_gR, ↓z_pF, ↓z_pZ, ↓z_pR, ↓z_aI, ↓z_aR, ↓z_sI, ↓z_sZ, ↓z_on, z_cl, ↓reduceIte, Int.reduceEq, Int.reduceNeg, Int.reduceLT, Int.reduceLE, Int.reduceAdd, Int.reduceSub, Int.reduceMul, true_and, and_true, or_true, true_or, eq_self, iR_t, z_sln, hz, k1]
  | succ r ih =>
    intro k m h1 h2
    obtain ⟨m, rfl⟩ : ∃ q, m = q + 1 := ⟨m - 1, by omega⟩
    have k1 : ¬ (lnZ z ≤ (k : Int)) := by omega
    have k2 : 0 ≤ -2 - z ∧ -2 - z < 10 ∧ 0 ≤ (k : Int) ∧ (k : Int) < lnZ z := by omega
    have fr := C.rb.fr (tS f N e + k) (by omega) (by omega)
    have hr : iR (f (tS f N e + (k : Int))) = true := iR_t (by omega) (by omega)
    have hc : iR (chZ z (k : Int)) = true := chZ_R _ _
    have ih := ih (k + 1) m (by push_cast; omega) (by omega)
    rw [show (((k + 1 : Nat)) : Int) = (k : Int) + 1 by push_cast; rfl] at ih
    rw [eqF]
    by_cases c : f (tS f N e + (k : Int)) = chZ z (k : Int)
    · rw [decide_eq_true c, Bool.true_and, ← ih]
      simp (disch := first | omega | assumption) only [fX5_isWord_L28, ↓z_lt, ↓z_ge, ↓z_gt, ↓z_le, ↓z_eq, ↓z_ne, ↓z_mx, ↓z_mn, ↓z_dv, ↓z_rm, ↓z_i2l, ↓z_lc, ↓z_sw, ↓z_sf, ↓z_sn, ↓z_bd, ↓z_nt, z_b0, z_b1, z_bi, z_bj, ↓z_gF, ↓z_gR, ↓z_pF, ↓z_pZ, ↓z_pR, ↓z_aI, ↓z_aR, ↓z_sI, ↓z_sZ, ↓z_on, z_cl, ↓reduceIte, Int.reduceEq, Int.reduceNeg, Int.reduceLT, Int.reduceLE, Int.reduceAdd, Int.reduceSub, Int.reduceMul, true_and, and_true, or_true, true_or, eq_self, iR_t, sO1 C.rb.sh, sA2 C.rb.sh, C.rb.r0, C.rb.by', C.ss, z_sln, z_sch, hz, k1, k2, hr, hc, c, and_self]
    · rw [decide_eq_false c, Bool.false_and, if_neg (by simp)]
      simp (disch := first | omega | assumption) only [fX5_isWord_L28, ↓z_lt, ↓z_ge, ↓z_gt, ↓z_le, ↓z_eq, ↓z_ne, ↓z_mx, ↓z_mn, ↓z_dv, ↓z_rm, ↓z_i2l, ↓z_lc, ↓z_sw, ↓z_sf, ↓z_sn, ↓z_bd, ↓z_nt, z_b0, z_b1, z_bi, z_bj, ↓z_gF, ↓z_gR, ↓z_pF, ↓z_pZ, ↓z_pR, ↓z_aI, ↓z_aR, ↓z_sI, ↓z_sZ, ↓z_on, z_cl, ↓reduceIte, Int.reduceEq, Int.reduceNeg, Int.reduceLT, Int.reduceLE, Int.reduceAdd, Int.reduceSub, Int.reduceMul, true_and, and_true, or_true, true_or, eq_self, iR_t, sO1 C.rb.sh, sA2 C.rb.sh, C.rb.r0, C.rb.by', C.ss, z_sln, z_sch, hz, k1, k2, hr, hc, c, and_self]
theorem c_isWord (C : CT P σ f N e) (hz : 0 ≤ -2 - z ∧ -2 - z < 10) : fX5_isWord P σ 1 z = some (if wdB f N e z = true then 1 else 0) := by
  have e0 := C.e0
  have e1 := C.e1
  have ti := tok_in (f := f) C.e0 C.e1
  have hN := C.rb.hN
  have hln := lnZ_in hz
  have htt := tT_in (f := f) (N := N) (e := e)
  unfold wdB
  by_cases c1 : tT f N e = 1
  · by_cases c2 : tE f N e - tS f N e = lnZ z
    · have L := c_word_L C hz c2 (bz 1 (some (1 : Int))) (bz 0 (some (0 : Int))) (lnZ z).toNat 0 1000 (by push_cast; omega) (by omega)
      rw [show ((0 : Nat) : Int) = 0 from rfl] at L
      rw [decide_eq_true c1, decide_eq_true c2, Bool.true_and, Bool.true_and]
      unfold fX5_isWord
      rw [z_gF, if_pos (sO1 C.rb.sh), C.tt, c1]
      simp (disch := first | omega | assumption) only [↓z_lt, ↓z_ge, ↓z_gt, ↓z_le, ↓z_eq, ↓z_ne, ↓z_mx, ↓z_mn, ↓z_dv, ↓z_rm, ↓z_i2l, ↓z_lc, ↓z_sw, ↓z_sf, ↓z_sn, ↓z_bd, ↓z_nt, z_b0, z_b1, z_bi, z_bj, ↓z_gF, ↓z_gR, ↓z_pF, ↓z_pZ, ↓z_pR, ↓z_aI, ↓z_aR, ↓z_sI, ↓z_sZ, ↓z_on, z_cl, ↓reduceIte, Int.reduceEq, Int.reduceNeg, Int.reduceLT, Int.reduceLE, Int.reduceAdd, Int.reduceSub, Int.reduceMul, true_and, and_true, or_true, true_or, eq_self, iR_t, sO1 C.rb.sh, C.ss, C.ee, z_sln, hz, c2]
      refine L.trans ?_
      split <;> rfl
    · rw [decide_eq_true c1, decide_eq_false c2]
      simp (disch := first | omega | assumption) only [fX5_isWord, ↓z_lt, ↓z_ge, ↓z_gt, ↓z_le, ↓z_eq, ↓z_ne, ↓z_mx, ↓z_mn, ↓z_dv, ↓z_rm, ↓z_i2l, ↓z_lc, ↓z_sw, ↓z_sf, ↓z_sn, ↓z_bd, ↓z_nt, z_b0, z_b1, z_bi, z_bj, ↓z_gF, ↓z_gR, ↓z_pF, ↓z_pZ, ↓z_pR, ↓z_aI, ↓z_aR, ↓z_sI, ↓z_sZ, ↓z_on, z_cl, ↓reduceIte, Int.reduceEq, Int.reduceNeg, Int.reduceLT, Int.reduceLE, Int.reduceAdd, Int.reduceSub, Int.reduceMul, true_and, and_true, or_true, true_or, eq_self, iR_t, sO1 C.rb.sh, C.tt, C.ss, C.ee, c1, z_sln, hz, c2, Bool.and_false, Bool.false_and, Bool.false_eq_true]
  · rw [decide_eq_false c1]
    simp (disch := first | omega | assumption) only [fX5_isWord, ↓z_lt, ↓z_ge, ↓z_gt, ↓z_le, ↓z_eq, ↓z_ne, ↓z_mx, ↓z_mn, ↓z_dv, ↓z_rm, ↓z_i2l, ↓z_lc, ↓z_sw, ↓z_sf, ↓z_sn, ↓z_bd, ↓z_nt, z_b0, z_b1, z_bi, z_bj, ↓z_gF, ↓z_gR, ↓z_pF, ↓z_pZ, ↓z_pR, ↓z_aI, ↓z_aR, ↓z_sI, ↓z_sZ, ↓z_on, z_cl, ↓reduceIte, Int.reduceEq, Int.reduceNeg, Int.reduceLT, Int.reduceLE, Int.reduceAdd, Int.reduceSub, Int.reduceMul, true_and, and_true, or_true, true_or, eq_self, iR_t, sO1 C.rb.sh, C.tt, c1, Bool.false_and, Bool.false_eq_true]
theorem c_isWord' {ω : Type} {K : _ → Option ω} (C : CT P σ f N e) (hz : 0 ≤ -2 - z ∧ -2 - z < 10) : cl (fX5_isWord P σ 1 z) K = K ((if wdB f N e z = true then 1 else 0)) := e_cl (c_isWord C hz)
theorem m_word_L (M : MT P τ f N e) (hz : 0 ≤ -2 - z ∧ -2 - z < 10) (hl : tE f N e - tS f N e = lnZ z) (kE : Int → Option Int) : ∀ (r k m : Nat), (k : Int) + (r : Int) = lnZ z → r < m → fX8_isWord_L39 P τ 265 z kE m 1 (k : Int) = kE (if eqF f (tS f N e) z r (k : Int) = true then 1 else 0) := by
  have e0 := M.e0
  have e1 := M.e1
  have ti := tok_in (f := f) M.e0 M.e1
  have hN := M.mb.hN
  have hln := lnZ_in hz
  intro r
  induction r with
  | zero =>
    intro k m h1 h2
    obtain ⟨m, rfl⟩ : ∃ q, m = q + 1 := ⟨m - 1, by omega⟩
    have k1 : lnZ z ≤ (k : Int) := by omega
    rw [eqF, if_pos rfl]
    simp (disch := first | omega | assumption) only [fX8_isWord_L39, ↓z_lt, ↓z_ge, ↓z_gt, ↓z_le, ↓z_eq, ↓z_ne, ↓z_mx, ↓z_mn, ↓z_dv, ↓z_rm, ↓z_i2l, ↓z_lc, ↓z_sw, ↓z_sf, ↓z_sn, ↓z_bd, ↓z_nt, z_b0, z_b1, z_bi, z_bj, ↓z_gF, ↓z_gR, ↓z_pF, ↓z_pZ, ↓z_pR, ↓z_aI, ↓z_aR, ↓z_sI, ↓z_sZ, ↓z_on, z_cl, ↓reduceIte, Int.reduceEq, Int.reduceNeg, Int.reduceLT, Int.reduceLE, Int.reduceAdd, Int.reduceSub, Int.reduceMul, true_and, and_true, or_true, true_or, eq_self, iR_t, z_sln, hz, k1]
  | succ r ih =>
    intro k m h1 h2
    obtain ⟨m, rfl⟩ : ∃ q, m = q + 2 := ⟨m - 2, by omega⟩
    have k1 : ¬ (lnZ z ≤ (k : Int)) := by omega
    have k2 : 0 ≤ -2 - z ∧ -2 - z < 10 ∧ 0 ≤ (k : Int) ∧ (k : Int) < lnZ z := by omega
    have fr := M.mb.fr (tS f N e + k) (by omega) (by omega)
    have hb := M.mb.by' (tS f N e + k) (by omega) (by omega)
    have hr : iR (f (tS f N e + (k : Int))) = true := iR_t (by omega) (by omega)
    have hc : iR (chZ z (k : Int)) = true := chZ_R _ _
    have ih := ih (k + 1) (m + 1) (by push_cast; omega) (by omega)
    rw [show (((k + 1 : Nat)) : Int) = (k : Int) + 1 by push_cast; rfl] at ih
    rw [eqF]
    by_cases c : f (tS f N e + (k : Int)) = chZ z (k : Int)
    · rw [decide_eq_true c, Bool.true_and, ← ih]
      rw [fX8_isWord_L39]
      simp (disch := first | omega | assumption) only [↓z_lt, ↓z_ge, ↓z_gt, ↓z_le, ↓z_eq, ↓z_ne, ↓z_mx, ↓z_mn, ↓z_dv, ↓z_rm, ↓z_i2l, ↓z_lc, ↓z_sw, ↓z_sf, ↓z_sn, ↓z_bd, ↓z_nt, z_b0, z_b1, z_bi, z_bj, ↓z_gF, ↓z_gR, ↓z_pF, ↓z_pZ, ↓z_pR, ↓z_aI, ↓z_aR, ↓z_sI, ↓z_sZ, ↓z_on, z_cl, ↓reduceIte, Int.reduceEq, Int.reduceNeg, Int.reduceLT, Int.reduceLE, Int.reduceAdd, Int.reduceSub, Int.reduceMul, true_and, and_true, or_true, true_or, eq_self, iR_t, sO265 M.mb.sh, sA266 M.mb.sh, M.mb.r1, M.ss, hb, z_sln, z_sch, hz, k1, k2, hr, hc, c, and_self]
    · rw [decide_eq_false c, Bool.false_and, if_neg (by simp)]
      rw [fX8_isWord_L39]
      simp (disch := first | omega | assumption) only [↓z_lt, ↓z_ge, ↓z_gt, ↓z_le, ↓z_eq, ↓z_ne, ↓z_mx, ↓z_mn, ↓z_dv, ↓z_rm, ↓z_i2l, ↓z_lc, ↓z_sw, ↓z_sf, ↓z_sn, ↓z_bd, ↓z_nt, z_b0, z_b1, z_bi, z_bj, ↓z_gF, ↓z_gR, ↓z_pF, ↓z_pZ, ↓z_pR, ↓z_aI, ↓z_aR, ↓z_sI, ↓z_sZ, ↓z_on, z_cl, ↓reduceIte, Int.reduceEq, Int.reduceNeg, Int.reduceLT, Int.reduceLE, Int.reduceAdd, Int.reduceSub, Int.reduceMul, true_and, and_true, or_true, true_or, eq_self, iR_t, sO265 M.mb.sh, sA266 M.mb.sh, M.mb.r1, M.ss, hb, z_sln, z_sch, hz, k1, k2, hr, hc, c, and_self]
      by_cases y : lnZ z ≤ (k : Int) + 1
      · simp (disch := first | omega | assumption) only [fX8_isWord_L39, ↓z_lt, ↓z_ge, ↓z_gt, ↓z_le, ↓z_eq, ↓z_ne, ↓z_mx, ↓z_mn, ↓z_dv, ↓z_rm, ↓z_i2l, ↓z_lc, ↓z_sw, ↓z_sf, ↓z_sn, ↓z_bd, ↓z_nt, z_b0, z_b1, z_bi, z_bj, ↓z_gF, ↓z_gR, ↓z_pF, ↓z_pZ, ↓z_pR, ↓z_aI, ↓z_aR, ↓z_sI, ↓z_sZ, ↓z_on, z_cl, ↓reduceIte, Int.reduceEq, Int.reduceNeg, Int.reduceLT, Int.reduceLE, Int.reduceAdd, Int.reduceSub, Int.reduceMul, true_and, and_true, or_true, true_or, eq_self, iR_t, z_sln, hz, y]
      · simp (disch := first | omega | assumption) only [fX8_isWord_L39, ↓z_lt, ↓z_ge, ↓z_gt, ↓z_le, ↓z_eq, ↓z_ne, ↓z_mx, ↓z_mn, ↓z_dv, ↓z_rm, ↓z_i2l, ↓z_lc, ↓z_sw, ↓z_sf, ↓z_sn, ↓z_bd, ↓z_nt, z_b0, z_b1, z_bi, z_bj, ↓z_gF, ↓z_gR, ↓z_pF, ↓z_pZ, ↓z_pR, ↓z_aI, ↓z_aR, ↓z_sI, ↓z_sZ, ↓z_on, z_cl, ↓reduceIte, Int.reduceEq, Int.reduceNeg, Int.reduceLT, Int.reduceLE, Int.reduceAdd, Int.reduceSub, Int.reduceMul, true_and, and_true, or_true, true_or, eq_self, iR_t, z_sln, hz, y]
theorem m_isWord (M : MT P τ f N e) (hz : 0 ≤ -2 - z ∧ -2 - z < 10) : fX8_isWord P τ 265 z = some (if wdB f N e z = true then 1 else 0) := by
  have e0 := M.e0
  have e1 := M.e1
  have ti := tok_in (f := f) M.e0 M.e1
  have hN := M.mb.hN
  have hln := lnZ_in hz
  have htt := tT_in (f := f) (N := N) (e := e)
  have Z : ∀ kE : Int → Option Int, fX8_isWord_L39 P τ 265 z kE 1000 0 0 = kE 0 := by
    intro kE
    have k1 : ¬ (lnZ z ≤ 0) := by omega
    simp (disch := first | omega | assumption) only [fX8_isWord_L39, ↓z_lt, ↓z_ge, ↓z_gt, ↓z_le, ↓z_eq, ↓z_ne, ↓z_mx, ↓z_mn, ↓z_dv, ↓z_rm, ↓z_i2l, ↓z_lc, ↓z_sw, ↓z_sf, ↓z_sn, ↓z_bd, ↓z_nt, z_b0, z_b1, z_bi, z_bj, ↓z_gF, ↓z_gR, ↓z_pF, ↓z_pZ, ↓z_pR, ↓z_aI, ↓z_aR, ↓z_sI, ↓z_sZ, ↓z_on, z_cl, ↓reduceIte, Int.reduceEq, Int.reduceNeg, Int.reduceLT, Int.reduceLE, Int.reduceAdd, Int.reduceSub, Int.reduceMul, true_and, and_true, or_true, true_or, eq_self, iR_t, z_sln, hz, k1]
  unfold wdB
  by_cases c1 : tT f N e = 1
  · by_cases c2 : tE f N e - tS f N e = lnZ z
    · have L := m_word_L M hz c2 (fun x10 => bz x10 (some (x10 : Int))) (lnZ z).toNat 0 1000 (by push_cast; omega) (by omega)
      rw [show ((0 : Nat) : Int) = 0 from rfl] at L
      rw [decide_eq_true c1, decide_eq_true c2, Bool.true_and, Bool.true_and]
      unfold fX8_isWord
      rw [z_gF, if_pos (sO265 M.mb.sh), M.fl]
      simp (disch := first | omega | assumption) only [↓z_lt, ↓z_ge, ↓z_gt, ↓z_le, ↓z_eq, ↓z_ne, ↓z_mx, ↓z_mn, ↓z_dv, ↓z_rm, ↓z_i2l, ↓z_lc, ↓z_sw, ↓z_sf, ↓z_sn, ↓z_bd, ↓z_nt, z_b0, z_b1, z_bi, z_bj, ↓z_gF, ↓z_gR, ↓z_pF, ↓z_pZ, ↓z_pR, ↓z_aI, ↓z_aR, ↓z_sI, ↓z_sZ, ↓z_on, z_cl, ↓reduceIte, Int.reduceEq, Int.reduceNeg, Int.reduceLT, Int.reduceLE, Int.reduceAdd, Int.reduceSub, Int.reduceMul, true_and, and_true, or_true, true_or, eq_self, iR_t, sO265 M.mb.sh, M.ss, M.ee, M.tt, c1, z_sln, hz, c2]
      refine L.trans ?_
      split <;> rfl
    · rw [decide_eq_true c1, decide_eq_false c2]
      simp (disch := first | omega | assumption) only [fX8_isWord, ↓Z, ↓z_lt, ↓z_ge, ↓z_gt, ↓z_le, ↓z_eq, ↓z_ne, ↓z_mx, ↓z_mn, ↓z_dv, ↓z_rm, ↓z_i2l, ↓z_lc, ↓z_sw, ↓z_sf, ↓z_sn, ↓z_bd, ↓z_nt, z_b0, z_b1, z_bi, z_bj, ↓z_gF, ↓z_gR, ↓z_pF, ↓z_pZ, ↓z_pR, ↓z_aI, ↓z_aR, ↓z_sI, ↓z_sZ, ↓z_on, z_cl, ↓reduceIte, Int.reduceEq, Int.reduceNeg, Int.reduceLT, Int.reduceLE, Int.reduceAdd, Int.reduceSub, Int.reduceMul, true_and, and_true, or_true, true_or, eq_self, iR_t, sO265 M.mb.sh, M.tt, M.ss, M.ee, M.fl, c1, z_sln, hz, c2, Bool.and_false, Bool.false_and, Bool.false_eq_true]
  · rw [decide_eq_false c1]
    simp (disch := first | omega | assumption) only [fX8_isWord, ↓Z, ↓z_lt, ↓z_ge, ↓z_gt, ↓z_le, ↓z_eq, ↓z_ne, ↓z_mx, ↓z_mn, ↓z_dv, ↓z_rm, ↓z_i2l, ↓z_lc, ↓z_sw, ↓z_sf, ↓z_sn, ↓z_bd, ↓z_nt, z_b0, z_b1, z_bi, z_bj, ↓z_gF, ↓z_gR, ↓z_pF, ↓z_pZ, ↓z_pR, ↓z_aI, ↓z_aR, ↓z_sI, ↓z_sZ, ↓z_on, z_cl, ↓reduceIte, Int.reduceEq, Int.reduceNeg, Int.reduceLT, Int.reduceLE, Int.reduceAdd, Int.reduceSub, Int.reduceMul, true_and, and_true, or_true, true_or, eq_self, iR_t, sO265 M.mb.sh, M.tt, M.fl, c1, Bool.false_and, Bool.false_eq_true]
theorem m_isWord' {ω : Type} {K : _ → Option ω} (M : MT P τ f N e) (hz : 0 ≤ -2 - z ∧ -2 - z < 10) : cl (fX8_isWord P τ 265 z) K = K ((if wdB f N e z = true then 1 else 0)) := e_cl (m_isWord M hz)
end ZZH
