/-! THE TEXT goes into the reader, twenty signs a call. -/
section ZQ8
variable {P P' P1 P2 : Shp} {n n' n1 n2 c r : Nat} {σ σ' σ1 σ2 s : St} {z m v a i j x b c0 c2 c3 c4 c6 c7 c8 v0 v1 v2 v3 v4 : Int} {T A : List Int} {L : Nat} {xs : Nat → Int32} {g : Int → Int}
def chG (T : List Int) (c7 i : Int) : Int := if c7 + i < (T.length : Int) then gL T (c7 + i) else 32
theorem plain_x (h : plain T) (x : Int) : 0 ≤ gL T x ∧ gL T x < 128 := by
  unfold gL
  rw [List.getD_eq_getElem?_getD]
  by_cases c : x.toNat < T.length
  · rw [List.getElem?_eq_getElem c]
    exact h _ (List.getElem_mem _)
  · rw [List.getElem?_eq_none (by omega)]
    exact ⟨by decide, by decide⟩
theorem chG_in (h : plain T) : ∀ i, 0 ≤ chG T c7 i ∧ chG T c7 i < 128 := fun i => by
  unfold chG
  split
  · exact plain_x h _
  · omega
theorem SBP.fr (h : SBP P n σ z T m) (hz : s z = σ z) (ha : s (σ z 0) = σ (σ z 0)) : SBP P n s z T m := by
  obtain ⟨h1, h2, h3, ⟨cap, h4⟩, h5, h6, h7, h8, h9⟩ := h
  exact ⟨h1, h2, by rw [hz]; exact h3, ⟨cap, by rw [hz, ha]; exact h4⟩, by rw [hz]; exact h5, by rw [hz]; exact h6, h7, by rw [hz, ha]; exact h8, h9⟩
theorem SBP.al (h : SBP P n σ z T m) {k l : Nat} (e : ∀ o, o ≠ (n : Int) → s o = σ o) : SBP (al P n k l) (n + 1) s z T m := by
  have z0 := h.z0
  have a0 := h.a0
  have h' := h.fr (s := s) (e z (by omega)) (e _ (by omega))
  obtain ⟨h1, h2, h3, ⟨cap, h4⟩, h5, h6, h7, h8, h9⟩ := h'
  exact ⟨⟨h1.1, by push_cast; omega⟩, by rw [okO_al (by omega)]; exact h2, ⟨h3.1, by push_cast; omega, h3.2.2⟩, ⟨cap, by rw [al_n (by omega)]; exact h4⟩, h5, h6, h7, h8, h9⟩
def mn4 (x : Int) : Nat := if x ≤ 0 then 0 else if 4 ≤ x then 4 else x.toNat
theorem bg433 (S : SBP P n σ z T (T.length : Int)) (hc : c ≤ 1000) (h7 : 0 ≤ c7 ∧ c7 ≤ 400) (hA : ∀ i, 0 ≤ i → i < 5 → okA P 10 c8 i = true) (h8 : c8 ≠ z ∧ c8 ≠ σ z 0) : ∀ (r : Nat) (p9 : Int) (m : Nat) (s : St), p9 + (r : Int) = 20 → 0 ≤ p9 → r < m → (∀ o, o ≠ c8 → s o = σ o) → (∀ j, 0 ≤ j → j < 5 → s c8 j = vP (chG T c7) j (mn4 (p9 - 4 * j))) →
    ∃ s', (∀ kE, fL_begins_L433 L xs c0 c3 z (T.length : Int) c7 c8 kE m p9 P n c s = kE P n c s') ∧ (∀ o, o ≠ c8 → s' o = σ o) ∧ (∀ j, 0 ≤ j → j < 5 → s' c8 j = vP (chG T c7) j 4) := by
  intro r
  induction r with
  | zero =>
    intro p9 m s hp p0 hm ho hj
    obtain ⟨m, rfl⟩ : ∃ q, m = q + 1 := ⟨m - 1, by omega⟩
    have e20 : p9 = 20 := by push_cast at hp; omega
    subst e20
    refine ⟨s, fun kE => ?_, ho, fun j j0 j1 => ?_⟩
    · simp (disch := first | omega | assumption | with_reducible rfl | fail) only [fL_begins_L433, ↓z_lt, ↓z_ge, ↓z_gt, ↓z_le, ↓z_eq, ↓z_ne, ↓z_mx, ↓z_mn, ↓z_dv, ↓z_rm, ↓z_i2l, ↓z_lc, ↓z_sw, ↓z_sf, ↓z_sn, ↓z_bd, ↓z_nt, z_b0, z_b1, z_bi, z_bj, ↓z_gF, ↓z_gR, ↓z_pF, ↓z_pZ, ↓z_pR, ↓z_aI, ↓z_aR, ↓z_sI, ↓z_sZ, ↓z_on, z_cl, ↓reduceIte, Int.reduceEq, Int.reduceNeg, Int.reduceLT, Int.reduceLE, Int.reduceAdd, Int.reduceSub, Int.reduceMul, true_and, and_true, or_true, true_or, eq_self, iR_t]
    · rw [hj j j0 j1]
      unfold mn4
      rw [if_neg (by omega), if_pos (by omega)]
  | succ r ih =>
    intro p9 m s hp p0 hm ho hj
    obtain ⟨m, rfl⟩ : ∃ q, m = q + 1 := ⟨m - 1, by omega⟩
    push_cast at hp
    have z0 := S.z0
    have le : (T.length : Int) ≤ 702 := by
      obtain ⟨cap, c1, c2, c3, _⟩ := S.ca
      omega
    have q0 : 0 ≤ p9 / 4 ∧ p9 / 4 < 5 := by omega
    have tq : p9.tdiv 4 = p9 / 4 := tdiv_nn p0
    have oA := hA (p9 / 4) q0.1 q0.2
    have hv := hj (p9 / 4) q0.1 q0.2
    have gi := chG_in (c7 := c7) S.pl
    have vb := (vP_in (j := p9 / 4) gi).2.2
    have hr : mn4 (p9 - 4 * (p9 / 4)) = (p9 - 4 * (p9 / 4)).toNat := by
      unfold mn4
      by_cases w : p9 - 4 * (p9 / 4) ≤ 0
      · rw [if_pos w]; omega
      · rw [if_neg w, if_neg (by omega)]
    rw [hr] at hv
    have vr := vb (p9 - 4 * (p9 / 4)).toNat (by omega)
    have c1 : ¬ (20 ≤ p9) := by omega
    have gp := gi p9
    have key : fL_begins_L433 L xs c0 c3 z (T.length : Int) c7 c8 = fL_begins_L433 L xs c0 c3 z (T.length : Int) c7 c8 := rfl
    have hs : ∀ kE, fL_begins_L433 L xs c0 c3 z (T.length : Int) c7 c8 kE (m + 1) p9 P n c s = fL_begins_L433 L xs c0 c3 z (T.length : Int) c7 c8 kE m (p9 + 1) P n c (wr s c8 (p9 / 4) (ior (ishl (s c8 (p9 / 4)) 8) (chG T c7 p9))) := by
      intro kE
      by_cases w : c7 + p9 < (T.length : Int)
      · have eg : chG T c7 p9 = gL T (c7 + p9) := if_pos w
        have hS : SBP P n s z T (T.length : Int) := S.fr (ho z (fun q => h8.1 q.symm)) (ho _ (fun q => h8.2 q.symm))
        have ec := sb_cAt hS (i := c7 + p9) (by omega) w
        have oz := S.oz
        have w2 : ¬ ((T.length : Int) ≤ c7 + p9) := by omega
        rw [eg, fL_begins_L433]
        simp (disch := first | omega | assumption | with_reducible rfl | fail) only [↓z_lt, ↓z_ge, ↓z_gt, ↓z_le, ↓z_eq, ↓z_ne, ↓z_mx, ↓z_mn, ↓z_dv, ↓z_rm, ↓z_i2l, ↓z_lc, ↓z_sw, ↓z_sf, ↓z_sn, ↓z_bd, ↓z_nt, z_b0, z_b1, z_bi, z_bj, ↓z_gF, ↓z_gR, ↓z_pF, ↓z_pZ, ↓z_pR, ↓z_aI, ↓z_aR, ↓z_sI, ↓z_sZ, ↓z_on, z_cl, ↓reduceIte, Int.reduceEq, Int.reduceNeg, Int.reduceLT, Int.reduceLE, Int.reduceAdd, Int.reduceSub, Int.reduceMul, true_and, and_true, or_true, true_or, eq_self, iR_t, c1, tq, oA, w2, ↓bud_t, oz, ↓e_g ec]
      · have eg : chG T c7 p9 = 32 := if_neg w
        have w2 : (T.length : Int) ≤ c7 + p9 := by omega
        rw [eg, fL_begins_L433]
        simp (disch := first | omega | assumption | with_reducible rfl | fail) only [↓z_lt, ↓z_ge, ↓z_gt, ↓z_le, ↓z_eq, ↓z_ne, ↓z_mx, ↓z_mn, ↓z_dv, ↓z_rm, ↓z_i2l, ↓z_lc, ↓z_sw, ↓z_sf, ↓z_sn, ↓z_bd, ↓z_nt, z_b0, z_b1, z_bi, z_bj, ↓z_gF, ↓z_gR, ↓z_pF, ↓z_pZ, ↓z_pR, ↓z_aI, ↓z_aR, ↓z_sI, ↓z_sZ, ↓z_on, z_cl, ↓reduceIte, Int.reduceEq, Int.reduceNeg, Int.reduceLT, Int.reduceLE, Int.reduceAdd, Int.reduceSub, Int.reduceMul, true_and, and_true, or_true, true_or, eq_self, iR_t, c1, tq, oA, w2]
    obtain ⟨s', e, o', j'⟩ := ih (p9 + 1) m (wr s c8 (p9 / 4) (ior (ishl (s c8 (p9 / 4)) 8) (chG T c7 p9))) (by omega) (by omega) (by omega) (fun o h => by rw [wr_o h]; exact ho o h) (fun j j0 j1 => by
      by_cases w : j = p9 / 4
      · subst w
        rw [wr_s, hv, or_B vr.1 vr.2 gp.1 (by omega)]
        have e1 : mn4 (p9 + 1 - 4 * (p9 / 4)) = (p9 - 4 * (p9 / 4)).toNat + 1 := by
          unfold mn4
          rw [if_neg (by omega)]
          by_cases w : 4 ≤ p9 + 1 - 4 * (p9 / 4)
          · rw [if_pos w]; omega
          · rw [if_neg w]; omega
        rw [e1, vP_s]
        congr 2
        omega
      · rw [wr_i w, hj j j0 j1]
        congr 1
        unfold mn4
        by_cases w1 : p9 - 4 * j ≤ 0
        · rw [if_pos w1, if_pos (show p9 + 1 - 4 * j ≤ 0 by omega)]
        · rw [if_neg w1, if_pos (show 4 ≤ p9 - 4 * j by omega), if_neg (show ¬ (p9 + 1 - 4 * j ≤ 0) by omega), if_pos (show 4 ≤ p9 + 1 - 4 * j by omega)])
    exact ⟨s', fun kE => (hs kE).trans (e kE), o', j'⟩
theorem ShpIs.fr (h : ShpIs P 279 PL) (e : ∀ o, o < 265 → P' o = P o) : ShpIs P' 279 PL := fun y q hq => by
  have hz : y < 265 := by
    have := (List.getElem?_eq_some_iff.mp hq).1
    have e9 : PL.length = 265 := by decide +kernel
    omega
  rw [e _ (by omega)]
  exact h y q hq
theorem c_appd (sh : ShpIs P 279 PL) (x0 : σ 0 0 = 1) (r0 : σ 1 0 = 2) (h0 : 0 ≤ σ 1 1) (h1 : σ 1 1 + 20 ≤ 600) : ∃ σ', fX7_append P σ 0 v0 v1 v2 v3 v4 = some (σ 1 1 + 20, σ') ∧ (∀ o, o ≠ 1 → o ≠ 2 → σ' o = σ o) ∧ (∀ j, j ≠ 1 → σ' 1 j = σ 1 j) ∧ σ' 1 1 = σ 1 1 + 20 ∧ σ' 2 = apB byC (apB byC (apB byC (apB byC (apB byC (σ 2) (σ 1 1) v0) (σ 1 1 + 4) v1) (σ 1 1 + 8) v2) (σ 1 1 + 12) v3) (σ 1 1 + 16) v4 := by
  generalize hF : σ 1 1 = F at *
  obtain ⟨s1, e1, o1, j1, f1, b1⟩ := c_bytes (c := v0) sh r0 (by omega) (by omega)
  rw [hF] at f1 b1
  obtain ⟨s2, e2, o2, j2, f2, b2⟩ := c_bytes (c := v1) sh (σ := s1) (by rw [j1 0 (by omega)]; exact r0) (by omega) (by omega)
  rw [f1] at f2 b2
  obtain ⟨s3, e3, o3, j3, f3, b3⟩ := c_bytes (c := v2) sh (σ := s2) (by rw [j2 0 (by omega), j1 0 (by omega)]; exact r0) (by omega) (by omega)
  rw [f2] at f3 b3
  obtain ⟨s4, e4, o4, j4, f4, b4⟩ := c_bytes (c := v3) sh (σ := s3) (by rw [j3 0 (by omega), j2 0 (by omega), j1 0 (by omega)]; exact r0) (by omega) (by omega)
  rw [f3] at f4 b4
  obtain ⟨s5, e5, o5, j5, f5, b5⟩ := c_bytes (c := v4) sh (σ := s4) (by rw [j4 0 (by omega), j3 0 (by omega), j2 0 (by omega), j1 0 (by omega)]; exact r0) (by omega) (by omega)
  rw [f4] at f5 b5
  have y1 : s1 0 0 = 1 := by rw [o1 0 (by omega) (by omega)]; exact x0
  have y2 : s2 0 0 = 1 := by rw [o2 0 (by omega) (by omega)]; exact y1
  have y3 : s3 0 0 = 1 := by rw [o3 0 (by omega) (by omega)]; exact y2
  have y4 : s4 0 0 = 1 := by rw [o4 0 (by omega) (by omega)]; exact y3
  have y5 : s5 0 0 = 1 := by rw [o5 0 (by omega) (by omega)]; exact y4
  have r1 : ¬ (600 < F + 20) := by omega
  have eH : fX5_hasRoomFor P σ 1 20 = some 1 := by
    simp (disch := first | omega | assumption) only [fX5_hasRoomFor, ↓z_lt, ↓z_ge, ↓z_gt, ↓z_le, ↓z_eq, ↓z_ne, ↓z_mx, ↓z_mn, ↓z_dv, ↓z_rm, ↓z_i2l, ↓z_lc, ↓z_sw, ↓z_sf, ↓z_sn, ↓z_bd, ↓z_nt, z_b0, z_b1, z_bi, z_bj, ↓z_gF, ↓z_gR, ↓z_pF, ↓z_pZ, ↓z_pR, ↓z_aI, ↓z_aR, ↓z_sI, ↓z_sZ, ↓z_on, z_cl, ↓reduceIte, Int.reduceEq, Int.reduceNeg, Int.reduceLT, Int.reduceLE, Int.reduceAdd, Int.reduceSub, Int.reduceMul, true_and, and_true, or_true, true_or, eq_self, iR_t, sO1 sh, hF, r1]
  refine ⟨s5, ?_, fun o h1 h2 => by rw [o5 o h1 h2, o4 o h1 h2, o3 o h1 h2, o2 o h1 h2, o1 o h1 h2], fun j hj => by rw [j5 j hj, j4 j hj, j3 j hj, j2 j hj, j1 j hj], by rw [f5]; omega, ?_⟩
  · simp (disch := first | omega | assumption | (simp (disch := omega) only [ x0, y1, y2, y3, y4, y5 ]; done) | fail) only [fX7_append, ↓z_lt, ↓z_ge, ↓z_gt, ↓z_le, ↓z_eq, ↓z_ne, ↓z_mx, ↓z_mn, ↓z_dv, ↓z_rm, ↓z_i2l, ↓z_lc, ↓z_sw, ↓z_sf, ↓z_sn, ↓z_bd, ↓z_nt, z_b0, z_b1, z_bi, z_bj, ↓z_gF, ↓z_gR, ↓z_pF, ↓z_pZ, ↓z_pR, ↓z_aI, ↓z_aR, ↓z_sI, ↓z_sZ, ↓z_on, z_cl, ↓reduceIte, Int.reduceEq, Int.reduceNeg, Int.reduceLT, Int.reduceLE, Int.reduceAdd, Int.reduceSub, Int.reduceMul, true_and, and_true, or_true, true_or, eq_self, iR_t, sO0 sh, sO1 sh, x0, y1, y2, y3, y4, y5, ↓e_g eH, ↓e_g e1, ↓e_g e2, ↓e_g e3, ↓e_g e4, ↓e_g e5, f5]
    rw [show F + 4 + 4 + 4 + 4 + 4 = F + 20 by omega]
  · rw [b5, b4, b3, b2, b1, show F + 4 + 4 + 4 + 4 = F + 16 by omega, show F + 4 + 4 + 4 = F + 12 by omega, show F + 4 + 4 = F + 8 by omega]
/-- what five ints put into the buffer -/
theorem apd_at {F : Int} {f : Int → Int} (hg : ∀ i, 0 ≤ g i ∧ g i < 128) : (∀ i, 0 ≤ i → i < 20 → apB byC (apB byC (apB byC (apB byC (apB byC f F (vP g 0 4)) (F + 4) (vP g 1 4)) (F + 8) (vP g 2 4)) (F + 12) (vP g 3 4)) (F + 16) (vP g 4 4) (F + i) = g i) ∧ (∀ i, i < F → apB byC (apB byC (apB byC (apB byC (apB byC f F (vP g 0 4)) (F + 4) (vP g 1 4)) (F + 8) (vP g 2 4)) (F + 12) (vP g 3 4)) (F + 16) (vP g 4 4) i = f i) := by
  have b : ∀ j r, 0 ≤ r → r < 4 → byC (vP g j 4) r = g (4 * j + r) := fun j r r0 r1 => byC_p hg r0 r1
  refine ⟨fun i i0 i1 => ?_, fun i hi => ?_⟩
  · unfold apB
    by_cases c4 : 16 ≤ i
    · rw [if_pos (by omega), b _ _ (by omega) (by omega)]; congr 1; omega
    · rw [if_neg (by omega)]
      by_cases c3 : 12 ≤ i
      · rw [if_pos (by omega), b _ _ (by omega) (by omega)]; congr 1; omega
      · rw [if_neg (by omega)]
        by_cases c2 : 8 ≤ i
        · rw [if_pos (by omega), b _ _ (by omega) (by omega)]; congr 1; omega
        · rw [if_neg (by omega)]
          by_cases c1 : 4 ≤ i
          · rw [if_pos (by omega), b _ _ (by omega) (by omega)]; congr 1; omega
          · rw [if_neg (by omega), if_pos (by omega), b _ _ (by omega) (by omega)]; congr 1; omega
  · unfold apB
    rw [if_neg (by omega), if_neg (by omega), if_neg (by omega), if_neg (by omega), if_neg (by omega)]
def RDB (P : Shp) (σ : St) (T : List Int) (F : Int) : Prop :=
  (ShpIs P 279 PL) ∧
  (σ 0 0 = 1) ∧
  (σ 1 0 = 2) ∧
  (σ 1 1 = F) ∧
  (∀ i, 0 ≤ i → i < F → i < (T.length : Int) → σ 2 i = gL T i) ∧
  (∀ i, 0 ≤ i → i < F → -128 ≤ σ 2 i ∧ σ 2 i ≤ 127)
theorem RDB.sh {P : Shp} {σ : St} {T : List Int} {F : Int} (h : RDB P σ T F) : ShpIs P 279 PL := h.1
theorem RDB.x0 {P : Shp} {σ : St} {T : List Int} {F : Int} (h : RDB P σ T F) : σ 0 0 = 1 := h.2.1
theorem RDB.r0 {P : Shp} {σ : St} {T : List Int} {F : Int} (h : RDB P σ T F) : σ 1 0 = 2 := h.2.2.1
theorem RDB.fl {P : Shp} {σ : St} {T : List Int} {F : Int} (h : RDB P σ T F) : σ 1 1 = F := h.2.2.2.1
theorem RDB.by' {P : Shp} {σ : St} {T : List Int} {F : Int} (h : RDB P σ T F) : ∀ i, 0 ≤ i → i < F → i < (T.length : Int) → σ 2 i = gL T i := h.2.2.2.2.1
theorem RDB.by2 {P : Shp} {σ : St} {T : List Int} {F : Int} (h : RDB P σ T F) : ∀ i, 0 ≤ i → i < F → -128 ≤ σ 2 i ∧ σ 2 i ≤ 127 := h.2.2.2.2.2
theorem bg418 : ∀ (r : Nat) (p7 : Int) (m : Nat) (P : Shp) (n c : Nat) (σ : St), SBP P n σ z T (T.length : Int) → RDB P σ T p7 → (T.length : Int) ≤ 320 → 0 ≤ p7 → p7 ≤ 340 → (T.length : Int) ≤ p7 + 20 * (r : Int) → r < m → c + r ≤ 999 →
    ∃ P' n' c' σ' F, (∀ kE, fL_begins_L418 L xs 0 c3 z (T.length : Int) kE m p7 P n c σ = kE P' n' c' σ') ∧ RDB P' σ' T F ∧ (T.length : Int) ≤ F ∧ F ≤ 600 ∧ (∀ o, o < 265 → o ≠ 1 → o ≠ 2 → σ' o = σ o) ∧ (∀ j, j ≠ 1 → σ' 1 j = σ 1 j) ∧ c' ≤ 999 := by
  intro r
  induction r with
  | zero =>
    intro p7 m P n c σ S R hl p0 p1 hp hm hc
    obtain ⟨m, rfl⟩ : ∃ q, m = q + 1 := ⟨m - 1, by omega⟩
    have c1 : (T.length : Int) ≤ p7 := by push_cast at hp; omega
    refine ⟨P, n, c, σ, p7, fun kE => ?_, R, c1, by omega, fun _ _ _ _ => rfl, fun _ _ => rfl, by omega⟩
    simp (disch := first | omega | assumption | with_reducible rfl | fail) only [fL_begins_L418, ↓z_lt, ↓z_ge, ↓z_gt, ↓z_le, ↓z_eq, ↓z_ne, ↓z_mx, ↓z_mn, ↓z_dv, ↓z_rm, ↓z_i2l, ↓z_lc, ↓z_sw, ↓z_sf, ↓z_sn, ↓z_bd, ↓z_nt, z_b0, z_b1, z_bi, z_bj, ↓z_gF, ↓z_gR, ↓z_pF, ↓z_pZ, ↓z_pR, ↓z_aI, ↓z_aR, ↓z_sI, ↓z_sZ, ↓z_on, z_cl, ↓reduceIte, Int.reduceEq, Int.reduceNeg, Int.reduceLT, Int.reduceLE, Int.reduceAdd, Int.reduceSub, Int.reduceMul, true_and, and_true, or_true, true_or, eq_self, c1, iR_t]
  | succ r ih =>
    intro p7 m P n c σ S R hl p0 p1 hp hm hc
    obtain ⟨m, rfl⟩ : ∃ q, m = q + 1 := ⟨m - 1, by omega⟩
    push_cast at hp
    by_cases c1 : (T.length : Int) ≤ p7
    · refine ⟨P, n, c, σ, p7, fun kE => ?_, R, c1, by omega, fun _ _ _ _ => rfl, fun _ _ => rfl, by omega⟩
      simp (disch := first | omega | assumption | with_reducible rfl | fail) only [fL_begins_L418, ↓z_lt, ↓z_ge, ↓z_gt, ↓z_le, ↓z_eq, ↓z_ne, ↓z_mx, ↓z_mn, ↓z_dv, ↓z_rm, ↓z_i2l, ↓z_lc, ↓z_sw, ↓z_sf, ↓z_sn, ↓z_bd, ↓z_nt, z_b0, z_b1, z_bi, z_bj, ↓z_gF, ↓z_gR, ↓z_pF, ↓z_pZ, ↓z_pR, ↓z_aI, ↓z_aR, ↓z_sI, ↓z_sZ, ↓z_on, z_cl, ↓reduceIte, Int.reduceEq, Int.reduceNeg, Int.reduceLT, Int.reduceLE, Int.reduceAdd, Int.reduceSub, Int.reduceMul, true_and, and_true, or_true, true_or, eq_self, c1, iR_t]
    · have z0 := S.z0
      have a0 := S.a0
      have S1 : SBP (al P n 10 5) (n + 1) (nwA σ n 0) z T (T.length : Int) := S.al fun o ho => nwA_o ho
      have a1 : (nwA σ n 0) z 0 = σ z 0 := by rw [nwA_o (by omega)]
      obtain ⟨s2, e2, o2, v2⟩ := bg433 (L := L) (xs := xs) (c0 := 0) (c3 := c3) (c := c + 1) (c7 := p7) (c8 := (n : Int)) S1 (by omega) ⟨p0, by omega⟩ (fun i i0 i1 => okA_i (len := 5) al_s i0 i1) ⟨by omega, by rw [a1]; omega⟩ 20 0 1000 (nwA σ n 0) (by omega) (Int.le_refl _) (by omega) (fun _ _ => rfl) (fun j j0 j1 => by
        unfold mn4
        rw [if_pos (by omega)]
        unfold nwA
        rw [if_pos rfl]
        rfl)
      have lo : ∀ o, o < 265 → s2 o = σ o := fun o ho => by rw [o2 o (by omega), nwA_o (by omega)]
      have sh2 : ShpIs (al P n 10 5) 279 PL := R.sh.fr fun o ho => al_n (by omega)
      obtain ⟨s3, e3, o3, j3, f3, b3⟩ := c_appd (v0 := vP (chG T p7) 0 4) (v1 := vP (chG T p7) 1 4) (v2 := vP (chG T p7) 2 4) (v3 := vP (chG T p7) 3 4) (v4 := vP (chG T p7) 4 4) (σ := s2) sh2 (by rw [lo 0 (by omega)]; exact R.x0) (by rw [lo 1 (by omega)]; exact R.r0) (by rw [lo 1 (by omega), R.fl]; exact p0) (by rw [lo 1 (by omega), R.fl]; omega)
      rw [lo 1 (by omega), R.fl] at f3 b3 e3
      rw [lo 2 (by omega)] at b3
      have gi := chG_in (c7 := p7) S.pl
      have ap := apd_at (F := p7) (f := σ 2) gi
      rw [← b3] at ap
      have S3 : SBP (al P n 10 5) (n + 1) s3 z T (T.length : Int) := by
        refine S1.fr ?_ ?_
        · rw [o3 z (by omega) (by omega), o2 z (by omega)]
        · rw [a1, o3 _ (by omega) (by omega), o2 _ (by omega)]
      have R3 : RDB (al P n 10 5) s3 T (p7 + 20) := by
        refine ⟨sh2, by rw [o3 0 (by omega) (by omega), lo 0 (by omega)]; exact R.x0, by rw [j3 0 (by omega), lo 1 (by omega)]; exact R.r0, f3, fun i i0 i1 i2 => ?_, fun i i0 i1 => ?_⟩
        · by_cases w : i < p7
          · rw [ap.2 i w]; exact R.by' i i0 w i2
          · have := ap.1 (i - p7) (by omega) (by omega)
            rw [show p7 + (i - p7) = i by omega] at this
            rw [this]
            unfold chG
            rw [show p7 + (i - p7) = i by omega, if_pos i2]
        · by_cases w : i < p7
          · rw [ap.2 i w]; exact R.by2 i i0 w
          · have := ap.1 (i - p7) (by omega) (by omega)
            rw [show p7 + (i - p7) = i by omega] at this
            rw [this]
            have := gi (i - p7)
            omega
      obtain ⟨P9, n9, c9, σ9, F9, e9, R9, l9, u9, o9, j9, k9⟩ := ih (p7 + 20) m (al P n 10 5) (n + 1) (c + 1) s3 S3 R3 hl (by omega) (by omega) (by omega) (by omega) (by omega)
      refine ⟨P9, n9, c9, σ9, F9, fun kE => ?_, R9, l9, u9, fun o h1 h2 h3 => by rw [o9 o h1 h2 h3, o3 o h2 h3, lo o h1], fun j hj => by rw [j9 j hj, j3 j hj, lo 1 (by omega)], k9⟩
      rw [← e9 kE]
      have eA : ∀ (K : Shp → Nat → Int → St → Option Hr), mkA P n σ 10 5 K = K (al P n 10 5) (n + 1) (n : Int) (nwA σ n 0) := fun K => by
        unfold mkA
        rw [if_pos (by decide), if_neg (by decide)]
        rfl
      have okv : ∀ j, 0 ≤ j → j < 5 → okA (al P n 10 5) 10 (n : Int) j = true := fun j j0 j1 => okA_i (len := 5) al_s j0 j1
      have w0 := v2 0 (by omega) (by omega)
      have w1 := v2 1 (by omega) (by omega)
      have w2 := v2 2 (by omega) (by omega)
      have w3 := v2 3 (by omega) (by omega)
      have w4 := v2 4 (by omega) (by omega)
      have q0 := sO0 sh2
      rw [fL_begins_L418]
      simp (disch := first | omega | assumption | with_reducible rfl | fail) only [↓z_lt, ↓z_ge, ↓z_gt, ↓z_le, ↓z_eq, ↓z_ne, ↓z_mx, ↓z_mn, ↓z_dv, ↓z_rm, ↓z_i2l, ↓z_lc, ↓z_sw, ↓z_sf, ↓z_sn, ↓z_bd, ↓z_nt, z_b0, z_b1, z_bi, z_bj, ↓z_gF, ↓z_gR, ↓z_pF, ↓z_pZ, ↓z_pR, ↓z_aI, ↓z_aR, ↓z_sI, ↓z_sZ, ↓z_on, z_cl, ↓reduceIte, Int.reduceEq, Int.reduceNeg, Int.reduceLT, Int.reduceLE, Int.reduceAdd, Int.reduceSub, Int.reduceMul, true_and, and_true, or_true, true_or, eq_self, iR_t, c1, ↓bud_t, ↓eA, ↓e2, okv, w0, w1, w2, w3, w4, q0, ↓e_g e3]
end ZQ8
