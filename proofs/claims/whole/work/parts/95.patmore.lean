/-! A PATTERN more; a cell that the model alone writes. -/
def w57 (s : St) (x : Int) : St := wr (wr (wr (wr (wr s 267 (x + 3) (-1)) 267 (x + 4) (-1)) 267 (x + 5) (-1)) 267 (x + 6) (-1)) 267 (x + 7) (-1)
section ZZW
variable {P : Shp} {σ σ' σ0 σ1 σ2 s τ τ' τ0 τ1 τ2 : St} {f g h B B' d d' : Int → Int} {a b c e e' k i j x y z v v' w N q L kd cnt h1 s1 p o : Int} {n m r : Int}
theorem wr_self : wr σ o i (σ o i) = σ := by
  funext y j
  unfold wr
  by_cases z : y = o ∧ j = i
  · rw [if_pos z, z.1, z.2]
  · rw [if_neg z]
theorem wr_wr : wr (wr σ o i v) o i w = wr σ o i w := by
  funext y j
  unfold wr
  by_cases z : y = o ∧ j = i
  · rw [if_pos z, if_pos z]
  · rw [if_neg z, if_neg z, if_neg z]
theorem wr_back (h : σ o i = w) : wr (wr σ o i v) o i w = σ := by rw [wr_wr, ← h, wr_self]
theorem wr_comm (h : o ≠ p) : wr (wr σ o i v) p j w = wr (wr σ p j w) o i v := by
  funext y k
  unfold wr
  by_cases z : y = p ∧ k = j
  · rw [if_pos z, if_neg (by omega), if_pos z]
  · rw [if_neg z]
    by_cases z2 : y = o ∧ k = i
    · rw [if_pos z2, if_pos z2]
    · rw [if_neg z2, if_neg z2, if_neg z]
theorem virt (h : ∀ o, o ≠ 1 → σ1 o = wr σ c i v o) (hc : c ≠ q) : ∀ o, o ≠ 1 → wr σ1 q 4 n o = wr (wr σ q 4 n) c i v o := by
  intro o ho
  rw [wr_comm (o := q) (p := c) (by omega)]
  funext j
  by_cases z : o = q ∧ j = 4
  · rw [z.1, z.2, wr_s, wr_s]
  · have e1 : wr σ1 q 4 n o j = σ1 o j := by unfold wr; rw [if_neg z]
    have e2 : wr (wr σ c i v) q 4 n o j = wr σ c i v o j := by
      show (if o = q ∧ j = 4 then n else wr σ c i v o j) = _
      rw [if_neg z]
    rw [e1, e2, h o ho]
theorem unC.zu (h : unC d m) (h7 : 7 ≤ i) : unC (zu d i v) m := by
  obtain ⟨m7, m107, m1, m2, m3, m4⟩ := h
  unfold unC
  rw [zu_n (show (0 : Int) ≠ i by omega), zu_n (show (1 : Int) ≠ i by omega), zu_n (show (2 : Int) ≠ i by omega)]
  exact ⟨m7, m107, m1, m2, m3, m4⟩
theorem PR.in0 (h : PR σ q d) (a1 : σ (q + 1) (d 0) = d (7 + 8 * d 0)) (a2 : σ (q + 2) (d 0) = d (7 + 8 * d 0 + 1)) (a3 : σ (q + 3) (d 0) = d (7 + 8 * d 0 + 2)) (a4 : ∀ j, 0 ≤ j → j < d (7 + 8 * d 0 + 2) → σ (q + 4) (d 0 * 5 + j) = d (7 + 8 * d 0 + 3 + j)) (h0 : 0 ≤ d 0) (h5 : ∀ i, 0 ≤ i → i < d 0 → d (7 + 8 * i + 2) ≤ 5) : PR (wr σ q 4 (d 0 + 1)) q (zu d 0 (d 0 + 1)) := by
  have hp := h.hp
  have Z : ∀ j, j ≠ 0 → zu d 0 (d 0 + 1) j = d j := fun j hj => zu_n hj
  have Wo : ∀ o, o ≠ q → wr σ q 4 (d 0 + 1) o = σ o := fun o ho => wr_o ho
  have Wi : ∀ j, j ≠ 4 → wr σ q 4 (d 0 + 1) q j = σ q j := fun j hj => wr_i hj
  refine ⟨h.hp, ?_, ?_, ?_, ?_, ?_, ?_, ?_, ?_, ?_, ?_, ?_, ?_, ?_, ?_, ?_, ?_, ?_, ?_, ?_, ?_, ?_, ?_, ?_, ?_, ?_⟩
  · rw [Wi _ (by omega)]; exact h.r7
  · rw [Wi _ (by omega)]; exact h.r8
  · rw [Wi _ (by omega)]; exact h.r9
  · rw [Wi _ (by omega)]; exact h.r10
  · rw [Wi _ (by omega)]; exact h.r11
  · rw [Wi _ (by omega)]; exact h.r12
  · rw [Wi _ (by omega)]; exact h.r13
  · rw [Wi _ (by omega)]; exact h.r14
  · rw [Wi _ (by omega)]; exact h.r15
  · rw [Wi _ (by omega), Z _ (by omega)]; exact h.v0
  · rw [Wi _ (by omega), Z _ (by omega)]; exact h.v1
  · rw [Wi _ (by omega), Z _ (by omega)]; exact h.v2
  · rw [Wi _ (by omega), Z _ (by omega)]; exact h.v3
  · rw [wr_s, zu_s]
  · rw [Wi _ (by omega), Z _ (by omega)]; exact h.v5
  · rw [Wi _ (by omega), Z _ (by omega)]; exact h.v6
  · intro i i0 i1; rw [zu_s] at i1; rw [Wo _ (by omega), Z _ (by omega)]
    by_cases z : i = d 0
    · rw [z]; exact a1
    · exact h.we i i0 (by omega)
  · intro i i0 i1; rw [zu_s] at i1; rw [Wo _ (by omega), Z _ (by omega)]
    by_cases z : i = d 0
    · rw [z]; exact a2
    · exact h.wi i i0 (by omega)
  · intro i i0 i1; rw [zu_s] at i1; rw [Wo _ (by omega), Z _ (by omega)]
    by_cases z : i = d 0
    · rw [z]; exact a3
    · exact h.pe i i0 (by omega)
  · intro i j i0 i1 j0 j1
    rw [zu_s] at i1
    rw [Z _ (by omega)] at j1
    rw [Wo _ (by omega), Z _ (by omega)]
    by_cases z : i = d 0
    · rw [z] at j1 ⊢; exact a4 j j0 j1
    · exact h.pk i j i0 (by omega) j0 j1
  · intro i i0 i1; rw [Z 1 (by omega)] at i1; rw [Wo _ (by omega), Z _ (by omega)]; exact h.fp i i0 i1
  · intro i i0 i1; rw [Z 1 (by omega)] at i1; rw [Wo _ (by omega), Z _ (by omega)]; exact h.he i i0 i1
  · intro i i0 i1; rw [Z 2 (by omega)] at i1; rw [Wo _ (by omega), Z _ (by omega)]; exact h.ho i i0 i1
  · intro i i0 i1; rw [Z 2 (by omega)] at i1; rw [Wo _ (by omega), Z _ (by omega)]; exact h.ra i i0 i1
  · intro i i0 i1; rw [Z 2 (by omega)] at i1; rw [Wo _ (by omega), Z _ (by omega)]; exact h.pa i i0 i1
theorem TV.in0 (T : TV d) (h6 : d 0 < 6) (a1 : 1 ≤ d (7 + 8 * d 0)) (a2 : 1 ≤ d (7 + 8 * d 0 + 1)) (a3 : 1 ≤ d (7 + 8 * d 0 + 2) ∧ d (7 + 8 * d 0 + 2) ≤ 5) : TV (zu d 0 (d 0 + 1)) := by
  have n0 := T.n0
  have Z : ∀ j, j ≠ 0 → zu d 0 (d 0 + 1) j = d j := fun j hj => zu_n hj
  refine ⟨fun j => ?_, by rw [zu_s]; omega, by rw [Z _ (by omega)]; exact T.n1, by rw [Z _ (by omega)]; exact T.n2, by rw [Z _ (by omega)]; exact T.n4, ?_, ?_, ?_, ?_, ?_, ?_, ?_⟩
  · by_cases z : j = 0
    · rw [zu_e z]; omega
    · rw [Z j z]; exact T.b j
  · intro p p0 p1; rw [zu_s] at p1; rw [Z _ (by omega)]
    by_cases z : p = d 0
    · rw [z]; exact a3
    · exact T.pe p p0 (by omega)
  · intro p p0 p1; rw [Z 1 (by omega)] at p1 ⊢; rw [Z _ (by omega)]; exact T.he p p0 p1
  · intro p p0 p1; rw [Z 2 (by omega)] at p1; rw [Z 1 (by omega), Z _ (by omega)]; exact T.ho p p0 p1
  · intro p p0 p1; rw [Z 2 (by omega)] at p1; rw [Z _ (by omega)]; exact T.ra p p0 p1
  · intro p p0 p1; rw [Z 2 (by omega)] at p1; rw [Z _ (by omega)]; exact T.pa p p0 p1
  · intro p p0 p1; rw [zu_s] at p1; rw [Z _ (by omega)]
    by_cases z : p = d 0
    · rw [z]; exact a2
    · exact T.wi p p0 (by omega)
  · intro p p0 p1; rw [zu_s] at p1; rw [Z _ (by omega)]
    by_cases z : p = d 0
    · rw [z]; exact a1
    · exact T.we p p0 (by omega)
theorem QQ.ic0 (Q : QQ P σ τ f N e q d) (h6 : d 0 < 6) (a1 : σ (q + 1) (d 0) = d (7 + 8 * d 0)) (a2 : σ (q + 2) (d 0) = d (7 + 8 * d 0 + 1)) (a3 : σ (q + 3) (d 0) = d (7 + 8 * d 0 + 2)) (a4 : ∀ j, 0 ≤ j → j < d (7 + 8 * d 0 + 2) → σ (q + 4) (d 0 * 5 + j) = d (7 + 8 * d 0 + 3 + j)) (b1 : 1 ≤ d (7 + 8 * d 0)) (b2 : 1 ≤ d (7 + 8 * d 0 + 1)) (b3 : 1 ≤ d (7 + 8 * d 0 + 2) ∧ d (7 + 8 * d 0 + 2) ≤ 5) (hn : NM (σ 13) (τ 269) 0 (d 0 + 1)) : QQ P (wr σ q 4 (d 0 + 1)) (wr τ 267 0 (d 0 + 1)) f N e q (zu d 0 (d 0 + 1)) := by
  have hq := Q.pr.hp
  have n0 := Q.tv.n0
  have Z : ∀ j, j ≠ 0 → zu d 0 (d 0 + 1) j = d j := fun j hj => zu_n hj
  refine ⟨Q.ct.fr (fun j _ _ => wr_n (by omega)) (wr_o (by omega)), Q.mt.fr (fun j _ _ => wr_n (by omega)) (wr_o (by omega)), Q.pr.in0 a1 a2 a3 a4 n0.1 (fun i i0 i1 => (Q.tv.pe i i0 i1).2), Q.tv.in0 h6 b1 b2 b3, ?_, ?_, ?_, ?_, ?_, ?_, ?_, ?_, ?_, ?_, ?_, ?_, ?_, ?_⟩
  · rw [wr_n (by omega)]; exact Q.pl
  · rw [wr_n (by omega)]; exact Q.n11
  · rw [wr_n (by omega)]; exact Q.n12
  · rw [wr_n (by omega)]; exact Q.n13
  · rw [wr_n (by omega), wr_n (by omega)]; exact Q.al
  · rw [wr_n (by omega)]; exact Q.al2
  · rw [wr_n (by omega)]; exact Q.m10
  · rw [wr_n (by omega)]; exact Q.m12
  · intro j j0 j9
    by_cases z : j = 0
    · subst z; rw [wr_s, zu_s]
    · rw [wr_i z, Z j z]; exact Q.dd j j0 j9
  · rw [wr_o (by omega), wr_o (by omega), zu_s]; exact hn
  · rw [wr_o (by omega), wr_o (by omega), Z _ (by omega)]; exact Q.na1
  · rw [wr_o (by omega), wr_o (by omega), Z _ (by omega)]; exact Q.na2
  · rw [Z _ (by omega), Z _ (by omega), Z _ (by omega)]; exact Q.nn3
  · refine ⟨by rw [Z 3 (by omega)]; exact Q.np.1, fun k k0 k1 => ?_⟩
    rw [Z 1 (by omega)] at k1
    rw [Z (55 + k) (by omega), Z 4 (by omega)]
    exact Q.np.2 k k0 k1
/-- a cell of the row, written on both sides where they stand -/
theorem QQ.cell0 (Q : QQ P σ τ f N e q d) (hc : q + 1 ≤ c ∧ c ≤ q + 9) (hm : unC d m) (h13 : c ≤ q + 3 → d 0 ≤ n) (h4 : c = q + 4 → 5 * d 0 ≤ n) (h56 : c = q + 5 ∨ c = q + 6 → d 1 ≤ n) (h79 : q + 7 ≤ c → d 2 ≤ n) (hv : -1 ≤ v' ∧ v' ≤ 9999) : QQ P (wr σ c n v) (wr τ 267 m v') f N e q (zu d m v') := by
  have hq := Q.pr.hp
  exact (Q.cell (v := v) hc hm h13 h4 h56 h79 hv (Q.ct.fr (fun j _ _ => wr_n (by omega)) (wr_o (by omega))) (fun o _ => rfl) (fun j _ => rfl) Q.mt (fun o _ => rfl) (fun j _ => rfl)).1
theorem QQ.mcell (Q : QQ P σ τ f N e q d) (hm : unC d m) (hv : -1 ≤ v' ∧ v' ≤ 9999) : QQ P σ (wr τ 267 m v') f N e q (zu d m v') := by
  have hq := Q.pr.hp
  have := Q.cell0 (c := q + 4) (n := 5 * d 0) (m := m) (v := σ (q + 4) (5 * d 0)) (v' := v') (by omega) hm (fun _ => by omega) (fun _ => Int.le_refl _) (fun _ => by omega) (fun _ => by omega) hv
  rw [wr_self] at this
  exact this
theorem QQ.w57 (Q : QQ P σ τ f N e q d) (h6 : d 0 < 6) (hx : x = 7 + 8 * d 0) : ∃ d', QQ P σ (w57 τ x) f N e q d' ∧ ∀ m, (m < x + 3 ∨ x + 7 < m) → d' m = d m := by
  have n0 := Q.tv.n0
  have un : ∀ j, 3 ≤ j → j ≤ 7 → unC d (x + j) := fun j j0 j1 => by unfold unC; omega
  have Q3 := Q.mcell (m := x + 3) (v' := -1) (un 3 (by omega) (by omega)) (by omega)
  have Q4 := Q3.mcell (m := x + 4) (v' := -1) ((un 4 (by omega) (by omega)).zu (by omega)) (by omega)
  have Q5 := Q4.mcell (m := x + 5) (v' := -1) (((un 5 (by omega) (by omega)).zu (by omega)).zu (by omega)) (by omega)
  have Q6 := Q5.mcell (m := x + 6) (v' := -1) ((((un 6 (by omega) (by omega)).zu (by omega)).zu (by omega)).zu (by omega)) (by omega)
  have Q7 := Q6.mcell (m := x + 7) (v' := -1) (((((un 7 (by omega) (by omega)).zu (by omega)).zu (by omega)).zu (by omega)).zu (by omega)) (by omega)
  refine ⟨_, Q7, fun m hm => ?_⟩
  rw [zu_n (by omega), zu_n (by omega), zu_n (by omega), zu_n (by omega), zu_n (by omega)]
theorem FS.w57 (h : FS s) : FS (w57 s x) := ((((h.wr7).wr7).wr7).wr7).wr7
theorem BAD.w57 (h : BAD q σ0 τ0 σ' τ') : BAD q σ0 τ0 σ' (w57 τ' x) := ((((h.wr7).wr7).wr7).wr7).wr7
theorem MFr.w57 : MFr τ (w57 τ x) := ((((MFr.wo (by omega)).tr (MFr.wo (by omega))).tr (MFr.wo (by omega))).tr (MFr.wo (by omega))).tr (MFr.wo (by omega))
theorem w57_o (h : o ≠ 267) : w57 s x o = s o := by
  unfold w57
  rw [wr_o h, wr_o h, wr_o h, wr_o h, wr_o h]
theorem m57 (sh : ShpIs P 279 PL) (h10 : s 265 10 = 267) (h0 : 0 ≤ x) (h1 : x < 90) (y : Int) (kE : St → Option St) (m : Nat) : fX8_patternLine_L57 P 265 x y kE (m + 6) 3 s = kE (w57 s x) := by
  have S : ∀ (m : Nat) (k : Int) (s : St), s 265 10 = 267 → 0 ≤ k → k < 8 → fX8_patternLine_L57 P 265 x y kE (m + 1) k s = fX8_patternLine_L57 P 265 x y kE m (k + 1) (wr s 267 (x + k) (-1)) := by
    intro m k s h k0 k8
    have k1 : ¬ (8 ≤ k) := by omega
    simp (disch := first | omega | assumption) only [fX8_patternLine_L57, ↓z_lt, ↓z_ge, ↓z_gt, ↓z_le, ↓z_eq, ↓z_ne, ↓z_mx, ↓z_mn, ↓z_dv, ↓z_rm, ↓z_i2l, ↓z_lc, ↓z_sw, ↓z_sf, ↓z_sn, ↓z_bd, ↓z_nt, z_b0, z_b1, z_bi, z_bj, ↓z_gF, ↓z_gR, ↓z_pF, ↓z_pZ, ↓z_pR, ↓z_aI, ↓z_aR, ↓z_sI, ↓z_sZ, ↓z_on, z_cl, ↓reduceIte, Int.reduceEq, Int.reduceNeg, Int.reduceLT, Int.reduceLE, Int.reduceAdd, Int.reduceSub, Int.reduceMul, true_and, and_true, or_true, true_or, eq_self, iR_t, sO265 sh, sA267 sh, h, k1]
  have E : ∀ (m : Nat) (s : St), fX8_patternLine_L57 P 265 x y kE (m + 1) 8 s = kE s := by
    intro m s
    simp (disch := first | omega | assumption) only [fX8_patternLine_L57, ↓z_lt, ↓z_ge, ↓z_gt, ↓z_le, ↓z_eq, ↓z_ne, ↓z_mx, ↓z_mn, ↓z_dv, ↓z_rm, ↓z_i2l, ↓z_lc, ↓z_sw, ↓z_sf, ↓z_sn, ↓z_bd, ↓z_nt, z_b0, z_b1, z_bi, z_bj, ↓z_gF, ↓z_gR, ↓z_pF, ↓z_pZ, ↓z_pR, ↓z_aI, ↓z_aR, ↓z_sI, ↓z_sZ, ↓z_on, z_cl, ↓reduceIte, Int.reduceEq, Int.reduceNeg, Int.reduceLT, Int.reduceLE, Int.reduceAdd, Int.reduceSub, Int.reduceMul, true_and, and_true, or_true, true_or, eq_self, iR_t]
  have N : ∀ (s : St) (k : Int), wr s 267 k (-1) 265 10 = s 265 10 := fun s k => wr_n (by omega)
  rw [show m + 6 = (m + 5) + 1 from rfl, S (m + 5) 3 s h10 (by omega) (by omega), show (3 : Int) + 1 = 4 from rfl, show m + 5 = (m + 4) + 1 from rfl, S (m + 4) 4 _ (by rw [N]; exact h10) (by omega) (by omega), show (4 : Int) + 1 = 5 from rfl, show m + 4 = (m + 3) + 1 from rfl, S (m + 3) 5 _ (by rw [N, N]; exact h10) (by omega) (by omega), show (5 : Int) + 1 = 6 from rfl, show m + 3 = (m + 2) + 1 from rfl, S (m + 2) 6 _ (by rw [N, N, N]; exact h10) (by omega) (by omega), show (6 : Int) + 1 = 7 from rfl, show m + 2 = (m + 1) + 1 from rfl, S (m + 1) 7 _ (by rw [N, N, N, N]; exact h10) (by omega) (by omega), show (7 : Int) + 1 = 8 from rfl, E]
  rfl
end ZZW
