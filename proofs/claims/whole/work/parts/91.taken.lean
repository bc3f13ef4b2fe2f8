/-! A TAKEN PORT on both sides; a device more. -/
section ZZS
variable {P : Shp} {σ σ' σ0 σ1 σ2 s τ τ' τ0 τ1 τ2 : St} {f g h B B' d d' : Int → Int} {a b c e e' k i j x y z v v' w N q L kd cnt h1 s1 p : Int} {n m r : Int}
def tkF (d : Int → Int) (v : Int) : Int := if fdI (fun j => d (55 + j)) v (d 1) = -1 then 0 else 1
theorem c_taken (Q : QQ P σ τ f N e q d) (hv : iR v = true) : fX5_isTakenPort P σ 1 v = some (tkF d v) := by
  have hq := Q.pr.hp
  have hq1 : ¬ (q = -1) := by omega
  have hq5 : ¬ (q + 5 = -1) := by omega
  have sh := Q.ct.rb.sh
  have n1 := Q.tv.n1
  have p9 := Q.pl
  have v5 := Q.pr.v5
  have r11 := Q.pr.r11
  have key := loop_f (fun m k => fX5_isTakenPort_L2 P σ 1 v (bz 0 (some (0 : Int))) (bz 1 (some (1 : Int))) m k) (bz 0 (some (0 : Int))) (fun i => if i = -1 then bz 0 (some (0 : Int)) else bz 1 (some (1 : Int))) (d 1).toNat (fun j => decide (d (55 + j) = v)) (fun k m hk1 => by
    have k1 : ¬ (d 1 ≤ (k : Int)) := by omega
    have k8 : ¬ (8 ≤ (k : Int)) := by omega
    have fp := Q.pr.fp k (by omega) (by omega)
    have tb := Q.tv.b (55 + (k : Int))
    have kn : ¬ ((k : Int) = -1) := by omega
    by_cases c : d (55 + (k : Int)) = v
    · rw [if_pos (decide_eq_true c), if_neg kn]
      simp (disch := first | omega | assumption) only [fX5_isTakenPort_L2, ↓z_lt, ↓z_ge, ↓z_gt, ↓z_le, ↓z_eq, ↓z_ne, ↓z_mx, ↓z_mn, ↓z_dv, ↓z_rm, ↓z_i2l, ↓z_lc, ↓z_sw, ↓z_sf, ↓z_sn, ↓z_bd, ↓z_nt, z_b0, z_b1, z_bi, z_bj, ↓z_gF, ↓z_gR, ↓z_pF, ↓z_pZ, ↓z_pR, ↓z_aI, ↓z_aR, ↓z_sI, ↓z_sZ, ↓z_on, z_cl, ↓reduceIte, Int.reduceEq, Int.reduceNeg, Int.reduceLT, Int.reduceLE, Int.reduceAdd, Int.reduceSub, Int.reduceMul, true_and, and_true, or_true, true_or, eq_self, iR_t, sO1 sh, p9, v5, r11, pO sh hq, pA5 sh hq, hq1, hq5, fp, k1, k8, c, hv]
    · rw [if_neg (by simpa using c)]
      simp (disch := first | omega | assumption) only [fX5_isTakenPort_L2, ↓z_lt, ↓z_ge, ↓z_gt, ↓z_le, ↓z_eq, ↓z_ne, ↓z_mx, ↓z_mn, ↓z_dv, ↓z_rm, ↓z_i2l, ↓z_lc, ↓z_sw, ↓z_sf, ↓z_sn, ↓z_bd, ↓z_nt, z_b0, z_b1, z_bi, z_bj, ↓z_gF, ↓z_gR, ↓z_pF, ↓z_pZ, ↓z_pR, ↓z_aI, ↓z_aR, ↓z_sI, ↓z_sZ, ↓z_on, z_cl, ↓reduceIte, Int.reduceEq, Int.reduceNeg, Int.reduceLT, Int.reduceLE, Int.reduceAdd, Int.reduceSub, Int.reduceMul, true_and, and_true, or_true, true_or, eq_self, iR_t, sO1 sh, p9, v5, r11, pO sh hq, pA5 sh hq, hq1, hq5, fp, k1, k8, c, hv]) (fun m => by
    have k1 : d 1 ≤ (((d 1).toNat : Nat) : Int) := by omega
    simp (disch := first | omega | assumption) only [fX5_isTakenPort_L2, ↓z_lt, ↓z_ge, ↓z_gt, ↓z_le, ↓z_eq, ↓z_ne, ↓z_mx, ↓z_mn, ↓z_dv, ↓z_rm, ↓z_i2l, ↓z_lc, ↓z_sw, ↓z_sf, ↓z_sn, ↓z_bd, ↓z_nt, z_b0, z_b1, z_bi, z_bj, ↓z_gF, ↓z_gR, ↓z_pF, ↓z_pZ, ↓z_pR, ↓z_aI, ↓z_aR, ↓z_sI, ↓z_sZ, ↓z_on, z_cl, ↓reduceIte, Int.reduceEq, Int.reduceNeg, Int.reduceLT, Int.reduceLE, Int.reduceAdd, Int.reduceSub, Int.reduceMul, true_and, and_true, or_true, true_or, eq_self, iR_t, sO1 sh, p9, v5, pO sh hq, hq1, k1]) (m := 1000) (by omega) (if_pos rfl)
  unfold fX5_isTakenPort
  refine key.trans ?_
  unfold tkF fdI
  dsimp only
  split <;> rfl
theorem m_taken (Q : QQ P σ τ f N e q d) (hv : iR v = true) : fX8_isTaken P τ 265 v = some (tkF d v) := by
  have sh := Q.ct.rb.sh
  have n1 := Q.tv.n1
  have m10 := Q.m10
  have d1 := Q.dd 1 (by omega) (by omega)
  have key := loop_f (fun m k => fX8_isTaken_L2 P τ 265 v (bz 0 (some (0 : Int))) (bz 1 (some (1 : Int))) m k) (bz 0 (some (0 : Int))) (fun i => if i = -1 then bz 0 (some (0 : Int)) else bz 1 (some (1 : Int))) (d 1).toNat (fun j => decide (d (55 + j) = v)) (fun k m hk1 => by
    have k1 : ¬ (d 1 ≤ (k : Int)) := by omega
    have fp := Q.dd (55 + (k : Int)) (by omega) (by omega)
    have tb := Q.tv.b (55 + (k : Int))
    have kn : ¬ ((k : Int) = -1) := by omega
    by_cases c : d (55 + (k : Int)) = v
    · rw [if_pos (decide_eq_true c), if_neg kn]
      simp (disch := first | omega | assumption) only [fX8_isTaken_L2, ↓z_lt, ↓z_ge, ↓z_gt, ↓z_le, ↓z_eq, ↓z_ne, ↓z_mx, ↓z_mn, ↓z_dv, ↓z_rm, ↓z_i2l, ↓z_lc, ↓z_sw, ↓z_sf, ↓z_sn, ↓z_bd, ↓z_nt, z_b0, z_b1, z_bi, z_bj, ↓z_gF, ↓z_gR, ↓z_pF, ↓z_pZ, ↓z_pR, ↓z_aI, ↓z_aR, ↓z_sI, ↓z_sZ, ↓z_on, z_cl, ↓reduceIte, Int.reduceEq, Int.reduceNeg, Int.reduceLT, Int.reduceLE, Int.reduceAdd, Int.reduceSub, Int.reduceMul, true_and, and_true, or_true, true_or, eq_self, iR_t, sO265 sh, sA267 sh, m10, d1, fp, k1, c, hv]
    · rw [if_neg (by simpa using c)]
      simp (disch := first | omega | assumption) only [fX8_isTaken_L2, ↓z_lt, ↓z_ge, ↓z_gt, ↓z_le, ↓z_eq, ↓z_ne, ↓z_mx, ↓z_mn, ↓z_dv, ↓z_rm, ↓z_i2l, ↓z_lc, ↓z_sw, ↓z_sf, ↓z_sn, ↓z_bd, ↓z_nt, z_b0, z_b1, z_bi, z_bj, ↓z_gF, ↓z_gR, ↓z_pF, ↓z_pZ, ↓z_pR, ↓z_aI, ↓z_aR, ↓z_sI, ↓z_sZ, ↓z_on, z_cl, ↓reduceIte, Int.reduceEq, Int.reduceNeg, Int.reduceLT, Int.reduceLE, Int.reduceAdd, Int.reduceSub, Int.reduceMul, true_and, and_true, or_true, true_or, eq_self, iR_t, sO265 sh, sA267 sh, m10, d1, fp, k1, c, hv]) (fun m => by
    have k1 : d 1 ≤ (((d 1).toNat : Nat) : Int) := by omega
    simp (disch := first | omega | assumption) only [fX8_isTaken_L2, ↓z_lt, ↓z_ge, ↓z_gt, ↓z_le, ↓z_eq, ↓z_ne, ↓z_mx, ↓z_mn, ↓z_dv, ↓z_rm, ↓z_i2l, ↓z_lc, ↓z_sw, ↓z_sf, ↓z_sn, ↓z_bd, ↓z_nt, z_b0, z_b1, z_bi, z_bj, ↓z_gF, ↓z_gR, ↓z_pF, ↓z_pZ, ↓z_pR, ↓z_aI, ↓z_aR, ↓z_sI, ↓z_sZ, ↓z_on, z_cl, ↓reduceIte, Int.reduceEq, Int.reduceNeg, Int.reduceLT, Int.reduceLE, Int.reduceAdd, Int.reduceSub, Int.reduceMul, true_and, and_true, or_true, true_or, eq_self, iR_t, sO265 sh, sA267 sh, m10, d1, k1]) (m := 1000) (by omega) (if_pos rfl)
  unfold fX8_isTaken
  refine key.trans ?_
  unfold tkF fdI
  dsimp only
  split <;> rfl
/-- a taken port is in the range -/
theorem tkF_r (Q : QQ P σ τ f N e q d) (h : tkF d v ≠ 0) : 0 ≤ v ∧ v < d 4 := by
  have n1 := Q.tv.n1
  have := fdI_in (h := fun j => d (55 + j)) (v := v) (cnt := d 1) n1.1
  unfold tkF at h
  rcases this with ⟨a1, a2⟩ | ⟨a1, a2, a3⟩
  · rw [if_pos a1] at h; exact absurd rfl h
  · have := Q.np.2 _ a1 a2
    rw [← a3]; exact this
theorem PR.in1 (h : PR σ q d) (a5 : σ (q + 5) (d 1) = d (55 + d 1)) (a6 : σ (q + 6) (d 1) = d (63 + d 1)) (h0 : 0 ≤ d 1) : PR (wr σ q 5 (d 1 + 1)) q (zu d 1 (d 1 + 1)) := by
  have hp := h.hp
  have Z : ∀ j, j ≠ 1 → zu d 1 (d 1 + 1) j = d j := fun j hj => zu_n hj
  have Wo : ∀ o, o ≠ q → wr σ q 5 (d 1 + 1) o = σ o := fun o ho => wr_o ho
  have Wi : ∀ j, j ≠ 5 → wr σ q 5 (d 1 + 1) q j = σ q j := fun j hj => wr_i hj
  refine ⟨h.hp, ?_, ?_, ?_, ?_, ?_, ?_, ?_, ?_, ?_, ?_, ?_, ?_, ?_, ?_, ?_, ?_, ?_, ?_, ?_, ?_, ?_, ?_, ?_, ?_, ?_⟩
  · rw [Wi _ (by omega)]; exact h.r7
  · rw [Wi _ (by omega)]; exact h.r8
  · rw [Wi _ (by omega)]; exact h.r9
  · rw [Wi _ (by omega)]; exact h.r10
  · rw [Wi _ (by omega)]; exact h.r11
  · rw [Wi _ (by omega)]; exact h.r12
  · rw [Wi _ (by omega)]; exact h.r13
  · rw [Wi _ (by omega)]; exact h.r14
  · rw [Wi _ (by omega)]; exact h.r15
  · rw [Wi _ (by omega), Z _ (by omega)]; exact h.v0
  · rw [Wi _ (by omega), Z _ (by omega)]; exact h.v1
  · rw [Wi _ (by omega), Z _ (by omega)]; exact h.v2
  · rw [Wi _ (by omega), Z _ (by omega)]; exact h.v3
  · rw [Wi _ (by omega), Z _ (by omega)]; exact h.v4
  · rw [wr_s, zu_s]
  · rw [Wi _ (by omega), Z _ (by omega)]; exact h.v6
  · intro i i0 i1; rw [Z 0 (by omega)] at i1; rw [Wo _ (by omega), Z _ (by omega)]; exact h.we i i0 i1
  · intro i i0 i1; rw [Z 0 (by omega)] at i1; rw [Wo _ (by omega), Z _ (by omega)]; exact h.wi i i0 i1
  · intro i i0 i1; rw [Z 0 (by omega)] at i1; rw [Wo _ (by omega), Z _ (by omega)]; exact h.pe i i0 i1
  · intro i j i0 i1 j0 j1
    rw [Z 0 (by omega)] at i1
    rw [Z _ (by omega)] at j1
    rw [Wo _ (by omega), Z _ (by omega)]; exact h.pk i j i0 i1 j0 j1
  · intro i i0 i1; rw [zu_s] at i1; rw [Wo _ (by omega), Z _ (by omega)]
    by_cases z : i = d 1
    · rw [z]; exact a5
    · exact h.fp i i0 (by omega)
  · intro i i0 i1; rw [zu_s] at i1; rw [Wo _ (by omega), Z _ (by omega)]
    by_cases z : i = d 1
    · rw [z]; exact a6
    · exact h.he i i0 (by omega)
  · intro i i0 i1; rw [Z 2 (by omega)] at i1; rw [Wo _ (by omega), Z _ (by omega)]; exact h.ho i i0 i1
  · intro i i0 i1; rw [Z 2 (by omega)] at i1; rw [Wo _ (by omega), Z _ (by omega)]; exact h.ra i i0 i1
  · intro i i0 i1; rw [Z 2 (by omega)] at i1; rw [Wo _ (by omega), Z _ (by omega)]; exact h.pa i i0 i1
end ZZS
