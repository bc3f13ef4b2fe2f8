/-! A NEW NAME on both sides. -/
section ZZM
variable {P : Shp} {σ σ' σ0 σ1 σ2 s τ τ' τ0 τ1 τ2 : St} {f g h B B' d d' : Int → Int} {a b c e k i j x y z v w N q L kd cnt h1 s1 : Int} {n m r : Nat}
theorem nm1.ag (hn : nm1 h1 B s1) (hb : ∀ i, 0 ≤ i → i < 8 → B' (s1 + i) = B (s1 + i)) : nm1 h1 B' s1 := by
  obtain ⟨l, l1, l8, hh, ha, hz⟩ := hn
  refine ⟨l, l1, l8, ?_, fun i i0 i1 => ?_, fun i i0 i1 => ?_⟩
  · rw [hh]
    exact (vl_cg l (fun k hk => hb k (by omega) (by omega))).symm
  · rw [hb i i0 (by omega)]; exact ha i i0 i1
  · rw [hb i (by omega) i1]; exact hz i i0 i1
theorem NM.le (h : NM g B b cnt) (hc : c ≤ cnt) : NM g B b c := fun j j0 j1 => h j j0 (by omega)
theorem cp_in (hk : kd = 0 ∨ kd = 1 ∨ kd = 2) (h1 : cnt < cpN kd) : cnt < 12 := by
  unfold cpN at h1
  rcases hk with rfl | rfl | rfl <;> simp at h1 <;> omega
theorem m_put (M : MT P τ f N e) (hw : tT f N e = 1) (hk : kd = 0 ∨ kd = 1 ∨ kd = 2) (q12 : τ 265 12 = 269) (q10 : τ 265 10 = 267) (hc : τ 267 kd = cnt) (h0 : 0 ≤ cnt) (h1 : cnt < cpN kd) (kE : St → Option (Int × St)) : ∃ s, fX8_begin_L87 P 265 kd (tE f N e - tS f N e) kE 1000 0 τ = kE s ∧ (∀ o, o ≠ 269 → s o = τ o) ∧ (∀ j, s 269 j = if 96 * kd + 8 * cnt ≤ j ∧ j < 96 * kd + 8 * cnt + 8 then (if j - (96 * kd + 8 * cnt) < tE f N e - tS f N e then f (tS f N e + (j - (96 * kd + 8 * cnt))) else 0) else τ 269 j) := by
  have tw := tw_in M.e0 M.e1 hw
  have ti := tok_in (f := f) M.e0 M.e1
  have e0 := M.e0
  have hN := M.mb.hN
  have c12 := cp_in hk h1
  have hk2 : 0 ≤ kd ∧ kd ≤ 2 := by omega
  have hb0 : 0 ≤ 96 * kd + 8 * cnt ∧ 96 * kd + 8 * cnt + 8 ≤ 288 := by omega
  have sh := M.mb.sh
  generalize hb9 : 96 * kd + 8 * cnt = b8 at *
  generalize hL : tE f N e - tS f N e = L at *
  obtain ⟨s, e1, i1, i2⟩ := loop_r (γ := Unit) (fun m k (s : St) => fX8_begin_L87 P 265 kd L kE m k s) kE 8 (fun _ a => a) (fun k s _ => (∀ o, o ≠ 269 → s o = τ o) ∧ ∀ j, s 269 j = if b8 ≤ j ∧ j < b8 + (k : Int) then (if j - b8 < L then f (tS f N e + (j - b8)) else 0) else τ 269 j)
    (fun k m s _ hk1 hI => by
      obtain ⟨i1, i2⟩ := hI
      have k1 : ¬ (8 ≤ (k : Int)) := by omega
      have k9 : iR (k : Int) = true := iR_t (by omega) (by omega)
      have L9 : iR L = true := iR_t (by omega) (by omega)
      have s12 : s 265 12 = 269 := by rw [i1 265 (by omega)]; exact q12
      have s10 : s 265 10 = 267 := by rw [i1 265 (by omega)]; exact q10
      have s1 : s 265 1 = 266 := by rw [i1 265 (by omega)]; exact M.mb.r1
      have s4 : s 265 4 = tS f N e := by rw [i1 265 (by omega)]; exact M.ss
      have sc : s 267 kd = cnt := by rw [i1 267 (by omega)]; exact hc
      have R : fX8_begin_L87 P 265 kd L kE (m + 1) (k : Int) s = fX8_begin_L87 P 265 kd L kE m ((k : Int) + 1) (wr s 269 (b8 + (k : Int)) (i2b (if (k : Int) < L then f (tS f N e + (k : Int)) else 0))) := by
        rw [fX8_begin_L87, z_ge, if_pos k9, if_pos (show iR 8 = true from rfl), if_neg k1, z_gR, if_pos (sO265 sh), if_neg (show ¬ (s 265 12 = -1) by rw [s12]; omega), s12, z_gR, if_pos (sO265 sh), if_neg (show ¬ (s 265 10 = -1) by rw [s10]; omega), s10, z_aI, if_pos (sA267 sh (show 0 ≤ kd by omega) (by omega)), sc, m_nameAt, hb9, z_nt, z_ge, if_pos k9, if_pos L9]
        by_cases c2 : (k : Int) < L
        · have by9 : s 266 (tS f N e + (k : Int)) = f (tS f N e + (k : Int)) := by rw [i1 266 (by omega)]; exact M.mb.by' _ (by omega) (by omega)
          rw [if_neg (show ¬ (L ≤ (k : Int)) by omega), if_pos c2, z_gR, if_pos (sO265 sh), if_neg (show ¬ (s 265 1 = -1) by rw [s1]; omega), s1, z_gF, if_pos (sO265 sh), s4, z_aI, if_pos (sA266 sh (show 0 ≤ tS f N e + (k : Int) by omega) (by omega)), by9]
          dsimp only
          rw [z_sB, if_pos (sA269 sh (show 0 ≤ b8 + (k : Int) by omega) (by omega)), z_bd]
        · rw [if_pos (show L ≤ (k : Int) by omega), if_neg c2]
          dsimp only
          rw [z_sB, if_pos (sA269 sh (show 0 ≤ b8 + (k : Int) by omega) (by omega)), z_bd]
      refine ⟨_, R, fun o ho => by rw [wr_o ho]; exact i1 o ho, fun j => ?_⟩
      by_cases z : j = b8 + (k : Int)
      · subst z
        rw [wr_s, if_pos (show b8 ≤ b8 + (k : Int) ∧ b8 + (k : Int) < b8 + ((k + 1 : Nat) : Int) by push_cast; omega), show b8 + (k : Int) - b8 = (k : Int) by omega]
        by_cases c2 : (k : Int) < L
        · have fr := M.mb.fr (tS f N e + (k : Int)) (by omega) (by omega)
          rw [if_pos c2, i2b_id fr.1 fr.2]
        · rw [if_neg c2]; exact i2b_id (by omega) (by omega)
      · rw [wr_i z, i2]
        by_cases y : b8 ≤ j ∧ j < b8 + (k : Int)
        · rw [if_pos y, if_pos (show b8 ≤ j ∧ j < b8 + ((k + 1 : Nat) : Int) by push_cast; omega)]
        · rw [if_neg y, if_neg (show ¬ (b8 ≤ j ∧ j < b8 + ((k + 1 : Nat) : Int)) by push_cast; omega)])
    (fun m s _ hI => by
      have k1 : (8 : Int) ≤ (((8 : Nat)) : Int) := by decide
      show fX8_begin_L87 P 265 kd L kE (m + 1) (((8 : Nat)) : Int) s = kE s
      rw [fX8_begin_L87, z_ge, if_pos (show iR (((8 : Nat)) : Int) = true from rfl), if_pos (show iR 8 = true from rfl), if_pos k1]) (m := 1000) (a := τ) (c := ()) (by omega) ⟨fun _ _ => rfl, fun j => by rw [if_neg (by push_cast; omega)]⟩
  exact ⟨s, e1, i1, i2⟩
/-- names after a new one -/
theorem nm_new (hk : kd = 0 ∨ kd = 1 ∨ kd = 2) (h0 : 0 ≤ cnt) (h1 : cnt < cpN kd) (hn : NM h B (96 * kd) cnt) (hB : ∀ j, B' j = if 96 * kd + 8 * cnt ≤ j ∧ j < 96 * kd + 8 * cnt + 8 then (if j - (96 * kd + 8 * cnt) < L then f (x + (j - (96 * kd + 8 * cnt))) else 0) else B j) (hL : 1 ≤ L ∧ L ≤ 8) (hf : ∀ i, 0 ≤ i → i < L → 97 ≤ f (x + i) ∧ f (x + i) ≤ 122) (hg : ∀ j, j ≠ cnt → g j = h j) (hg1 : g cnt = vlF f 27 96 x L.toNat) : NM g B' (96 * kd) (cnt + 1) := by
  intro j j0 j1
  by_cases z : j = cnt
  · subst z
    refine ⟨L.toNat, by omega, by omega, ?_, fun i i0 i1 => ?_, fun i i0 i1 => ?_⟩
    · rw [hg1]
      refine vl_cg _ fun k hk => ?_
      rw [hB, if_pos (by omega), if_pos (by omega)]
      congr 1; omega
    · rw [hB, if_pos (by omega), if_pos (by omega), show 96 * kd + 8 * j + i - (96 * kd + 8 * j) = i by omega]; exact hf i i0 (by omega)
    · rw [hB, if_pos (by omega), if_neg (by omega)]
  · rw [hg j z]
    refine (hn j j0 (by omega)).ag fun i i0 i1 => ?_
    rw [hB, if_neg (by omega)]
theorem nm_old (hk : kd = 0 ∨ kd = 1 ∨ kd = 2) (h0 : 0 ≤ cnt) (h1 : cnt < cpN kd) (hB : ∀ j, B' j = if 96 * kd + 8 * cnt ≤ j ∧ j < 96 * kd + 8 * cnt + 8 then (if j - (96 * kd + 8 * cnt) < L then f (x + (j - (96 * kd + 8 * cnt))) else 0) else B j) (hc : a = 0 ∨ a = 1 ∨ a = 2) (ha : a ≠ kd) (hn : NM h B (96 * a) c) (hc2 : c ≤ 12) : NM h B' (96 * a) c := by
  have c12 := cp_in hk h1
  intro j j0 j1
  refine (hn j j0 j1).ag fun i i0 i1 => ?_
  rw [hB, if_neg (by omega)]
theorem c_new0 (C : CT P σ f N e) (h : ¬ (tT f N e = 1)) : fX5_takeNewName P σ 1 a cnt = some (0, clt σ 1) := by
  have ht := tT_in (f := f) (N := N) (e := e)
  simp (disch := first | omega | assumption) only [fX5_takeNewName, ↓z_lt, ↓z_ge, ↓z_gt, ↓z_le, ↓z_eq, ↓z_ne, ↓z_mx, ↓z_mn, ↓z_dv, ↓z_rm, ↓z_i2l, ↓z_lc, ↓z_sw, ↓z_sf, ↓z_sn, ↓z_bd, ↓z_nt, z_b0, z_b1, z_bi, z_bj, ↓z_gF, ↓z_gR, ↓z_pF, ↓z_pZ, ↓z_pR, ↓z_aI, ↓z_aR, ↓z_sI, ↓z_sZ, ↓z_on, z_cl, ↓reduceIte, Int.reduceEq, Int.reduceNeg, Int.reduceLT, Int.reduceLE, Int.reduceAdd, Int.reduceSub, Int.reduceMul, true_and, and_true, or_true, true_or, eq_self, iR_t, sO1 C.rb.sh, C.tt, h, ↓c_fault' C]
theorem c_new3 (C : CT P σ f N e) (hw : tT f N e = 1) (hk : kd = 0 ∨ kd = 1 ∨ kd = 2) (ha : a = 13 + kd) (h0 : 0 ≤ cnt) (h1 : cnt ≤ cpN kd) (hn : NM (σ a) B b cnt) (hx : ¬ (fdI (σ a) (tV f N e) cnt = -1)) : fX5_takeNewName P σ 1 a cnt = some (0, clt σ 3) := by
  have c12 : cpN kd ≤ 12 := by unfold cpN; repeat' split <;> omega
  have hi := fdI_in (h := σ a) (v := tV f N e) h0
  have hr : iR (fdI (σ a) (tV f N e) cnt) = true := iR_t (by omega) (by omega)
  simp (disch := first | omega | assumption) only [fX5_takeNewName, ↓z_lt, ↓z_ge, ↓z_gt, ↓z_le, ↓z_eq, ↓z_ne, ↓z_mx, ↓z_mn, ↓z_dv, ↓z_rm, ↓z_i2l, ↓z_lc, ↓z_sw, ↓z_sf, ↓z_sn, ↓z_bd, ↓z_nt, z_b0, z_b1, z_bi, z_bj, ↓z_gF, ↓z_gR, ↓z_pF, ↓z_pZ, ↓z_pR, ↓z_aI, ↓z_aR, ↓z_sI, ↓z_sZ, ↓z_on, z_cl, ↓reduceIte, Int.reduceEq, Int.reduceNeg, Int.reduceLT, Int.reduceLE, Int.reduceAdd, Int.reduceSub, Int.reduceMul, true_and, and_true, or_true, true_or, eq_self, iR_t, sO1 C.rb.sh, C.tt, hw, ↓c_index' C hw hk ha h0 h1 hn, hr, hx, ↓c_fault' C]
theorem c_new1 (C : CT P σ f N e) (hw : tT f N e = 1) (hk : kd = 0 ∨ kd = 1 ∨ kd = 2) (ha : a = 13 + kd) (h0 : 0 ≤ cnt) (h1 : cnt < cpN kd) (hn : NM (σ a) B b cnt) (hx : fdI (σ a) (tV f N e) cnt = -1) : ∃ σ', fX5_takeNewName P σ 1 a cnt = some (1, σ') ∧ CT P σ' f N (tE f N e) ∧ (∀ o, o ≠ 1 → o ≠ a → σ' o = σ o) ∧ (∀ j, (j < 3 ∨ 6 < j) → σ' 1 j = σ 1 j) ∧ (∀ j, j ≠ cnt → σ' a j = σ a j) ∧ σ' a cnt = tV f N e := by
  have c12 := cp_in hk h1
  have hk2 : 0 ≤ kd ∧ kd ≤ 2 := by omega
  have v6 : σ 1 6 = tV f N e := C.vv (Or.inl hw)
  obtain ⟨σ', r, C', o', j'⟩ := c_adv (C.fr (s := wr σ a cnt (tV f N e)) (fun j _ _ => wr_n (by omega)) (wr_o (by omega)))
  have hA : okA P 11 a cnt = true := by rw [ha]; exact nA C.rb.sh hk h0 h1
  have hB : ∀ (K : Int → Option (Int × St)), aL P 11 a K = K (cpN kd) := fun K => by rw [ha]; exact nL C.rb.sh hk
  have k1 : ¬ (cnt < 0) := by omega
  have k2 : ¬ (cpN kd ≤ cnt) := by omega
  have c13 : cpN kd ≤ 12 := by unfold cpN; repeat' split <;> omega
  refine ⟨σ', ?_, C', fun o h1 h2 => by rw [o' o h1, wr_o h2], fun j hj => by rw [j' j hj, wr_n (by omega)], fun j hj => by rw [o' a (by omega), wr_i hj], by rw [o' a (by omega), wr_s]⟩
  simp (disch := first | omega | assumption) only [fX5_takeNewName, ↓z_lt, ↓z_ge, ↓z_gt, ↓z_le, ↓z_eq, ↓z_ne, ↓z_mx, ↓z_mn, ↓z_dv, ↓z_rm, ↓z_i2l, ↓z_lc, ↓z_sw, ↓z_sf, ↓z_sn, ↓z_bd, ↓z_nt, z_b0, z_b1, z_bi, z_bj, ↓z_gF, ↓z_gR, ↓z_pF, ↓z_pZ, ↓z_pR, ↓z_aI, ↓z_aR, ↓z_sI, ↓z_sZ, ↓z_on, z_cl, ↓reduceIte, Int.reduceEq, Int.reduceNeg, Int.reduceLT, Int.reduceLE, Int.reduceAdd, Int.reduceSub, Int.reduceMul, true_and, and_true, or_true, true_or, eq_self, iR_t, sO1 C.rb.sh, C.tt, hw, ↓c_index' C hw hk ha h0 (Int.le_of_lt h1) hn, hx, hA, ↓hB, k1, k2, v6, ↓e_cl r]
end ZZM
