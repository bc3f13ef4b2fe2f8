/-! APPEND on both sides. -/
section ZZC
variable {P : Shp} {σ σ' σ1 σ2 σ3 σ4 σ5 s : St} {t f f' f2 g g' : Int → Int} {B B' : Int} {a b c d k p q h j x y z i v w N : Int} {n : Nat}
theorem i2b_in : -128 ≤ i2b x ∧ i2b x ≤ 127 := by
  have h1 := Int8.le_toInt (Int32.ofInt x).toInt8
  have h2 := Int8.toInt_lt (Int32.ofInt x).toInt8
  have h3 : Int8.minValue.toInt = -128 := by decide
  unfold i2b
  omega
theorem i2b_id (h0 : -128 ≤ x) (h1 : x ≤ 127) : i2b x = x := by
  have key : ∀ n : Nat, n < 256 → i2b ((n : Int) - 128) = (n : Int) - 128 := by decide +kernel
  have := key (x + 128).toNat (by omega)
  rw [show (((x + 128).toNat : Nat) : Int) - 128 = x by omega] at this
  exact this
theorem i2b_b : i2b (i2b x) = i2b x := i2b_id i2b_in.1 i2b_in.2
theorem sh_low (y : BitVec 32) (k i : Nat) (h : k + i < 32) : (y >>> k).getLsbD i = (y.sshiftRight k).getLsbD i := by
  rw [BitVec.getLsbD_ushiftRight, BitVec.getLsbD_sshiftRight, if_pos h]
  have : ¬ (32 ≤ i) := by omega
  simp [this]
theorem sh_bits (x : Int32) : ((x.toUInt32 >>> 24).toInt32.toInt8 = (x >>> 24).toInt8) ∧ ((x.toUInt32 >>> 16).toInt32.toInt8 = (x >>> 16).toInt8) ∧ ((x.toUInt32 >>> 8).toInt32.toInt8 = (x >>> 8).toInt8) ∧ ((x.toUInt32 >>> 0).toInt32.toInt8 = (x >>> 0).toInt8) := by
  refine ⟨?_, ?_, ?_, ?_⟩
  all_goals
    apply Int8.toBitVec_inj.mp
    apply BitVec.eq_of_getLsbD_eq
    intro i hi
    simp only [Int32.toBitVec_toInt8, UInt32.toBitVec_toInt32, UInt32.toBitVec_shiftRight, Int32.toBitVec_shiftRight, Int32.toBitVec_toUInt32]
    rw [BitVec.getLsbD_signExtend, BitVec.getLsbD_signExtend]
    have h32 : i < 32 := by omega
    rw [if_pos h32, if_pos h32]
    congr 1
  · exact sh_low x.toBitVec 24 i (by omega)
  · exact sh_low x.toBitVec 16 i (by omega)
  · exact sh_low x.toBitVec 8 i (by omega)
  · exact sh_low x.toBitVec 0 i (by omega)
theorem iush_b (h0 : 0 ≤ k) (h1 : k < 4) : i2b (iushr c (24 - 8 * k)) = i2b (ishr c (24 - 8 * k)) := by
  obtain ⟨e0, e1, e2, e3⟩ := sh_bits (Int32.ofInt c)
  have hk : k = 0 ∨ k = 1 ∨ k = 2 ∨ k = 3 := by omega
  unfold i2b iushr ishr b32
  rw [Int32.ofInt_toInt, Int32.ofInt_toInt]
  rcases hk with rfl | rfl | rfl | rfl
  · exact congrArg Int8.toInt e0
  · exact congrArg Int8.toInt e1
  · exact congrArg Int8.toInt e2
  · exact congrArg Int8.toInt e3
/-- four bytes more -/
def apB (by' : Int → Int → Int) (f : Int → Int) (n c : Int) : Int → Int := fun j => if n ≤ j ∧ j < n + 4 then by' c (j - n) else f j
def byC (c r : Int) : Int := i2b (iushr c (24 - 8 * r))
def byM (c r : Int) : Int := i2b (ishr c (24 - 8 * r))
theorem c_bytes (sh : ShpIs P 279 PL) (r0 : σ 1 0 = 2) (h0 : 0 ≤ σ 1 1) (h1 : σ 1 1 + 4 ≤ 600) : ∃ σ', fX5_addBytesOf P σ 1 c = some σ' ∧ (∀ o, o ≠ 1 → o ≠ 2 → σ' o = σ o) ∧ (∀ j, j ≠ 1 → σ' 1 j = σ 1 j) ∧ σ' 1 1 = σ 1 1 + 4 ∧ σ' 2 = apB byC (σ 2) (σ 1 1) c := by
  obtain ⟨s, e, i1, i2, i3, i4⟩ := loop_r (γ := Unit) (fun m k (s : St) => fX5_addBytesOf_L3 P 1 c (fun s9 => some s9) m (24 - 8 * k) s) (fun s9 => some s9) 4 (fun _ a => a) (fun k s _ => (∀ o, o ≠ 1 → o ≠ 2 → s o = σ o) ∧ (∀ j, j ≠ 1 → s 1 j = σ 1 j) ∧ s 1 1 = σ 1 1 + (k : Int) ∧ ∀ j, s 2 j = if σ 1 1 ≤ j ∧ j < σ 1 1 + (k : Int) then byC c (j - σ 1 1) else σ 2 j)
    (fun k m s _ hk hI => by
      obtain ⟨i1, i2, i3, i4⟩ := hI
      have q0 : s 1 0 = 2 := by rw [i2 0 (by omega)]; exact r0
      have k1 : ¬ (24 - 8 * (k : Int) < 0) := by omega
      have k2 : ¬ (600 ≤ σ 1 1 + (k : Int)) := by omega
      have e1 : 24 - 8 * (k : Int) + -8 = 24 - 8 * ((k : Int) + 1) := by omega
      refine ⟨wr (wr s 2 (σ 1 1 + (k : Int)) (byC c k)) 1 1 (σ 1 1 + (k : Int) + 1), ?_, ?_, ?_, ?_, ?_⟩
      · simp (disch := first | omega | assumption) only [fX5_addBytesOf_L3, byC, ↓z_lt, ↓z_ge, ↓z_gt, ↓z_le, ↓z_eq, ↓z_ne, ↓z_mx, ↓z_mn, ↓z_dv, ↓z_rm, ↓z_i2l, ↓z_lc, ↓z_sw, ↓z_sf, ↓z_sn, ↓z_bd, ↓z_nt, z_b0, z_b1, z_bi, z_bj, ↓z_gF, ↓z_gR, ↓z_pF, ↓z_pZ, ↓z_pR, ↓z_aI, ↓z_aR, ↓z_sI, ↓z_sZ, ↓z_on, z_cl, ↓reduceIte, Int.reduceEq, Int.reduceNeg, Int.reduceLT, Int.reduceLE, Int.reduceAdd, Int.reduceSub, Int.reduceMul, true_and, and_true, or_true, true_or, eq_self, iR_t, sO1 sh, sA2 sh, q0, i3, k1, k2, e1, ↓z_sB, wr_n, i2b_b]
      · intro o h1 h2; rw [wr_o h1, wr_o h2]; exact i1 o h1 h2
      · intro j hj; rw [wr_i hj, wr_n (by omega)]; exact i2 j hj
      · rw [wr_s]; push_cast; omega
      · intro j
        rw [wr_n (by omega)]
        by_cases z : j = σ 1 1 + (k : Int)
        · subst z; rw [wr_s, if_pos (by push_cast; omega)]; congr 1; omega
        · rw [wr_i z, i4]
          by_cases y : σ 1 1 ≤ j ∧ j < σ 1 1 + (k : Int)
          · rw [if_pos y, if_pos (by push_cast; omega)]
          · rw [if_neg y, if_neg (by push_cast; omega)])
    (fun m s _ hI => by
      have k1 : 24 - 8 * (((4 : Nat)) : Int) < 0 := by decide
      simp (disch := first | omega | assumption) only [fX5_addBytesOf_L3, ↓z_lt, ↓z_ge, ↓z_gt, ↓z_le, ↓z_eq, ↓z_ne, ↓z_mx, ↓z_mn, ↓z_dv, ↓z_rm, ↓z_i2l, ↓z_lc, ↓z_sw, ↓z_sf, ↓z_sn, ↓z_bd, ↓z_nt, z_b0, z_b1, z_bi, z_bj, ↓z_gF, ↓z_gR, ↓z_pF, ↓z_pZ, ↓z_pR, ↓z_aI, ↓z_aR, ↓z_sI, ↓z_sZ, ↓z_on, z_cl, ↓reduceIte, Int.reduceEq, Int.reduceNeg, Int.reduceLT, Int.reduceLE, Int.reduceAdd, Int.reduceSub, Int.reduceMul, true_and, and_true, or_true, true_or, eq_self, iR_t, k1]) (m := 1000) (a := σ) (c := ()) (by omega) ⟨fun _ _ _ => rfl, fun _ _ => rfl, by simp, fun j => by rw [if_neg (by push_cast; omega)]⟩
  refine ⟨s, ?_, i1, i2, by simpa using i3, funext i4⟩
  unfold fX5_addBytesOf
  exact e
theorem m_bytes (sh : ShpIs P 279 PL) (r0 : σ 265 1 = 266) (h0 : 0 ≤ σ 265 2) (h1 : σ 265 2 + 4 ≤ 600) : ∃ σ', fX8_appendInt P σ 265 c = some σ' ∧ (∀ o, o ≠ 265 → o ≠ 266 → σ' o = σ o) ∧ (∀ j, j ≠ 2 → σ' 265 j = σ 265 j) ∧ σ' 265 2 = σ 265 2 + 4 ∧ σ' 266 = apB byM (σ 266) (σ 265 2) c := by
  obtain ⟨s, e, i1, i2, i3, i4⟩ := loop_r (γ := Unit) (fun m k (s : St) => fX8_appendInt_L3 P 265 c (fun s9 => some s9) m (24 - 8 * k) s) (fun s9 => some s9) 4 (fun _ a => a) (fun k s _ => (∀ o, o ≠ 265 → o ≠ 266 → s o = σ o) ∧ (∀ j, j ≠ 2 → s 265 j = σ 265 j) ∧ s 265 2 = σ 265 2 + (k : Int) ∧ ∀ j, s 266 j = if σ 265 2 ≤ j ∧ j < σ 265 2 + (k : Int) then byM c (j - σ 265 2) else σ 266 j)
    (fun k m s _ hk hI => by
      obtain ⟨i1, i2, i3, i4⟩ := hI
      have q0 : s 265 1 = 266 := by rw [i2 1 (by omega)]; exact r0
      have k1 : ¬ (24 - 8 * (k : Int) < 0) := by omega
      have e1 : 24 - 8 * (k : Int) + -8 = 24 - 8 * ((k : Int) + 1) := by omega
      refine ⟨wr (wr s 266 (σ 265 2 + (k : Int)) (byM c k)) 265 2 (σ 265 2 + (k : Int) + 1), ?_, ?_, ?_, ?_, ?_⟩
      · simp (disch := first | omega | assumption) only [fX8_appendInt_L3, byM, ↓z_lt, ↓z_ge, ↓z_gt, ↓z_le, ↓z_eq, ↓z_ne, ↓z_mx, ↓z_mn, ↓z_dv, ↓z_rm, ↓z_i2l, ↓z_lc, ↓z_sw, ↓z_sf, ↓z_sn, ↓z_bd, ↓z_nt, z_b0, z_b1, z_bi, z_bj, ↓z_gF, ↓z_gR, ↓z_pF, ↓z_pZ, ↓z_pR, ↓z_aI, ↓z_aR, ↓z_sI, ↓z_sZ, ↓z_on, z_cl, ↓reduceIte, Int.reduceEq, Int.reduceNeg, Int.reduceLT, Int.reduceLE, Int.reduceAdd, Int.reduceSub, Int.reduceMul, true_and, and_true, or_true, true_or, eq_self, iR_t, sO265 sh, sA266 sh, q0, i3, k1, e1, ↓z_sB, wr_n, i2b_b]
      · intro o h1 h2; rw [wr_o h1, wr_o h2]; exact i1 o h1 h2
      · intro j hj; rw [wr_i hj, wr_n (by omega)]; exact i2 j hj
      · rw [wr_s]; push_cast; omega
      · intro j
        rw [wr_n (by omega)]
        by_cases z : j = σ 265 2 + (k : Int)
        · subst z; rw [wr_s, if_pos (by push_cast; omega)]; congr 1; omega
        · rw [wr_i z, i4]
          by_cases y : σ 265 2 ≤ j ∧ j < σ 265 2 + (k : Int)
          · rw [if_pos y, if_pos (by push_cast; omega)]
          · rw [if_neg y, if_neg (by push_cast; omega)])
    (fun m s _ hI => by
      have k1 : 24 - 8 * (((4 : Nat)) : Int) < 0 := by decide
      simp (disch := first | omega | assumption) only [fX8_appendInt_L3, ↓z_lt, ↓z_ge, ↓z_gt, ↓z_le, ↓z_eq, ↓z_ne, ↓z_mx, ↓z_mn, ↓z_dv, ↓z_rm, ↓z_i2l, ↓z_lc, ↓z_sw, ↓z_sf, ↓z_sn, ↓z_bd, ↓z_nt, z_b0, z_b1, z_bi, z_bj, ↓z_gF, ↓z_gR, ↓z_pF, ↓z_pZ, ↓z_pR, ↓z_aI, ↓z_aR, ↓z_sI, ↓z_sZ, ↓z_on, z_cl, ↓reduceIte, Int.reduceEq, Int.reduceNeg, Int.reduceLT, Int.reduceLE, Int.reduceAdd, Int.reduceSub, Int.reduceMul, true_and, and_true, or_true, true_or, eq_self, iR_t, k1]) (m := 1000) (a := σ) (c := ()) (by omega) ⟨fun _ _ _ => rfl, fun _ _ => rfl, by simp, fun j => by rw [if_neg (by push_cast; omega)]⟩
  refine ⟨s, ?_, i1, i2, by simpa using i3, funext i4⟩
  unfold fX8_appendInt
  exact e
/-- the two texts are alike up to n -/
def BA (n : Int) (f g : Int → Int) : Prop := ∀ i, 0 ≤ i → i < n → f i = g i ∧ -128 ≤ f i ∧ f i ≤ 127
theorem BA.ap (h : BA N f g) (h0 : 0 ≤ N) : BA (N + 4) (apB byC f N c) (apB byM g N c) := by
  intro i i0 i1
  unfold apB
  by_cases z : N ≤ i ∧ i < N + 4
  · rw [if_pos z, if_pos z]
    exact ⟨iush_b (by omega) (by omega), i2b_in⟩
  · rw [if_neg z, if_neg z]
    exact h i i0 (by omega)
theorem GR.buf (G : GR P σ p t B) (e : ∀ o, o ≠ 1 → o ≠ 2 → o ≠ 265 → o ≠ 266 → σ' o = σ o) (e1 : ∀ j, j ≠ 1 → σ' 1 j = σ 1 j) (e2 : ∀ j, j ≠ 0 → j ≠ 2 → σ' 265 j = σ 265 j) (b1 : 0 ≤ σ' 1 1 ∧ σ' 1 1 ≤ 600 ∧ σ' 265 2 = σ' 1 1) (b2 : BA (σ' 1 1) (σ' 2) (σ' 266)) : GR P σ' p t B := by
  have hp := G.cr.pr.hp
  have hn := G.hn
  obtain ⟨cr, mp, tv, fv, cv, x0, x1, x2, x3, x4, r0, r9, r11, r12, r13, rq, h0, hn, hk, hd, hs, hr, ss, st, bf, bb⟩ := G
  have eo : ∀ o, 2 < o → o < 265 → σ' o = σ o := fun o h1 h2 => e o (by omega) (by omega) (by omega) (by omega)
  have ez : σ' 0 = σ 0 := e 0 (by omega) (by omega) (by omega) (by omega)
  have em : ∀ o, 266 < o → σ' o = σ o := fun o h1 => e o (by omega) (by omega) (by omega) (by omega)
  refine ⟨?_, ?_, tv, ?_, ?_, ?_, ?_, ?_, ?_, ?_, ?_, ?_, ?_, ?_, ?_, ?_, ?_, ?_, ?_, ?_, ?_, ?_, ?_, ?_, b1, b2⟩
  · rw [em 270 (by omega), em 271 (by omega)]
    refine ⟨cr.sh, ?_, ?_, ?_, cr.s.fr fun o _ _ => eo o (by omega) (by omega)⟩
    · rw [eo 16 (by omega) (by omega)]; exact cr.h0
    · rw [eo 16 (by omega) (by omega)]; exact cr.h1
    · exact cr.pr.ag fun o _ _ => eo o (by omega) (by omega)
  · exact mp.to2 (fun j j0 j1 => e2 j (by omega) (by omega)) (em 268 (by omega))
  · rw [em 270 (by omega), em 271 (by omega)]; exact fv
  · rw [em 270 (by omega)]; exact cv
  · rw [ez]; exact x0
  · rw [ez]; exact x1
  · rw [ez]; exact x2
  · rw [ez]; exact x3
  · rw [ez]; exact x4
  · rw [e1 0 (by omega)]; exact r0
  · rw [e1 9 (by omega)]; exact r9
  · rw [e1 11 (by omega)]; exact r11
  · rw [e1 12 (by omega)]; exact r12
  · rw [e1 13 (by omega)]; exact r13
  · exact rq.fr (eo (20 - p) (by omega) (by omega))
  · rw [eo 45 (by omega) (by omega)]; exact h0
  · rw [eo 45 (by omega) (by omega)]; exact hn
  · rw [eo 45 (by omega) (by omega)]; exact hk
  · rw [eo 45 (by omega) (by omega), e2 18 (by omega) (by omega)]; exact hd
  · intro i i0 i1
    have q := hs i i0 i1
    rw [eo 46 (by omega) (by omega)]
    exact ⟨q.1, q.2.fr fun o _ _ => eo o (by omega) (by omega)⟩
  · intro j j0 j1
    rw [eo 45 (by omega) (by omega)] at j1 ⊢
    rw [em 272 (by omega), em 273 (by omega)]
    exact (hr j j0 j1).fr fun o _ _ => eo o (by omega) (by omega)
  · intro i i0 i1
    have q := ss i i0 i1
    rw [eo 227 (by omega) (by omega)]
    exact ⟨q.1, q.2.fr fun o _ _ => eo o (by omega) (by omega)⟩
  · intro i i0 i1
    rw [eo 228 (by omega) (by omega), em 274 (by omega), em 275 (by omega), em 276 (by omega)]
    have q := st i i0 i1
    exact ⟨q.1, q.2.1, fun z => (q.2.2 z).fr fun o _ _ => eo o (by omega) (by omega)⟩
theorem rd_append (G : GR P σ p t B) (h : B ≤ B') (hB : B' ≤ 2000000000) (x1 x2 x3 x4 x5 : Int) : ∃ v σ2 σ5, fX7_append P σ 0 x1 x2 x3 x4 x5 = some (v, σ2) ∧ fX8_append P σ2 265 x1 x2 x3 x4 x5 = some (v, σ5) ∧ iR v = true ∧ GR P σ5 p t B' := by
  have C := G.cr; have T := G.tv; have F := G.fv; have V := G.cv; have M := G.mp; have n0 := T.n0; have n1 := T.n1; have n2 := T.n2; have b0 := F.b0
  have bf := G.bf
  have x0 := G.x0
  have r0 := G.r0
  by_cases c : 600 < σ 1 1 + 20
  · refine ⟨-1, σ, wr σ 265 0 0, ?_, ?_, rfl, (G.to (fun o h1 h2 h3 => wr_o h1) (fun j j0 _ => wr_i (by omega))).mono h hB⟩
    · have eh : fX5_hasRoomFor P σ 1 20 = some 0 := by
        simp (disch := first | omega | assumption) only [fX5_hasRoomFor, ↓z_lt, ↓z_ge, ↓z_gt, ↓z_le, ↓z_eq, ↓z_ne, ↓z_mx, ↓z_mn, ↓z_dv, ↓z_rm, ↓z_i2l, ↓z_lc, ↓z_sw, ↓z_sf, ↓z_sn, ↓z_bd, ↓z_nt, z_b0, z_b1, z_bi, z_bj, ↓z_gF, ↓z_gR, ↓z_pF, ↓z_pZ, ↓z_pR, ↓z_aI, ↓z_aR, ↓z_sI, ↓z_sZ, ↓z_on, z_cl, ↓reduceIte, Int.reduceEq, Int.reduceNeg, Int.reduceLT, Int.reduceLE, Int.reduceAdd, Int.reduceSub, Int.reduceMul, true_and, and_true, or_true, true_or, eq_self, iR_t, sO1 C.sh, c]
      simp (disch := first | omega | assumption | (simp (disch := omega) only [x0]; done) | fail) only [fX7_append, ↓z_lt, ↓z_ge, ↓z_gt, ↓z_le, ↓z_eq, ↓z_ne, ↓z_mx, ↓z_mn, ↓z_dv, ↓z_rm, ↓z_i2l, ↓z_lc, ↓z_sw, ↓z_sf, ↓z_sn, ↓z_bd, ↓z_nt, z_b0, z_b1, z_bi, z_bj, ↓z_gF, ↓z_gR, ↓z_pF, ↓z_pZ, ↓z_pR, ↓z_aI, ↓z_aR, ↓z_sI, ↓z_sZ, ↓z_on, z_cl, ↓reduceIte, Int.reduceEq, Int.reduceNeg, Int.reduceLT, Int.reduceLE, Int.reduceAdd, Int.reduceSub, Int.reduceMul, true_and, and_true, or_true, true_or, eq_self, n02, n12, n10, G.x0, G.x1, G.x2, G.x3, G.x4, G.h0, sO0 C.sh, sO1 C.sh, sO45 C.sh, sA278 C.sh, iR_t, ↓e_g eh]
    · have c2 : ¬ (σ 1 1 + 20 ≤ 600) := by omega
      simp (disch := first | omega | assumption) only [fX8_append, ↓z_lt, ↓z_ge, ↓z_gt, ↓z_le, ↓z_eq, ↓z_ne, ↓z_mx, ↓z_mn, ↓z_dv, ↓z_rm, ↓z_i2l, ↓z_lc, ↓z_sw, ↓z_sf, ↓z_sn, ↓z_bd, ↓z_nt, z_b0, z_b1, z_bi, z_bj, ↓z_gF, ↓z_gR, ↓z_pF, ↓z_pZ, ↓z_pR, ↓z_aI, ↓z_aR, ↓z_sI, ↓z_sZ, ↓z_on, z_cl, ↓reduceIte, Int.reduceEq, Int.reduceNeg, Int.reduceLT, Int.reduceLE, Int.reduceAdd, Int.reduceSub, Int.reduceMul, true_and, and_true, or_true, true_or, eq_self, st2_f, st2_g, st2_o, M.q1, M.q10, M.q11, M.q12, M.q14, M.q15, M.q16, M.q17, M.q19, M.q20, M.q21, M.q22, M.tl, sO265 M.sh, sA266 M.sh, sA267 M.sh, sA268 M.sh, sA269 M.sh, sA270 M.sh, sA271 M.sh, sA272 M.sh, sA273 M.sh, sA274 M.sh, sA275 M.sh, sA276 M.sh, sA277 M.sh, iR_t, wr_i, bf.2.2, c2]
  · have eh : fX5_hasRoomFor P σ 1 20 = some 1 := by
      simp (disch := first | omega | assumption) only [fX5_hasRoomFor, ↓z_lt, ↓z_ge, ↓z_gt, ↓z_le, ↓z_eq, ↓z_ne, ↓z_mx, ↓z_mn, ↓z_dv, ↓z_rm, ↓z_i2l, ↓z_lc, ↓z_sw, ↓z_sf, ↓z_sn, ↓z_bd, ↓z_nt, z_b0, z_b1, z_bi, z_bj, ↓z_gF, ↓z_gR, ↓z_pF, ↓z_pZ, ↓z_pR, ↓z_aI, ↓z_aR, ↓z_sI, ↓z_sZ, ↓z_on, z_cl, ↓reduceIte, Int.reduceEq, Int.reduceNeg, Int.reduceLT, Int.reduceLE, Int.reduceAdd, Int.reduceSub, Int.reduceMul, true_and, and_true, or_true, true_or, eq_self, iR_t, sO1 C.sh, c]
    obtain ⟨s1, a1, b1, c1, d1, g1⟩ := c_bytes (c := x1) C.sh r0 (by omega) (by omega)
    obtain ⟨s2, a2, b2, c2, d2, g2⟩ := c_bytes (σ := s1) (c := x2) C.sh (by rw [c1 0 (by omega)]; exact r0) (by omega) (by omega)
    obtain ⟨s3, a3, b3, c3, d3, g3⟩ := c_bytes (σ := s2) (c := x3) C.sh (by rw [c2 0 (by omega), c1 0 (by omega)]; exact r0) (by omega) (by omega)
    obtain ⟨s4, a4, b4, c4, d4, g4⟩ := c_bytes (σ := s3) (c := x4) C.sh (by rw [c3 0 (by omega), c2 0 (by omega), c1 0 (by omega)]; exact r0) (by omega) (by omega)
    obtain ⟨s5, a5, b5, c5, d5, g5⟩ := c_bytes (σ := s4) (c := x5) C.sh (by rw [c4 0 (by omega), c3 0 (by omega), c2 0 (by omega), c1 0 (by omega)]; exact r0) (by omega) (by omega)
    have y1 : s1 0 0 = 1 := by rw [b1 0 (by omega) (by omega)]; exact x0
    have y2 : s2 0 0 = 1 := by rw [b2 0 (by omega) (by omega)]; exact y1
    have y3 : s3 0 0 = 1 := by rw [b3 0 (by omega) (by omega)]; exact y2
    have y4 : s4 0 0 = 1 := by rw [b4 0 (by omega) (by omega)]; exact y3
    have y5 : s5 0 0 = 1 := by rw [b5 0 (by omega) (by omega)]; exact y4
    have eu : fX7_append P σ 0 x1 x2 x3 x4 x5 = some (σ 1 1 + 20, s5) := by
      have e20 : σ 1 1 + 4 + 4 + 4 + 4 + 4 = σ 1 1 + 20 := by omega
      simp (disch := first | omega | assumption | (simp (disch := omega) only [x0, y1, y2, y3, y4, y5]; done) | fail) only [fX7_append, ↓z_lt, ↓z_ge, ↓z_gt, ↓z_le, ↓z_eq, ↓z_ne, ↓z_mx, ↓z_mn, ↓z_dv, ↓z_rm, ↓z_i2l, ↓z_lc, ↓z_sw, ↓z_sf, ↓z_sn, ↓z_bd, ↓z_nt, z_b0, z_b1, z_bi, z_bj, ↓z_gF, ↓z_gR, ↓z_pF, ↓z_pZ, ↓z_pR, ↓z_aI, ↓z_aR, ↓z_sI, ↓z_sZ, ↓z_on, z_cl, ↓reduceIte, Int.reduceEq, Int.reduceNeg, Int.reduceLT, Int.reduceLE, Int.reduceAdd, Int.reduceSub, Int.reduceMul, true_and, and_true, or_true, true_or, eq_self, n02, n12, n10, G.x0, G.x1, G.x2, G.x3, G.x4, G.h0, sO0 C.sh, sO1 C.sh, sO45 C.sh, sA278 C.sh, iR_t, ↓e_g eh, x0, y1, y2, y3, y4, y5, ↓e_g a1, ↓e_g a2, ↓e_g a3, ↓e_g a4, ↓e_g a5, d5, d4, d3, d2, d1, e20]
    have k5 : ∀ o, o ≠ 1 → o ≠ 2 → s5 o = σ o := fun o h1 h2 => by rw [b5 o h1 h2, b4 o h1 h2, b3 o h1 h2, b2 o h1 h2, b1 o h1 h2]
    have j5 : ∀ j, j ≠ 1 → s5 1 j = σ 1 j := fun j hj => by rw [c5 j hj, c4 j hj, c3 j hj, c2 j hj, c1 j hj]
    have n5 : s5 1 1 = σ 1 1 + 20 := by omega
    have f5 : s5 2 = apB byC (apB byC (apB byC (apB byC (apB byC (σ 2) (σ 1 1) x1) (σ 1 1 + 4) x2) (σ 1 1 + 4 + 4) x3) (σ 1 1 + 4 + 4 + 4) x4) (σ 1 1 + 4 + 4 + 4 + 4) x5 := by
      rw [g5, d4, d3, d2, d1, g4, d3, d2, d1, g3, d2, d1, g2, d1, g1]
    have M5 : MP P (wr s5 265 0 0) t := (M.to2 (fun j _ _ => by rw [k5 265 (by omega) (by omega)]) (k5 268 (by omega) (by omega))).w0
    have z2 : (wr s5 265 0 0) 265 2 = σ 1 1 := by rw [wr_i (by omega), k5 265 (by omega) (by omega)]; exact bf.2.2
    have z6 : (wr s5 265 0 0) 266 = σ 266 := by rw [wr_o (by omega)]; exact k5 266 (by omega) (by omega)
    obtain ⟨m1, A1, B1, C1, D1, H1⟩ := m_bytes (σ := wr s5 265 0 0) (c := x1) C.sh M5.q1 (by omega) (by omega)
    obtain ⟨m2, A2, B2, C2, D2, H2⟩ := m_bytes (σ := m1) (c := x2) C.sh (by rw [C1 1 (by omega)]; exact M5.q1) (by omega) (by omega)
    obtain ⟨m3, A3, B3, C3, D3, H3⟩ := m_bytes (σ := m2) (c := x3) C.sh (by rw [C2 1 (by omega), C1 1 (by omega)]; exact M5.q1) (by omega) (by omega)
    obtain ⟨m4, A4, B4, C4, D4, H4⟩ := m_bytes (σ := m3) (c := x4) C.sh (by rw [C3 1 (by omega), C2 1 (by omega), C1 1 (by omega)]; exact M5.q1) (by omega) (by omega)
    obtain ⟨m5, A5, B5, C5, D5, H5⟩ := m_bytes (σ := m4) (c := x5) C.sh (by rw [C4 1 (by omega), C3 1 (by omega), C2 1 (by omega), C1 1 (by omega)]; exact M5.q1) (by omega) (by omega)
    rw [z2] at D1
    have em : fX8_append P s5 265 x1 x2 x3 x4 x5 = some (σ 1 1 + 20, m5) := by
      have e20 : σ 1 1 + 4 + 4 + 4 + 4 + 4 = σ 1 1 + 20 := by omega
      have c2 : σ 1 1 + 20 ≤ 600 := by omega
      simp (disch := first | omega | assumption) only [fX8_append, ↓z_lt, ↓z_ge, ↓z_gt, ↓z_le, ↓z_eq, ↓z_ne, ↓z_mx, ↓z_mn, ↓z_dv, ↓z_rm, ↓z_i2l, ↓z_lc, ↓z_sw, ↓z_sf, ↓z_sn, ↓z_bd, ↓z_nt, z_b0, z_b1, z_bi, z_bj, ↓z_gF, ↓z_gR, ↓z_pF, ↓z_pZ, ↓z_pR, ↓z_aI, ↓z_aR, ↓z_sI, ↓z_sZ, ↓z_on, z_cl, ↓reduceIte, Int.reduceEq, Int.reduceNeg, Int.reduceLT, Int.reduceLE, Int.reduceAdd, Int.reduceSub, Int.reduceMul, true_and, and_true, or_true, true_or, eq_self, iR_t, sO265 C.sh, z2, c2, ↓e_cl A1, ↓e_cl A2, ↓e_cl A3, ↓e_cl A4, ↓e_cl A5, D5, D4, D3, D2, D1, e20]
    have K5 : ∀ o, o ≠ 265 → o ≠ 266 → m5 o = s5 o := fun o h1 h2 => by rw [B5 o h1 h2, B4 o h1 h2, B3 o h1 h2, B2 o h1 h2, B1 o h1 h2, wr_o h1]
    have J5 : ∀ j, j ≠ 0 → j ≠ 2 → m5 265 j = σ 265 j := fun j h1 h2 => by rw [C5 j h2, C4 j h2, C3 j h2, C2 j h2, C1 j h2, wr_i h1, k5 265 (by omega) (by omega)]
    have F5 : m5 266 = apB byM (apB byM (apB byM (apB byM (apB byM (σ 266) (σ 1 1) x1) (σ 1 1 + 4) x2) (σ 1 1 + 4 + 4) x3) (σ 1 1 + 4 + 4 + 4) x4) (σ 1 1 + 4 + 4 + 4 + 4) x5 := by
      rw [H5, D4, D3, D2, D1, H4, D3, D2, D1, H3, D2, D1, H2, D1, H1, z2, z6]
    refine ⟨σ 1 1 + 20, s5, m5, eu, em, iR_t (by omega) (by omega), GR.mono (G.buf (fun o h1 h2 h3 h4 => (K5 o h3 h4).trans (k5 o h1 h2)) (fun j hj => ?_) J5 ?_ ?_) h hB⟩
    · rw [K5 1 (by omega) (by omega)]; exact j5 j hj
    · rw [K5 1 (by omega) (by omega)]; omega
    · rw [K5 1 (by omega) (by omega), K5 2 (by omega) (by omega), n5, f5, F5, show σ 1 1 + 20 = σ 1 1 + 4 + 4 + 4 + 4 + 4 by omega]
      exact ((((BA.ap (show BA (σ 1 1) (σ 2) (σ 266) from G.bb) (by omega)).ap (by omega)).ap (by omega)).ap (by omega)).ap (by omega)
end ZZC
