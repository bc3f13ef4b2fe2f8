/-! FOUR BYTES in an int. -/
section ZQ7a
variable {P : Shp} {σ σ' s : St} {f : Int → Int} {c x n k : Int}
theorem i2b_in : -128 ≤ i2b x ∧ i2b x ≤ 127 := by
  have h1 := Int8.le_toInt (Int32.ofInt x).toInt8
  have h2 := Int8.toInt_lt (Int32.ofInt x).toInt8
  have h3 : Int8.minValue.toInt = -128 := by decide
  unfold i2b
  omega
theorem i2b_id (h0 : -128 ≤ x) (h1 : x ≤ 127) : i2b x = x := by
  have key : ∀ n : Nat, n < 256 → i2b ((n : Int) - 128) = (n : Int) - 128 := by decide +kernel
  have := key (x + 128).toNat (by omega)
  rw [show (((x + 128).toNat : Nat) : Int) - 128 = x by omega] at this
  exact this
theorem i2b_b : i2b (i2b x) = i2b x := i2b_id i2b_in.1 i2b_in.2
def apB (by' : Int → Int → Int) (f : Int → Int) (n c : Int) : Int → Int := fun j => if n ≤ j ∧ j < n + 4 then by' c (j - n) else f j
def byC (c r : Int) : Int := i2b (iushr c (24 - 8 * r))
theorem c_bytes (sh : ShpIs P 279 PL) (r0 : σ 1 0 = 2) (h0 : 0 ≤ σ 1 1) (h1 : σ 1 1 + 4 ≤ 600) : ∃ σ', fX5_addBytesOf P σ 1 c = some σ' ∧ (∀ o, o ≠ 1 → o ≠ 2 → σ' o = σ o) ∧ (∀ j, j ≠ 1 → σ' 1 j = σ 1 j) ∧ σ' 1 1 = σ 1 1 + 4 ∧ σ' 2 = apB byC (σ 2) (σ 1 1) c := by
  obtain ⟨s, e, i1, i2, i3, i4⟩ := loop_r (γ := Unit) (fun m k (s : St) => fX5_addBytesOf_L3 P 1 c (fun s9 => some s9) m (24 - 8 * k) s) (fun s9 => some s9) 4 (fun _ a => a) (fun k s _ => (∀ o, o ≠ 1 → o ≠ 2 → s o = σ o) ∧ (∀ j, j ≠ 1 → s 1 j = σ 1 j) ∧ s 1 1 = σ 1 1 + (k : Int) ∧ ∀ j, s 2 j = if σ 1 1 ≤ j ∧ j < σ 1 1 + (k : Int) then byC c (j - σ 1 1) else σ 2 j)
    (fun k m s _ hk hI => by
      obtain ⟨i1, i2, i3, i4⟩ := hI
      have q0 : s 1 0 = 2 := by rw [i2 0 (by omega)]; exact r0
      have k1 : ¬ (24 - 8 * (k : Int) < 0) := by omega
      have k2 : ¬ (600 ≤ σ 1 1 + (k : Int)) := by omega
      have e1 : 24 - 8 * (k : Int) + -8 = 24 - 8 * ((k : Int) + 1) := by omega
      refine ⟨wr (wr s 2 (σ 1 1 + (k : Int)) (byC c k)) 1 1 (σ 1 1 + (k : Int) + 1), ?_, ?_, ?_, ?_, ?_⟩
      · simp (disch := first | omega | assumption) only [fX5_addBytesOf_L3, byC, ↓z_lt, ↓z_ge, ↓z_gt, ↓z_le, ↓z_eq, ↓z_ne, ↓z_mx, ↓z_mn, ↓z_dv, ↓z_rm, ↓z_i2l, ↓z_lc, ↓z_sw, ↓z_sf, ↓z_sn, ↓z_bd, ↓z_nt, z_b0, z_b1, z_bi, z_bj, ↓z_gF, ↓z_gR, ↓z_pF, ↓z_pZ, ↓z_pR, ↓z_aI, ↓z_aR, ↓z_sI, ↓z_sZ, ↓z_on, z_cl, ↓reduceIte, Int.reduceEq, Int.reduceNeg, Int.reduceLT, Int.reduceLE, Int.reduceAdd, Int.reduceSub, Int.reduceMul, true_and, and_true, or_true, true_or, eq_self, iR_t, sO1 sh, sA2 sh, q0, i3, k1, k2, e1, ↓z_sB, wr_n, i2b_b]
      · intro o h1 h2; rw [wr_o h1, wr_o h2]; exact i1 o h1 h2
      · intro j hj; rw [wr_i hj, wr_n (by omega)]; exact i2 j hj
      · rw [wr_s]; push_cast; omega
      · intro j
        rw [wr_n (by omega)]
        by_cases z : j = σ 1 1 + (k : Int)
        · subst z; rw [wr_s, if_pos (by push_cast; omega)]; congr 1; omega
        · rw [wr_i z, i4]
          by_cases y : σ 1 1 ≤ j ∧ j < σ 1 1 + (k : Int)
          · rw [if_pos y, if_pos (by push_cast; omega)]
          · rw [if_neg y, if_neg (by push_cast; omega)])
    (fun m s _ hI => by
      have k1 : 24 - 8 * (((4 : Nat)) : Int) < 0 := by decide
      simp (disch := first | omega | assumption) only [fX5_addBytesOf_L3, ↓z_lt, ↓z_ge, ↓z_gt, ↓z_le, ↓z_eq, ↓z_ne, ↓z_mx, ↓z_mn, ↓z_dv, ↓z_rm, ↓z_i2l, ↓z_lc, ↓z_sw, ↓z_sf, ↓z_sn, ↓z_bd, ↓z_nt, z_b0, z_b1, z_bi, z_bj, ↓z_gF, ↓z_gR, ↓z_pF, ↓z_pZ, ↓z_pR, ↓z_aI, ↓z_aR, ↓z_sI, ↓z_sZ, ↓z_on, z_cl, ↓reduceIte, Int.reduceEq, Int.reduceNeg, Int.reduceLT, Int.reduceLE, Int.reduceAdd, Int.reduceSub, Int.reduceMul, true_and, and_true, or_true, true_or, eq_self, iR_t, k1]) (m := 1000) (a := σ) (c := ()) (by omega) ⟨fun _ _ _ => rfl, fun _ _ => rfl, by simp, fun j => by rw [if_neg (by push_cast; omega)]⟩
  refine ⟨s, ?_, i1, i2, by simpa using i3, funext i4⟩
  unfold fX5_addBytesOf
  exact e
end ZQ7a
section ZQ7
variable {x b c k v i j : Int} {g : Int → Int}
theorem bv_of (h0 : 0 ≤ x) (h1 : x < 2147483648) : (Int32.ofInt x).toBitVec = BitVec.ofNat 32 x.toNat := by
  show BitVec.ofInt 32 x = _
  apply BitVec.eq_of_toNat_eq
  rw [BitVec.toNat_ofInt, BitVec.toNat_ofNat]
  omega
theorem or_B (h0 : 0 ≤ x) (h1 : x < 8388608) (b0 : 0 ≤ b) (b1 : b < 256) : ior (ishl x 8) b = x * 256 + b := by
  have e1 : ishl x 8 = x * 256 := by
    unfold ishl b32
    show ((Int32.ofInt x) <<< ((Int32.ofInt 8) &&& 31)).toInt = _
    rw [show (Int32.ofInt 8 &&& 31) = 8 from rfl]
    show ((Int32.ofInt x) <<< (8 : Int32)).toBitVec.toInt = _
    rw [Int32.toBitVec_shiftLeft, bv_of h0 (by omega)]
    rw [show (Int32.toBitVec 8).smod 32 = 8#32 from by decide]
    rw [BitVec.shiftLeft_eq', BitVec.toInt_eq_toNat_of_lt]
    · rw [BitVec.toNat_shiftLeft, BitVec.toNat_ofNat]
      simp only [BitVec.toNat_ofNat, Nat.reducePow, Nat.reduceMod, Nat.shiftLeft_eq]
      omega
    · rw [BitVec.toNat_shiftLeft, BitVec.toNat_ofNat]
      simp only [BitVec.toNat_ofNat, Nat.reducePow, Nat.reduceMod, Nat.shiftLeft_eq]
      omega
  rw [e1]
  unfold ior b32
  show ((Int32.ofInt (x * 256)) ||| (Int32.ofInt b)).toBitVec.toInt = _
  rw [Int32.toBitVec_or, bv_of (by omega) (by omega), bv_of b0 (by omega)]
  have k1 : (BitVec.ofNat 32 (x * 256).toNat ||| BitVec.ofNat 32 b.toNat).toNat = (x * 256 + b).toNat := by
    rw [BitVec.toNat_or, BitVec.toNat_ofNat, BitVec.toNat_ofNat, Nat.mod_eq_of_lt (by omega), Nat.mod_eq_of_lt (by omega)]
    rw [show (x * 256).toNat = x.toNat <<< 8 by rw [Nat.shiftLeft_eq]; omega]
    rw [← Nat.shiftLeft_add_eq_or_of_lt (show b.toNat < 2 ^ 8 by omega), Nat.shiftLeft_eq]
    omega
  rw [BitVec.toInt_eq_toNat_of_lt (by rw [k1]; omega), k1]
  omega
theorem i2b_m (h0 : 0 ≤ x) (h1 : x < 2147483648) (h2 : x % 256 < 128) : i2b x = x % 256 := by
  unfold i2b
  show (Int32.ofInt x).toInt8.toBitVec.toInt = _
  rw [Int32.toBitVec_toInt8, bv_of h0 h1]
  have k1 : (BitVec.signExtend 8 (BitVec.ofNat 32 x.toNat)).toNat = (x % 256).toNat := by
    rw [BitVec.signExtend_eq_setWidth_of_le _ (by omega), BitVec.toNat_setWidth, BitVec.toNat_ofNat]
    omega
  rw [BitVec.toInt_eq_toNat_of_lt (by rw [k1]; omega), k1]
  omega
theorem ush_d (h0 : 0 ≤ x) (h1 : x < 2147483648) (hk : k = 0 ∨ k = 8 ∨ k = 16 ∨ k = 24) : iushr x k = x / (2 ^ k.toNat) := by
  have key : ∀ n : Nat, (n = 0 ∨ n = 8 ∨ n = 16 ∨ n = 24) → ((Int32.ofInt x).toUInt32 >>> ((Int32.ofInt (n : Int)).toUInt32 &&& Int32.toUInt32 31)).toInt32.toInt = x / (2 ^ n) := by
    intro n hn
    have e : ((Int32.ofInt (n : Int)).toUInt32 &&& Int32.toUInt32 31) = UInt32.ofNat n := by rcases hn with rfl | rfl | rfl | rfl <;> rfl
    rw [e]
    show ((Int32.ofInt x).toUInt32 >>> UInt32.ofNat n).toBitVec.toInt = _
    rw [UInt32.toBitVec_shiftRight, Int32.toBitVec_toUInt32, bv_of h0 h1]
    have k1 : (BitVec.ofNat 32 x.toNat >>> ((UInt32.ofNat n).toBitVec % 32#32)).toNat = x.toNat / 2 ^ n := by
      rw [BitVec.ushiftRight_eq', BitVec.toNat_ushiftRight, BitVec.toNat_ofNat, Nat.mod_eq_of_lt (by omega), Nat.shiftRight_eq_div_pow]
      rcases hn with rfl | rfl | rfl | rfl <;> rfl
    have k2 : x.toNat / 2 ^ n ≤ x.toNat := Nat.div_le_self _ _
    rw [show (BitVec.ofNat 32 x.toNat >>> ((UInt32.ofNat n).toBitVec % 32)) = (BitVec.ofNat 32 x.toNat >>> ((UInt32.ofNat n).toBitVec % 32#32)) from rfl]
    rw [BitVec.toInt_eq_toNat_of_lt (by rw [k1]; omega), k1]
    rw [Int.natCast_ediv]
    congr 1
    omega
  rcases hk with rfl | rfl | rfl | rfl
  · exact key 0 (by omega)
  · exact key 8 (by omega)
  · exact key 16 (by omega)
  · exact key 24 (by omega)
def vP (g : Int → Int) (j : Int) (r : Nat) : Int := forI (fun k a => a * 256 + g (4 * j + k)) r 0
theorem vP_s (r : Nat) : vP g j (r + 1) = vP g j r * 256 + g (4 * j + (r : Int)) := rfl
theorem vP_in (hg : ∀ i, 0 ≤ g i ∧ g i < 128) : 0 ≤ vP g j 3 ∧ vP g j 3 < 8388608 ∧ (∀ r : Nat, r < 4 → 0 ≤ vP g j r ∧ vP g j r < 8388608) := by
  have h0 := hg (4 * j + ((0 : Nat) : Int))
  have h1 := hg (4 * j + ((1 : Nat) : Int))
  have h2 := hg (4 * j + ((2 : Nat) : Int))
  have e0 : vP g j 0 = 0 := rfl
  have e1 : vP g j 1 = vP g j 0 * 256 + g (4 * j + ((0 : Nat) : Int)) := vP_s (g := g) (j := j) 0
  have e2 : vP g j 2 = vP g j 1 * 256 + g (4 * j + ((1 : Nat) : Int)) := vP_s (g := g) (j := j) 1
  have e3 : vP g j 3 = vP g j 2 * 256 + g (4 * j + ((2 : Nat) : Int)) := vP_s (g := g) (j := j) 2
  refine ⟨by omega, by omega, fun r hr => ?_⟩
  have : r = 0 ∨ r = 1 ∨ r = 2 ∨ r = 3 := by omega
  rcases this with rfl | rfl | rfl | rfl <;> omega
theorem byC_p (hg : ∀ i, 0 ≤ g i ∧ g i < 128) (i0 : 0 ≤ i) (i1 : i < 4) : byC (vP g j 4) i = g (4 * j + i) := by
  have h0 := hg (4 * j + ((0 : Nat) : Int))
  have h1 := hg (4 * j + ((1 : Nat) : Int))
  have h2 := hg (4 * j + ((2 : Nat) : Int))
  have h3 := hg (4 * j + ((3 : Nat) : Int))
  have e0 : vP g j 0 = 0 := rfl
  have e1 : vP g j 1 = vP g j 0 * 256 + g (4 * j + ((0 : Nat) : Int)) := vP_s (g := g) (j := j) 0
  have e2 : vP g j 2 = vP g j 1 * 256 + g (4 * j + ((1 : Nat) : Int)) := vP_s (g := g) (j := j) 1
  have e3 : vP g j 3 = vP g j 2 * 256 + g (4 * j + ((2 : Nat) : Int)) := vP_s (g := g) (j := j) 2
  have e4 : vP g j 4 = vP g j 3 * 256 + g (4 * j + ((3 : Nat) : Int)) := vP_s (g := g) (j := j) 3
  have w : 0 ≤ vP g j 4 ∧ vP g j 4 < 2147483648 := by omega
  unfold byC
  have hi : i = 0 ∨ i = 1 ∨ i = 2 ∨ i = 3 := by omega
  rcases hi with rfl | rfl | rfl | rfl
  · rw [show (24 : Int) - 8 * 0 = 24 from rfl, ush_d w.1 w.2 (by omega), show (2 : Int) ^ (24 : Int).toNat = 16777216 from rfl]
    rw [i2b_m (by omega) (by omega) (by omega)]
    rw [show 4 * j + (0 : Int) = 4 * j + ((0 : Nat) : Int) from rfl]
    omega
  · rw [show (24 : Int) - 8 * 1 = 16 from rfl, ush_d w.1 w.2 (by omega), show (2 : Int) ^ (16 : Int).toNat = 65536 from rfl]
    rw [i2b_m (by omega) (by omega) (by omega)]
    rw [show 4 * j + (1 : Int) = 4 * j + ((1 : Nat) : Int) from rfl]
    omega
  · rw [show (24 : Int) - 8 * 2 = 8 from rfl, ush_d w.1 w.2 (by omega), show (2 : Int) ^ (8 : Int).toNat = 256 from rfl]
    rw [i2b_m (by omega) (by omega) (by omega)]
    rw [show 4 * j + (2 : Int) = 4 * j + ((2 : Nat) : Int) from rfl]
    omega
  · rw [show (24 : Int) - 8 * 3 = 0 from rfl, ush_d w.1 w.2 (by omega), show (2 : Int) ^ (0 : Int).toNat = 1 from rfl]
    rw [i2b_m (by omega) (by omega) (by omega)]
    rw [show 4 * j + (3 : Int) = 4 * j + ((3 : Nat) : Int) from rfl]
    omega
end ZQ7
