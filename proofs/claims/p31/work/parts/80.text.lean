/-! THE TEXT in the law's builder. -/
section ZQ0
variable {x y : Int}
theorem ishr_0 (h : iR x = true) : ishr x 0 = x := by
  have h2 := iR_of h
  unfold ishr b32
  show (Int32.ofInt x >>> (Int32.ofInt 0 &&& 31)).toInt = x
  rw [show Int32.ofInt 0 &&& 31 = 0 from rfl, Int32.shiftRight_zero]
  exact i32_toInt ⟨h2.1, h2.2⟩
theorem ishl_0 (h : iR x = true) : ishl x 0 = x := by
  have h2 := iR_of h
  unfold ishl b32
  show (Int32.ofInt x <<< (Int32.ofInt 0 &&& 31)).toInt = x
  rw [show Int32.ofInt 0 &&& 31 = 0 from rfl, Int32.shiftLeft_zero]
  exact i32_toInt ⟨h2.1, h2.2⟩
theorem i2b_i (h0 : 0 ≤ x) (h1 : x < 128) : i2b x = x := by
  have key : ∀ k : Nat, k < 128 → i2b (k : Int) = (k : Int) := by decide +kernel
  have := key x.toNat (by omega)
  rwa [show ((x.toNat : Nat) : Int) = x by omega] at this
theorem i2c_i (h0 : 0 ≤ x) (h1 : x < 128) : i2c x = x := by
  have key : ∀ k : Nat, k < 128 → i2c (k : Int) = (k : Int) := by decide +kernel
  have := key x.toNat (by omega)
  rwa [show ((x.toNat : Nat) : Int) = x by omega] at this
theorem ian_b (h0 : 0 ≤ x) (h1 : x < 128) : i2c (iand x 255) = x := by
  have key : ∀ k : Nat, k < 128 → i2c (iand (k : Int) 255) = (k : Int) := by decide +kernel
  have := key x.toNat (by omega)
  rwa [show ((x.toNat : Nat) : Int) = x by omega] at this
/-- a text's sign -/
def gL (T : List Int) (i : Int) : Int := T.getD i.toNat 0
theorem gL_app (A B : List Int) (i : Int) (h0 : 0 ≤ i) : gL (A ++ B) i = if i < (A.length : Int) then gL A i else gL B (i - (A.length : Int)) := by
  unfold gL
  rw [List.getD_eq_getElem?_getD, List.getD_eq_getElem?_getD, List.getD_eq_getElem?_getD]
  by_cases c : i < (A.length : Int)
  · rw [if_pos c, List.getElem?_append_left (by omega)]
  · rw [if_neg c, List.getElem?_append_right (by omega)]
    congr 2
    omega
def numT (v : Int) : List Int := if v < 10 then [48 + v] else [48 + v / 10, 48 + v % 10]
def litT (z : Int) : List Int := (List.range (lenL z).toNat).map fun (i : Nat) => bytL z (i : Int)
/-- all signs are plain -/
def plain (T : List Int) : Prop := ∀ c, c ∈ T → 0 ≤ c ∧ c < 128
theorem plain_g {T : List Int} (h : plain T) (h0 : 0 ≤ x) (h1 : x < (T.length : Int)) : 0 ≤ gL T x ∧ gL T x < 128 := by
  unfold gL
  rw [List.getD_eq_getElem?_getD, List.getElem?_eq_getElem (show x.toNat < T.length by omega)]
  exact h _ (List.getElem_mem _)
theorem plain_a {A B : List Int} (h1 : plain A) (h2 : plain B) : plain (A ++ B) := fun c hc => (List.mem_append.mp hc).elim (h1 c) (h2 c)
theorem litT_len (z : Int) : ((litT z).length : Int) = lenL z := by
  unfold litT lenL
  rw [List.length_map, List.length_range]
  omega
theorem litT_g (z : Int) (h0 : 0 ≤ x) (h1 : x < lenL z) : gL (litT z) x = bytL z x := by
  unfold gL litT
  rw [List.getD_eq_getElem?_getD, List.getElem?_map, List.getElem?_range (by omega)]
  show bytL z ((x.toNat : Nat) : Int) = _
  rw [show ((x.toNat : Nat) : Int) = x by omega]
theorem lit_in (h : isLit x) : 1 ≤ lenL x ∧ lenL x ≤ 9 ∧ plain (litT x) := by
  have key : ∀ i : Nat, i < 25 → (1 ≤ lenL (-2 - (i : Int)) ∧ lenL (-2 - (i : Int)) ≤ 9 ∧ (litT (-2 - (i : Int))).all fun c => decide (0 ≤ c ∧ c < 128)) := by decide +kernel
  have k := key (-2 - x).toNat (by omega)
  rw [show -2 - (((-2 - x).toNat : Nat) : Int) = x by omega] at k
  exact ⟨k.1, k.2.1, fun c hc => of_decide_eq_true (List.all_eq_true.mp k.2.2 c hc)⟩
theorem num_in (h0 : 0 ≤ x) (h1 : x < 100) : 1 ≤ (numT x).length ∧ (numT x).length ≤ 2 ∧ plain (numT x) := by
  unfold numT
  split
  · refine ⟨by simp, by simp, fun c hc => ?_⟩
    simp only [List.mem_singleton] at hc
    omega
  · refine ⟨by simp, by simp, fun c hc => ?_⟩
    simp only [List.mem_cons, List.not_mem_nil, or_false] at hc
    omega
end ZQ0
def SBP (P : Shp) (n : Nat) (σ : St) (z : Int) (T : List Int) (m : Int) : Prop :=
  (265 ≤ z ∧ z < (n : Int)) ∧
  (okO P 8 z = true) ∧
  (265 ≤ σ z 0 ∧ σ z 0 < (n : Int) ∧ σ z 0 ≠ z) ∧
  (∃ cap : Nat, P (σ z 0) = some (9, cap) ∧ m ≤ (cap : Int) ∧ (20 ≤ (cap : Int) ∧ (cap : Int) ≤ 702) ∧ ∀ i, 0 ≤ i → i < (cap : Int) → -128 ≤ σ (σ z 0) i ∧ σ (σ z 0) i < 128) ∧
  (σ z 1 = 0) ∧
  (σ z 3 = (T.length : Int)) ∧
  ((T.length : Int) ≤ m) ∧
  (∀ i, 0 ≤ i → i < (T.length : Int) → σ (σ z 0) i = gL T i) ∧
  (plain T)
theorem SBP.z0 {P : Shp} {n : Nat} {σ : St} {z : Int} {T : List Int} {m : Int} (h : SBP P n σ z T m) : 265 ≤ z ∧ z < (n : Int) := h.1
theorem SBP.oz {P : Shp} {n : Nat} {σ : St} {z : Int} {T : List Int} {m : Int} (h : SBP P n σ z T m) : okO P 8 z = true := h.2.1
theorem SBP.a0 {P : Shp} {n : Nat} {σ : St} {z : Int} {T : List Int} {m : Int} (h : SBP P n σ z T m) : 265 ≤ σ z 0 ∧ σ z 0 < (n : Int) ∧ σ z 0 ≠ z := h.2.2.1
theorem SBP.ca {P : Shp} {n : Nat} {σ : St} {z : Int} {T : List Int} {m : Int} (h : SBP P n σ z T m) : ∃ cap : Nat, P (σ z 0) = some (9, cap) ∧ m ≤ (cap : Int) ∧ (20 ≤ (cap : Int) ∧ (cap : Int) ≤ 702) ∧ ∀ i, 0 ≤ i → i < (cap : Int) → -128 ≤ σ (σ z 0) i ∧ σ (σ z 0) i < 128 := h.2.2.2.1
theorem SBP.co {P : Shp} {n : Nat} {σ : St} {z : Int} {T : List Int} {m : Int} (h : SBP P n σ z T m) : σ z 1 = 0 := h.2.2.2.2.1
theorem SBP.le {P : Shp} {n : Nat} {σ : St} {z : Int} {T : List Int} {m : Int} (h : SBP P n σ z T m) : σ z 3 = (T.length : Int) := h.2.2.2.2.2.1
theorem SBP.lm {P : Shp} {n : Nat} {σ : St} {z : Int} {T : List Int} {m : Int} (h : SBP P n σ z T m) : (T.length : Int) ≤ m := h.2.2.2.2.2.2.1
theorem SBP.tx {P : Shp} {n : Nat} {σ : St} {z : Int} {T : List Int} {m : Int} (h : SBP P n σ z T m) : ∀ i, 0 ≤ i → i < (T.length : Int) → σ (σ z 0) i = gL T i := h.2.2.2.2.2.2.2.1
theorem SBP.pl {P : Shp} {n : Nat} {σ : St} {z : Int} {T : List Int} {m : Int} (h : SBP P n σ z T m) : plain T := h.2.2.2.2.2.2.2.2
def BFr (P : Shp) (n : Nat) (σ : St) (P' : Shp) (n' : Nat) (σ' : St) : Prop := n ≤ n' ∧ (∀ o, o < 265 → σ' o = σ o) ∧ (∀ o, o < 265 → P' o = P o)
section ZQ1
variable {P P' P1 P2 : Shp} {n n' n1 n2 : Nat} {σ σ' σ1 σ2 : St} {z m c v k a i x : Int} {T A : List Int} {cap l : Nat}
theorem BFr.rf : BFr P n σ P n σ := ⟨Nat.le_refl _, fun _ _ => rfl, fun _ _ => rfl⟩
theorem BFr.tr (h : BFr P n σ P1 n1 σ1) (h2 : BFr P1 n1 σ1 P2 n2 σ2) : BFr P n σ P2 n2 σ2 := ⟨Nat.le_trans h.1 h2.1, fun o ho => (h2.2.1 o ho).trans (h.2.1 o ho), fun o ho => (h2.2.2 o ho).trans (h.2.2 o ho)⟩
theorem byOk_i (h : ∀ j, 0 ≤ j → j < m → -128 ≤ σ a (x + j) ∧ σ a (x + j) < 128) : byOk σ a x m = true :=
  List.all_eq_true.mpr fun i hi => decide_eq_true (h i (by omega) (by have := List.mem_range.mp hi; omega))
theorem okG_i (h : P a = some (9, l)) (h0 : 0 ≤ i) (h1 : i + lenL z ≤ (l : Int)) : okG P z a i = true := by
  unfold okG
  rw [h]
  simp [h0, h1]
theorem al_s {kk len : Nat} : al P n kk len (n : Int) = some (kk, len) := if_pos rfl
theorem al_n {kk len : Nat} {o : Int} (h : o ≠ (n : Int)) : al P n kk len o = P o := if_neg h
theorem okO_al {kk len : Nat} (h : z ≠ (n : Int)) : okO (al P n kk len) 8 z = okO P 8 z := by
  unfold okO
  rw [al_n h]
theorem c_newCap (oz : okO P 8 z = true) (ha : σ z 0 = a) (na : ¬ (a = -1)) (c1 : P a = some (9, cap)) (co : σ z 1 = 0) (h0 : 20 ≤ (cap : Int) ∧ (cap : Int) ≤ 702) (h1 : 0 ≤ m ∧ m ≤ 340) (h2 : m - (cap : Int) < (cap : Int) + 2) : fJ5_newCapacity_0f7a4 P σ z m = some ((cap : Int) + ((cap : Int) + 2)) := by
  have eL : ∀ {β : Type} (K : Int → Option β), aL P 9 a K = K (cap : Int) := fun K => e_aL c1
  have e2 : ishl 2 0 = 2 := rfl
  have mR : iR (m - (cap : Int)) = true := iR_t (by omega) (by omega)
  have m2 : iR ((cap : Int) + 2) = true := iR_t (by omega) (by omega)
  have m3 : iR ((cap : Int) + ((cap : Int) + 2)) = true := iR_t (by omega) (by omega)
  have m4 : ¬ ((cap : Int) + ((cap : Int) + 2) ≤ 0) := by omega
  have m5 : ¬ (2147483639 < (cap : Int) + ((cap : Int) + 2)) := by omega
  have m6 : ¬ ((cap : Int) + ((cap : Int) + 2) = 2147483647) := by omega
  have mm : iR m = true := iR_t (by omega) (by omega)
  have eM : fJ8_newLength_cabcc P σ (cap : Int) (m - (cap : Int)) ((cap : Int) + 2) = some ((cap : Int) + ((cap : Int) + 2)) := by
    simp (disch := first | omega | assumption | with_reducible rfl | fail) only [fJ8_newLength_cabcc, ↓z_lt, ↓z_ge, ↓z_gt, ↓z_le, ↓z_eq, ↓z_ne, ↓z_mx, ↓z_mn, ↓z_dv, ↓z_rm, ↓z_i2l, ↓z_lc, ↓z_sw, ↓z_sf, ↓z_sn, ↓z_bd, ↓z_nt, z_b0, z_b1, z_bi, z_bj, ↓z_gF, ↓z_gR, ↓z_pF, ↓z_pZ, ↓z_pR, ↓z_aI, ↓z_aR, ↓z_sI, ↓z_sZ, ↓z_on, z_cl, ↓reduceIte, Int.reduceEq, Int.reduceNeg, Int.reduceLT, Int.reduceLE, Int.reduceAdd, Int.reduceSub, Int.reduceMul, true_and, and_true, or_true, true_or, eq_self, mR, m2, h2, m3, m4, m5, iR_t]
  simp (disch := first | omega | assumption | with_reducible rfl | (simp (disch := omega) only [oz, ha, co, ishl_0 mm, ishl_0, e2]; done) | fail) only [fJ5_newCapacity_0f7a4, ↓z_lt, ↓z_ge, ↓z_gt, ↓z_le, ↓z_eq, ↓z_ne, ↓z_mx, ↓z_mn, ↓z_dv, ↓z_rm, ↓z_i2l, ↓z_lc, ↓z_sw, ↓z_sf, ↓z_sn, ↓z_bd, ↓z_nt, z_b0, z_b1, z_bi, z_bj, ↓z_gF, ↓z_gR, ↓z_pF, ↓z_pZ, ↓z_pR, ↓z_aI, ↓z_aR, ↓z_sI, ↓z_sZ, ↓z_on, z_cl, ↓reduceIte, Int.reduceEq, Int.reduceNeg, Int.reduceLT, Int.reduceLE, Int.reduceAdd, Int.reduceSub, Int.reduceMul, true_and, and_true, or_true, true_or, eq_self, oz, ha, na, ↓eL, co, ishl_0 mm, e2, ↓e_g eM, m6, m3, ishr_0 m3, iR_t]
theorem c_copyOf (c1 : P a = some (9, cap)) (an : a ≠ (n : Int)) (b0 : 0 ≤ m ∧ m ≤ 1024) (m8 : ¬ (m < (cap : Int))) (m7 : ¬ (m = (cap : Int))) (c4 : ∀ i, 0 ≤ i → i < (cap : Int) → -128 ≤ σ a i ∧ σ a i < 128) : fJ7_copyOf_9075b P n σ a m = some ((n : Int), al P n 9 m.toNat, n + 1, cps (nwA σ n 0) a 0 (n : Int) 0 (cap : Int)) := by
  have eL : ∀ {β : Type} (K : Int → Option β), aL P 9 a K = K (cap : Int) := fun K => e_aL c1
  have y1 : okC (al P n 9 m.toNat) 9 a 0 (n : Int) 0 (cap : Int) = true := okC_i (l1 := cap) (l2 := m.toNat) ((al_n an).trans c1) al_s (by omega) (by omega) (by omega) (by omega) (by omega)
  have y2 : byOk (nwA σ n 0) a 0 (cap : Int) = true := byOk_i fun j j0 j1 => by rw [nwA_o an, Int.zero_add]; exact c4 j j0 j1
  have eL2 : ∀ {β : Type} (K : Int → Option β), aL (al P n 9 m.toNat) 9 a K = K (cap : Int) := fun K => e_aL ((al_n an).trans c1)
  have eD : ∀ (K : Shp → Nat → Int → St → Option Hr), mkD P n σ 9 m K = K (al P n 9 m.toNat) (n + 1) (n : Int) (nwA σ n 0) := fun K => if_pos b0
  have eY : ∀ (K : St → Option Hr), cpY (al P n 9 m.toNat) (nwA σ n 0) a 0 (n : Int) 0 (cap : Int) K = K (cps (nwA σ n 0) a 0 (n : Int) 0 (cap : Int)) := fun K => if_pos ⟨y1, y2⟩
  have cR : iR (cap : Int) = true := iR_t (by omega) (by omega)
  have mR : iR m = true := iR_t (by omega) (by omega)
  simp (disch := first | omega | assumption | with_reducible rfl | fail) only [fJ7_copyOf_9075b, ↓z_lt, ↓z_ge, ↓z_gt, ↓z_le, ↓z_eq, ↓z_ne, ↓z_mx, ↓z_mn, ↓z_dv, ↓z_rm, ↓z_i2l, ↓z_lc, ↓z_sw, ↓z_sf, ↓z_sn, ↓z_bd, ↓z_nt, z_b0, z_b1, z_bi, z_bj, ↓z_gF, ↓z_gR, ↓z_pF, ↓z_pZ, ↓z_pR, ↓z_aI, ↓z_aR, ↓z_sI, ↓z_sZ, ↓z_on, z_cl, ↓reduceIte, Int.reduceEq, Int.reduceNeg, Int.reduceLT, Int.reduceLE, Int.reduceAdd, Int.reduceSub, Int.reduceMul, true_and, and_true, or_true, true_or, eq_self, ↓eL, m7, cR, mR, ↓eD, ↓eL2, m8, eY, iR_t]
/-- room for m signs -/
theorem sb_ens (h : SBP P n σ z T (T.length : Int)) (h1 : (T.length : Int) ≤ m) (h2 : m ≤ (T.length : Int) + 20) (h3 : m ≤ 340) : ∃ P' n' σ', fJ5_ensureCapacityInternal_d00df P n σ z m = some (P', n', σ') ∧ SBP P' n' σ' z T m ∧ BFr P n σ P' n' σ' := by
  obtain ⟨cap, c1, c2, c3, c4⟩ := h.ca
  have z0 := h.z0
  have a0 := h.a0
  have oz := h.oz
  have co := h.co
  have tx := h.tx
  have na : ¬ (σ z 0 = -1) := by omega
  have cR : iR (cap : Int) = true := iR_t (by omega) (by omega)
  have mR : iR (m - (cap : Int)) = true := iR_t (by omega) (by omega)
  generalize ha : σ z 0 = a at *
  have eL : ∀ {β : Type} (K : Int → Option β), aL P 9 a K = K (cap : Int) := fun K => e_aL c1
  by_cases c : m ≤ (cap : Int)
  · refine ⟨P, n, σ, ?_, ⟨z0, oz, by rw [ha]; exact a0, ⟨cap, by rw [ha]; exact c1, c, c3, by rw [ha]; exact c4⟩, co, h.le, h1, by rw [ha]; exact tx, h.pl⟩, BFr.rf⟩
    have c5 : m - (cap : Int) ≤ 0 := by omega
    simp (disch := first | omega | assumption | with_reducible rfl | fail) only [fJ5_ensureCapacityInternal_d00df, ↓z_lt, ↓z_ge, ↓z_gt, ↓z_le, ↓z_eq, ↓z_ne, ↓z_mx, ↓z_mn, ↓z_dv, ↓z_rm, ↓z_i2l, ↓z_lc, ↓z_sw, ↓z_sf, ↓z_sn, ↓z_bd, ↓z_nt, z_b0, z_b1, z_bi, z_bj, ↓z_gF, ↓z_gR, ↓z_pF, ↓z_pZ, ↓z_pR, ↓z_aI, ↓z_aR, ↓z_sI, ↓z_sZ, ↓z_on, z_cl, ↓reduceIte, Int.reduceEq, Int.reduceNeg, Int.reduceLT, Int.reduceLE, Int.reduceAdd, Int.reduceSub, Int.reduceMul, true_and, and_true, or_true, true_or, eq_self, oz, ha, na, ↓eL, co, ishr_0 cR, mR, iR_t, c5]
  · have c5 : ¬ (m - (cap : Int) ≤ 0) := by omega
    have e2 : ishl 2 0 = 2 := rfl
    have m1 : m - (cap : Int) < (cap : Int) + 2 := by omega
    have m2 : iR ((cap : Int) + 2) = true := iR_t (by omega) (by omega)
    have m3 : iR ((cap : Int) + ((cap : Int) + 2)) = true := iR_t (by omega) (by omega)
    have m4 : ¬ ((cap : Int) + ((cap : Int) + 2) ≤ 0) := by omega
    have m5 : ¬ (2147483639 < (cap : Int) + ((cap : Int) + 2)) := by omega
    have m6 : ¬ ((cap : Int) + ((cap : Int) + 2) = 2147483647) := by omega
    have m7 : ¬ ((cap : Int) + ((cap : Int) + 2) = (cap : Int)) := by omega
    have m8 : ¬ ((cap : Int) + ((cap : Int) + 2) < (cap : Int)) := by omega
    have mm : iR m = true := iR_t (by omega) (by omega)
    have eN : fJ5_newCapacity_0f7a4 P σ z m = some ((cap : Int) + ((cap : Int) + 2)) := c_newCap oz ha na c1 co (by omega) (by omega) (by omega)
    generalize hb : (cap : Int) + ((cap : Int) + 2) = b at *
    have b0 : 0 ≤ b ∧ b ≤ 1024 := by omega
    have zn : z ≠ (n : Int) := by omega
    have an : a ≠ (n : Int) := by omega
    have eC : fJ7_copyOf_9075b P n σ a b = some ((n : Int), al P n 9 b.toNat, n + 1, cps (nwA σ n 0) a 0 (n : Int) 0 (cap : Int)) := c_copyOf c1 an b0 m8 m7 c4
    have oz2 : okO (al P n 9 b.toNat) 8 z = true := by rw [okO_al zn]; exact oz
    have bl : iR b = true := m3
    have nn : ¬ ((n : Int) = -1) := by omega
    have w : ∀ o, o ≠ (n : Int) → cps (nwA σ n 0) a 0 (n : Int) 0 (cap : Int) o = σ o := fun o ho => by
      funext j
      unfold cps
      rw [if_neg (fun q => ho q.1), nwA_o ho]
    refine ⟨al P n 9 b.toNat, n + 1, wr (cps (nwA σ n 0) a 0 (n : Int) 0 (cap : Int)) z 0 (n : Int), ?_, ⟨⟨z0.1, by push_cast; omega⟩, oz2, ?_, ?_, ?_, ?_, h1, ?_, h.pl⟩, ⟨by omega, fun o ho => ?_, fun o ho => al_n (by omega)⟩⟩
    · simp (disch := first | omega | assumption | with_reducible rfl | fail) only [fJ5_ensureCapacityInternal_d00df, ↓z_lt, ↓z_ge, ↓z_gt, ↓z_le, ↓z_eq, ↓z_ne, ↓z_mx, ↓z_mn, ↓z_dv, ↓z_rm, ↓z_i2l, ↓z_lc, ↓z_sw, ↓z_sf, ↓z_sn, ↓z_bd, ↓z_nt, z_b0, z_b1, z_bi, z_bj, ↓z_gF, ↓z_gR, ↓z_pF, ↓z_pZ, ↓z_pR, ↓z_aI, ↓z_aR, ↓z_sI, ↓z_sZ, ↓z_on, z_cl, ↓reduceIte, Int.reduceEq, Int.reduceNeg, Int.reduceLT, Int.reduceLE, Int.reduceAdd, Int.reduceSub, Int.reduceMul, true_and, and_true, or_true, true_or, eq_self, oz, ha, na, ↓eL, co, ishr_0 cR, mR, iR_t, c5, ↓e_g eN, ishl_0 bl, ↓e_g eC, oz2, nn]
    · rw [wr_s]; exact ⟨by omega, by push_cast; omega, by omega⟩
    · rw [wr_s]
      refine ⟨b.toNat, al_s, by omega, by omega, fun i i0 i1 => ?_⟩
      rw [wr_o (by omega)]
      unfold cps
      by_cases q : i < 0 + (cap : Int)
      · rw [if_pos ⟨rfl, i0, q⟩, nwA_o an, Int.sub_zero, Int.zero_add]
        exact c4 i i0 (by omega)
      · rw [if_neg (by omega)]
        unfold nwA
        rw [if_pos rfl]
        omega
    · rw [wr_i (by omega), w z zn]; exact co
    · rw [wr_i (by omega), w z zn]; exact h.le
    · intro i i0 i1
      rw [wr_s, wr_o (by omega)]
      unfold cps
      have := h.lm
      rw [if_pos ⟨rfl, i0, by omega⟩, nwA_o an, Int.sub_zero, Int.zero_add]
      exact tx i i0 i1
    · rw [wr_o (by omega), w o (by omega)]
/-- a sign or more behind the text -/
theorem SBP.app (h : SBP P n σ z T m) (hA : plain A) (hm : m = (T.length : Int) + (A.length : Int)) (f : ∀ o, o ≠ z → o ≠ σ z 0 → σ' o = σ o) (f3 : σ' z 3 = m) (fz : ∀ j, j ≠ 3 → σ' z j = σ z j) (fa : ∀ j, σ' (σ z 0) j = if (T.length : Int) ≤ j ∧ j < m then gL A (j - (T.length : Int)) else σ (σ z 0) j) : SBP P n σ' z (T ++ A) ((T ++ A).length : Int) ∧ BFr P n σ P n σ' := by
  obtain ⟨cap, c1, c2, c3, c4⟩ := h.ca
  have z0 := h.z0
  have a0 := h.a0
  have ez : σ' z 0 = σ z 0 := fz 0 (by omega)
  have el : (((T ++ A).length : Nat) : Int) = m := by rw [List.length_append, hm]; push_cast; rfl
  refine ⟨⟨z0, h.oz, by rw [ez]; exact a0, ⟨cap, by rw [ez]; exact c1, by rw [el]; exact c2, c3, fun i i0 i1 => ?_⟩, by rw [fz 1 (by omega)]; exact h.co, by rw [f3, el], Int.le_refl _, fun i i0 i1 => ?_, plain_a h.pl hA⟩, ⟨Nat.le_refl _, fun o ho => f o (by omega) (by omega), fun _ _ => rfl⟩⟩
  · rw [ez, fa]
    by_cases q : (T.length : Int) ≤ i ∧ i < m
    · rw [if_pos q]
      have := plain_g hA (x := i - (T.length : Int)) (by omega) (by omega)
      omega
    · rw [if_neg q]; exact c4 i i0 i1
  · rw [ez, fa, gL_app _ _ _ i0]
    by_cases q : i < (T.length : Int)
    · rw [if_neg (by omega), if_pos q]; exact h.tx i i0 q
    · rw [if_pos (by omega), if_neg q]
theorem sb_str (h : SBP P n σ z T (T.length : Int)) (hk : isLit k) (h3 : (T.length : Int) ≤ 320) : ∃ P' n' σ', fJ4_append_15ec4 P n σ z k = some (z, P', n', σ') ∧ SBP P' n' σ' z (T ++ litT k) ((T ++ litT k).length : Int) ∧ BFr P n σ P' n' σ' := by
  have li := lit_in hk
  obtain ⟨P1, n1, σ1, e1, S1, F1⟩ := sb_ens h (m := (T.length : Int) + lenL k) (by omega) (by omega) (by omega)
  obtain ⟨cap, c1, c2, c3, c4⟩ := S1.ca
  have a0 := S1.a0
  have co := S1.co
  have oz := S1.oz
  have le := S1.le
  have na : ¬ (σ1 z 0 = -1) := by omega
  have o0 := h.oz
  have l0 := h.le
  have hg : okG P1 k (σ1 z 0) (T.length : Int) = true := okG_i c1 (by omega) (by omega)
  have hR : inR (T.length : Int) := ⟨by omega, by omega⟩
  have w3 : ∀ j, lps σ1 k (σ1 z 0) (T.length : Int) z j = σ1 z j := fun j => if_neg (fun q => a0.2.2 q.1.symm)
  obtain ⟨S2, F2⟩ := S1.app (σ' := wr (lps σ1 k (σ1 z 0) (T.length : Int)) z 3 ((T.length : Int) + lenL k)) li.2.2 (by rw [litT_len]) (fun o h1 h2 => by
      rw [wr_o h1]; funext j; exact if_neg (fun q => h2 q.1)) wr_s (fun j hj => by rw [wr_i hj]; exact w3 j) (fun j => by
      rw [wr_o a0.2.2]
      unfold lps
      by_cases q : (T.length : Int) ≤ j ∧ j < (T.length : Int) + lenL k
      · rw [if_pos ⟨rfl, q⟩, if_pos q, litT_g k (by omega) (by omega)]
      · rw [if_neg (fun r => q r.2), if_neg q])
  refine ⟨P1, n1, _, ?_, S2, F1.tr F2⟩
  have eJ : ∀ {β : Type} (K : Option β), isL k K = K := fun K => if_pos hk
  have eG : ∀ (K : St → Option St), gBz P1 σ1 k (σ1 z 0) (T.length : Int) 0 K = K (lps σ1 k (σ1 z 0) (T.length : Int)) := fun K => (if_pos ⟨rfl, hR⟩).trans (if_pos ⟨hk, hg⟩)
  have eI : fJ5_inflateIfNeededFor_a7421 P1 σ1 z k = some () := by
    simp (disch := first | omega | assumption | with_reducible rfl | fail) only [fJ5_inflateIfNeededFor_a7421, ↓z_lt, ↓z_ge, ↓z_gt, ↓z_le, ↓z_eq, ↓z_ne, ↓z_mx, ↓z_mn, ↓z_dv, ↓z_rm, ↓z_i2l, ↓z_lc, ↓z_sw, ↓z_sf, ↓z_sn, ↓z_bd, ↓z_nt, z_b0, z_b1, z_bi, z_bj, ↓z_gF, ↓z_gR, ↓z_pF, ↓z_pZ, ↓z_pR, ↓z_aI, ↓z_aR, ↓z_sI, ↓z_sZ, ↓z_on, z_cl, ↓reduceIte, Int.reduceEq, Int.reduceNeg, Int.reduceLT, Int.reduceLE, Int.reduceAdd, Int.reduceSub, Int.reduceMul, true_and, and_true, or_true, true_or, eq_self, oz, co, ↓eJ, iR_t]
  have eP : fJ5_putStringAt_47b60 P1 σ1 z (T.length : Int) k = some (lps σ1 k (σ1 z 0) (T.length : Int)) := by
    simp (disch := first | omega | assumption | with_reducible rfl | fail) only [fJ5_putStringAt_47b60, ↓z_lt, ↓z_ge, ↓z_gt, ↓z_le, ↓z_eq, ↓z_ne, ↓z_mx, ↓z_mn, ↓z_dv, ↓z_rm, ↓z_i2l, ↓z_lc, ↓z_sw, ↓z_sf, ↓z_sn, ↓z_bd, ↓z_nt, z_b0, z_b1, z_bi, z_bj, ↓z_gF, ↓z_gR, ↓z_pF, ↓z_pZ, ↓z_pR, ↓z_aI, ↓z_aR, ↓z_sI, ↓z_sZ, ↓z_on, z_cl, ↓reduceIte, Int.reduceEq, Int.reduceNeg, Int.reduceLT, Int.reduceLE, Int.reduceAdd, Int.reduceSub, Int.reduceMul, true_and, and_true, or_true, true_or, eq_self, oz, na, co, ↓e_g eI, eG, iR_t]
  have eS : ∀ {β : Type} (K : Int → Option β), sln k K = K (lenL k) := fun K => if_pos hk
  simp (disch := first | omega | assumption | with_reducible rfl | fail) only [fJ4_append_15ec4, fJ5_append_cf1ce, ↓z_lt, ↓z_ge, ↓z_gt, ↓z_le, ↓z_eq, ↓z_ne, ↓z_mx, ↓z_mn, ↓z_dv, ↓z_rm, ↓z_i2l, ↓z_lc, ↓z_sw, ↓z_sf, ↓z_sn, ↓z_bd, ↓z_nt, z_b0, z_b1, z_bi, z_bj, ↓z_gF, ↓z_gR, ↓z_pF, ↓z_pZ, ↓z_pR, ↓z_aI, ↓z_aR, ↓z_sI, ↓z_sZ, ↓z_on, z_cl, ↓reduceIte, Int.reduceEq, Int.reduceNeg, Int.reduceLT, Int.reduceLE, Int.reduceAdd, Int.reduceSub, Int.reduceMul, true_and, and_true, or_true, true_or, eq_self, o0, l0, ↓eS, ↓e_g e1, oz, le, ↓e_g eP, w3, iR_t]
theorem sb_len (h : SBP P n σ z T m) : fJ4_length_8abf5 P σ z = some (T.length : Int) := by
  simp (disch := first | omega | assumption | with_reducible rfl | fail) only [fJ4_length_8abf5, fJ5_length_8abf5, ↓z_lt, ↓z_ge, ↓z_gt, ↓z_le, ↓z_eq, ↓z_ne, ↓z_mx, ↓z_mn, ↓z_dv, ↓z_rm, ↓z_i2l, ↓z_lc, ↓z_sw, ↓z_sf, ↓z_sn, ↓z_bd, ↓z_nt, z_b0, z_b1, z_bi, z_bj, ↓z_gF, ↓z_gR, ↓z_pF, ↓z_pZ, ↓z_pR, ↓z_aI, ↓z_aR, ↓z_sI, ↓z_sZ, ↓z_on, z_cl, ↓reduceIte, Int.reduceEq, Int.reduceNeg, Int.reduceLT, Int.reduceLE, Int.reduceAdd, Int.reduceSub, Int.reduceMul, true_and, and_true, or_true, true_or, eq_self, h.oz, h.le]
theorem sb_chr (h : SBP P n σ z T (T.length : Int)) (h0 : 0 ≤ c) (h1 : c < 128) (h3 : (T.length : Int) ≤ 320) : ∃ P' n' σ', fJ4_append_cf468 P n σ z c = some (z, P', n', σ') ∧ SBP P' n' σ' z (T ++ [c]) ((T ++ [c]).length : Int) ∧ BFr P n σ P' n' σ' := by
  obtain ⟨P1, n1, σ1, e1, S1, F1⟩ := sb_ens h (m := (T.length : Int) + 1) (by omega) (by omega) (by omega)
  obtain ⟨cap, c1, c2, c3, c4⟩ := S1.ca
  have a0 := S1.a0
  have co := S1.co
  have oz := S1.oz
  have le := S1.le
  have na : ¬ (σ1 z 0 = -1) := by omega
  have o0 := h.oz
  have l0 := h.le
  have hg : okA P1 9 (σ1 z 0) (T.length : Int) = true := okA_i c1 (by omega) (by omega)
  have ib := i2b_i h0 h1
  obtain ⟨S2, F2⟩ := S1.app (σ' := wr (wr σ1 z 3 ((T.length : Int) + 1)) (σ1 z 0) (T.length : Int) c) (A := [c]) (fun q hq => by simp only [List.mem_singleton] at hq; omega) (by simp) (fun o h1 h2 => by
      rw [wr_o h2, wr_o h1]) (by rw [wr_n (by omega), wr_s]) (fun j hj => by rw [wr_n (by omega), wr_i hj]) (fun j => by
      by_cases q : j = (T.length : Int)
      · subst q
        rw [wr_s, if_pos (by omega), Int.sub_self]
        rfl
      · rw [wr_i q, wr_o a0.2.2, if_neg (by omega)])
  refine ⟨P1, n1, _, ?_, S2, F1.tr F2⟩
  have c255 : ¬ (255 < c) := by omega
  have cR : iR c = true := iR_t (by omega) (by omega)
  have eI : fJ5_isLatin1_aae02 P1 σ1 z = some 1 := by
    simp (disch := first | omega | assumption | with_reducible rfl | fail) only [fJ5_isLatin1_aae02, ↓z_lt, ↓z_ge, ↓z_gt, ↓z_le, ↓z_eq, ↓z_ne, ↓z_mx, ↓z_mn, ↓z_dv, ↓z_rm, ↓z_i2l, ↓z_lc, ↓z_sw, ↓z_sf, ↓z_sn, ↓z_bd, ↓z_nt, z_b0, z_b1, z_bi, z_bj, ↓z_gF, ↓z_gR, ↓z_pF, ↓z_pZ, ↓z_pR, ↓z_aI, ↓z_aR, ↓z_sI, ↓z_sZ, ↓z_on, z_cl, ↓reduceIte, Int.reduceEq, Int.reduceNeg, Int.reduceLT, Int.reduceLE, Int.reduceAdd, Int.reduceSub, Int.reduceMul, true_and, and_true, or_true, true_or, eq_self, oz, co, iR_t]
  have eC : fJ1_canEncode_fc78d P1 σ1 c = some 1 := by
    simp (disch := first | omega | assumption | with_reducible rfl | fail) only [fJ1_canEncode_fc78d, ↓z_lt, ↓z_ge, ↓z_gt, ↓z_le, ↓z_eq, ↓z_ne, ↓z_mx, ↓z_mn, ↓z_dv, ↓z_rm, ↓z_i2l, ↓z_lc, ↓z_sw, ↓z_sf, ↓z_sn, ↓z_bd, ↓z_nt, z_b0, z_b1, z_bi, z_bj, ↓z_gF, ↓z_gR, ↓z_pF, ↓z_pZ, ↓z_pR, ↓z_aI, ↓z_aR, ↓z_sI, ↓z_sZ, ↓z_on, z_cl, ↓reduceIte, Int.reduceEq, Int.reduceNeg, Int.reduceLT, Int.reduceLE, Int.reduceAdd, Int.reduceSub, Int.reduceMul, true_and, and_true, or_true, true_or, eq_self, c255, cR, iR_t]
  have eB : ∀ (K : St → Option Hr), sB P1 9 (wr σ1 z 3 ((T.length : Int) + 1)) (σ1 z 0) (T.length : Int) (i2b c) K = K (wr (wr σ1 z 3 ((T.length : Int) + 1)) (σ1 z 0) (T.length : Int) c) := fun K => by
    unfold sB
    rw [if_pos hg, ib, ib]
  simp (disch := first | omega | assumption | with_reducible rfl | (simp (disch := omega) only [l0, le]; done) | fail) only [fJ4_append_cf468, fJ5_append_3fe6f, ↓z_lt, ↓z_ge, ↓z_gt, ↓z_le, ↓z_eq, ↓z_ne, ↓z_mx, ↓z_mn, ↓z_dv, ↓z_rm, ↓z_i2l, ↓z_lc, ↓z_sw, ↓z_sf, ↓z_sn, ↓z_bd, ↓z_nt, z_b0, z_b1, z_bi, z_bj, ↓z_gF, ↓z_gR, ↓z_pF, ↓z_pZ, ↓z_pR, ↓z_aI, ↓z_aR, ↓z_sI, ↓z_sZ, ↓z_on, z_cl, ↓reduceIte, Int.reduceEq, Int.reduceNeg, Int.reduceLT, Int.reduceLE, Int.reduceAdd, Int.reduceSub, Int.reduceMul, true_and, and_true, or_true, true_or, eq_self, o0, l0, ↓e_g e1, ↓e_g eI, ↓e_g eC, oz, le, na, eB, iR_t]
end ZQ1
