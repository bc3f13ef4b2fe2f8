/-! ROWS of V: arraylength, arraycopy. -/
section VU2
variable {X : Cxt} {w : Wd} {cc : ByteArray} {nL : Nat} {own : String} {ret : Option FieldType} {P : Shp} {n cells slots : Nat} {α : Type} {res : α} {K : Option α} {σ : St} {pc : Nat} {lv : List (Nat × Value)} {st : List Value}
theorem v_alen10 (C : Cok X w cc nL own ret) {o : Int} {K : Int → Option α} (d : decode cc pc = .ok (.arraylength, 1)) (kk : ∀ x : Int, V X w nL P n cells slots res (K x) σ (pc + 1) lv (I x :: st)) : V X w nL P n cells slots res (aL P 10 o K) σ pc lv (A w o :: st) := fun H locs ls hR hS hl hK => by
  unfold aL at hK
  split at hK
  · rename_i q hq
    obtain ⟨g, hK⟩ := gd hK
    have hP : P o = some (10, q.2) := by rw [hq, ← g]
    exact va_alen (D := wD w) (cl := vwCl) (tys := wT w) C.1.1 C.1.2.1 C.2.1.1 (P1 (hR.at hP)) 0 1 rfl rfl (v := Int32.ofInt (q.2 : Int)) (by show Int32.ofNat q.2 = _; exact (Int32.ofInt_eq_ofNat).symm) d (kk _ H locs ls hR hS hl hK)
  · cases hK
theorem v_alen11 (C : Cok X w cc nL own ret) {o : Int} {K : Int → Option α} (d : decode cc pc = .ok (.arraylength, 1)) (kk : ∀ x : Int, V X w nL P n cells slots res (K x) σ (pc + 1) lv (I x :: st)) : V X w nL P n cells slots res (aL P 11 o K) σ pc lv (A w o :: st) := fun H locs ls hR hS hl hK => by
  unfold aL at hK
  split at hK
  · rename_i q hq
    obtain ⟨g, hK⟩ := gd hK
    have hP : P o = some (11, q.2) := by rw [hq, ← g]
    exact va_alen (D := wD w) (cl := vwCl) (tys := wT w) C.1.1 C.1.2.1 C.2.1.1 (P1 (hR.at hP)) 0 2 rfl rfl (v := Int32.ofInt (q.2 : Int)) (by show Int32.ofNat q.2 = _; exact (Int32.ofInt_eq_ofNat).symm) d (kk _ H locs ls hR hS hl hK)
  · cases hK
theorem nn32 {x : Int} (h0 : 0 ≤ x) (h1 : x < 2147483648) : ¬ Int32.ofInt x < 0 := by
  rw [i32_0, i32_lt ⟨by omega, by omega⟩ inR0]; omega
theorem cl32 {x : Int} (h0 : 0 ≤ x) (h1 : x < 2147483648) : (Int32.ofInt x).toNatClampNeg = x.toNat := by
  show (Int32.ofInt x).toInt.toNat = _
  rw [i32_toInt ⟨by omega, by omega⟩]
theorem v_copy10 {idx : Nat} {a sp b dp m : Int} {K : St → Option α} (C : Cok X w cc nL own ret) (h1 : Cond.methodLink own idx arraycopyName ∈ TB) (h2 : Cond.native arraycopyName ∈ TB) (h3 : Cond.static arraycopyName ∈ TB) (h4 : Cond.initialized "java/lang/System" ∈ TB) (hf : 1 ≤ X.2.2.2.1.frames) (hlo : 40 ≤ X.2.2.2.1.locals) (hsum : (st.map fun v => v.category).sum ≤ 8) (d : decode cc pc = .ok (.invokestatic idx, 3)) (k : ∀ x : St, V X w nL P n cells slots res (K x) x (pc + 3) lv st) : V X w nL P n cells slots res (cpA P 10 σ a sp b dp m K) σ pc lv (I m :: I dp :: A w b :: I sp :: A w a :: st) := fun H locs ls hR hS hl hK => by
  obtain ⟨g, hK⟩ := gd hK
  obtain ⟨l1, l2, hPa, hPb, g1, g2, g3, g4, g5⟩ := okC_of g
  have hL1 := hR.len hPa
  have hL2 := hR.len hPb
  have c1 := cl32 (x := sp) g1 (by omega)
  have c2 := cl32 (x := dp) g2 (by omega)
  have c3 := cl32 (x := m) g3 (by omega)
  have hc0 : H[ad w a]? = some (vp_cell (wC w 1) (l1, .inl (fun j => Int32.ofInt (σ a (j : Int))))) := hR.at hPa
  have hc1 : H[ad w b]? = some (vp_cell (wC w 1) (l2, .inl (fun j => Int32.ofInt (σ b (j : Int))))) := hR.at hPb
  have e9 : nativeFrameWords "java/lang/System" "arraycopy" 5 + 11 ≤ 30 := by decide
  intro T hT Y
  obtain ⟨-, k0, hk0, cm0, hkk0⟩ := (C.2.1.1.2 1 _ rfl).1 l1 (fun j => I (σ a (j : Int)))
  obtain ⟨-, k1, hk1, cm1, hkk1⟩ := (C.2.1.1.2 1 _ rfl).1 l2 (fun j => I (σ b (j : Int)))
  obtain ⟨vm', Y', step⟩ := Y.arraycopy C.1.1 C.1.2.2.2.1 (C.wd h1) (C.wd h2) (C.wd h3) (C.wd h4) (src := ad w a) (dst := ad w b) (cs := vp_cell (wC w 1) (l1, .inl (fun j => Int32.ofInt (σ a (j : Int))))) (cd := vp_cell (wC w 1) (l2, .inl (fun j => Int32.ofInt (σ b (j : Int))))) (srcPos := Int32.ofInt sp) (destPos := Int32.ofInt dp) (n := Int32.ofInt m) (by rw [hT]; exact hc0) (by rw [hT]; exact hc1)
    (fun _ h => by cases h) (fun _ h => by cases h) (fun h => by cases h) (fun h => by cases h) hk0 hk1 hkk0 hkk1 (by simp [refKind]) (nn32 g1 (by omega)) (nn32 g2 (by omega)) (nn32 g3 (by omega))
    (by rw [i32_toInt ⟨by omega, by omega⟩, i32_toInt ⟨by omega, by omega⟩]; show ¬ _ > ((arrV _ l1 (fun j => I (σ a (j : Int)))).slots.size : Int); rw [arrV_size]; omega)
    (by rw [i32_toInt ⟨by omega, by omega⟩, i32_toInt ⟨by omega, by omega⟩]; show ¬ _ > ((arrV _ l2 (fun j => I (σ b (j : Int)))).slots.size : Int); rw [arrV_size]; omega)
    (fun vm₁ _ i hi => by
      rw [c3] at hi
      have e : (vp_cell (wC w 1) (l1, .inl (fun j => Int32.ofInt (σ a (j : Int))))).slots.getD ((Int32.ofInt sp).toNatClampNeg + i) .null = .int (Int32.ofInt (σ a (((Int32.ofInt sp).toNatClampNeg + i : Nat) : Int))) := by
        show (arrV (wC w 1) l1 (fun j => .int (Int32.ofInt (σ a (j : Int))))).slots.getD _ _ = _
        rw [Array.getD_eq_getD_getElem?, arrV_read _ _ (by rw [c1]; omega)]
        rfl
      refine ⟨?_, ?_⟩
      · rw [e]; rfl
      · rw [e]; exact trivial)
    (g := F0 X.2.2.2.2.2.1 pc ls (I m :: I dp :: A w b :: I sp :: A w a :: st)) rfl (by show ls.size = _; rw [C.1.2.2.1]; exact hl.1) (rest := st) rfl (by rw [C.1.2.1]; exact d) hf (by show 2 * 0 + _ + _ ≤ _; omega)
  have e1 : copied (vp_cell (wC w 1) (l1, .inl (fun j => Int32.ofInt (σ a (j : Int))))) (vp_cell (wC w 1) (l2, .inl (fun j => Int32.ofInt (σ b (j : Int))))) (Int32.ofInt sp) (Int32.ofInt dp) (Int32.ofInt m) = vp_cell (wC w 1) (l2, .inl (va_cpy (fun j => Int32.ofInt (σ a (j : Int))) (fun j => Int32.ofInt (σ b (j : Int))) (Int32.ofInt sp).toNatClampNeg (Int32.ofInt dp).toNatClampNeg (Int32.ofInt m).toNatClampNeg)) := va_copied (fun z => Value.int z) (wC w 1) (wC w 1) (fun j : Nat => Int32.ofInt (σ a (j : Int))) (fun j : Nat => Int32.ofInt (σ b (j : Int))) (sp := (Int32.ofInt sp).toNatClampNeg) (dp := (Int32.ofInt dp).toNatClampNeg) (n := (Int32.ofInt m).toNatClampNeg) (by rw [c1, c3]; omega)
  rw [e1] at Y' step
  have hlt : ad w b < H.size := (Array.getElem?_eq_some_iff.mp hc1).1
  generalize hc9 : vp_cell (wC w 1) (l2, .inl (va_cpy (fun j => Int32.ofInt (σ a (j : Int))) (fun j => Int32.ofInt (σ b (j : Int))) (Int32.ofInt sp).toNatClampNeg (Int32.ofInt dp).toNatClampNeg (Int32.ofInt m).toNatClampNeg)) = cell9 at Y' step
  have hheap : ((T.setVm vm').setCell (ad w b) cell9).heap = H.setIfInBounds (ad w b) cell9 := by rw [← hT]; rfl
  have oq : ∀ q : Nat, q ≠ ad w b → (H.setIfInBounds (ad w b) cell9)[q]? = H[q]? := fun q hq => by simp [Array.getElem?_setIfInBounds, Ne.symm hq]
  have hb0 : ad w b = w.1.size + b.toNat := ad_nn (hR.nn hPb)
  have hRep : Rep w P n (cps σ a sp b dp m) (H.setIfInBounds (ad w b) cell9) := by
    refine hR.put (z := b) hPb (by simp) oq ?_ (fun y hy => by funext j; simp [cps, hy])
    show (H.setIfInBounds (ad w b) cell9)[ad w b]? = some (vp_cell _ _)
    rw [Array.getElem?_setIfInBounds]
    simp only [if_true, hlt, ← hc9]
    congr 3
    congr 1
    funext j
    simp only [va_cpy, cps, c1, c2, c3]
    by_cases hj : dp.toNat ≤ j ∧ j < dp.toNat + m.toNat
    · rw [if_pos hj, if_pos ⟨trivial, by omega, by omega⟩]
      congr 2
      omega
    · rw [if_neg hj, if_neg (fun h => hj ⟨by omega, by omega⟩)]
  obtain ⟨t, a1, b1⟩ := k _ _ _ ls hRep ⟨by simp; exact hS.1, fun q q1 q2 => by
      rw [oq q (fun e => q2 (by rw [e]; show w.1.size ≤ ad w b; omega))]
      exact hS.2.1 q q1 q2, fun q hq => by
      rcases List.mem_append.mp hq with h | h
      · exact hS.2.2 q h
      · obtain ⟨z, -, hz⟩ := List.mem_map.mp h
        rw [← hz]
        show w.1.size ≤ ad w b
        omega⟩ hl hK _ hheap Y'
  exact ⟨t, step t a1, b1⟩
theorem v_copy11 {idx : Nat} {a sp b dp m : Int} {K : St → Option α} (C : Cok X w cc nL own ret) (h1 : Cond.methodLink own idx arraycopyName ∈ TB) (h2 : Cond.native arraycopyName ∈ TB) (h3 : Cond.static arraycopyName ∈ TB) (h4 : Cond.initialized "java/lang/System" ∈ TB) (hf : 1 ≤ X.2.2.2.1.frames) (hlo : 40 ≤ X.2.2.2.1.locals) (hsum : (st.map fun v => v.category).sum ≤ 8) (d : decode cc pc = .ok (.invokestatic idx, 3)) (k : ∀ x : St, V X w nL P n cells slots res (K x) x (pc + 3) lv st) : V X w nL P n cells slots res (cpA P 11 σ a sp b dp m K) σ pc lv (I m :: I dp :: A w b :: I sp :: A w a :: st) := fun H locs ls hR hS hl hK => by
  obtain ⟨g, hK⟩ := gd hK
  obtain ⟨l1, l2, hPa, hPb, g1, g2, g3, g4, g5⟩ := okC_of g
  have hL1 := hR.len hPa
  have hL2 := hR.len hPb
  have c1 := cl32 (x := sp) g1 (by omega)
  have c2 := cl32 (x := dp) g2 (by omega)
  have c3 := cl32 (x := m) g3 (by omega)
  have hc0 : H[ad w a]? = some (vp_cell (wC w 2) (l1, .inr (.inl (fun j => Int64.ofInt (σ a (j : Int)))))) := hR.at hPa
  have hc1 : H[ad w b]? = some (vp_cell (wC w 2) (l2, .inr (.inl (fun j => Int64.ofInt (σ b (j : Int)))))) := hR.at hPb
  have e9 : nativeFrameWords "java/lang/System" "arraycopy" 5 + 11 ≤ 30 := by decide
  intro T hT Y
  obtain ⟨-, k0, hk0, cm0, hkk0⟩ := (C.2.1.1.2 2 _ rfl).1 l1 (fun j => J (σ a (j : Int)))
  obtain ⟨-, k1, hk1, cm1, hkk1⟩ := (C.2.1.1.2 2 _ rfl).1 l2 (fun j => J (σ b (j : Int)))
  obtain ⟨vm', Y', step⟩ := Y.arraycopy C.1.1 C.1.2.2.2.1 (C.wd h1) (C.wd h2) (C.wd h3) (C.wd h4) (src := ad w a) (dst := ad w b) (cs := vp_cell (wC w 2) (l1, .inr (.inl (fun j => Int64.ofInt (σ a (j : Int)))))) (cd := vp_cell (wC w 2) (l2, .inr (.inl (fun j => Int64.ofInt (σ b (j : Int)))))) (srcPos := Int32.ofInt sp) (destPos := Int32.ofInt dp) (n := Int32.ofInt m) (by rw [hT]; exact hc0) (by rw [hT]; exact hc1)
    (fun _ h => by cases h) (fun _ h => by cases h) (fun h => by cases h) (fun h => by cases h) hk0 hk1 hkk0 hkk1 (by simp [refKind]) (nn32 g1 (by omega)) (nn32 g2 (by omega)) (nn32 g3 (by omega))
    (by rw [i32_toInt ⟨by omega, by omega⟩, i32_toInt ⟨by omega, by omega⟩]; show ¬ _ > ((arrV _ l1 (fun j => J (σ a (j : Int)))).slots.size : Int); rw [arrV_size]; omega)
    (by rw [i32_toInt ⟨by omega, by omega⟩, i32_toInt ⟨by omega, by omega⟩]; show ¬ _ > ((arrV _ l2 (fun j => J (σ b (j : Int)))).slots.size : Int); rw [arrV_size]; omega)
    (fun vm₁ _ i hi => by
      rw [c3] at hi
      have e : (vp_cell (wC w 2) (l1, .inr (.inl (fun j => Int64.ofInt (σ a (j : Int)))))).slots.getD ((Int32.ofInt sp).toNatClampNeg + i) .null = .long (Int64.ofInt (σ a (((Int32.ofInt sp).toNatClampNeg + i : Nat) : Int))) := by
        show (arrV (wC w 2) l1 (fun j => .long (Int64.ofInt (σ a (j : Int))))).slots.getD _ _ = _
        rw [Array.getD_eq_getD_getElem?, arrV_read _ _ (by rw [c1]; omega)]
        rfl
      refine ⟨?_, ?_⟩
      · rw [e]; rfl
      · rw [e]; exact trivial)
    (g := F0 X.2.2.2.2.2.1 pc ls (I m :: I dp :: A w b :: I sp :: A w a :: st)) rfl (by show ls.size = _; rw [C.1.2.2.1]; exact hl.1) (rest := st) rfl (by rw [C.1.2.1]; exact d) hf (by show 2 * 0 + _ + _ ≤ _; omega)
  have e1 : copied (vp_cell (wC w 2) (l1, .inr (.inl (fun j => Int64.ofInt (σ a (j : Int)))))) (vp_cell (wC w 2) (l2, .inr (.inl (fun j => Int64.ofInt (σ b (j : Int)))))) (Int32.ofInt sp) (Int32.ofInt dp) (Int32.ofInt m) = vp_cell (wC w 2) (l2, .inr (.inl (va_cpy (fun j => Int64.ofInt (σ a (j : Int))) (fun j => Int64.ofInt (σ b (j : Int))) (Int32.ofInt sp).toNatClampNeg (Int32.ofInt dp).toNatClampNeg (Int32.ofInt m).toNatClampNeg))) := va_copied (fun z => Value.long z) (wC w 2) (wC w 2) (fun j : Nat => Int64.ofInt (σ a (j : Int))) (fun j : Nat => Int64.ofInt (σ b (j : Int))) (sp := (Int32.ofInt sp).toNatClampNeg) (dp := (Int32.ofInt dp).toNatClampNeg) (n := (Int32.ofInt m).toNatClampNeg) (by rw [c1, c3]; omega)
  rw [e1] at Y' step
  have hlt : ad w b < H.size := (Array.getElem?_eq_some_iff.mp hc1).1
  generalize hc9 : vp_cell (wC w 2) (l2, .inr (.inl (va_cpy (fun j => Int64.ofInt (σ a (j : Int))) (fun j => Int64.ofInt (σ b (j : Int))) (Int32.ofInt sp).toNatClampNeg (Int32.ofInt dp).toNatClampNeg (Int32.ofInt m).toNatClampNeg))) = cell9 at Y' step
  have hheap : ((T.setVm vm').setCell (ad w b) cell9).heap = H.setIfInBounds (ad w b) cell9 := by rw [← hT]; rfl
  have oq : ∀ q : Nat, q ≠ ad w b → (H.setIfInBounds (ad w b) cell9)[q]? = H[q]? := fun q hq => by simp [Array.getElem?_setIfInBounds, Ne.symm hq]
  have hb0 : ad w b = w.1.size + b.toNat := ad_nn (hR.nn hPb)
  have hRep : Rep w P n (cps σ a sp b dp m) (H.setIfInBounds (ad w b) cell9) := by
    refine hR.put (z := b) hPb (by simp) oq ?_ (fun y hy => by funext j; simp [cps, hy])
    show (H.setIfInBounds (ad w b) cell9)[ad w b]? = some (vp_cell _ _)
    rw [Array.getElem?_setIfInBounds]
    simp only [if_true, hlt, ← hc9]
    congr 3
    congr 1
    congr 1
    funext j
    simp only [va_cpy, cps, c1, c2, c3]
    by_cases hj : dp.toNat ≤ j ∧ j < dp.toNat + m.toNat
    · rw [if_pos hj, if_pos ⟨trivial, by omega, by omega⟩]
      congr 2
      omega
    · rw [if_neg hj, if_neg (fun h => hj ⟨by omega, by omega⟩)]
  obtain ⟨t, a1, b1⟩ := k _ _ _ ls hRep ⟨by simp; exact hS.1, fun q q1 q2 => by
      rw [oq q (fun e => q2 (by rw [e]; show w.1.size ≤ ad w b; omega))]
      exact hS.2.1 q q1 q2, fun q hq => by
      rcases List.mem_append.mp hq with h | h
      · exact hS.2.2 q h
      · obtain ⟨z, -, hz⟩ := List.mem_map.mp h
        rw [← hz]
        show w.1.size ≤ ad w b
        omega⟩ hl hK _ hheap Y'
  exact ⟨t, step t a1, b1⟩
end VU2
