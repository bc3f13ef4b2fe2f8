/-! further rows of p31 (laid by wip/p31/gen/mk10.py) -/
section VZ0
variable {α : Type}
abbrev isLit (z : Int) : Prop := 0 ≤ -2 - z ∧ -2 - z < 25
def lenL (z : Int) : Int := ((lenS.getD (-2 - z).toNat 0 : Nat) : Int)
def bytL (z i : Int) : Int := ((bytS.getD (-2 - z).toNat []).getD i.toNat 0).toInt
def byOk (σ : St) (a sp m : Int) : Bool := (List.range m.toNat).all fun i => decide (-128 ≤ σ a (sp + (i : Int)) ∧ σ a (sp + (i : Int)) < 128)
def cpY (P : Shp) (σ : St) (a sp b dp n : Int) (K : St → Option α) : Option α := if okC P 9 a sp b dp n = true ∧ byOk σ a sp n = true then K (cps σ a sp b dp n) else none
/-- the bytes of the literal z, laid into the array b from the place i on -/
def lps (σ : St) (z b i : Int) : St := fun y j => if y = b ∧ i ≤ j ∧ j < i + lenL z then bytL z (j - i) else σ y j
def okG (P : Shp) (z b i : Int) : Bool := match P b with
  | some q => q.1 == 9 && decide (0 ≤ i) && decide (i + lenL z ≤ q.2)
  | none => false
def gBy (P : Shp) (σ : St) (z b i : Int) (K : St → Option α) : Option α := if isLit z ∧ okG P z b i = true then K (lps σ z b i) else none
def ineg (x : Int) : Int := 0 - x
/-- a byte's field -/
def pB (P : Shp) (k : Nat) (σ : St) (o i v : Int) (K : St → Option α) : Option α := if okO P k o = true ∧ (-128 ≤ v ∧ v < 128) then K (wr σ o i v) else none
/-- an array of bytes of any length up to 1024 -/
def mkD (P : Shp) (n : Nat) (σ : St) (k : Nat) (len : Int) (K : Shp → Nat → Int → St → Option α) : Option α := if 0 ≤ len ∧ len ≤ 1024 then K (al P n k len.toNat) (n + 1) (n : Int) (nwA σ n 0) else none
def dig1 (i : Int) (K : Int → Option α) : Option α := if 0 ≤ i ∧ i < 100 then K (48 + i % 10) else none
def dig2 (i : Int) (K : Int → Option α) : Option α := if 0 ≤ i ∧ i < 100 then K (48 + i / 10) else none
def chkI (i m : Int) (K : Option α) : Option α := if 0 ≤ i ∧ i < m ∧ m < 1000 then K else none
theorem byOk_at {σ : St} {a sp m i : Int} (h : byOk σ a sp m = true) (h0 : 0 ≤ i) (h1 : i < m) : -128 ≤ σ a (sp + i) ∧ σ a (sp + i) < 128 := by
  unfold byOk at h
  have := of_decide_eq_true (List.all_eq_true.mp h i.toNat (List.mem_range.mpr (by omega)))
  rw [show ((i.toNat : Nat) : Int) = i by omega] at this
  exact this
theorem okG_of {P : Shp} {z b i : Int} (h : okG P z b i = true) : ∃ l : Nat, P b = some (9, l) ∧ 0 ≤ i ∧ i + lenL z ≤ l := by
  unfold okG at h
  split at h
  · rename_i q hq
    simp only [Bool.and_eq_true, decide_eq_true_eq, beq_iff_eq] at h
    exact ⟨q.2, by rw [hq, ← h.1.1], h.1.2, h.2⟩
  · cases h
theorem by_fit {z y : Int} (h : -128 ≤ z ∧ z < 128) (e : z = y) : fits .byte (.int (Int32.ofInt y)) = true := by
  subst e
  have h9 : ∀ k : Nat, k < 256 → fits .byte (.int (Int32.ofInt ((k : Int) - 128))) = true := by decide +kernel
  have := h9 (z + 128).toNat (by omega)
  rwa [show (((z + 128).toNat : Nat) : Int) - 128 = z by omega] at this
def sc (xs : Nat → Int32) (j : Int) : Int := (xs j.toNat).toInt
def aS (L : Nat) (xs : Nat → Int32) (i : Int) (K : Int → Option α) : Option α := if 0 ≤ i ∧ i < L then K (sc xs i) else none
end VZ0
section VZ1
variable {X : Cxt} {w : Wd} {cc : ByteArray} {nL : Nat} {own : String} {ret : Option FieldType} {P : Shp} {n cells slots : Nat} {α : Type} {res : α} {σ : St} {pc : Nat} {lv : List (Nat × Value)} {st : List Value}
theorem Ks.q2 {U : State} (h : Ks w U) : vk_S nS lenS bytS w.2.1 w.2.2.1 (wA w) U w.1 := h.2.1
theorem Ks.q5 {U : State} (h : Ks w U) : va_Z "java/lang/String" "COMPACT_STRINGS" "Z" (.int 1) (wA w) U w.1 := h.2.2.2.2.1
theorem Ks.q12 {U : State} (h : Ks w U) : va_Zq "jdk/internal/util/Preconditions" "SIOOBE_FORMATTER" "Ljava/util/function/BiFunction;" (wA w) U w.1 := h.2.2.2.2.2.2.2.2.2.2.2.1
theorem Ks.q13 {U : State} (h : Ks w U) : va_X (w.2.1 99) (wL w) (wX w) U w.1 := h.2.2.2.2.2.2.2.2.2.2.2.2.1
theorem Ks.q14 {U : State} (h : Ks w U) : w.2.1 99 < w.1.size := h.2.2.2.2.2.2.2.2.2.2.2.2.2.1
theorem Ks.q15 {U : State} (h : Ks w U) : wL w ≤ 260 := h.2.2.2.2.2.2.2.2.2.2.2.2.2.2.1
theorem Ks.q16 {U : State} (h : Ks w U) : va_Z "java/lang/Integer" "DigitOnes" "[B" (.ref (w.2.1 100)) (wA w) U w.1 := h.2.2.2.2.2.2.2.2.2.2.2.2.2.2.2.1
theorem Ks.q17 {U : State} (h : Ks w U) : va_Z "java/lang/Integer" "DigitTens" "[B" (.ref (w.2.1 101)) (wA w) U w.1 := h.2.2.2.2.2.2.2.2.2.2.2.2.2.2.2.2.1
theorem Ks.q18 {U : State} (h : Ks w U) : va_T .byte (w.2.1 100) 100 dgO (wA w) U w.1 := h.2.2.2.2.2.2.2.2.2.2.2.2.2.2.2.2.2.1
theorem Ks.q19 {U : State} (h : Ks w U) : va_T .byte (w.2.1 101) 100 dgT (wA w) U w.1 := h.2.2.2.2.2.2.2.2.2.2.2.2.2.2.2.2.2.2
theorem ad_lit {z : Int} (h : isLit z) : ad w z = w.2.1 (-2 - z).toNat := if_neg (by omega)
theorem lit_S (C : Cok X w cc nL own ret) : vk_S nS lenS bytS w.2.1 w.2.2.1 (wA w) X.2.2.2.2.1 X.2.2.2.2.1.heap := C.2.1.q2.kept (fun a h _ => C.2.2.2.2.1 a h)
theorem lit_lt {z : Int} (h : isLit z) : (-2 - z).toNat < nS := by show _ < 25; omega
theorem lit_len {z : Int} (hz : isLit z) : ((lenS.getD (-2 - z).toNat 0 : Nat) : Int) < 1000 := by
  have h : ∀ i, i < 25 → ((lenS.getD i 0 : Nat) : Int) < 1000 := by decide +kernel
  exact h _ (lit_lt hz)
theorem lit_fit {z : Int} {i : Nat} (hz : isLit z) (h1 : i < lenS.getD (-2 - z).toNat 0) : fits .byte (.int ((bytS.getD (-2 - z).toNat []).getD i 0)) = true := by
  have h : ∀ j, j < 25 → ∀ k, k < lenS.getD j 0 → fits .byte (.int ((bytS.getD j []).getD k 0)) = true := by decide +kernel
  exact h _ (lit_lt hz) _ h1
theorem v_dupx1 {K : Option α} {va vb : Value} (C : Cok X w cc nL own ret) (d : decode cc pc = .ok (.dup_x1, 1)) (h1 : va.category = 1) (h2 : vb.category = 1) (k : V X w nL P n cells slots res K σ (pc + 1) lv (va :: vb :: va :: st)) : V X w nL P n cells slots res K σ pc lv (va :: vb :: st) :=
  fun H locs ls hR hS hl hK => lv_dup_x1 C.1.1 C.1.2.1 d h1 h2 (k H locs ls hR hS hl hK)
theorem v_ineg {K : Option α} (C : Cok X w cc nL own ret) {x : Int} (d : decode cc pc = .ok (.ineg, 1)) (k : V X w nL P n cells slots res K σ (pc + 1) lv (I (ineg x) :: st)) : V X w nL P n cells slots res K σ pc lv (I x :: st) :=
  fun H locs ls hR hS hl hK => lv_ineg C.1.1 C.1.2.1 d (by have h := k H locs ls hR hS hl hK; unfold I ineg at h; rw [Int.zero_sub, Int32.ofInt_neg] at h; exact h)
theorem v_ifnn {K : Option α} (C : Cok X w cc nL own ret) {x off : Int} {tgt : Nat} (d : decode cc pc = .ok (.ifnonnull off, 3)) (ht : (pc : Int) + off = (tgt : Int)) (k : V X w nL P n cells slots res K σ tgt lv st) : V X w nL P n cells slots res K σ pc lv (A w x :: st) :=
  fun H locs ls hR hS hl hK => lv_ifnonnull C.1.1 C.1.2.1 d ht (k H locs ls hR hS hl hK)
theorem v_sval {K : Option α} (C : Cok X w cc nL own ret) {idx : Nat} {z : Int} (hz : isLit z) (hw : Cond.fieldLink own idx "java/lang/String" "value" "[B" ∈ TB) (d : decode cc pc = .ok (.getfield idx, 3)) (k : V X w nL P n cells slots res K σ (pc + 3) lv (.ref (w.2.2.1 (-2 - z).toNat) :: st)) : V X w nL P n cells slots res K σ pc lv (A w z :: st) :=
  fun H locs ls hR hS hl hK => by
    unfold A
    rw [ad_lit hz]
    exact vk_getf C.1.1 C.1.2.1 ((lit_S C).1 _ (lit_lt hz)).2.2.1 hS C.1.2.2.2.1 (C.wd hw) (fun _ h => h) d (k H locs ls hR hS hl hK)
theorem v_scod {K : Option α} (C : Cok X w cc nL own ret) {idx : Nat} {z : Int} (hz : isLit z) (hw : Cond.fieldLink own idx "java/lang/String" "coder" "B" ∈ TB) (d : decode cc pc = .ok (.getfield idx, 3)) (k : V X w nL P n cells slots res K σ (pc + 3) lv (I 0 :: st)) : V X w nL P n cells slots res K σ pc lv (A w z :: st) :=
  fun H locs ls hR hS hl hK => by
    unfold A
    rw [ad_lit hz]
    exact vk_getf C.1.1 C.1.2.1 ((lit_S C).1 _ (lit_lt hz)).2.1 hS C.1.2.2.2.1 (C.wd hw) (fun _ h => h) d (k H locs ls hR hS hl hK)
theorem v_scs {K : Option α} (C : Cok X w cc nL own ret) {idx : Nat} (hw : Cond.fieldLink own idx "java/lang/String" "COMPACT_STRINGS" "Z" ∈ TB) (d : decode cc pc = .ok (.getstatic idx, 3)) (k : V X w nL P n cells slots res K σ (pc + 3) lv (I 1 :: st)) : V X w nL P n cells slots res K σ pc lv st :=
  fun H locs ls hR hS hl hK => va_gets C.1.1 C.1.2.1 (C.2.1.q5.kept (fun a h _ => C.2.2.2.2.1 a h)) hS C.1.2.2.2.1 (C.wd hw) (fun _ h => h) d (k H locs ls hR hS hl hK)
theorem v_slen {K : Option α} (C : Cok X w cc nL own ret) {z : Int} (hz : isLit z) (d : decode cc pc = .ok (.arraylength, 1)) (k : V X w nL P n cells slots res K σ (pc + 1) lv (I ((lenS.getD (-2 - z).toNat 0 : Nat) : Int) :: st)) : V X w nL P n cells slots res K σ pc lv (.ref (w.2.2.1 (-2 - z).toNat) :: st) :=
  fun H locs ls hR hS hl hK => va_tlen C.1.1 C.1.2.1 ((lit_S C).1 _ (lit_lt hz)).2.2.2 hS (v := Int32.ofInt _) (Int32.ofInt_eq_ofNat).symm d (k H locs ls hR hS hl hK)
theorem v_gs100 {K : Option α} (C : Cok X w cc nL own ret) {idx : Nat} (hw : Cond.fieldLink own idx "java/lang/Integer" "DigitOnes" "[B" ∈ TB) (d : decode cc pc = .ok (.getstatic idx, 3)) (k : V X w nL P n cells slots res K σ (pc + 3) lv (.ref (w.2.1 100) :: st)) : V X w nL P n cells slots res K σ pc lv st :=
  fun H locs ls hR hS hl hK => va_gets C.1.1 C.1.2.1 (C.2.1.q16.kept (fun a h _ => C.2.2.2.2.1 a h)) hS C.1.2.2.2.1 (C.wd hw) (fun _ h => h) d (k H locs ls hR hS hl hK)
theorem v_gs101 {K : Option α} (C : Cok X w cc nL own ret) {idx : Nat} (hw : Cond.fieldLink own idx "java/lang/Integer" "DigitTens" "[B" ∈ TB) (d : decode cc pc = .ok (.getstatic idx, 3)) (k : V X w nL P n cells slots res K σ (pc + 3) lv (.ref (w.2.1 101) :: st)) : V X w nL P n cells slots res K σ pc lv st :=
  fun H locs ls hR hS hl hK => va_gets C.1.1 C.1.2.1 (C.2.1.q17.kept (fun a h _ => C.2.2.2.2.1 a h)) hS C.1.2.2.2.1 (C.wd hw) (fun _ h => h) d (k H locs ls hR hS hl hK)
theorem dg_val {i : Int} (h0 : 0 ≤ i) (h1 : i < 100) : dgO (Int32.ofInt i).toNatClampNeg = I (48 + i % 10) ∧ dgT (Int32.ofInt i).toNatClampNeg = I (48 + i / 10) := by
  rw [cl32 h0 (by omega)]
  unfold dgO dgT I
  refine ⟨?_, ?_⟩
  · rw [← Int32.ofInt_eq_ofNat]; congr 2; omega
  · rw [← Int32.ofInt_eq_ofNat]; congr 2; omega
theorem v_dig1 (C : Cok X w cc nL own ret) {i : Int} {K : Int → Option α} (d : decode cc pc = .ok (.baload, 1)) (k : ∀ x : Int, V X w nL P n cells slots res (K x) σ (pc + 1) lv (I x :: st)) : V X w nL P n cells slots res (dig1 i K) σ pc lv (I i :: .ref (w.2.1 100) :: st) :=
  fun H locs ls hR hS hl hK => by
    obtain ⟨⟨h0, h1⟩, hK⟩ := gd hK
    exact va_tb C.1.1 C.1.2.1 (C.2.1.q18.kept (fun a h _ => C.2.2.2.2.1 a h)) hS (i := Int32.ofInt i) (by rw [vp_in_iff, i32_toInt ⟨by omega, by omega⟩]; exact ⟨h0, h1⟩) (dg_val h0 h1).1 d (k _ H locs ls hR hS hl hK)
theorem v_dig2 (C : Cok X w cc nL own ret) {i : Int} {K : Int → Option α} (d : decode cc pc = .ok (.baload, 1)) (k : ∀ x : Int, V X w nL P n cells slots res (K x) σ (pc + 1) lv (I x :: st)) : V X w nL P n cells slots res (dig2 i K) σ pc lv (I i :: .ref (w.2.1 101) :: st) :=
  fun H locs ls hR hS hl hK => by
    obtain ⟨⟨h0, h1⟩, hK⟩ := gd hK
    exact va_tb C.1.1 C.1.2.1 (C.2.1.q19.kept (fun a h _ => C.2.2.2.2.1 a h)) hS (i := Int32.ofInt i) (by rw [vp_in_iff, i32_toInt ⟨by omega, by omega⟩]; exact ⟨h0, h1⟩) (dg_val h0 h1).2 d (k _ H locs ls hR hS hl hK)
theorem v_copy9 {idx : Nat} {a sp b dp m : Int} {K : St → Option α} (C : Cok X w cc nL own ret) (h1 : Cond.methodLink own idx arraycopyName ∈ TB) (h2 : Cond.native arraycopyName ∈ TB) (h3 : Cond.static arraycopyName ∈ TB) (h4 : Cond.initialized "java/lang/System" ∈ TB) (hf : 1 ≤ X.2.2.2.1.frames) (hlo : 40 ≤ X.2.2.2.1.locals) (hsum : (st.map fun v => v.category).sum ≤ 8) (d : decode cc pc = .ok (.invokestatic idx, 3)) (k : ∀ x : St, V X w nL P n cells slots res (K x) x (pc + 3) lv st) : V X w nL P n cells slots res (cpY P σ a sp b dp m K) σ pc lv (I m :: I dp :: A w b :: I sp :: A w a :: st) := fun H locs ls hR hS hl hK => by
  obtain ⟨⟨g, gy⟩, hK⟩ := gd hK
  obtain ⟨l1, l2, hPa, hPb, g1, g2, g3, g4, g5⟩ := okC_of g
  have hL1 := hR.len hPa
  have hL2 := hR.len hPb
  have c1 := cl32 (x := sp) g1 (by omega)
  have c2 := cl32 (x := dp) g2 (by omega)
  have c3 := cl32 (x := m) g3 (by omega)
  have hc0 : H[ad w a]? = some (vp_cell (wC w 0) (l1, .inl (fun j => Int32.ofInt (σ a (j : Int))))) := hR.at hPa
  have hc1 : H[ad w b]? = some (vp_cell (wC w 0) (l2, .inl (fun j => Int32.ofInt (σ b (j : Int))))) := hR.at hPb
  have e9 : nativeFrameWords "java/lang/System" "arraycopy" 5 + 11 ≤ 30 := by decide
  intro T hT Y
  obtain ⟨-, k0, hk0, cm0, hkk0⟩ := (C.2.1.1.2 0 _ rfl).1 l1 (fun j => I (σ a (j : Int)))
  obtain ⟨-, k1, hk1, cm1, hkk1⟩ := (C.2.1.1.2 0 _ rfl).1 l2 (fun j => I (σ b (j : Int)))
  obtain ⟨vm', Y', step⟩ := Y.arraycopy C.1.1 C.1.2.2.2.1 (C.wd h1) (C.wd h2) (C.wd h3) (C.wd h4) (src := ad w a) (dst := ad w b) (cs := vp_cell (wC w 0) (l1, .inl (fun j => Int32.ofInt (σ a (j : Int))))) (cd := vp_cell (wC w 0) (l2, .inl (fun j => Int32.ofInt (σ b (j : Int))))) (srcPos := Int32.ofInt sp) (destPos := Int32.ofInt dp) (n := Int32.ofInt m) (by rw [hT]; exact hc0) (by rw [hT]; exact hc1)
    (fun _ h => by cases h) (fun _ h => by cases h) (fun h => by cases h) (fun h => by cases h) hk0 hk1 hkk0 hkk1 (by simp [refKind]) (nn32 g1 (by omega)) (nn32 g2 (by omega)) (nn32 g3 (by omega))
    (by rw [i32_toInt ⟨by omega, by omega⟩, i32_toInt ⟨by omega, by omega⟩]; show ¬ _ > ((arrV _ l1 (fun j => I (σ a (j : Int)))).slots.size : Int); rw [arrV_size]; omega)
    (by rw [i32_toInt ⟨by omega, by omega⟩, i32_toInt ⟨by omega, by omega⟩]; show ¬ _ > ((arrV _ l2 (fun j => I (σ b (j : Int)))).slots.size : Int); rw [arrV_size]; omega)
    (fun vm₁ _ i hi => by
      rw [c3] at hi
      have e : (vp_cell (wC w 0) (l1, .inl (fun j => Int32.ofInt (σ a (j : Int))))).slots.getD ((Int32.ofInt sp).toNatClampNeg + i) .null = .int (Int32.ofInt (σ a (((Int32.ofInt sp).toNatClampNeg + i : Nat) : Int))) := by
        show (arrV (wC w 0) l1 (fun j => .int (Int32.ofInt (σ a (j : Int))))).slots.getD _ _ = _
        rw [Array.getD_eq_getD_getElem?, arrV_read _ _ (by rw [c1]; omega)]
        rfl
      refine ⟨?_, ?_⟩
      · rw [e, c1]
        exact by_fit (byOk_at gy (i := (i : Int)) (by omega) (by omega)) (congrArg (σ a) (by omega))
      · rw [e]; exact trivial)
    (g := F0 X.2.2.2.2.2.1 pc ls (I m :: I dp :: A w b :: I sp :: A w a :: st)) rfl (by show ls.size = _; rw [C.1.2.2.1]; exact hl.1) (rest := st) rfl (by rw [C.1.2.1]; exact d) hf (by show 2 * 0 + _ + _ ≤ _; omega)
  have e1 : copied (vp_cell (wC w 0) (l1, .inl (fun j => Int32.ofInt (σ a (j : Int))))) (vp_cell (wC w 0) (l2, .inl (fun j => Int32.ofInt (σ b (j : Int))))) (Int32.ofInt sp) (Int32.ofInt dp) (Int32.ofInt m) = vp_cell (wC w 0) (l2, .inl (va_cpy (fun j => Int32.ofInt (σ a (j : Int))) (fun j => Int32.ofInt (σ b (j : Int))) (Int32.ofInt sp).toNatClampNeg (Int32.ofInt dp).toNatClampNeg (Int32.ofInt m).toNatClampNeg)) := va_copied (fun z => Value.int z) (wC w 0) (wC w 0) (fun j : Nat => Int32.ofInt (σ a (j : Int))) (fun j : Nat => Int32.ofInt (σ b (j : Int))) (sp := (Int32.ofInt sp).toNatClampNeg) (dp := (Int32.ofInt dp).toNatClampNeg) (n := (Int32.ofInt m).toNatClampNeg) (by rw [c1, c3]; omega)
  rw [e1] at Y' step
  have hlt : ad w b < H.size := (Array.getElem?_eq_some_iff.mp hc1).1
  generalize hc9 : vp_cell (wC w 0) (l2, .inl (va_cpy (fun j => Int32.ofInt (σ a (j : Int))) (fun j => Int32.ofInt (σ b (j : Int))) (Int32.ofInt sp).toNatClampNeg (Int32.ofInt dp).toNatClampNeg (Int32.ofInt m).toNatClampNeg)) = cell9 at Y' step
  have hheap : ((T.setVm vm').setCell (ad w b) cell9).heap = H.setIfInBounds (ad w b) cell9 := by rw [← hT]; rfl
  have oq : ∀ q : Nat, q ≠ ad w b → (H.setIfInBounds (ad w b) cell9)[q]? = H[q]? := fun q hq => by simp [Array.getElem?_setIfInBounds, Ne.symm hq]
  have hb0 : ad w b = w.1.size + b.toNat := ad_nn (hR.nn hPb)
  have hRep : Rep w P n (cps σ a sp b dp m) (H.setIfInBounds (ad w b) cell9) := by
    refine hR.put (z := b) hPb (by simp) oq ?_ (fun y hy => by funext j; simp [cps, hy])
    show (H.setIfInBounds (ad w b) cell9)[ad w b]? = some (vp_cell _ _)
    rw [Array.getElem?_setIfInBounds]
    simp only [if_true, hlt, ← hc9]
    congr 3
    congr 1
    funext j
    simp only [va_cpy, cps, c1, c2, c3]
    by_cases hj : dp.toNat ≤ j ∧ j < dp.toNat + m.toNat
    · rw [if_pos hj, if_pos ⟨trivial, by omega, by omega⟩]
      congr 2
      omega
    · rw [if_neg hj, if_neg (fun h => hj ⟨by omega, by omega⟩)]
  obtain ⟨t, a1, b1⟩ := k _ _ _ ls hRep ⟨by simp; exact hS.1, fun q q1 q2 => by
      rw [oq q (fun e => q2 (by rw [e]; show w.1.size ≤ ad w b; omega))]
      exact hS.2.1 q q1 q2, fun q hq => by
      rcases List.mem_append.mp hq with h | h
      · exact hS.2.2 q h
      · obtain ⟨z, -, hz⟩ := List.mem_map.mp h
        rw [← hz]
        show w.1.size ≤ ad w b
        omega⟩ hl hK _ hheap Y'
  exact ⟨t, step t a1, b1⟩
theorem v_copyT {idx : Nat} {z b dp m : Int} {K : St → Option α} (C : Cok X w cc nL own ret) (h1 : Cond.methodLink own idx arraycopyName ∈ TB) (h2 : Cond.native arraycopyName ∈ TB) (h3 : Cond.static arraycopyName ∈ TB) (h4 : Cond.initialized "java/lang/System" ∈ TB) (hf : 1 ≤ X.2.2.2.1.frames) (hlo : 40 ≤ X.2.2.2.1.locals) (hm : m = lenL z) (hsum : (st.map fun v => v.category).sum ≤ 8) (d : decode cc pc = .ok (.invokestatic idx, 3)) (k : ∀ x : St, V X w nL P n cells slots res (K x) x (pc + 3) lv st) : V X w nL P n cells slots res (gBy P σ z b dp K) σ pc lv (I m :: I dp :: A w b :: I 0 :: .ref (w.2.2.1 (-2 - z).toNat) :: st) := fun H locs ls hR hS hl hK => by
  obtain ⟨⟨hz, g⟩, hK⟩ := gd hK
  obtain ⟨l2, hPb, g2, g5⟩ := okG_of g
  have hL2 := hR.len hPb
  have g3 : 0 ≤ m := by rw [hm]; unfold lenL; omega
  have g6 : m < 1000 := by rw [hm]; exact lit_len hz
  rw [← hm] at g5
  obtain ⟨scr, hs1, hs2, hs3, hs4, -, hs5, hs7⟩ := ((lit_S C).1 _ (lit_lt hz)).2.2.2
  obtain ⟨hs6, k0, hk0, cm0, hkk0⟩ := hs2
  have c1 := cl32 (x := 0) (by omega) (by omega)
  have c2 := cl32 (x := dp) g2 (by omega)
  have c3 := cl32 (x := m) g3 (by omega)
  have hmN : m.toNat = lenS.getD (-2 - z).toNat 0 := by rw [hm]; unfold lenL; omega
  have hc0 : H[w.2.2.1 (-2 - z).toNat]? = some scr := by rw [hS.2.1 _ (Array.getElem?_eq_some_iff.mp hs1).1 hs7]; exact hs1
  have hc1 : H[ad w b]? = some (vp_cell (wC w 0) (l2, .inl (fun j => Int32.ofInt (σ b (j : Int))))) := hR.at hPb
  have e9 : nativeFrameWords "java/lang/System" "arraycopy" 5 + 11 ≤ 30 := by decide
  intro T hT Y
  obtain ⟨-, k1, hk1, cm1, hkk1⟩ := (C.2.1.1.2 0 _ rfl).1 l2 (fun j => I (σ b (j : Int)))
  obtain ⟨vm', Y', step⟩ := Y.arraycopy C.1.1 C.1.2.2.2.1 (C.wd h1) (C.wd h2) (C.wd h3) (C.wd h4) (src := w.2.2.1 (-2 - z).toNat) (dst := ad w b) (cs := scr) (cd := vp_cell (wC w 0) (l2, .inl (fun j => Int32.ofInt (σ b (j : Int))))) (srcPos := Int32.ofInt 0) (destPos := Int32.ofInt dp) (n := Int32.ofInt m) (by rw [hT]; exact hc0) (by rw [hT]; exact hc1)
    hs6 (fun _ h => by cases h) hs3 (fun h => by cases h) hk0 hk1 hkk0 hkk1 (by simp [refKind]) (nn32 (by omega) (by omega)) (nn32 g2 (by omega)) (nn32 g3 (by omega))
    (by rw [i32_toInt ⟨by omega, by omega⟩, i32_toInt ⟨by omega, by omega⟩]; omega)
    (by rw [i32_toInt ⟨by omega, by omega⟩, i32_toInt ⟨by omega, by omega⟩]; show ¬ _ > ((arrV _ l2 (fun j => I (σ b (j : Int)))).slots.size : Int); rw [arrV_size]; omega)
    (fun vm₁ _ i hi => by
      rw [c3] at hi
      have e : scr.slots.getD ((Int32.ofInt 0).toNatClampNeg + i) .null = .int ((bytS.getD (-2 - z).toNat []).getD i 0) := by
        rw [c1, Array.getD_eq_getD_getElem?, show (0 : Int).toNat + i = i by omega, hs5 i (by omega)]
        rfl
      refine ⟨?_, ?_⟩
      · rw [e]
        exact lit_fit hz (by omega)
      · rw [e]; exact trivial)
    (g := F0 X.2.2.2.2.2.1 pc ls (I m :: I dp :: A w b :: I 0 :: .ref (w.2.2.1 (-2 - z).toNat) :: st)) rfl (by show ls.size = _; rw [C.1.2.2.1]; exact hl.1) (rest := st) rfl (by rw [C.1.2.1]; exact d) hf (by show 2 * 0 + _ + _ ≤ _; omega)
  have e1 : copied scr (vp_cell (wC w 0) (l2, .inl (fun j => Int32.ofInt (σ b (j : Int))))) (Int32.ofInt 0) (Int32.ofInt dp) (Int32.ofInt m) = vp_cell (wC w 0) (l2, .inl (va_cpy (fun j => (bytS.getD (-2 - z).toNat []).getD j 0) (fun j => Int32.ofInt (σ b (j : Int))) (Int32.ofInt 0).toNatClampNeg (Int32.ofInt dp).toNatClampNeg (Int32.ofInt m).toNatClampNeg)) := va_copiedX (fun z => Value.int z) scr (wC w 0) (fun j : Nat => (bytS.getD (-2 - z).toNat []).getD j 0) (fun j : Nat => Int32.ofInt (σ b (j : Int))) (n0 := lenS.getD (-2 - z).toNat 0) (sp := (Int32.ofInt 0).toNatClampNeg) (dp := (Int32.ofInt dp).toNatClampNeg) (n := (Int32.ofInt m).toNatClampNeg) hs5 (by rw [c1, c3]; omega)
  rw [e1] at Y' step
  have hlt : ad w b < H.size := (Array.getElem?_eq_some_iff.mp hc1).1
  generalize hc9 : vp_cell (wC w 0) (l2, .inl (va_cpy (fun j => (bytS.getD (-2 - z).toNat []).getD j 0) (fun j => Int32.ofInt (σ b (j : Int))) (Int32.ofInt 0).toNatClampNeg (Int32.ofInt dp).toNatClampNeg (Int32.ofInt m).toNatClampNeg)) = cell9 at Y' step
  have hheap : ((T.setVm vm').setCell (ad w b) cell9).heap = H.setIfInBounds (ad w b) cell9 := by rw [← hT]; rfl
  have oq : ∀ q : Nat, q ≠ ad w b → (H.setIfInBounds (ad w b) cell9)[q]? = H[q]? := fun q hq => by simp [Array.getElem?_setIfInBounds, Ne.symm hq]
  have hb0 : ad w b = w.1.size + b.toNat := ad_nn (hR.nn hPb)
  have hRep : Rep w P n (lps σ z b dp) (H.setIfInBounds (ad w b) cell9) := by
    refine hR.put (z := b) hPb (by simp) oq ?_ (fun y hy => by funext j; simp [lps, hy])
    show (H.setIfInBounds (ad w b) cell9)[ad w b]? = some (vp_cell _ _)
    rw [Array.getElem?_setIfInBounds]
    simp only [if_true, hlt, ← hc9]
    congr 3
    congr 1
    funext j
    simp only [va_cpy, lps, c1, c2, c3]
    by_cases hj : dp.toNat ≤ j ∧ j < dp.toNat + m.toNat
    · rw [if_pos hj, if_pos ⟨trivial, by omega, by omega⟩]
      unfold bytL
      rw [Int32.ofInt_toInt]
      congr 1
      omega
    · rw [if_neg hj, if_neg (fun h => hj ⟨by omega, by omega⟩)]
  obtain ⟨t, a1, b1⟩ := k _ _ _ ls hRep ⟨by simp; exact hS.1, fun q q1 q2 => by
      rw [oq q (fun e => q2 (by rw [e]; show w.1.size ≤ ad w b; omega))]
      exact hS.2.1 q q1 q2, fun q hq => by
      rcases List.mem_append.mp hq with h | h
      · exact hS.2.2 q h
      · obtain ⟨z, -, hz⟩ := List.mem_map.mp h
        rw [← hz]
        show w.1.size ≤ ad w b
        omega⟩ hl hK _ hheap Y'
  exact ⟨t, step t a1, b1⟩

theorem A_scr : A w (-101) = .ref (w.2.1 99) := by
  show Value.ref (ad w (-101)) = _
  unfold ad
  rw [if_neg (by decide)]
  rfl
theorem v_sc (C : Cok X w cc nL own ret) {i : Int} {K : Int → Option α} (d : decode cc pc = .ok (.iaload, 1)) (kk : ∀ x : Int, V X w nL P n cells slots res (K x) σ (pc + 1) lv (I x :: st)) : V X w nL P n cells slots res (aS (wL w) (wX w) i K) σ pc lv (I i :: A w (-101) :: st) := fun H locs ls hR hS hl hK => by
  obtain ⟨⟨g0, g1⟩, hK⟩ := gd hK
  have hL : wL w < 2147483648 := by have := C.2.1.q15; omega
  have hb := C.2.1.q14
  have hbX : w.2.1 99 < X.2.2.2.2.1.heap.size := Nat.lt_of_lt_of_le hb C.2.2.2.2.2
  rw [A_scr]
  refine va_sld C.1.1 C.1.2.1 (C.2.1.q13.kept (C.2.2.2.2.1 _ hb)) hbX (show ¬ wA w _ from fun h => Nat.lt_irrefl _ (Nat.lt_of_lt_of_le hb h)) hS (i32_in g0 g1 hL) d ?_
  have h := kk _ H locs ls hR hS hl hK
  rw [i32_clamp g0 g1 hL]
  unfold I sc at h
  rw [Int32.ofInt_toInt] at h
  exact h
theorem v_scl {K : Option α} (C : Cok X w cc nL own ret) (d : decode cc pc = .ok (.arraylength, 1)) (kk : V X w nL P n cells slots res K σ (pc + 1) lv (I ((wL w : Nat) : Int) :: st)) : V X w nL P n cells slots res K σ pc lv (A w (-101) :: st) := fun H locs ls hR hS hl hK => by
  have hb := C.2.1.q14
  have hbX : w.2.1 99 < X.2.2.2.2.1.heap.size := Nat.lt_of_lt_of_le hb C.2.2.2.2.2
  rw [A_scr]
  exact va_slen C.1.1 C.1.2.1 (C.2.1.q13.kept (C.2.2.2.2.1 _ hb)) hbX (show ¬ wA w _ from fun h => Nat.lt_irrefl _ (Nat.lt_of_lt_of_le hb h)) hS d (kk H locs ls hR hS hl hK)
def i2c (x : Int) : Int := ((Int32.ofInt x).toUInt32 % 65536).toInt32.toInt
theorem v_i2c {K : Option α} (C : Cok X w cc nL own ret) {x : Int} (d : decode cc pc = .ok (.i2c, 1)) (k : V X w nL P n cells slots res K σ (pc + 1) lv (I (i2c x) :: st)) : V X w nL P n cells slots res K σ pc lv (I x :: st) :=
  fun H locs ls hR hS hl hK => lv_i2c C.1.1 C.1.2.1 d (show _ = Int32.ofInt (i2c x) by unfold i2c; rw [Int32.ofInt_toInt]) (k H locs ls hR hS hl hK)
theorem v_putB (C : Cok X w cc nL own ret) {ci N idx : Nat} {Cn : String} {T : u_T} {ty0 : Nat → FieldType} {o ki x : Int} {K : St → Option α} (k : Nat) (hki : ki = (k : Int)) (hc : vwCl[ci]? = some (Cn, T, N)) (hin : ∀ v ∈ u_ws Cn T N, v ∈ TB) (hci : ci < 9) (hty : ∀ k, k < N → parseFieldDescriptor (T k).2.2.1 = some (ty0 k)) (hnm : ∀ a, a < N → ∀ b, b < N → a ≠ b → (T a).2.1 ≠ (T b).2.1) (hk : k < N) (ht : (fty ci)[k]? = some 0) (hfin : (T k).2.2.2 = false) (hw : Cond.fieldLink own idx (T k).1 (T k).2.1 (T k).2.2.1 ∈ TB) (d : decode cc pc = .ok (.putfield idx, 3)) (hty0 : ty0 k = .byte)
    (kk : ∀ σ' : St, V X w nL P n cells slots res (K σ') σ' (pc + 3) lv st) : V X w nL P n cells slots res (pZ P ci σ o ki x K) σ pc lv (I x :: A w o :: st) := fun H locs ls hR hS hl hK => by
  obtain ⟨⟨g, g2⟩, hK⟩ := gd hK
  obtain ⟨len, hP⟩ := okO_of g
  subst hki
  exact v_put0 C hc hin hci hty hnm hk ht hfin hw d hR hS hP rfl (by rw [hty0]; rcases g2 with rfl | rfl <;> decide) (by rw [hty0]; rcases g2 with rfl | rfl <;> decide) (fun H1 locs1 h1 h2 => kk _ H1 locs1 ls h1 h2 hl hK)
theorem v_alen9 (C : Cok X w cc nL own ret) {o : Int} {K : Int → Option α} (d : decode cc pc = .ok (.arraylength, 1)) (kk : ∀ x : Int, V X w nL P n cells slots res (K x) σ (pc + 1) lv (I x :: st)) : V X w nL P n cells slots res (aL P 9 o K) σ pc lv (A w o :: st) := fun H locs ls hR hS hl hK => by
  unfold aL at hK
  split at hK
  · rename_i q hq
    obtain ⟨g, hK⟩ := gd hK
    have hP : P o = some (9, q.2) := by rw [hq, ← g]
    exact va_alen (D := wD w) (cl := vwCl) (tys := wT w) C.1.1 C.1.2.1 C.2.1.1 (P1 (hR.at hP)) 0 0 rfl rfl (v := Int32.ofInt (q.2 : Int)) (by show Int32.ofNat q.2 = _; exact (Int32.ofInt_eq_ofNat).symm) d (kk _ H locs ls hR hS hl hK)
  · cases hK
theorem v_newD (C : Cok X w cc nL own ret) {len : Int} {K : Shp → Nat → Int → St → Option α} (hw : Cond.arrayClass .byte ∈ TB) (hcl : cells + 1 ≤ X.2.2.2.1.cells) (hsl : slots + 1024 ≤ X.2.2.2.1.slots) (d : decode cc pc = .ok (.newarray .byte, 2))
    (kk : ∀ (P' : Shp) (n' : Nat) (q : Int) (σ' : St), V X w nL P' n' (cells + 1) (slots + 1024) res (K P' n' q σ') σ' (pc + 2) lv (A w q :: st)) : V X w nL P n cells slots res (mkD P n σ 9 len K) σ pc lv (I len :: st) := fun H locs ls hR hS hl hK => by
  obtain ⟨⟨g1, g2⟩, hK⟩ := gd hK
  exact v_newa9 C hw (by omega) hcl (by omega) d (K := K) (fun P' n' q σ' => v_wid (cells + 1) (slots + 1024) (Nat.le_refl _) (by omega) (kk P' n' q σ')) H locs ls hR hS hl (by unfold mkA; rw [if_pos ⟨g1, by omega⟩, if_neg (by decide)]; exact hK)
end VZ1
/-! contracts that make cells; calls on a StringBuilder -/
section VZ2
def CtM (l : Launch) (w : Wd) (y : MethodName) (cc : ByteArray) (maxL : Nat) (ret : Option FieldType) (rm : Room) (mc ms : Nat) (P : Shp) (n : Nat) (vs : List Value) (σ : St) (Q : Qt) : Prop :=
  Met l y (Cond.code y cc maxL ret :: TB) rm (va_Pc vs (Rp w P n σ)) Q mc ms (wA w)
theorem CtM.of {l : Launch} {w : Wd} {y : MethodName} {cc : ByteArray} {maxL : Nat} {ret : Option FieldType} {rm : Room} {mc ms : Nat} {P : Shp} {n : Nat} {vs : List Value} {σ : St} {Q : Qt} {α : Type} {F : Option α} {res : α} {lv : List (Nat × Value)} (hF : F = some res) (hy : plainFor y = true) (hlen : (lg_sl vs).length ≤ maxL) (hlv : lv_args 0 vs = lv)
    (body : ∀ X : Cxt, X.2.1 = l → X.2.2.2.1 = rm → Cok X w cc maxL y.cls ret → Own X w mc ms Q → V X w maxL P n 0 0 res F σ 0 lv []) : CtM l w y cc maxL ret rm mc ms P n vs σ Q := by
  refine va_MetF (cc := cc) (maxL := maxL) (ret := ret) hy rfl ?_
  intro p e s m args below meth c s₁ B hml hv
  obtain ⟨rfl, hR, hKs⟩ := hv
  have hts := atoms_spec (ws := Cond.code y cc maxL ret :: TB) B.pre
  have hC : Cok ((p, l, e, rm, s, m, vs.toArray, below, meth, c, MQ below Q vs.toArray s mc ms (wA w)) : Cxt) w cc maxL y.cls ret :=
    ⟨⟨B.exec, B.bytes, hml, findClass_of_methodNamed B.named, fun w hw => hts w (List.mem_cons_of_mem _ hw)⟩, hKs, B.returns, B.notSynchronized, hR.2.1, by show w.1.size ≤ s.heap.size; rw [hR.1]; exact Nat.le_add_right _ _⟩
  have hl := lv_entry vs (n := maxL) hlen
  rw [hlv] at hl
  have h := body (p, l, e, rm, s, m, vs.toArray, below, meth, c, MQ below Q vs.toArray s mc ms (wA w)) rfl rfl hC rfl s.heap [] _ hR va_S.rf hl hF
  rw [lg_entry_eq]
  exact h
def CeeM (X : Cxt) (y : MethodName) (b : ByteArray) (ml : Nat) (rt : Option FieldType) (rm : Room) (k mc ms : Nat) : Prop :=
  Cond.code y b ml rt ∈ TB ∧ Cond.initialized y.cls ∈ TB ∧ (y.cls ≠ "java/lang/invoke/MethodHandle" ∧ y.cls ≠ "java/lang/invoke/VarHandle" ∧ (parseMethodDescriptor y.desc).map (fun d => d.parameters.length) = some k) ∧ rm.cells = mc ∧ rm.slots = ms ∧ rm.frames + 1 ≤ X.2.2.2.1.frames ∧ 8 + (ml + 11) + rm.locals ≤ X.2.2.2.1.locals
theorem CeeM.of {X : Cxt} {y : MethodName} {b : ByteArray} {ml k mc ms : Nat} {rt : Option FieldType} {rm R : Room} (h1 : Cond.code y b ml rt ∈ TB) (h2 : Cond.initialized y.cls ∈ TB) (h3 : y.cls ≠ "java/lang/invoke/MethodHandle" ∧ y.cls ≠ "java/lang/invoke/VarHandle" ∧ (parseMethodDescriptor y.desc).map (fun d => d.parameters.length) = some k) (h4 : rm.cells = mc) (h5 : rm.slots = ms) (hR : X.2.2.2.1 = R) (h6 : rm.frames + 1 ≤ R.frames) (h7 : 8 + (ml + 11) + rm.locals ≤ R.locals) : CeeM X y b ml rt rm k mc ms :=
  ⟨h1, h2, h3, h4, h5, by rw [hR]; exact h6, by rw [hR]; exact h7⟩
def RnM (X : Cxt) (w : Wd) (cells slots mc ms : Nat) (H : Heap) (locs : List Loc) (g : JFrame) (rest : List Value) (Q : Qt) (a : Array Value) : Prop :=
  va_Run X.1 X.2.1 X.2.2.1 X.2.2.2.1 X.2.2.2.2.1 X.2.2.2.2.2.1 X.2.2.2.2.2.2.1 X.2.2.2.2.2.2.2.1 X.2.2.2.2.2.2.2.2.1 X.2.2.2.2.2.2.2.2.2.1 H locs cells slots mc ms g rest (Q a) (wA w)
/-- a private method is taken whatever the receiver's class; that its class is no interface, another word says -/
theorem sel_priv {C : String} {x0 y0 y : MethodName} {s : State} {args : Array Value} (h0 : (Cond.selects C x0 y0).before args s = true) (hc : y0.cls = y.cls) (hy : y.cls ≠ "java/lang/invoke/MethodHandle" ∧ y.cls ≠ "java/lang/invoke/VarHandle")
    (hpriv : (Cond.privateMethod y).before args s = true) (hinst : (Cond.instanceMethod y).before args s = true) : (Cond.selects C y y).before args s = true := by
  obtain ⟨c, r0, m0, q1, q2, q3, q4, kM, hkM, hni⟩ := Cond.selects_spec h0
  obtain ⟨mk, methM, hnamed, hmethM, -, -⟩ := Cond.instanceMethod_spec hinst
  have hfound : s.methodFound? y.cls y.name y.desc = some mk := State.methodFound?_of_named hnamed hy
  have hf0 := findClass_of_methodNamed q3
  rw [hc] at hf0
  have hcls : mk.cls = m0.cls := Option.some.inj ((findClass_of_methodNamed hnamed).symm.trans hf0)
  have hsel : selectMethod {} s.vm c mk = .method mk := selectMethod_private hmethM (Cond.privateMethod_at hpriv mk methM hnamed hmethM)
  simp only [Cond.before, Cond.holds, Cond.value, q1, hfound, hnamed, hsel, hcls, hkM]
  simp; exact hni
end VZ2
section VZ3
variable {X : Cxt} {w : Wd} {cc : ByteArray} {nL : Nat} {own : String} {ret : Option FieldType} {P : Shp} {n cells slots : Nat} {α : Type} {res : α} {σ : St} {pc : Nat} {lv : List (Nat × Value)} {st : List Value}
theorem K8 (C : Cok X w cc nL own ret) : ClassAt X.2.2.2.2.1 RJ4 ((wD w).1 8) := (C.2.1.1.1 8 _ rfl).2
/-- an inherited or a private method on a StringBuilder -/
theorem v_rU (C : Cok X w cc nL own ret) {x y : MethodName} {owner : String} {b b0 : ByteArray} {ml m0 k idx mc ms : Nat} {rt r0 : Option FieldType} {rm : Room} {Q : Qt} {o : Int} {As sk : List Value} {H : Heap} {locs : List Loc} {ls : Array Slot} (E : CeeM X y b ml rt rm k mc ms) (hM : CtM X.2.1 w y b ml rt rm mc ms P n (A w o :: As) σ Q) (hl : Cond.methodLink own idx x ∈ TB) (hsm : Cond.sameMethod x.cls owner x.name x.desc ∈ TB) (h0 : Cond.code ⟨owner, x.name, x.desc⟩ b0 m0 r0 ∈ TB) (hi0 : Cond.instanceMethod ⟨owner, x.name, x.desc⟩ ∈ TB) (hno : owner ≠ "java/lang/invoke/MethodHandle" ∧ owner ≠ "java/lang/invoke/VarHandle" ∧ (parseMethodDescriptor x.desc).map (fun d => d.parameters.length) = some k) (hsel : (Cond.selects RJ4 x y).before X.2.2.2.2.2.2.1 X.2.2.2.2.1 = true) (hi : Cond.instanceMethod y ∈ TB)
    (hR : Rep w P n σ H) (hls : ls.size = nL) (hP : ∃ len, P o = some (8, len)) (hn : As.length = k) (hsk : sk = As.reverse ++ A w o :: st) (hsum : (st.map fun v => v.category).sum ≤ 8) (hcs : cells + mc ≤ X.2.2.2.1.cells ∧ slots + ms ≤ X.2.2.2.1.slots) (d : decode cc pc = .ok (.invokevirtual idx, 3)) : RnM X w cells slots mc ms H locs (F0 X.2.2.2.2.2.1 pc ls sk) st Q (A w o :: As).toArray := by
  obtain ⟨e1, e2, e3, e4, e5, e6, e7⟩ := E
  obtain ⟨len, hP⟩ := hP
  have ha := hR.at hP
  rw [cellE_obj (by decide)] at ha
  subst hsk
  refine va_runU C.1 hM (owner := owner) (C := RJ4) (x := x) ⟨⟨e4, e5, e6, e7, pay_in C.1.2.2.2.2 (TB_good (TB_ws e1)), List.mem_cons_self⟩, C.wd e1, C.wd e2, ⟨hno.1, hno.2.1⟩, fun sig h => ?_, C.wd hl, C.wd hsm, va_Decl.of (C.wd hi0) (C.wd h0), hsel, C.wd hi⟩ ⟨?_, va_recv C.2.1.1 (P1 ha) (q0 := 0) (show vwCl[8]? = some (RJ4, TJ4, 4) from rfl) rfl, fun U hU hW => ⟨rfl, by rw [hU]; exact hR, C.2.1.warm hW⟩⟩ rfl hn hls rfl (lv_room hsum) d hcs
  · have h2 := hno.2.2
    rw [h] at h2
    exact (Option.some.inj h2).symm
  · intro a U g mk q
    obtain ⟨q0, qR, qK⟩ := q
    exact ⟨q0, qR, qK.same rfl⟩
/-- super.m(..) on a StringBuilder -/
theorem v_rSU (C : Cok X w cc nL own ret) {y : MethodName} {b : ByteArray} {ml k idx mc ms : Nat} {rt : Option FieldType} {rm : Room} {Q : Qt} {o : Int} {As sk : List Value} {H : Heap} {locs : List Loc} {ls : Array Slot} (E : CeeM X y b ml rt rm k mc ms) (hM : CtM X.2.1 w y b ml rt rm mc ms P n (A w o :: As) σ Q) (hl : Cond.methodLink own idx y ∈ TB) (hsm : Cond.sameMethod y.cls y.cls y.name y.desc ∈ TB) (hsup : Cond.superclass own y.cls ∈ TB) (hi : Cond.instanceMethod y ∈ TB) (hno : y.name ≠ "<init>")
    (hR : Rep w P n σ H) (hls : ls.size = nL) (hP : ∃ len, P o = some (8, len)) (hn : As.length = k) (hsk : sk = As.reverse ++ A w o :: st) (hsum : (st.map fun v => v.category).sum ≤ 8) (hcs : cells + mc ≤ X.2.2.2.1.cells ∧ slots + ms ≤ X.2.2.2.1.slots) (d : decode cc pc = .ok (.invokespecial idx, 3)) : RnM X w cells slots mc ms H locs (F0 X.2.2.2.2.2.1 pc ls sk) st Q (A w o :: As).toArray := by
  obtain ⟨e1, e2, e3, e4, e5, e6, e7⟩ := E
  obtain ⟨len, hP⟩ := hP
  have ha := hR.at hP
  rw [cellE_obj (by decide)] at ha
  subst hsk
  refine va_runSU (K8 C) C.1 hM ⟨⟨e4, e5, e6, e7, pay_in C.1.2.2.2.2 (TB_good (TB_ws e1)), List.mem_cons_self⟩, C.wd hl, C.wd hsm, C.wd hsup, C.wd hi, C.wd e2, C.wd e1, hno, fun sig h => ?_⟩ ⟨?_, va_recv C.2.1.1 (P1 ha) (q0 := 0) (show vwCl[8]? = some (RJ4, TJ4, 4) from rfl) rfl, fun U hU hW => ⟨rfl, by rw [hU]; exact hR, C.2.1.warm hW⟩⟩ rfl hn hls rfl (lv_room hsum) d hcs
  · have h2 := e3.2.2
    rw [h] at h2
    exact (Option.some.inj h2).symm
  · intro a U g mk q
    obtain ⟨q0, qR, qK⟩ := q
    exact ⟨q0, qR, qK.same rfl⟩
/-- StringBuilder's own method -/
theorem v_rV (C : Cok X w cc nL own ret) {y : MethodName} {b : ByteArray} {ml k idx mc ms : Nat} {rt : Option FieldType} {rm : Room} {Q : Qt} {o : Int} {As sk : List Value} {H : Heap} {locs : List Loc} {ls : Array Slot} (E : CeeM X y b ml rt rm k mc ms) (hM : CtM X.2.1 w y b ml rt rm mc ms P n (A w o :: As) σ Q) (hl : Cond.methodLink own idx y ∈ TB) (hs : Cond.selects RJ4 y y ∈ TB) (hi : Cond.instanceMethod y ∈ TB) (hCn : y.cls = RJ4)
    (hR : Rep w P n σ H) (hls : ls.size = nL) (hP : ∃ len, P o = some (8, len)) (hn : As.length = k) (hsk : sk = As.reverse ++ A w o :: st) (hsum : (st.map fun v => v.category).sum ≤ 8) (hcs : cells + mc ≤ X.2.2.2.1.cells ∧ slots + ms ≤ X.2.2.2.1.slots) (d : decode cc pc = .ok (.invokevirtual idx, 3)) : RnM X w cells slots mc ms H locs (F0 X.2.2.2.2.2.1 pc ls sk) st Q (A w o :: As).toArray := by
  obtain ⟨e1, e2, e3, e4, e5, e6, e7⟩ := E
  obtain ⟨len, hP⟩ := hP
  have ha := hR.at hP
  rw [cellE_obj (by decide)] at ha
  subst hsk
  refine va_runV C.1 hM (cwV k C.1.2.2.2.2 (TB_wsV hl hi hs (by rw [← hCn]; exact e2) e1) rfl e4 e5 ⟨hCn, e3⟩ ⟨e6, e7⟩) ⟨?_, va_recv C.2.1.1 (P1 ha) (q0 := 0) (show vwCl[8]? = some (RJ4, TJ4, 4) from rfl) rfl, fun U hU hW => ⟨rfl, by rw [hU]; exact hR, C.2.1.warm hW⟩⟩ rfl hn hls rfl (lv_room hsum) d hcs
  intro a U g mk q
  obtain ⟨q0, qR, qK⟩ := q
  exact ⟨q0, qR, qK.same rfl⟩
/-- a static method that makes cells -/
theorem v_rS (C : Cok X w cc nL own ret) {y : MethodName} {b : ByteArray} {ml k idx mc ms : Nat} {rt : Option FieldType} {rm : Room} {Q : Qt} {As sk : List Value} {H : Heap} {locs : List Loc} {ls : Array Slot} (E : CeeM X y b ml rt rm k mc ms) (hM : CtM X.2.1 w y b ml rt rm mc ms P n As σ Q) (hl : Cond.methodLink own idx y ∈ TB) (hi : Cond.static y ∈ TB)
    (hR : Rep w P n σ H) (hls : ls.size = nL) (hn : As.length = k) (hsk : sk = As.reverse ++ st) (hsum : (st.map fun v => v.category).sum ≤ 8) (hcs : cells + mc ≤ X.2.2.2.1.cells ∧ slots + ms ≤ X.2.2.2.1.slots) (d : decode cc pc = .ok (.invokestatic idx, 3)) : RnM X w cells slots mc ms H locs (F0 X.2.2.2.2.2.1 pc ls sk) st Q As.toArray := by
  obtain ⟨e1, e2, e3, e4, e5, e6, e7⟩ := E
  subst hsk
  have hB : CallB X.2.2.2.1 X.2.2.2.2.1 X.2.2.2.2.2.2.1 own idx y b ml rt (Cond.code y b ml rt :: TB) rm mc ms k := callB_of k C.1.2.2.2.2 (TB_good (TB_ws e1)) rfl e4 e5 (C.wd e2) (C.wd hl) e3 ⟨e6, e7⟩
  refine va_runS C.1 hM ⟨hB, C.wd hi⟩ ⟨?_, fun U hU hW => ⟨rfl, by rw [hU]; exact hR, C.2.1.warm hW⟩⟩ rfl hn hls rfl (lv_room hsum) d hcs
  intro a U g mk q
  obtain ⟨q0, qR, qK⟩ := q
  exact ⟨q0, qR, qK.same rfl⟩
variable {mc ms : Nat} {sk : List Value} {a : Array Value} {o : Int}
theorem v_gI {F : Option Int} {K : Int → Option α} (hrun : ∀ (H : Heap) (locs : List Loc) (ls : Array Slot) (x : Int), Rep w P n σ H → ls.size = nL → (∃ len, P o = some (8, len)) → F = some x → RnM X w cells slots 0 0 H locs (F0 X.2.2.2.2.2.1 pc ls sk) st (QI w P n x σ) a) (kk : ∀ x : Int, V X w nL P n cells slots res (K x) σ (pc + 3) lv (I x :: st)) : V X w nL P n cells slots res (onO P 8 o (cl F K)) σ pc lv sk := fun H locs ls hR hS hl9 hK => by
  obtain ⟨g, hK⟩ := gd hK
  obtain ⟨x, hF, hK⟩ := cl_of hK
  exact v_afterI (hrun H locs ls x hR hl9.1 (okO_of g) hF) hS hR hl9 hK (kk x)
theorem v_gV {F : Option Unit} {K : Unit → Option α} (hrun : ∀ (H : Heap) (locs : List Loc) (ls : Array Slot) (x : Unit), Rep w P n σ H → ls.size = nL → (∃ len, P o = some (8, len)) → F = some x → RnM X w cells slots 0 0 H locs (F0 X.2.2.2.2.2.1 pc ls sk) st (QV w P n σ) a) (kk : ∀ x : Unit, V X w nL P n cells slots res (K x) σ (pc + 3) lv st) : V X w nL P n cells slots res (onO P 8 o (cl F K)) σ pc lv sk := fun H locs ls hR hS hl9 hK => by
  obtain ⟨g, hK⟩ := gd hK
  obtain ⟨x, hF, hK⟩ := cl_of hK
  exact v_afterV (hrun H locs ls x hR hl9.1 (okO_of g) hF) hS hR hl9 hK (kk x)
theorem v_gW {F : Option St} {K : St → Option α} (hrun : ∀ (H : Heap) (locs : List Loc) (ls : Array Slot) (x : St), Rep w P n σ H → ls.size = nL → (∃ len, P o = some (8, len)) → F = some x → RnM X w cells slots 0 0 H locs (F0 X.2.2.2.2.2.1 pc ls sk) st (QV w P n x) a) (kk : ∀ x : St, V X w nL P n cells slots res (K x) x (pc + 3) lv st) : V X w nL P n cells slots res (onO P 8 o (cl F K)) σ pc lv sk := fun H locs ls hR hS hl9 hK => by
  obtain ⟨g, hK⟩ := gd hK
  obtain ⟨x, hF, hK⟩ := cl_of hK
  exact v_afterV (hrun H locs ls x hR hl9.1 (okO_of g) hF) hS hR hl9 hK (kk x)
abbrev Hr : Type := Int × Shp × Nat × St
theorem v_gaV {F : Option Hs} {K : Hs → Option α} (hrun : ∀ (H : Heap) (locs : List Loc) (ls : Array Slot) (x : Hs), Rep w P n σ H → ls.size = nL → (∃ len, P o = some (8, len)) → F = some x → RnM X w cells slots mc ms H locs (F0 X.2.2.2.2.2.1 pc ls sk) st (QV w x.1 x.2.1 x.2.2) a) (kk : ∀ (P' : Shp) (n' : Nat) (σ' : St), V X w nL P' n' (cells + mc) (slots + ms) res (K (P', n', σ')) σ' (pc + 3) lv st) : V X w nL P n cells slots res (onO P 8 o (cl F K)) σ pc lv sk := fun H locs ls hR hS hl9 hK => by
  obtain ⟨g, hK⟩ := gd hK
  obtain ⟨x, hF, hK⟩ := cl_of hK
  refine va_callv (hrun H locs ls x hR hl9.1 (okO_of g) hF) hS (fun q _ h => h) (fun q h => h) (fun u t H1 locs1 ht hvm hp hB hz hk hS1 => ?_)
  rw [← ht] at hS1 ⊢
  exact kk x.1 x.2.1 x.2.2 _ _ ls hB.1 hS1 hl9 hK
theorem v_gaR {F : Option Hr} {K : Hr → Option α} (hrun : ∀ (H : Heap) (locs : List Loc) (ls : Array Slot) (x : Hr), Rep w P n σ H → ls.size = nL → (∃ len, P o = some (8, len)) → F = some x → RnM X w cells slots mc ms H locs (F0 X.2.2.2.2.2.1 pc ls sk) st (QR w x.2.1 x.2.2.1 x.1 x.2.2.2) a) (kk : ∀ (r : Int) (P' : Shp) (n' : Nat) (σ' : St), V X w nL P' n' (cells + mc) (slots + ms) res (K (r, P', n', σ')) σ' (pc + 3) lv (A w r :: st)) : V X w nL P n cells slots res (onO P 8 o (cl F K)) σ pc lv sk := fun H locs ls hR hS hl9 hK => by
  obtain ⟨g, hK⟩ := gd hK
  obtain ⟨x, hF, hK⟩ := cl_of hK
  refine va_callr (hrun H locs ls x hR hl9.1 (okO_of g) hF) hS (fun q _ h => h) (fun q h => h) (fun u ra t H1 locs1 ht hvm hp hB hz hk hS1 => ?_)
  obtain ⟨rfl, hB⟩ := hB
  rw [← ht] at hS1 ⊢
  exact kk x.1 x.2.1 x.2.2.1 x.2.2.2 _ _ ls hB.1 hS1 hl9 hK
theorem v_saR {F : Option Hr} {K : Hr → Option α} (hrun : ∀ (H : Heap) (locs : List Loc) (ls : Array Slot) (x : Hr), Rep w P n σ H → ls.size = nL → F = some x → RnM X w cells slots mc ms H locs (F0 X.2.2.2.2.2.1 pc ls sk) st (QR w x.2.1 x.2.2.1 x.1 x.2.2.2) a) (kk : ∀ (r : Int) (P' : Shp) (n' : Nat) (σ' : St), V X w nL P' n' (cells + mc) (slots + ms) res (K (r, P', n', σ')) σ' (pc + 3) lv (A w r :: st)) : V X w nL P n cells slots res (cl F K) σ pc lv sk := fun H locs ls hR hS hl9 hK => by
  obtain ⟨x, hF, hK⟩ := cl_of hK
  refine va_callr (hrun H locs ls x hR hl9.1 hF) hS (fun q _ h => h) (fun q h => h) (fun u ra t H1 locs1 ht hvm hp hB hz hk hS1 => ?_)
  obtain ⟨rfl, hB⟩ := hB
  rw [← ht] at hS1 ⊢
  exact kk x.1 x.2.1 x.2.2.1 x.2.2.2 _ _ ls hB.1 hS1 hl9 hK
theorem v_saI {F : Option Hr} {K : Hr → Option α} (hrun : ∀ (H : Heap) (locs : List Loc) (ls : Array Slot) (x : Hr), Rep w P n σ H → ls.size = nL → F = some x → RnM X w cells slots mc ms H locs (F0 X.2.2.2.2.2.1 pc ls sk) st (QI w x.2.1 x.2.2.1 x.1 x.2.2.2) a) (kk : ∀ (r : Int) (P' : Shp) (n' : Nat) (σ' : St), V X w nL P' n' (cells + mc) (slots + ms) res (K (r, P', n', σ')) σ' (pc + 3) lv (I r :: st)) : V X w nL P n cells slots res (cl F K) σ pc lv sk := fun H locs ls hR hS hl9 hK => by
  obtain ⟨x, hF, hK⟩ := cl_of hK
  refine va_calli (hrun H locs ls x hR hl9.1 hF) hS (fun q _ h => h) (fun q h => h) (fun r2 u t H1 locs1 ht hvm hp hB hz hk hS1 => ?_)
  subst hp
  rw [← ht] at hS1 ⊢
  exact kk x.1 x.2.1 x.2.2.1 x.2.2.2 _ _ ls hB.1 hS1 hl9 hK
/-- a static call that answers a reference, nothing made -/
theorem v_callS_rR (C : Cok X w cc nL own ret) {y : MethodName} {b : ByteArray} {ml k idx : Nat} {rt : Option FieldType} {rm : Room} (As : List Value) {sk : List Value} (st : List Value) {F : Option Int} {K : Int → Option α} (E : Cee X y b ml rt rm k) (hM : ∀ x : Int, F = some x → Ct X.2.1 w y b ml rt rm P n As σ (QR w P n x σ)) (hl : Cond.methodLink own idx y ∈ TB) (hi : Cond.static y ∈ TB) (hn : As.length = k) (hsk : sk = As.reverse ++ st) (hsum : (st.map fun v => v.category).sum ≤ 8) (hcs : cells ≤ X.2.2.2.1.cells ∧ slots ≤ X.2.2.2.1.slots) (d : decode cc pc = .ok (.invokestatic idx, 3))
    (kk : ∀ x : Int, V X w nL P n cells slots res (K x) σ (pc + 3) lv (A w x :: st)) : V X w nL P n cells slots res (cl F K) σ pc lv sk := fun H locs ls hR hS hl9 hK => by
  obtain ⟨x, hF, hK⟩ := cl_of hK
  exact v_afterR (v_runS C E (hM x hF) hl hi hR hn hsk hsum hcs hl9.1 d) hS hR hl9 hK (kk x)
/-- returns of what makes cells -/
theorem v_mretR (C : Cok X w cc nL own ret) {res : Hr} {x : Int} {ty : FieldType} (hr : ret = some ty) (hty : (∃ c, ty = .object c) ∨ ∃ t, ty = .array t) (hO : Own X w mc ms (QR w res.2.1 res.2.2.1 res.1 res.2.2.2)) (h1 : cells ≤ mc) (h2 : slots ≤ ms) (d : decode cc pc = .ok (.areturn, 1)) : V X w nL P n cells slots res (some (x, P, n, σ)) σ pc lv [A w x] := v_wid mc ms h1 h2 fun H locs ls hR hS hl hK => by
  have hx := Option.some.inj hK
  subst hx
  show W _ _ _ _ _ _ _ _ _ _ _ _ _ _ X.2.2.2.2.2.2.2.2.2.2 _
  rw [hO]
  exact W.aret C.1.1 C.1.2.1 (C.2.2.1.trans hr) hty (Or.inr ⟨_, rfl⟩) (fun t ht hW => ⟨⟨(), _, rfl, trivial, rfl, Rp.end C hR ht hW⟩, hS.F ht⟩) hS.2.2 d C.2.2.2.1
theorem v_mretZ (C : Cok X w cc nL own ret) {res : Hr} {x : Int} (hr : ret = some .boolean) (hO : Own X w mc ms (QI w res.2.1 res.2.2.1 res.1 res.2.2.2)) (h1 : cells ≤ mc) (h2 : slots ≤ ms) (d : decode cc pc = .ok (.ireturn, 1)) : V X w nL P n cells slots res (bz x (some (x, P, n, σ))) σ pc lv [I x] := v_wid mc ms h1 h2 fun H locs ls hR hS hl hK => by
  obtain ⟨g, hK⟩ := gd hK
  have hx := Option.some.inj hK
  subst hx
  show W _ _ _ _ _ _ _ _ _ _ _ _ _ _ X.2.2.2.2.2.2.2.2.2.2 _
  rw [hO]
  exact W.zret C.1.1 C.1.2.1 (C.2.2.1.trans hr) (by rcases g with rfl | rfl <;> decide) (fun t ht hW => ⟨⟨_, (), rfl, rfl, Rp.end C hR ht hW⟩, hS.F ht⟩) hS.2.2 d C.2.2.2.1
/-- a char's return -/
theorem v_tretc (C : Cok X w cc nL own ret) {x r : Int} {σr : St} {ty : FieldType} (hr : ret = some ty) (hn : ∀ z : Int, 0 ≤ z → z < 65536 → narrow ty (.int (Int32.ofInt z)) = .int (Int32.ofInt z)) (hO : Own X w cells slots (QI w P n r σr)) {res : α} {K : Option α} (hx : K = some res → x = r ∧ σ = σr) (d : decode cc pc = .ok (.ireturn, 1)) : V X w nL P n cells slots res (if 0 ≤ x ∧ x < 65536 then K else none) σ pc lv [I x] := fun H locs ls hR hS hl hK => by
  obtain ⟨g, hK⟩ := gd hK
  obtain ⟨rfl, rfl⟩ := hx hK
  show W _ _ _ _ _ _ _ _ _ _ _ _ _ _ X.2.2.2.2.2.2.2.2.2.2 _
  rw [hO]
  exact W.zret C.1.1 C.1.2.1 (C.2.2.1.trans hr) (hn _ g.1 g.2) (fun t ht hW => ⟨⟨_, (), rfl, rfl, Rp.end C hR ht hW⟩, hS.F ht⟩) hS.2.2 d C.2.2.2.1
theorem nar_c (z : Int) (h0 : 0 ≤ z) (h1 : z < 65536) : narrow .char (.int (Int32.ofInt z)) = .int (Int32.ofInt z) := by
  have e : Int32.ofInt z = (UInt32.ofNat z.toNat).toInt32 := by
    have h : z = ((z.toNat : Nat) : Int) := by omega
    rw [h, Int32.ofInt_eq_ofNat]
    rfl
  rw [e]
  show Value.int (UInt32.ofNat z.toNat).toInt32.toUInt32.toUInt16.toUInt32.toInt32 = _
  rw [UInt32.toUInt32_toInt32]
  congr 2
  apply UInt32.toNat_inj.1
  simp only [UInt16.toNat_toUInt32, UInt32.toNat_toUInt16, UInt32.toNat_ofNat']
  omega
end VZ3
