/-! DOUBLES: rows, and rightShare on both sides. -/
section VDB
variable {X : Cxt} {w : Wd} {cc : ByteArray} {nL : Nat} {own : String} {ret : Option FieldType} {P : Shp} {n cells slots : Nat} {α : Type} {res : α} {σ : St} {pc : Nat} {lv : List (Nat × Value)} {st : List Value}
def D (x : UInt64) : Value := .double x
def i2dI (x : Int) : UInt64 := FP.i2d (Int32.ofInt x)
/-- the quotient of two ints, where it is a number -/
def ddv (x y : Int) (K : UInt64 → Option α) : Option α := if FP.ddiv (i2dI x) (i2dI y) &&& 0x7fffffffffffffff ≤ 0x7ff0000000000000 then K (FP.ddiv (i2dI x) (i2dI y)) else none
def QD (w : Wd) (P : Shp) (n : Nat) (r : UInt64) (σ : St) : Qt := va_Qd (fun r2 (_ : Unit) => r2 = r) (fun _ t => Rp w P n σ t) (wA w)
theorem v_i2d {K : Option α} (C : Cok X w cc nL own ret) {x : Int} (d : decode cc pc = .ok (.i2d, 1)) (k : V X w nL P n cells slots res K σ (pc + 1) lv (D (i2dI x) :: st)) : V X w nL P n cells slots res K σ pc lv (I x :: st) :=
  fun H locs ls hR hS hl hK => lv_i2d C.1.1 C.1.2.1 d (k H locs ls hR hS hl hK)
theorem v_ddiv (C : Cok X w cc nL own ret) {x y : Int} {K : UInt64 → Option α} (d : decode cc pc = .ok (.ddiv, 1)) (k : ∀ r : UInt64, V X w nL P n cells slots res (K r) σ (pc + 1) lv (D r :: st)) : V X w nL P n cells slots res (ddv x y K) σ pc lv (D (i2dI y) :: D (i2dI x) :: st) :=
  fun H locs ls hR hS hl hK => by
    obtain ⟨g, hK⟩ := gd hK
    exact lv_ddiv C.1.1 C.1.2.1 d g (k _ H locs ls hR hS hl hK)
theorem v_dconst0 {K : Option α} (C : Cok X w cc nL own ret) (d : decode cc pc = .ok (.dconst 0, 1)) (k : V X w nL P n cells slots res K σ (pc + 1) lv (D FP.dconst0 :: st)) : V X w nL P n cells slots res K σ pc lv st :=
  fun H locs ls hR hS hl hK => lv_dconst0 C.1.1 C.1.2.1 d (k H locs ls hR hS hl hK)
theorem v_dcmp {K : Option α} (C : Cok X w cc nL own ret) {op : CmpOp} {x y : UInt64} (d : decode cc pc = .ok (.dcmp op, 1)) (k : V X w nL P n cells slots res K σ (pc + 1) lv (.int (Op.cmpValue (FP.dcmp x y) op) :: st)) : V X w nL P n cells slots res K σ pc lv (D y :: D x :: st) :=
  fun H locs ls hR hS hl hK => lv_dcmp C.1.1 C.1.2.1 d (k H locs ls hR hS hl hK)
theorem v_dret (C : Cok X w cc nL own ret) {x r : UInt64} {σr : St} (hr : ret = some .double) (hO : Own X w cells slots (QD w P n r σr)) {K : Option α} (hx : K = some res → x = r ∧ σ = σr) (d : decode cc pc = .ok (.dreturn, 1)) : V X w nL P n cells slots res K σ pc lv [D x] := fun H locs ls hR hS hl hK => by
  obtain ⟨rfl, rfl⟩ := hx hK
  show W _ _ _ _ _ _ _ _ _ _ _ _ _ _ X.2.2.2.2.2.2.2.2.2.2 _
  rw [hO]
  exact W.dret C.1.1 C.1.2.1 (C.2.2.1.trans hr) (fun t ht hW => ⟨⟨_, (), rfl, rfl, Rp.end C hR ht hW⟩, hS.F ht⟩) hS.2.2 d C.2.2.2.1
theorem pD {x : UInt64} {s : St} {r : UInt64 × St} (h : some (x, s) = some r) : x = r.1 ∧ s = r.2 := by cases h; exact ⟨rfl, rfl⟩
theorem pDr {x r : UInt64} {s : St} (h : some x = some r) : x = r ∧ s = s := ⟨Option.some.inj h, rfl⟩
theorem v_afterD {sk : List Value} {H : Heap} {locs : List Loc} {ls : Array Slot} {a : Array Value} {r : UInt64} {σr : St} {K : Option α} (h : Rn X w n cells slots P H locs (F0 X.2.2.2.2.2.1 pc ls sk) st (QD w P n r σr) a) (hS : va_S (wA w) X.2.2.2.2.1.heap H locs) (hR : Rep w P n σ H) (hl : lv_has ls nL lv) (hK : K = some res) (kk : V X w nL P n cells slots res K σr (pc + 3) lv (D r :: st)) : Wx X H locs cells slots (F0 X.2.2.2.2.2.1 pc ls sk) := by
  refine va_calld h hS (fun q _ h => h) (fun q h => h) (fun r2 u t H1 locs1 ht hvm hp hB hz hk hS1 => ?_)
  subst hp
  rw [← ht] at hS1 ⊢
  exact kk _ _ ls hB.1 hS1 hl hK
theorem v_callV_rD (C : Cok X w cc nL own ret) {y : MethodName} {b : ByteArray} {ml k idx ci N : Nat} {rt : Option FieldType} {rm : Room} {o : Int} {Cn : String} {T : u_T} (As : List Value) {sk : List Value} (st : List Value) {F : Option (UInt64)} {K : UInt64 → Option α} (E : Cee X y b ml rt rm k) (hM : ∀ x : UInt64, F = some x → Ct X.2.1 w y b ml rt rm P n (A w o :: As) σ (QD w P n x σ)) (hl : Cond.methodLink own idx y ∈ TB) (hi : Cond.instanceMethod y ∈ TB) (hs : Cond.selects Cn y y ∈ TB) (hCn : y.cls = Cn) (hc : vwCl[ci]? = some (Cn, T, N)) (hci : ci < 9) (hn : As.length = k) (hsk : sk = As.reverse ++ A w o :: st) (hsum : (st.map fun v => v.category).sum ≤ 8) (hcs : cells ≤ X.2.2.2.1.cells ∧ slots ≤ X.2.2.2.1.slots) (d : decode cc pc = .ok (.invokevirtual idx, 3))
    (kk : ∀ x : UInt64, V X w nL P n cells slots res (K x) σ (pc + 3) lv (D x :: st)) : V X w nL P n cells slots res (onO P ci o (cl F K)) σ pc lv sk := fun H locs ls hR hS hl9 hK => by
  obtain ⟨g, hK⟩ := gd hK
  obtain ⟨len, hP⟩ := okO_of g
  obtain ⟨x, hF, hK⟩ := cl_of hK
  exact v_afterD (v_runV C E (hM x hF) hl hi hs hCn hc hci hR hP hn hsk hsum hcs hl9.1 d) hS hR hl9 hK (kk x)
theorem v_callV_wD (C : Cok X w cc nL own ret) {y : MethodName} {b : ByteArray} {ml k idx ci N : Nat} {rt : Option FieldType} {rm : Room} {o : Int} {Cn : String} {T : u_T} (As : List Value) {sk : List Value} (st : List Value) {F : Option (UInt64 × St)} {K : UInt64 × St → Option α} (E : Cee X y b ml rt rm k) (hM : ∀ x : UInt64 × St, F = some x → Ct X.2.1 w y b ml rt rm P n (A w o :: As) σ (QD w P n x.1 x.2)) (hl : Cond.methodLink own idx y ∈ TB) (hi : Cond.instanceMethod y ∈ TB) (hs : Cond.selects Cn y y ∈ TB) (hCn : y.cls = Cn) (hc : vwCl[ci]? = some (Cn, T, N)) (hci : ci < 9) (hn : As.length = k) (hsk : sk = As.reverse ++ A w o :: st) (hsum : (st.map fun v => v.category).sum ≤ 8) (hcs : cells ≤ X.2.2.2.1.cells ∧ slots ≤ X.2.2.2.1.slots) (d : decode cc pc = .ok (.invokevirtual idx, 3))
    (kk : ∀ x : UInt64 × St, V X w nL P n cells slots res (K x) x.2 (pc + 3) lv (D x.1 :: st)) : V X w nL P n cells slots res (onO P ci o (cl F K)) σ pc lv sk := fun H locs ls hR hS hl9 hK => by
  obtain ⟨g, hK⟩ := gd hK
  obtain ⟨len, hP⟩ := okO_of g
  obtain ⟨x, hF, hK⟩ := cl_of hK
  exact v_afterD (v_runV C E (hM x hF) hl hi hs hCn hc hci hR hP hn hsk hsum hcs hl9.1 d) hS hR hl9 hK (kk x)
end VDB
abbrev rX7_rightShare : Room := { frames := 0, cells := 0, slots := 0, locals := 0 }
noncomputable def fX7_rightShare (P : Shp) (s : St) (a0 : Int) : Option UInt64 :=
  gR P 7 s a0 1 fun x1 =>
  gR P 2 s x1 1 fun x2 =>
  gR P 6 s x2 9 fun x3 =>
  gR P 3 s x3 5 fun x4 =>
  aI P 10 s x4 2 fun x5 =>
  gR P 7 s a0 1 fun x6 =>
  gR P 2 s x6 1 fun x7 =>
  gR P 6 s x7 9 fun x8 =>
  gR P 3 s x8 5 fun x9 =>
  aI P 10 s x9 1 fun x10 =>
  jle (x5 + x10) 0 (some FP.dconst0) (ddv x5 (x5 + x10) some)
abbrev rX8_rightShare : Room := { frames := 0, cells := 0, slots := 0, locals := 0 }
noncomputable def fX8_rightShare (P : Shp) (s : St) (a0 : Int) : Option (UInt64 × St) :=
  pF P 8 s a0 0 0 fun s1 =>
  gR P 8 s1 a0 14 fun x1 =>
  aI P 10 s1 x1 4 fun x2 =>
  gR P 8 s1 a0 14 fun x3 =>
  aI P 10 s1 x3 3 fun x4 =>
  jne (x2 + x4) 0
    (gR P 8 s1 a0 14 fun x5 =>
     aI P 10 s1 x5 4 fun x6 =>
     ddv x6 (x2 + x4) fun r => some (r, s1))
    (some (FP.dconst0, s1))
theorem kX7_rightShare (l : Launch) (w : Wd) (P : Shp) (n : Nat) {s : St} {a0 : Int} {res : UInt64} (h : fX7_rightShare P s a0 = some res) : Ct l w yX7_rightShare cX7_rightShare 3 (some FieldType.double) rX7_rightShare P n [A w a0] s (QD w P n res s) :=
  Ct.of h (by decide) (Nat.le_of_ble_eq_true rfl) (lv := [(0, A w a0)]) rfl fun X hl hRm C hO => by
  subst hl
  unfold fX7_rightShare
  refine v_aload_n C dX7_rightShare_0 rfl (j := 0) rfl ?_
  refine v_getR C 1 rfl (T := TX7) rfl inB7 (by decide) (by decide) rfl tw_336 dX7_rightShare_1 (fun x1 => ?_)
  refine v_getR C 1 rfl (T := TX2) rfl inB2 (by decide) (by decide) rfl tw_307 dX7_rightShare_4 (fun x2 => ?_)
  refine v_getR C 9 rfl (T := TX6) rfl inB6 (by decide) (by decide) rfl tw_281 dX7_rightShare_7 (fun x3 => ?_)
  refine v_getR C 5 rfl (T := TX3) rfl inB3 (by decide) (by decide) rfl tw_239 dX7_rightShare_10 (fun x4 => ?_)
  refine v_iconst C dX7_rightShare_13 ?_
  refine v_iald C dX7_rightShare_14 (fun x5 => ?_)
  refine v_istore_n C [(1, I x5), (0, A w a0)] dX7_rightShare_15 rfl (by decide) rfl ?_
  refine v_iload_n C dX7_rightShare_16 rfl (j := 0) rfl ?_
  refine v_aload_n C dX7_rightShare_17 rfl (j := 1) rfl ?_
  refine v_getR C 1 rfl (T := TX7) rfl inB7 (by decide) (by decide) rfl tw_336 dX7_rightShare_18 (fun x6 => ?_)
  refine v_getR C 1 rfl (T := TX2) rfl inB2 (by decide) (by decide) rfl tw_307 dX7_rightShare_21 (fun x7 => ?_)
  refine v_getR C 9 rfl (T := TX6) rfl inB6 (by decide) (by decide) rfl tw_281 dX7_rightShare_24 (fun x8 => ?_)
  refine v_getR C 5 rfl (T := TX3) rfl inB3 (by decide) (by decide) rfl tw_239 dX7_rightShare_27 (fun x9 => ?_)
  refine v_iconst C dX7_rightShare_30 ?_
  refine v_iald C dX7_rightShare_31 (fun x10 => ?_)
  refine v_iadd C dX7_rightShare_32 ?_
  refine v_istore_n C [(2, I (x5 + x10)), (1, I x5), (0, A w a0)] dX7_rightShare_33 rfl (by decide) rfl ?_
  refine v_iload_n C dX7_rightShare_34 rfl (j := 0) rfl ?_
  refine v_if_le (tgt := 46) C dX7_rightShare_35 rfl ?_ ?_
  · refine v_dconst0 C dX7_rightShare_46 ?_
    exact v_dret C rfl hO pDr dX7_rightShare_47
  · refine v_iload_n C dX7_rightShare_38 rfl (j := 1) rfl ?_
    refine v_i2d C dX7_rightShare_39 ?_
    refine v_iload_n C dX7_rightShare_40 rfl (j := 0) rfl ?_
    refine v_i2d C dX7_rightShare_41 ?_
    refine v_ddiv C dX7_rightShare_42 (fun r => ?_)
    refine v_goto (tgt := 47) C dX7_rightShare_43 rfl ?_
    exact v_dret C rfl hO pDr dX7_rightShare_47
theorem kX8_rightShare (l : Launch) (w : Wd) (P : Shp) (n : Nat) {s : St} {a0 : Int} {res : UInt64 × St} (h : fX8_rightShare P s a0 = some res) : Ct l w yX8_rightShare cX8_rightShare 2 (some FieldType.double) rX8_rightShare P n [A w a0] s (QD w P n res.1 res.2) :=
  Ct.of h (by decide) (Nat.le_of_ble_eq_true rfl) (lv := [(0, A w a0)]) rfl fun X hl hRm C hO => by
  subst hl
  unfold fX8_rightShare
  refine v_aload_n C dX8_rightShare_0 rfl (j := 0) rfl ?_
  refine v_iconst C dX8_rightShare_1 ?_
  refine v_putI C 0 rfl (T := TX8) rfl inB8 (by decide) tyX8_ok nmX8 (by decide) rfl rfl tw_1140 dX8_rightShare_2 rfl (fun s1 => ?_)
  refine v_aload_n C dX8_rightShare_5 rfl (j := 0) rfl ?_
  refine v_getR C 14 rfl (T := TX8) rfl inB8 (by decide) (by decide) rfl tw_1154 dX8_rightShare_6 (fun x1 => ?_)
  refine v_iconst C dX8_rightShare_9 ?_
  refine v_iald C dX8_rightShare_10 (fun x2 => ?_)
  refine v_aload_n C dX8_rightShare_11 rfl (j := 0) rfl ?_
  refine v_getR C 14 rfl (T := TX8) rfl inB8 (by decide) (by decide) rfl tw_1154 dX8_rightShare_12 (fun x3 => ?_)
  refine v_iconst C dX8_rightShare_15 ?_
  refine v_iald C dX8_rightShare_16 (fun x4 => ?_)
  refine v_iadd C dX8_rightShare_17 ?_
  refine v_istore_n C [(1, I (x2 + x4)), (0, A w a0)] dX8_rightShare_18 rfl (by decide) rfl ?_
  refine v_iload_n C dX8_rightShare_19 rfl (j := 0) rfl ?_
  refine v_if_ne (tgt := 27) C dX8_rightShare_20 rfl ?_ ?_
  · refine v_aload_n C dX8_rightShare_27 rfl (j := 1) rfl ?_
    refine v_getR C 14 rfl (T := TX8) rfl inB8 (by decide) (by decide) rfl tw_1154 dX8_rightShare_28 (fun x5 => ?_)
    refine v_iconst C dX8_rightShare_31 ?_
    refine v_iald C dX8_rightShare_32 (fun x6 => ?_)
    refine v_i2d C dX8_rightShare_33 ?_
    refine v_iload_n C dX8_rightShare_34 rfl (j := 0) rfl ?_
    refine v_i2d C dX8_rightShare_35 ?_
    refine v_ddiv C dX8_rightShare_36 (fun r => ?_)
    exact v_dret C rfl hO pD dX8_rightShare_37
  · refine v_dconst0 C dX8_rightShare_23 ?_
    refine v_goto (tgt := 37) C dX8_rightShare_24 rfl ?_
    exact v_dret C rfl hO pD dX8_rightShare_37
