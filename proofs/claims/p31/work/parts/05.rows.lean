/-! THE ROWS of V: an instruction each. -/
section VN
abbrev inR (x : Int) : Prop := -2147483648 ≤ x ∧ x < 2147483648
abbrev inL (x : Int) : Prop := -9223372036854775808 ≤ x ∧ x < 9223372036854775808
theorem i32_toInt {x : Int} (h : inR x) : (Int32.ofInt x).toInt = x := Int32.toInt_ofInt_of_le h.1 (by have := h.2; omega)
theorem i64_toInt {x : Int} (h : inL x) : (Int64.ofInt x).toInt = x := Int64.toInt_ofInt_of_le h.1 (by have := h.2; omega)
theorem i32_lt {x y : Int} (hx : inR x) (hy : inR y) : Int32.ofInt x < Int32.ofInt y ↔ x < y := by rw [Int32.lt_iff_toInt_lt, i32_toInt hx, i32_toInt hy]
theorem i32_le {x y : Int} (hx : inR x) (hy : inR y) : Int32.ofInt x ≤ Int32.ofInt y ↔ x ≤ y := by rw [Int32.le_iff_toInt_le, i32_toInt hx, i32_toInt hy]
theorem i32_eq {x y : Int} (hx : inR x) (hy : inR y) : Int32.ofInt x = Int32.ofInt y ↔ x = y := by rw [← Int32.toInt_inj, i32_toInt hx, i32_toInt hy]
theorem i32_max {x : Int} (h : x < 2147483648) : x ≤ Int32.maxValue.toInt := by
  rw [show Int32.maxValue.toInt = 2147483647 from rfl]; omega
theorem i32_0 : (0 : Int32) = Int32.ofInt 0 := rfl
theorem inR0 : inR 0 := by decide
theorem i32_clamp {x : Int} {n : Nat} (h0 : 0 ≤ x) (h1 : x < n) (hn : n < 2147483648) : (Int32.ofInt x).toNatClampNeg = x.toNat := by
  show (Int32.ofInt x).toInt.toNat = _
  rw [i32_toInt ⟨by omega, by omega⟩]
theorem i32_in {x : Int} {n : Nat} (h0 : 0 ≤ x) (h1 : x < n) (hn : n < 2147483648) : vp_in (Int32.ofInt x) n := by
  rw [vp_in_iff, i32_toInt ⟨by omega, by omega⟩]
  exact ⟨h0, h1⟩
theorem i32_rem (x y : Int) (hx : inR x) (hy : inR y) : Int32.ofInt x - Int32.ofInt x / Int32.ofInt y * Int32.ofInt y = Int32.ofInt (x.tmod y) := by
  rw [← Int32.ofInt_tdiv hx.1 (i32_max hx.2) hy.1 (i32_max hy.2), ← Int32.ofInt_mul, ← Int32.ofInt_sub]
  congr 1
  have := Int.mul_tdiv_add_tmod x y
  rw [Int.mul_comm] at this
  omega
end VN
section VC
variable {α β : Type}
def bd (v : Int) (K : Int → Option α) : Option α := K v
def jlt (x y : Int) (a b : Option α) : Option α := if inR x ∧ inR y then (if x < y then a else b) else none
def jge (x y : Int) (a b : Option α) : Option α := if inR x ∧ inR y then (if y ≤ x then a else b) else none
def jgt (x y : Int) (a b : Option α) : Option α := if inR x ∧ inR y then (if y < x then a else b) else none
def jle (x y : Int) (a b : Option α) : Option α := if inR x ∧ inR y then (if x ≤ y then a else b) else none
def jeq (x y : Int) (a b : Option α) : Option α := if inR x ∧ inR y then (if x = y then a else b) else none
def jne (x y : Int) (a b : Option α) : Option α := if inR x ∧ inR y then (if x = y then b else a) else none
def dv (x y : Int) (K : Int → Option α) : Option α := if inR x ∧ inR y ∧ y ≠ 0 then K (x.tdiv y) else none
def rm (x y : Int) (K : Int → Option α) : Option α := if inR x ∧ inR y ∧ y ≠ 0 then K (x.tmod y) else none
def i2l (x : Int) (K : Int → Option α) : Option α := if inR x then K x else none
def lc (x y : Int) (K : Int → Option α) : Option α := if inL x ∧ inL y then K (if y < x then 1 else if x = y then 0 else -1) else none
def bz (x : Int) (K : Option α) : Option α := if x = 0 ∨ x = 1 then K else none
def b32 (f : Int32 → Int32 → Int32) (x y : Int) : Int := (f (Int32.ofInt x) (Int32.ofInt y)).toInt
def iand (x y : Int) : Int := b32 (fun a b => a &&& b) x y
def ior (x y : Int) : Int := b32 (fun a b => a ||| b) x y
def ishl (x y : Int) : Int := b32 (fun a b => a <<< (b &&& 31)) x y
def ishr (x y : Int) : Int := b32 (fun a b => a >>> (b &&& 31)) x y
def iushr (x y : Int) : Int := b32 (fun a b => (a.toUInt32 >>> (b.toUInt32 &&& Int32.toUInt32 31)).toInt32) x y
def i2b (x : Int) : Int := (Int32.ofInt x).toInt8.toInt
def okO (P : Shp) (k : Nat) (o : Int) : Bool := match P o with | some q => q.1 == k | none => false
def okA (P : Shp) (k : Nat) (o i : Int) : Bool := match P o with | some q => q.1 == k && decide (0 ≤ i) && decide (i < q.2) | none => false
/-- a place of an object of kind k: a number; a reference that isn't null -/
def gF (P : Shp) (k : Nat) (σ : St) (o i : Int) (K : Int → Option α) : Option α := if okO P k o = true then K (σ o i) else none
def gR (P : Shp) (k : Nat) (σ : St) (o i : Int) (K : Int → Option α) : Option α := if okO P k o = true ∧ σ o i ≠ -1 then K (σ o i) else none
def pF (P : Shp) (k : Nat) (σ : St) (o i v : Int) (K : St → Option α) : Option α := if okO P k o = true then K (wr σ o i v) else none
def pZ (P : Shp) (k : Nat) (σ : St) (o i v : Int) (K : St → Option α) : Option α := if okO P k o = true ∧ (v = 0 ∨ v = 1) then K (wr σ o i v) else none
def pR (P : Shp) (k : Nat) (σ : St) (o i v : Int) (K : St → Option α) : Option α := if okO P k o = true ∧ v ≠ -1 then K (wr σ o i v) else none
def aI (P : Shp) (k : Nat) (σ : St) (o i : Int) (K : Int → Option α) : Option α := if okA P k o i = true then K (σ o i) else none
def aR (P : Shp) (k : Nat) (σ : St) (o i : Int) (K : Int → Option α) : Option α := if okA P k o i = true ∧ σ o i ≠ -1 then K (σ o i) else none
def sI (P : Shp) (k : Nat) (σ : St) (o i v : Int) (K : St → Option α) : Option α := if okA P k o i = true then K (wr σ o i v) else none
def sB (P : Shp) (k : Nat) (σ : St) (o i v : Int) (K : St → Option α) : Option α := if okA P k o i = true then K (wr σ o i (i2b v)) else none
def sZ (P : Shp) (k : Nat) (σ : St) (o i v : Int) (K : St → Option α) : Option α := if okA P k o i = true ∧ (v = 0 ∨ v = 1) then K (wr σ o i v) else none
def aL (P : Shp) (k : Nat) (o : Int) (K : Int → Option α) : Option α := match P o with | some q => if q.1 = k then K q.2 else none | none => none
def cl (f : Option β) (K : β → Option α) : Option α := match f with | some x => K x | none => none
def sw (x : Int) (K : Option α) : Option α := if inR x then K else none
theorem okO_of {P : Shp} {k : Nat} {o : Int} (h : okO P k o = true) : ∃ len, P o = some (k, len) := by
  unfold okO at h
  split at h
  · rename_i q hq; exact ⟨q.2, by rw [hq, ← (beq_iff_eq.mp h)]⟩
  · cases h
theorem okA_of {P : Shp} {k : Nat} {o i : Int} (h : okA P k o i = true) : ∃ len : Nat, P o = some (k, len) ∧ 0 ≤ i ∧ i < len := by
  unfold okA at h
  split at h
  · rename_i q hq
    simp only [Bool.and_eq_true, decide_eq_true_eq, beq_iff_eq] at h
    exact ⟨q.2, by rw [hq, ← h.1.1], h.1.2, h.2⟩
  · cases h
theorem gd {c : Prop} [Decidable c] {a : Option α} {r : α} (h : (if c then a else none) = some r) : c ∧ a = some r := by
  by_cases hc : c
  · rw [if_pos hc] at h; exact ⟨hc, h⟩
  · rw [if_neg hc] at h; cases h
theorem cellE_obj {w : Wd} {k len : Nat} {c : Int → Int} (h : k < 9) : cellE w k len c = .inr (k, fl w (fty k) 0 c) := by
  match k, h with
  | 0, _ => rfl | 1, _ => rfl | 2, _ => rfl | 3, _ => rfl | 4, _ => rfl | 5, _ => rfl | 6, _ => rfl | 7, _ => rfl | 8, _ => rfl
end VC
section VR
variable {X : Cxt} {w : Wd} {cc : ByteArray} {nL : Nat} {own : String} {ret : Option FieldType} {P : Shp} {n cells slots : Nat} {α : Type} {res : α} {K : Option α} {σ : St} {pc : Nat} {lv : List (Nat × Value)} {st : List Value}
theorem v_iconst (C : Cok X w cc nL own ret) {z : Int} (d : decode cc pc = .ok (.iconst z, 1)) (k : V X w nL P n cells slots res K σ (pc + 1) lv (I z :: st)) : V X w nL P n cells slots res K σ pc lv st :=
  fun H locs ls hR hS hl hK => lv_iconst C.1.1 C.1.2.1 d rfl (k H locs ls hR hS hl hK)
theorem v_bipush (C : Cok X w cc nL own ret) {z : Int} (d : decode cc pc = .ok (.bipush z, 2)) (hz : (Int8.ofInt z).toInt32 = Int32.ofInt z) (k : V X w nL P n cells slots res K σ (pc + 2) lv (I z :: st)) : V X w nL P n cells slots res K σ pc lv st :=
  fun H locs ls hR hS hl hK => lv_bipush C.1.1 C.1.2.1 d hz (k H locs ls hR hS hl hK)
theorem v_sipush (C : Cok X w cc nL own ret) {z : Int} (d : decode cc pc = .ok (.sipush z, 3)) (hz : (Int16.ofInt z).toInt32 = Int32.ofInt z) (k : V X w nL P n cells slots res K σ (pc + 3) lv (I z :: st)) : V X w nL P n cells slots res K σ pc lv st :=
  fun H locs ls hR hS hl hK => lv_sipush C.1.1 C.1.2.1 d hz (k H locs ls hR hS hl hK)
theorem v_lconst (C : Cok X w cc nL own ret) {z : Int} {f : Fin 2} (d : decode cc pc = .ok (.lconst f, 1)) (hz : Int64.ofNat (f : Nat) = Int64.ofInt z) (k : V X w nL P n cells slots res K σ (pc + 1) lv (J z :: st)) : V X w nL P n cells slots res K σ pc lv st :=
  fun H locs ls hR hS hl hK => lv_lconst C.1.1 C.1.2.1 d hz (k H locs ls hR hS hl hK)
theorem v_goto (C : Cok X w cc nL own ret) {off : Int} {tgt : Nat} (d : decode cc pc = .ok (.goto off, 3)) (ht : (pc : Int) + off = (tgt : Int)) (k : V X w nL P n cells slots res K σ tgt lv st) : V X w nL P n cells slots res K σ pc lv st :=
  fun H locs ls hR hS hl hK => lv_goto C.1.1 C.1.2.1 d ht (k H locs ls hR hS hl hK)
theorem v_dup (C : Cok X w cc nL own ret) {v : Value} (d : decode cc pc = .ok (.dup, 1)) (hv : v.category = 1) (k : V X w nL P n cells slots res K σ (pc + 1) lv (v :: v :: st)) : V X w nL P n cells slots res K σ pc lv (v :: st) :=
  fun H locs ls hR hS hl hK => lv_dup C.1.1 C.1.2.1 d hv (k H locs ls hR hS hl hK)
theorem v_pop (C : Cok X w cc nL own ret) {v : Value} (d : decode cc pc = .ok (.pop, 1)) (hv : v.category = 1) (k : V X w nL P n cells slots res K σ (pc + 1) lv st) : V X w nL P n cells slots res K σ pc lv (v :: st) :=
  fun H locs ls hR hS hl hK => lv_pop C.1.1 C.1.2.1 d hv (k H locs ls hR hS hl hK)
theorem v_dup2 (C : Cok X w cc nL own ret) {v u : Value} (d : decode cc pc = .ok (.dup2, 1)) (hv : v.category = 1) (hu : u.category = 1) (k : V X w nL P n cells slots res K σ (pc + 1) lv (v :: u :: v :: u :: st)) : V X w nL P n cells slots res K σ pc lv (v :: u :: st) :=
  fun H locs ls hR hS hl hK => lv_dup2_11 C.1.1 C.1.2.1 d hv hu (k H locs ls hR hS hl hK)

theorem v_iload (C : Cok X w cc nL own ret) {i j : Nat} {z : Int} (d : decode cc pc = .ok (.iload i, 2)) (h : lv[j]? = some (i, I z)) (k : V X w nL P n cells slots res K σ (pc + 2) lv (I z :: st)) : V X w nL P n cells slots res K σ pc lv st :=
  fun H locs ls hR hS hl hK => lv_iload C.1.1 C.1.2.1 d (lv_at hl j h) (k H locs ls hR hS hl hK)
theorem v_iload_n (C : Cok X w cc nL own ret) {i j : Nat} {f : Fin 4} {z : Int} (d : decode cc pc = .ok (.iload_n f, 1)) (hi : (f : Nat) = i) (h : lv[j]? = some (i, I z)) (k : V X w nL P n cells slots res K σ (pc + 1) lv (I z :: st)) : V X w nL P n cells slots res K σ pc lv st :=
  fun H locs ls hR hS hl hK => lv_iload_n C.1.1 C.1.2.1 d hi (lv_at hl j h) (k H locs ls hR hS hl hK)
theorem v_lload (C : Cok X w cc nL own ret) {i j : Nat} {z : Int} (d : decode cc pc = .ok (.lload i, 2)) (h : lv[j]? = some (i, J z)) (k : V X w nL P n cells slots res K σ (pc + 2) lv (J z :: st)) : V X w nL P n cells slots res K σ pc lv st :=
  fun H locs ls hR hS hl hK => lv_lload C.1.1 C.1.2.1 d (lv_at hl j h) (k H locs ls hR hS hl hK)
theorem v_lload_n (C : Cok X w cc nL own ret) {i j : Nat} {f : Fin 4} {z : Int} (d : decode cc pc = .ok (.lload_n f, 1)) (hi : (f : Nat) = i) (h : lv[j]? = some (i, J z)) (k : V X w nL P n cells slots res K σ (pc + 1) lv (J z :: st)) : V X w nL P n cells slots res K σ pc lv st :=
  fun H locs ls hR hS hl hK => lv_lload_n C.1.1 C.1.2.1 d hi (lv_at hl j h) (k H locs ls hR hS hl hK)
theorem v_aload (C : Cok X w cc nL own ret) {i j : Nat} {z : Int} (d : decode cc pc = .ok (.aload i, 2)) (h : lv[j]? = some (i, A w z)) (k : V X w nL P n cells slots res K σ (pc + 2) lv (A w z :: st)) : V X w nL P n cells slots res K σ pc lv st :=
  fun H locs ls hR hS hl hK => lv_aload C.1.1 C.1.2.1 d (lv_at hl j h) (k H locs ls hR hS hl hK)
theorem v_aload_n (C : Cok X w cc nL own ret) {i j : Nat} {f : Fin 4} {z : Int} (d : decode cc pc = .ok (.aload_n f, 1)) (hi : (f : Nat) = i) (h : lv[j]? = some (i, A w z)) (k : V X w nL P n cells slots res K σ (pc + 1) lv (A w z :: st)) : V X w nL P n cells slots res K σ pc lv st :=
  fun H locs ls hR hS hl hK => lv_aload_n C.1.1 C.1.2.1 d hi (lv_at hl j h) (k H locs ls hR hS hl hK)
theorem v_istore (C : Cok X w cc nL own ret) {i : Nat} {z : Int} (lv' : List (Nat × Value)) (d : decode cc pc = .ok (.istore i, 2)) (hn : i < nL) (h : (i, I z) :: lv.filter (fun q => !(q.1 == i) && !(q.1 + 1 == i && q.2.category == 2)) = lv') (k : V X w nL P n cells slots res K σ (pc + 2) lv' st) : V X w nL P n cells slots res K σ pc lv (I z :: st) :=
  fun H locs ls hR hS hl hK => lv_istore C.1.1 C.1.2.1 d hl hn h (fun ls' hl' => k H locs ls' hR hS hl' hK)
theorem v_istore_n (C : Cok X w cc nL own ret) {i : Nat} {f : Fin 4} {z : Int} (lv' : List (Nat × Value)) (d : decode cc pc = .ok (.istore_n f, 1)) (hi : (f : Nat) = i) (hn : i < nL) (h : (i, I z) :: lv.filter (fun q => !(q.1 == i) && !(q.1 + 1 == i && q.2.category == 2)) = lv') (k : V X w nL P n cells slots res K σ (pc + 1) lv' st) : V X w nL P n cells slots res K σ pc lv (I z :: st) :=
  fun H locs ls hR hS hl hK => lv_istore_n C.1.1 C.1.2.1 d hi hl hn h (fun ls' hl' => k H locs ls' hR hS hl' hK)
theorem v_astore (C : Cok X w cc nL own ret) {i : Nat} {z : Int} (lv' : List (Nat × Value)) (d : decode cc pc = .ok (.astore i, 2)) (hn : i < nL) (h : (i, A w z) :: lv.filter (fun q => !(q.1 == i) && !(q.1 + 1 == i && q.2.category == 2)) = lv') (k : V X w nL P n cells slots res K σ (pc + 2) lv' st) : V X w nL P n cells slots res K σ pc lv (A w z :: st) :=
  fun H locs ls hR hS hl hK => lv_astore C.1.1 C.1.2.1 d hl hn h (fun ls' hl' => k H locs ls' hR hS hl' hK)
theorem v_astore_n (C : Cok X w cc nL own ret) {i : Nat} {f : Fin 4} {z : Int} (lv' : List (Nat × Value)) (d : decode cc pc = .ok (.astore_n f, 1)) (hi : (f : Nat) = i) (hn : i < nL) (h : (i, A w z) :: lv.filter (fun q => !(q.1 == i) && !(q.1 + 1 == i && q.2.category == 2)) = lv') (k : V X w nL P n cells slots res K σ (pc + 1) lv' st) : V X w nL P n cells slots res K σ pc lv (A w z :: st) :=
  fun H locs ls hR hS hl hK => lv_astore_n C.1.1 C.1.2.1 d hi hl hn h (fun ls' hl' => k H locs ls' hR hS hl' hK)
theorem v_lstore (C : Cok X w cc nL own ret) {i : Nat} {z : Int} (lv' : List (Nat × Value)) (d : decode cc pc = .ok (.lstore i, 2)) (hn : i + 1 < nL) (h : (i, J z) :: lv.filter (fun q => !(q.1 == i) && (!(q.1 == i + 1) && !(q.1 + 1 == i && q.2.category == 2))) = lv') (k : V X w nL P n cells slots res K σ (pc + 2) lv' st) : V X w nL P n cells slots res K σ pc lv (J z :: st) :=
  fun H locs ls hR hS hl hK => lv_lstore C.1.1 C.1.2.1 d hl hn h (fun ls' hl' => k H locs ls' hR hS hl' hK)
theorem v_lstore_n (C : Cok X w cc nL own ret) {i : Nat} {f : Fin 4} {z : Int} (lv' : List (Nat × Value)) (d : decode cc pc = .ok (.lstore_n f, 1)) (hi : (f : Nat) = i) (hn : i + 1 < nL) (h : (i, J z) :: lv.filter (fun q => !(q.1 == i) && (!(q.1 == i + 1) && !(q.1 + 1 == i && q.2.category == 2))) = lv') (k : V X w nL P n cells slots res K σ (pc + 1) lv' st) : V X w nL P n cells slots res K σ pc lv (J z :: st) :=
  fun H locs ls hR hS hl hK => lv_lstore_n C.1.1 C.1.2.1 d hi hl hn h (fun ls' hl' => k H locs ls' hR hS hl' hK)
theorem v_iinc (C : Cok X w cc nL own ret) {i j : Nat} {z y : Int} (lv' : List (Nat × Value)) {K : Int → Option α} (d : decode cc pc = .ok (.iinc i y, 3)) (hn : i < nL) (h : lv[j]? = some (i, I z)) (h2 : ∀ x : Int, (i, I x) :: lv.filter (fun q => !(q.1 == i) && !(q.1 + 1 == i && q.2.category == 2)) = (i, I x) :: lv') (k : ∀ x : Int, V X w nL P n cells slots res (K x) σ (pc + 3) ((i, I x) :: lv') st) : V X w nL P n cells slots res (bd (z + y) K) σ pc lv st :=
  fun H locs ls hR hS hl hK => lv_iinc (x := Int32.ofInt z) (v := Int32.ofInt (z + y)) C.1.1 C.1.2.1 d hl h (Int32.ofInt_add z y).symm hn (h2 (z + y)) (fun ls' hl' => k (z + y) H locs ls' hR hS hl' hK)
/-- a name for what lies on top -/
theorem v_bdI {v : Int} {K : Int → Option α} (k : ∀ x : Int, V X w nL P n cells slots res (K x) σ pc lv (I x :: st)) : V X w nL P n cells slots res (bd v K) σ pc lv (I v :: st) := k v
theorem v_bdJ {v : Int} {K : Int → Option α} (k : ∀ x : Int, V X w nL P n cells slots res (K x) σ pc lv (J x :: st)) : V X w nL P n cells slots res (bd v K) σ pc lv (J v :: st) := k v
/-- a continuation by its name -/
theorem v_jn {γ : Type} (Z : γ → Prop) {k0 : γ} {f : γ → Option α} (hZ : Z k0) (k : ∀ j : γ, Z j → V X w nL P n cells slots res (f j) σ pc lv st) : V X w nL P n cells slots res (f k0) σ pc lv st := k k0 hZ
theorem v_iadd (C : Cok X w cc nL own ret) {x y : Int} (d : decode cc pc = .ok (.iadd, 1)) (k : V X w nL P n cells slots res K σ (pc + 1) lv (I (x + y) :: st)) : V X w nL P n cells slots res K σ pc lv (I y :: I x :: st) :=
  fun H locs ls hR hS hl hK => lv_iadd C.1.1 C.1.2.1 d (by have h := k H locs ls hR hS hl hK; unfold I at h; rw [Int32.ofInt_add x y] at h; exact h)
theorem v_isub (C : Cok X w cc nL own ret) {x y : Int} (d : decode cc pc = .ok (.isub, 1)) (k : V X w nL P n cells slots res K σ (pc + 1) lv (I (x - y) :: st)) : V X w nL P n cells slots res K σ pc lv (I y :: I x :: st) :=
  fun H locs ls hR hS hl hK => lv_isub C.1.1 C.1.2.1 d (by have h := k H locs ls hR hS hl hK; unfold I at h; rw [Int32.ofInt_sub x y] at h; exact h)
theorem v_imul (C : Cok X w cc nL own ret) {x y : Int} (d : decode cc pc = .ok (.imul, 1)) (k : V X w nL P n cells slots res K σ (pc + 1) lv (I (x * y) :: st)) : V X w nL P n cells slots res K σ pc lv (I y :: I x :: st) :=
  fun H locs ls hR hS hl hK => lv_imul C.1.1 C.1.2.1 d (by have h := k H locs ls hR hS hl hK; unfold I at h; rw [Int32.ofInt_mul x y] at h; exact h)
theorem v_ladd (C : Cok X w cc nL own ret) {x y : Int} (d : decode cc pc = .ok (.ladd, 1)) (k : V X w nL P n cells slots res K σ (pc + 1) lv (J (x + y) :: st)) : V X w nL P n cells slots res K σ pc lv (J y :: J x :: st) :=
  fun H locs ls hR hS hl hK => lv_ladd C.1.1 C.1.2.1 d (by have h := k H locs ls hR hS hl hK; unfold J at h; rw [Int64.ofInt_add x y] at h; exact h)
theorem v_lsub (C : Cok X w cc nL own ret) {x y : Int} (d : decode cc pc = .ok (.lsub, 1)) (k : V X w nL P n cells slots res K σ (pc + 1) lv (J (x - y) :: st)) : V X w nL P n cells slots res K σ pc lv (J y :: J x :: st) :=
  fun H locs ls hR hS hl hK => lv_lsub C.1.1 C.1.2.1 d (by have h := k H locs ls hR hS hl hK; unfold J at h; rw [Int64.ofInt_sub x y] at h; exact h)
theorem v_lmul (C : Cok X w cc nL own ret) {x y : Int} (d : decode cc pc = .ok (.lmul, 1)) (k : V X w nL P n cells slots res K σ (pc + 1) lv (J (x * y) :: st)) : V X w nL P n cells slots res K σ pc lv (J y :: J x :: st) :=
  fun H locs ls hR hS hl hK => lv_lmul C.1.1 C.1.2.1 d (by have h := k H locs ls hR hS hl hK; unfold J at h; rw [Int64.ofInt_mul x y] at h; exact h)
theorem v_iand (C : Cok X w cc nL own ret) {x y : Int} (d : decode cc pc = .ok (.iand, 1)) (k : V X w nL P n cells slots res K σ (pc + 1) lv (I (iand x y) :: st)) : V X w nL P n cells slots res K σ pc lv (I y :: I x :: st) :=
  fun H locs ls hR hS hl hK => lv_iand C.1.1 C.1.2.1 d (by have h := k H locs ls hR hS hl hK; unfold I iand b32 at h; rw [Int32.ofInt_toInt] at h; exact h)
theorem v_ior (C : Cok X w cc nL own ret) {x y : Int} (d : decode cc pc = .ok (.ior, 1)) (k : V X w nL P n cells slots res K σ (pc + 1) lv (I (ior x y) :: st)) : V X w nL P n cells slots res K σ pc lv (I y :: I x :: st) :=
  fun H locs ls hR hS hl hK => lv_ior C.1.1 C.1.2.1 d (by have h := k H locs ls hR hS hl hK; unfold I ior b32 at h; rw [Int32.ofInt_toInt] at h; exact h)
theorem v_ishl (C : Cok X w cc nL own ret) {x y : Int} (d : decode cc pc = .ok (.ishl, 1)) (k : V X w nL P n cells slots res K σ (pc + 1) lv (I (ishl x y) :: st)) : V X w nL P n cells slots res K σ pc lv (I y :: I x :: st) :=
  fun H locs ls hR hS hl hK => lv_ishl C.1.1 C.1.2.1 d (by have h := k H locs ls hR hS hl hK; unfold I ishl b32 at h; rw [Int32.ofInt_toInt] at h; exact h)
theorem v_ishr (C : Cok X w cc nL own ret) {x y : Int} (d : decode cc pc = .ok (.ishr, 1)) (k : V X w nL P n cells slots res K σ (pc + 1) lv (I (ishr x y) :: st)) : V X w nL P n cells slots res K σ pc lv (I y :: I x :: st) :=
  fun H locs ls hR hS hl hK => lv_ishr C.1.1 C.1.2.1 d (by have h := k H locs ls hR hS hl hK; unfold I ishr b32 at h; rw [Int32.ofInt_toInt] at h; exact h)
theorem v_iushr (C : Cok X w cc nL own ret) {x y : Int} (d : decode cc pc = .ok (.iushr, 1)) (k : V X w nL P n cells slots res K σ (pc + 1) lv (I (iushr x y) :: st)) : V X w nL P n cells slots res K σ pc lv (I y :: I x :: st) :=
  fun H locs ls hR hS hl hK => lv_iushr C.1.1 C.1.2.1 d rfl (by have h := k H locs ls hR hS hl hK; unfold I iushr b32 at h; rw [Int32.ofInt_toInt] at h; exact h)
theorem v_i2b (C : Cok X w cc nL own ret) {x : Int} (d : decode cc pc = .ok (.i2b, 1)) (k : V X w nL P n cells slots res K σ (pc + 1) lv (I (i2b x) :: st)) : V X w nL P n cells slots res K σ pc lv (I x :: st) :=
  fun H locs ls hR hS hl hK => lv_i2b C.1.1 C.1.2.1 d (show _ = Int32.ofInt (i2b x) from rfl) (k H locs ls hR hS hl hK)
theorem v_l2i (C : Cok X w cc nL own ret) {x : Int} (d : decode cc pc = .ok (.l2i, 1)) (k : V X w nL P n cells slots res K σ (pc + 1) lv (I x :: st)) : V X w nL P n cells slots res K σ pc lv (J x :: st) :=
  fun H locs ls hR hS hl hK => lv_l2i C.1.1 C.1.2.1 d Int64.toInt32_ofInt (k H locs ls hR hS hl hK)
theorem v_i2l (C : Cok X w cc nL own ret) {x : Int} {K : Int → Option α} (d : decode cc pc = .ok (.i2l, 1)) (k : ∀ x : Int, V X w nL P n cells slots res (K x) σ (pc + 1) lv (J x :: st)) : V X w nL P n cells slots res (i2l x K) σ pc lv (I x :: st) :=
  fun H locs ls hR hS hl hK => by
    obtain ⟨g, hK⟩ := gd hK
    exact lv_i2l C.1.1 C.1.2.1 d (by rw [← Int64.toInt_inj, Int32.toInt_toInt64, i32_toInt g, i64_toInt ⟨by have := g.1; omega, by have := g.2; omega⟩]) (k x H locs ls hR hS hl hK)
theorem v_idiv (C : Cok X w cc nL own ret) {x y : Int} {K : Int → Option α} (d : decode cc pc = .ok (.idiv, 1)) (k : ∀ x : Int, V X w nL P n cells slots res (K x) σ (pc + 1) lv (I x :: st)) : V X w nL P n cells slots res (dv x y K) σ pc lv (I y :: I x :: st) :=
  fun H locs ls hR hS hl hK => by
    obtain ⟨⟨g1, g2, g3⟩, hK⟩ := gd hK
    refine lv_idiv C.1.1 C.1.2.1 d (fun h => g3 ((i32_eq g2 inR0).mp h)) ?_
    have h := k _ H locs ls hR hS hl hK
    unfold I at h
    rw [Int32.ofInt_tdiv g1.1 (i32_max g1.2) g2.1 (i32_max g2.2)] at h
    exact h
theorem v_irem (C : Cok X w cc nL own ret) {x y : Int} {K : Int → Option α} (d : decode cc pc = .ok (.irem, 1)) (k : ∀ x : Int, V X w nL P n cells slots res (K x) σ (pc + 1) lv (I x :: st)) : V X w nL P n cells slots res (rm x y K) σ pc lv (I y :: I x :: st) :=
  fun H locs ls hR hS hl hK => by
    obtain ⟨⟨g1, g2, g3⟩, hK⟩ := gd hK
    refine lv_irem C.1.1 C.1.2.1 d (fun h => g3 ((i32_eq g2 inR0).mp h)) ?_
    rw [i32_rem x y g1 g2]
    exact k _ H locs ls hR hS hl hK
theorem v_lcmp (C : Cok X w cc nL own ret) {x y : Int} {K : Int → Option α} (d : decode cc pc = .ok (.lcmp, 1)) (k : ∀ x : Int, V X w nL P n cells slots res (K x) σ (pc + 1) lv (I x :: st)) : V X w nL P n cells slots res (lc x y K) σ pc lv (J y :: J x :: st) :=
  fun H locs ls hR hS hl hK => by
    obtain ⟨⟨g1, g2⟩, hK⟩ := gd hK
    refine W.lcmp C.1.1 C.1.2.1 d ?_
    have e : lg_cmp (Int64.ofInt x) (Int64.ofInt y) = Int32.ofInt (if y < x then 1 else if x = y then 0 else -1) := by
      unfold lg_cmp
      simp only [gt_iff_lt, Int64.lt_iff_toInt_lt, ← Int64.toInt_inj, i64_toInt g1, i64_toInt g2]
      split
      · rfl
      · split <;> rfl
    rw [e]
    exact k _ H locs ls hR hS hl hK
theorem v_icmp_lt (C : Cok X w cc nL own ret) {x y off : Int} {tgt : Nat} {a b : Option α} (d : decode cc pc = .ok (.if_icmp .lt off, 3)) (ht : (pc : Int) + off = (tgt : Int)) (ka : V X w nL P n cells slots res a σ tgt lv st) (kb : V X w nL P n cells slots res b σ (pc + 3) lv st) : V X w nL P n cells slots res (jlt x y a b) σ pc lv (I y :: I x :: st) :=
  fun H locs ls hR hS hl hK => by
    obtain ⟨⟨g1, g2⟩, hK⟩ := gd hK
    exact lv_icmp_lt C.1.1 C.1.2.1 d ht (fun c => ka H locs ls hR hS hl (by rw [if_pos ((i32_lt g1 g2).mp c)] at hK; exact hK)) (fun c => kb H locs ls hR hS hl (by rw [if_neg (fun z => c ((i32_lt g1 g2).mpr z))] at hK; exact hK))
theorem v_if_lt (C : Cok X w cc nL own ret) {x off : Int} {tgt : Nat} {a b : Option α} (d : decode cc pc = .ok (.ifCond .lt off, 3)) (ht : (pc : Int) + off = (tgt : Int)) (ka : V X w nL P n cells slots res a σ tgt lv st) (kb : V X w nL P n cells slots res b σ (pc + 3) lv st) : V X w nL P n cells slots res (jlt x 0 a b) σ pc lv (I x :: st) :=
  fun H locs ls hR hS hl hK => by
    obtain ⟨⟨g1, g2⟩, hK⟩ := gd hK
    exact lv_if_lt C.1.1 C.1.2.1 d ht (fun c => ka H locs ls hR hS hl (by rw [i32_0] at c; rw [if_pos ((i32_lt g1 g2).mp c)] at hK; exact hK)) (fun c => kb H locs ls hR hS hl (by rw [i32_0] at c; rw [if_neg (fun z => c ((i32_lt g1 g2).mpr z))] at hK; exact hK))
theorem v_icmp_ge (C : Cok X w cc nL own ret) {x y off : Int} {tgt : Nat} {a b : Option α} (d : decode cc pc = .ok (.if_icmp .ge off, 3)) (ht : (pc : Int) + off = (tgt : Int)) (ka : V X w nL P n cells slots res a σ tgt lv st) (kb : V X w nL P n cells slots res b σ (pc + 3) lv st) : V X w nL P n cells slots res (jge x y a b) σ pc lv (I y :: I x :: st) :=
  fun H locs ls hR hS hl hK => by
    obtain ⟨⟨g1, g2⟩, hK⟩ := gd hK
    exact lv_icmp_ge C.1.1 C.1.2.1 d ht (fun c => ka H locs ls hR hS hl (by rw [if_pos ((i32_le g2 g1).mp c)] at hK; exact hK)) (fun c => kb H locs ls hR hS hl (by rw [if_neg (fun z => c ((i32_le g2 g1).mpr z))] at hK; exact hK))
theorem v_if_ge (C : Cok X w cc nL own ret) {x off : Int} {tgt : Nat} {a b : Option α} (d : decode cc pc = .ok (.ifCond .ge off, 3)) (ht : (pc : Int) + off = (tgt : Int)) (ka : V X w nL P n cells slots res a σ tgt lv st) (kb : V X w nL P n cells slots res b σ (pc + 3) lv st) : V X w nL P n cells slots res (jge x 0 a b) σ pc lv (I x :: st) :=
  fun H locs ls hR hS hl hK => by
    obtain ⟨⟨g1, g2⟩, hK⟩ := gd hK
    exact lv_if_ge C.1.1 C.1.2.1 d ht (fun c => ka H locs ls hR hS hl (by rw [i32_0] at c; rw [if_pos ((i32_le g2 g1).mp c)] at hK; exact hK)) (fun c => kb H locs ls hR hS hl (by rw [i32_0] at c; rw [if_neg (fun z => c ((i32_le g2 g1).mpr z))] at hK; exact hK))
theorem v_icmp_gt (C : Cok X w cc nL own ret) {x y off : Int} {tgt : Nat} {a b : Option α} (d : decode cc pc = .ok (.if_icmp .gt off, 3)) (ht : (pc : Int) + off = (tgt : Int)) (ka : V X w nL P n cells slots res a σ tgt lv st) (kb : V X w nL P n cells slots res b σ (pc + 3) lv st) : V X w nL P n cells slots res (jgt x y a b) σ pc lv (I y :: I x :: st) :=
  fun H locs ls hR hS hl hK => by
    obtain ⟨⟨g1, g2⟩, hK⟩ := gd hK
    exact lv_icmp_gt C.1.1 C.1.2.1 d ht (fun c => ka H locs ls hR hS hl (by rw [if_pos ((i32_lt g2 g1).mp c)] at hK; exact hK)) (fun c => kb H locs ls hR hS hl (by rw [if_neg (fun z => c ((i32_lt g2 g1).mpr z))] at hK; exact hK))
theorem v_if_gt (C : Cok X w cc nL own ret) {x off : Int} {tgt : Nat} {a b : Option α} (d : decode cc pc = .ok (.ifCond .gt off, 3)) (ht : (pc : Int) + off = (tgt : Int)) (ka : V X w nL P n cells slots res a σ tgt lv st) (kb : V X w nL P n cells slots res b σ (pc + 3) lv st) : V X w nL P n cells slots res (jgt x 0 a b) σ pc lv (I x :: st) :=
  fun H locs ls hR hS hl hK => by
    obtain ⟨⟨g1, g2⟩, hK⟩ := gd hK
    exact lv_if_gt C.1.1 C.1.2.1 d ht (fun c => ka H locs ls hR hS hl (by rw [i32_0] at c; rw [if_pos ((i32_lt g2 g1).mp c)] at hK; exact hK)) (fun c => kb H locs ls hR hS hl (by rw [i32_0] at c; rw [if_neg (fun z => c ((i32_lt g2 g1).mpr z))] at hK; exact hK))
theorem v_icmp_le (C : Cok X w cc nL own ret) {x y off : Int} {tgt : Nat} {a b : Option α} (d : decode cc pc = .ok (.if_icmp .le off, 3)) (ht : (pc : Int) + off = (tgt : Int)) (ka : V X w nL P n cells slots res a σ tgt lv st) (kb : V X w nL P n cells slots res b σ (pc + 3) lv st) : V X w nL P n cells slots res (jle x y a b) σ pc lv (I y :: I x :: st) :=
  fun H locs ls hR hS hl hK => by
    obtain ⟨⟨g1, g2⟩, hK⟩ := gd hK
    exact lv_icmp_le C.1.1 C.1.2.1 d ht (fun c => ka H locs ls hR hS hl (by rw [if_pos ((i32_le g1 g2).mp c)] at hK; exact hK)) (fun c => kb H locs ls hR hS hl (by rw [if_neg (fun z => c ((i32_le g1 g2).mpr z))] at hK; exact hK))
theorem v_if_le (C : Cok X w cc nL own ret) {x off : Int} {tgt : Nat} {a b : Option α} (d : decode cc pc = .ok (.ifCond .le off, 3)) (ht : (pc : Int) + off = (tgt : Int)) (ka : V X w nL P n cells slots res a σ tgt lv st) (kb : V X w nL P n cells slots res b σ (pc + 3) lv st) : V X w nL P n cells slots res (jle x 0 a b) σ pc lv (I x :: st) :=
  fun H locs ls hR hS hl hK => by
    obtain ⟨⟨g1, g2⟩, hK⟩ := gd hK
    exact lv_if_le C.1.1 C.1.2.1 d ht (fun c => ka H locs ls hR hS hl (by rw [i32_0] at c; rw [if_pos ((i32_le g1 g2).mp c)] at hK; exact hK)) (fun c => kb H locs ls hR hS hl (by rw [i32_0] at c; rw [if_neg (fun z => c ((i32_le g1 g2).mpr z))] at hK; exact hK))
theorem v_icmp_eq (C : Cok X w cc nL own ret) {x y off : Int} {tgt : Nat} {a b : Option α} (d : decode cc pc = .ok (.if_icmp .eq off, 3)) (ht : (pc : Int) + off = (tgt : Int)) (ka : V X w nL P n cells slots res a σ tgt lv st) (kb : V X w nL P n cells slots res b σ (pc + 3) lv st) : V X w nL P n cells slots res (jeq x y a b) σ pc lv (I y :: I x :: st) :=
  fun H locs ls hR hS hl hK => by
    obtain ⟨⟨g1, g2⟩, hK⟩ := gd hK
    exact lv_icmp_eq C.1.1 C.1.2.1 d ht (fun c => ka H locs ls hR hS hl (by rw [if_pos ((i32_eq g1 g2).mp c)] at hK; exact hK)) (fun c => kb H locs ls hR hS hl (by rw [if_neg (fun z => c ((i32_eq g1 g2).mpr z))] at hK; exact hK))
theorem v_if_eq (C : Cok X w cc nL own ret) {x off : Int} {tgt : Nat} {a b : Option α} (d : decode cc pc = .ok (.ifCond .eq off, 3)) (ht : (pc : Int) + off = (tgt : Int)) (ka : V X w nL P n cells slots res a σ tgt lv st) (kb : V X w nL P n cells slots res b σ (pc + 3) lv st) : V X w nL P n cells slots res (jeq x 0 a b) σ pc lv (I x :: st) :=
  fun H locs ls hR hS hl hK => by
    obtain ⟨⟨g1, g2⟩, hK⟩ := gd hK
    exact lv_if_eq C.1.1 C.1.2.1 d ht (fun c => ka H locs ls hR hS hl (by rw [i32_0] at c; rw [if_pos ((i32_eq g1 g2).mp c)] at hK; exact hK)) (fun c => kb H locs ls hR hS hl (by rw [i32_0] at c; rw [if_neg (fun z => c ((i32_eq g1 g2).mpr z))] at hK; exact hK))
theorem v_icmp_ne (C : Cok X w cc nL own ret) {x y off : Int} {tgt : Nat} {a b : Option α} (d : decode cc pc = .ok (.if_icmp .ne off, 3)) (ht : (pc : Int) + off = (tgt : Int)) (ka : V X w nL P n cells slots res a σ tgt lv st) (kb : V X w nL P n cells slots res b σ (pc + 3) lv st) : V X w nL P n cells slots res (jne x y a b) σ pc lv (I y :: I x :: st) :=
  fun H locs ls hR hS hl hK => by
    obtain ⟨⟨g1, g2⟩, hK⟩ := gd hK
    exact lv_icmp_ne C.1.1 C.1.2.1 d ht (fun c => ka H locs ls hR hS hl (by rw [if_neg (fun z => c ((i32_eq g1 g2).mpr z))] at hK; exact hK)) (fun c => kb H locs ls hR hS hl (by rw [if_pos ((i32_eq g1 g2).mp c)] at hK; exact hK))
theorem v_if_ne (C : Cok X w cc nL own ret) {x off : Int} {tgt : Nat} {a b : Option α} (d : decode cc pc = .ok (.ifCond .ne off, 3)) (ht : (pc : Int) + off = (tgt : Int)) (ka : V X w nL P n cells slots res a σ tgt lv st) (kb : V X w nL P n cells slots res b σ (pc + 3) lv st) : V X w nL P n cells slots res (jne x 0 a b) σ pc lv (I x :: st) :=
  fun H locs ls hR hS hl hK => by
    obtain ⟨⟨g1, g2⟩, hK⟩ := gd hK
    exact lv_if_ne C.1.1 C.1.2.1 d ht (fun c => ka H locs ls hR hS hl (by rw [i32_0] at c; rw [if_neg (fun z => c ((i32_eq g1 g2).mpr z))] at hK; exact hK)) (fun c => kb H locs ls hR hS hl (by rw [i32_0] at c; rw [if_pos ((i32_eq g1 g2).mp c)] at hK; exact hK))
end VR
