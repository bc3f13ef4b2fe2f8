/-! CONSTRUCTORS: what makes cells. -/
section VN1
variable {α : Type}
def al (P : Shp) (n k len : Nat) : Shp := fun z => if z = (n : Int) then some (k, len) else P z
def nwO (σ : St) (n k : Nat) : St := fun y j => if y = (n : Int) then (if (fty k)[j.toNat]? = some 2 then -1 else 0) else σ y j
def nwA (σ : St) (n : Nat) (v : Int) : St := fun y j => if y = (n : Int) then v else σ y j
/-- makes an object of kind k; an array of kind k -/
def mkO (P : Shp) (n : Nat) (σ : St) (k : Nat) (K : Shp → Nat → Int → St → Option α) : Option α := K (al P n k 0) (n + 1) (n : Int) (nwO σ n k)
def mkA (P : Shp) (n : Nat) (σ : St) (k : Nat) (len : Int) (K : Shp → Nat → Int → St → Option α) : Option α := if 0 ≤ len ∧ len < 100000 then K (al P n k len.toNat) (n + 1) (n : Int) (nwA σ n (if k = 13 then -1 else 0)) else none
def sR (P : Shp) (σ : St) (o i v : Int) (K : St → Option α) : Option α := if okA P 13 o i = true ∧ okO P 6 v = true then K (wr σ o i v) else none
abbrev Hs : Type := Shp × Nat × St
def CtN (l : Launch) (w : Wd) (y : MethodName) (cc : ByteArray) (maxL : Nat) (rm : Room) (mc ms : Nat) (P : Shp) (n : Nat) (vs : List Value) (σ : St) (res : Hs) : Prop :=
  Met l y (Cond.code y cc maxL none :: TB) rm (va_Pc vs (Rp w P n σ)) (QV w res.1 res.2.1 res.2.2) mc ms (wA w)
theorem Rep.new {w : Wd} {P : Shp} {n k len : Nat} {σ σ' : St} {H H1 : Heap} (h : Rep w P n σ H) (hs : H1.size = H.size + 1) (ho : ∀ q : Nat, q < H.size → H1[q]? = H[q]?) (he : va_at (wD w) vwCl (w.1.size + n, cellE w k len (σ' n)) H1) (hr : ∀ y : Int, y ≠ n → σ' y = σ y) (hlen : len < 2147483648) : Rep w (al P n k len) (n + 1) σ' H1 := by
  obtain ⟨h1, h2, h3⟩ := h
  refine ⟨by omega, fun q hq => (ho q (by omega)).trans (h2 q hq), fun z k2 l2 hz => ?_⟩
  unfold al at hz
  by_cases hzn : z = (n : Int)
  · rw [if_pos hzn] at hz
    cases hz
    subst hzn
    exact ⟨by omega, by omega, hlen, by rw [Int.toNat_natCast]; exact he⟩
  · rw [if_neg hzn] at hz
    obtain ⟨e1, e2, e3, e4⟩ := h3 z k2 l2 hz
    refine ⟨e1, by omega, e3, ?_⟩
    rw [hr z hzn]
    exact e4.kept (ho _ (show w.1.size + z.toNat < H.size by omega))
theorem nwO_o {σ : St} {n k : Nat} {y : Int} (h : y ≠ n) : nwO σ n k y = σ y := by funext j; simp [nwO, h]
theorem nwA_o {σ : St} {n : Nat} {v y : Int} (h : y ≠ n) : nwA σ n v y = σ y := by funext j; simp [nwA, h]
end VN1
section VN2
variable {X : Cxt} {w : Wd} {cc : ByteArray} {nL : Nat} {own : String} {ret : Option FieldType} {P : Shp} {n cells slots : Nat} {α : Type} {res : α} {σ : St} {pc : Nat} {lv : List (Nat × Value)} {st : List Value}
def dfOk (ci N : Nat) (ty : Nat → FieldType) : Prop := ∀ j, j < N → ∃ t, (fty ci)[j]? = some t ∧ defaultValue (ty j) = (match t with | 0 => Value.int 0 | 1 => Value.long 0 | _ => Value.null)
theorem v_new (C : Cok X w cc nL own ret) {ci N idx : Nat} {Cn : String} {T : u_T} {ty0 : Nat → FieldType} {K : Shp → Nat → Int → St → Option α} (hc : vwCl[ci]? = some (Cn, T, N)) (hin : ∀ v ∈ u_ws Cn T N, v ∈ TB) (hci : ci < 9) (hty : ∀ k, k < N → parseFieldDescriptor (T k).2.2.1 = some (ty0 k)) (hdf : dfOk ci N ty0) (h1 : Cond.classLink own idx Cn ∈ TB) (h2 : Cond.instantiable Cn N ∈ TB) (h3 : Cond.initialized Cn ∈ TB) (hcl : cells + 1 ≤ X.2.2.2.1.cells) (hsl : slots + N ≤ X.2.2.2.1.slots) (d : decode cc pc = .ok (.new idx, 3))
    (kk : ∀ (P' : Shp) (n' : Nat) (q : Int) (σ' : St), V X w nL P' n' (cells + 1) (slots + N) res (K P' n' q σ') σ' (pc + 3) lv (A w q :: st)) : V X w nL P n cells slots res (mkO P n σ ci K) σ pc lv st := fun H locs ls hR hS hl hK => by
  have hKn := C.2.1.1.1 ci _ hc
  refine W.newcK C.1.1 C.1.2.1 C.1.2.2.2.1 (C.wd h1) (C.wd h2) (C.wd h3) rfl d hcl hsl hKn.2.1 rfl fun H1 kC hkC e1 z1 o1 => ?_
  have hb := u_born ty0 C.1.2.2.2.2 hin hKn hkC e1 hty
  have hR1 : Rep w (al P n ci 0) (n + 1) (nwO σ n ci) H1 := by
    refine hR.new z1 o1 ?_ (fun y hy => nwO_o hy) (by omega)
    rw [cellE_obj hci, ← hR.1]
    refine ⟨_, hc, hb.to (fun j hj => ?_)⟩
    obtain ⟨t, ht, hdv⟩ := hdf j hj
    rw [hdv]
    unfold vp_V
    rw [List.getD_eq_getElem?_getD, fl_get _ _ _ _ ht]
    simp only [Int.zero_add, nwO, if_true, Int.toNat_natCast, ht, Option.getD_some]
    match t with
    | 0 => rfl
    | 1 => rfl
    | t + 2 =>
      show Value.null = vl w (t + 2) _
      by_cases h9 : t + 2 = 2
      · simp [h9, vl]
      · have h8 : ¬ (some (t + 2) = some 2) := fun z => h9 (Option.some.inj z)
        exfalso
        have hm := List.mem_of_getElem? ht
        have hall : ∀ c, c < 9 → ∀ v ∈ fty c, v ≤ 2 := by decide
        have := hall ci hci _ hm
        omega
  have h := kk _ _ _ _ H1 locs ls hR1 ⟨Nat.le_trans hS.1 (by omega), fun x q1 q2 => (o1 x (Nat.lt_of_lt_of_le q1 hS.1)).trans (hS.2.1 x q1 q2), hS.2.2⟩ hl hK
  unfold A at h
  rw [ad_nn (by omega), Int.toNat_natCast, ← hR.1] at h
  exact h
theorem v_newa {kd t0 bt : Nat} {aty : ArrayType} {ty : FieldType} (mk : Value) (C : Cok X w cc nL own ret) {len : Int} {K : Shp → Nat → Int → St → Option α} (hty : newarray.typeOf aty = ty) (hw : Cond.arrayClass ty ∈ TB) (ht0 : (wT w)[t0]? = some (wC w t0, ty)) (hra : ∀ U : State, va_RA U (wC w t0) ty → U.vm.findClass ("[" ++ ty.toString) = some (wC w t0)) (hcell : ∀ m : Nat, cellE w kd m (fun _ => 0) = .inl (wC w t0, m, (show (Nat → Int32) ⊕ (Nat → Int64) ⊕ (Nat → UInt32) ⊕ (Nat → UInt64) ⊕ (Nat → Option Nat) from (match cellE w kd m (fun _ => 0) with | .inl q => q.2.2 | .inr _ => .inl fun _ => 0)))) (hvp : ∀ m : Nat, va_at (wD w) vwCl (w.1.size + n, cellE w kd m (fun _ => 0)) = fun H => H[w.1.size + n]? = some (arrV (wC w t0) m (fun _ => defaultValue ty))) (hbytes : componentBytes ty ≤ 8) (hk13 : kd ≠ 13) (hL : len < 5000) (hcl : cells + 1 ≤ X.2.2.2.1.cells) (hsl : slots + len.toNat ≤ X.2.2.2.1.slots) (d : decode cc pc = .ok (.newarray aty, 2))
    (kk : ∀ (P' : Shp) (n' : Nat) (q : Int) (σ' : St), V X w nL P' n' (cells + 1) (slots + len.toNat) res (K P' n' q σ') σ' (pc + 2) lv (A w q :: st)) : V X w nL P n cells slots res (mkA P n σ kd len K) σ pc lv (I len :: st) := fun H locs ls hR hS hl hK => by
  obtain ⟨⟨g1, g2⟩, hK⟩ := gd hK
  rw [if_neg hk13] at hK
  subst hty
  refine va_newaK C.1.1 C.1.2.1 (C.wd hw) rfl d rfl (nn32 g1 (by omega)) (cl32 g1 (by omega)) (Nat.le_trans (Nat.mul_le_mul (show len.toNat ≤ 5000 by omega) hbytes) (by decide)) hcl hsl rfl fun H1 cA e1 z1 o1 hAr hNm => ?_
  have hcA : cA = wC w t0 := Option.some.inj (hNm.symm.trans (hra _ (C.2.1.1.2 t0 _ ht0).2))
  subst hcA
  have hR1 : Rep w (al P n kd len.toNat) (n + 1) (nwA σ n 0) H1 := by
    refine hR.new z1 o1 ?_ (fun y hy => nwA_o hy) (by omega)
    have e : nwA σ n 0 (n : Int) = fun _ => 0 := by funext j; simp [nwA]
    rw [e, hvp]
    show H1[w.1.size + n]? = _
    rw [← hR.1]
    exact e1
  have h := kk _ _ _ _ H1 locs ls hR1 ⟨Nat.le_trans hS.1 (by omega), fun x q1 q2 => (o1 x (Nat.lt_of_lt_of_le q1 hS.1)).trans (hS.2.1 x q1 q2), hS.2.2⟩ hl hK
  unfold A at h
  rw [ad_nn (by omega), Int.toNat_natCast, ← hR.1] at h
  exact h
theorem v_newa10 (C : Cok X w cc nL own ret) {len : Int} {K : Shp → Nat → Int → St → Option α} (hw : Cond.arrayClass .int ∈ TB) (hL : len < 5000) (hcl : cells + 1 ≤ X.2.2.2.1.cells) (hsl : slots + len.toNat ≤ X.2.2.2.1.slots) (d : decode cc pc = .ok (.newarray .int, 2))
    (kk : ∀ (P' : Shp) (n' : Nat) (q : Int) (σ' : St), V X w nL P' n' (cells + 1) (slots + len.toNat) res (K P' n' q σ') σ' (pc + 2) lv (A w q :: st)) : V X w nL P n cells slots res (mkA P n σ 10 len K) σ pc lv (I len :: st) :=
  v_newa (kd := 10) (t0 := 1) (bt := 0) (ty := .int) .null C rfl hw rfl (fun _ h => h) (fun _ => rfl) (fun _ => rfl) (by decide) (by decide) hL hcl hsl d kk
theorem v_newa11 (C : Cok X w cc nL own ret) {len : Int} {K : Shp → Nat → Int → St → Option α} (hw : Cond.arrayClass .long ∈ TB) (hL : len < 5000) (hcl : cells + 1 ≤ X.2.2.2.1.cells) (hsl : slots + len.toNat ≤ X.2.2.2.1.slots) (d : decode cc pc = .ok (.newarray .long, 2))
    (kk : ∀ (P' : Shp) (n' : Nat) (q : Int) (σ' : St), V X w nL P' n' (cells + 1) (slots + len.toNat) res (K P' n' q σ') σ' (pc + 2) lv (A w q :: st)) : V X w nL P n cells slots res (mkA P n σ 11 len K) σ pc lv (I len :: st) :=
  v_newa (kd := 11) (t0 := 2) (bt := 0) (ty := .long) .null C rfl hw rfl (fun _ h => h) (fun _ => rfl) (fun _ => rfl) (by decide) (by decide) hL hcl hsl d kk
theorem v_newa9 (C : Cok X w cc nL own ret) {len : Int} {K : Shp → Nat → Int → St → Option α} (hw : Cond.arrayClass .byte ∈ TB) (hL : len < 5000) (hcl : cells + 1 ≤ X.2.2.2.1.cells) (hsl : slots + len.toNat ≤ X.2.2.2.1.slots) (d : decode cc pc = .ok (.newarray .byte, 2))
    (kk : ∀ (P' : Shp) (n' : Nat) (q : Int) (σ' : St), V X w nL P' n' (cells + 1) (slots + len.toNat) res (K P' n' q σ') σ' (pc + 2) lv (A w q :: st)) : V X w nL P n cells slots res (mkA P n σ 9 len K) σ pc lv (I len :: st) :=
  v_newa (kd := 9) (t0 := 0) (bt := 0) (ty := .byte) .null C rfl hw rfl (fun _ h => h) (fun _ => rfl) (fun _ => rfl) (by decide) (by decide) hL hcl hsl d kk
theorem v_newa12 (C : Cok X w cc nL own ret) {len : Int} {K : Shp → Nat → Int → St → Option α} (hw : Cond.arrayClass .boolean ∈ TB) (hL : len < 5000) (hcl : cells + 1 ≤ X.2.2.2.1.cells) (hsl : slots + len.toNat ≤ X.2.2.2.1.slots) (d : decode cc pc = .ok (.newarray .boolean, 2))
    (kk : ∀ (P' : Shp) (n' : Nat) (q : Int) (σ' : St), V X w nL P' n' (cells + 1) (slots + len.toNat) res (K P' n' q σ') σ' (pc + 2) lv (A w q :: st)) : V X w nL P n cells slots res (mkA P n σ 12 len K) σ pc lv (I len :: st) :=
  v_newa (kd := 12) (t0 := 3) (bt := 0) (ty := .boolean) .null C rfl hw rfl (fun _ h => h) (fun _ => rfl) (fun _ => rfl) (by decide) (by decide) hL hcl hsl d kk
theorem v_newq (C : Cok X w cc nL own ret) {len : Int} {idx : Nat} {K : Shp → Nat → Int → St → Option α} (h1 : Cond.classLink own idx RX6 ∈ TB) (hL : len < 5000) (hcl : cells + 1 ≤ X.2.2.2.1.cells) (hsl : slots + len.toNat ≤ X.2.2.2.1.slots) (d : decode cc pc = .ok (.anewarray idx, 3))
    (kk : ∀ (P' : Shp) (n' : Nat) (q : Int) (σ' : St), V X w nL P' n' (cells + 1) (slots + len.toNat) res (K P' n' q σ') σ' (pc + 3) lv (A w q :: st)) : V X w nL P n cells slots res (mkA P n σ 13 len K) σ pc lv (I len :: st) := fun H locs ls hR hS hl hK => by
  obtain ⟨⟨g1, g2⟩, hK⟩ := gd hK
  rw [if_pos rfl] at hK
  have c1 := cl32 (x := len) g1 (by omega)
  refine W.anew C.1.1 C.1.2.1 C.1.2.2.2.1 (C.wd h1) (va_AO.use C.2.1.2.2.2.2.2.2.2.1) rfl d rfl (nn32 g1 (by omega)) (by rw [c1]; omega) hcl (by rw [c1]; exact hsl) fun cA kA comp f1 f2 f3 f4 => ?_
  rw [c1]
  obtain ⟨kA2, comp2, q1, q2, q3, q4⟩ := (C.2.1.1.2 4 _ rfl).2
  have hcA : cA = wC w 4 := Option.some.inj (f1.symm.trans q4)
  subst hcA
  generalize hH1 : H.push ({ cls := wC w 4, slots := Array.replicate len.toNat .null, vm := .none } : Cell) = H1
  have z1 : H1.size = H.size + 1 := by rw [← hH1, Array.size_push]
  have e1 : H1[H.size]? = some (arrV (wC w 4) len.toNat (fun _ => .null)) := by rw [← hH1, Array.getElem?_push_size, ← arrV_new]
  have o1 : ∀ q : Nat, q < H.size → H1[q]? = H[q]? := fun q hq => by rw [← hH1, Array.getElem?_push, if_neg (Nat.ne_of_lt hq)]
  have hR1 : Rep w (al P n 13 len.toNat) (n + 1) (nwA σ n (-1)) H1 := by
    refine hR.new z1 o1 ?_ (fun y hy => nwA_o hy) (by omega)
    have e : nwA σ n (-1) (n : Int) = fun _ => -1 := by funext j; simp [nwA]
    rw [e]
    show H1[w.1.size + n]? = some (arrV (wC w 4) len.toNat (fun _ => va_rf (if (-1 : Int) = -1 then none else some (ad w (-1)))))
    rw [← hR.1, if_pos rfl]
    exact e1
  have h := kk _ _ _ _ H1 locs ls hR1 ⟨Nat.le_trans hS.1 (by omega), fun x q1 q2 => (o1 x (Nat.lt_of_lt_of_le q1 hS.1)).trans (hS.2.1 x q1 q2), hS.2.2⟩ hl hK
  unfold A at h
  rw [ad_nn (by omega), Int.toNat_natCast, ← hR.1] at h
  exact h
theorem v_aast (C : Cok X w cc nL own ret) {o i x : Int} {K : St → Option α} (d : decode cc pc = .ok (.aastore, 1)) (kk : ∀ σ' : St, V X w nL P n cells slots res (K σ') σ' (pc + 1) lv st) : V X w nL P n cells slots res (sR P σ o i x K) σ pc lv (A w x :: I i :: A w o :: st) := fun H locs ls hR hS hl hK => by
  obtain ⟨⟨g, g2⟩, hK⟩ := gd hK
  obtain ⟨len, hP, h0, h1⟩ := okA_of g
  obtain ⟨l6, hP6⟩ := okO_of g2
  have hL := hR.len hP
  have ha : H[ad w o]? = some (arrV (wC w 4) len (fun j => va_rf (if σ o (j : Int) = -1 then none else some (ad w (σ o (j : Int)))))) := hR.at hP
  obtain ⟨r', hr', cellV, q1, q2, q3, -⟩ := hR.at hP6
  have hcls := (C.2.1.1.1 6 _ rfl).2
  obtain ⟨kA, comp, k1, k2, k3, -⟩ := (C.2.1.1.2 4 _ rfl).2
  have hcomp : comp = (wD w).1 6 := Option.some.inj (k3.symm.trans hcls.1)
  subst hcomp
  obtain ⟨kC, hkC, -⟩ := hcls.2
  have hlt : (Int32.ofInt i).toNatClampNeg < len := by rw [i32_clamp h0 h1 hL]; omega
  refine W.aast C.1.1 C.1.2.1 ha (fun q h => by cases h) (fun h => by cases h) k1 k2 rfl hkC ⟨nn32 h0 (by omega), by show _ < (arrV _ _ _).slots.size; rw [arrV_size]; exact hlt⟩ q1 (fun q h => by rw [q3] at h; cases h) (by rw [q2]; exact hkC) (by rw [q2]; exact va_assign hcls) rfl rfl d fun H1 e z oq => ?_
  refine kk _ H1 _ ls (hR.put hP z oq ?_ (fun y hy => wr_o hy)) (wS_put hS z oq (hR.nn hP)) hl hK
  show H1[ad w o]? = some (arrV (wC w 4) len (fun j => va_rf (if wr σ o i x o (j : Int) = -1 then none else some (ad w (wr σ o i x o (j : Int))))))
  rw [e, arrV_store]
  congr 2
  funext q
  rw [i32_clamp h0 h1 hL]
  have hx0 := hR.nn hP6
  by_cases hq : q = i.toNat
  · have h9 : ((q : Nat) : Int) = i := by omega
    simp only [updV, if_pos hq, wr, h9, and_self, if_true]
    rw [if_neg (by omega)]
    rfl
  · have h9 : ¬ ((q : Nat) : Int) = i := by omega
    simp only [updV, if_neg hq, wr, h9, and_false, if_false]
theorem v_oinit {K : Option α} (C : Cok X w cc nL own ret) {idx : Nat} {o : Int} (h1 : Cond.methodLink own idx Lib.objectInit ∈ TB) (h2 : Cond.instanceMethod Lib.objectInit ∈ TB) (h3 : Cond.code Lib.objectInit ⟨#[0xb1]⟩ 1 none ∈ TB) (hf : 1 ≤ X.2.2.2.1.frames) (hlo : 40 ≤ X.2.2.2.1.locals) (hsum : (st.map fun v => v.category).sum ≤ 8) (d : decode cc pc = .ok (.invokespecial idx, 3)) (kk : V X w nL P n cells slots res K σ (pc + 3) lv st) : V X w nL P n cells slots res K σ pc lv (A w o :: st) := fun H locs ls hR hS hl hK =>
  W.objInit C.1.1 C.1.2.1 C.1.2.2.2.1 (C.wd h1) (C.wd h2) (C.wd h3) rfl (by rw [C.1.2.2.1]; exact hl.1) rfl d hf (by show 2 * 0 + _ + 12 ≤ _; omega) (kk H locs ls hR hS hl hK)
theorem v_callN (C : Cok X w cc nL own ret) {y : MethodName} {b : ByteArray} {ml k idx mc1 ms1 : Nat} {rm R : Room} {o : Int} (As : List Value) {sk : List Value} (st : List Value) {F : Option Hs} {K : Hs → Option α} (hM : ∀ x : Hs, F = some x → CtN X.2.1 w y b ml rm mc1 ms1 P n (A w o :: As) σ x) (hy : y.name = "<init>") (e1 : Cond.code y b ml none ∈ TB) (e2 : Cond.initialized y.cls ∈ TB) (e3 : y.cls ≠ "java/lang/invoke/MethodHandle" ∧ y.cls ≠ "java/lang/invoke/VarHandle" ∧ (parseMethodDescriptor y.desc).map (fun d => d.parameters.length) = some k) (e4 : rm.cells = mc1) (e5 : rm.slots = ms1) (hRm : X.2.2.2.1 = R) (e6 : rm.frames + 1 ≤ R.frames) (e7 : 8 + (ml + 11) + rm.locals ≤ R.locals) (hl : Cond.methodLink own idx y ∈ TB) (hi : Cond.instanceMethod y ∈ TB) (hn : As.length = k) (hsk : sk = As.reverse ++ A w o :: st) (hsum : (st.map fun v => v.category).sum ≤ 8) (hcs : cells + mc1 ≤ R.cells ∧ slots + ms1 ≤ R.slots) (d : decode cc pc = .ok (.invokespecial idx, 3))
    (kk : ∀ (P' : Shp) (n' : Nat) (σ' : St), V X w nL P' n' (cells + mc1) (slots + ms1) res (K (P', n', σ')) σ' (pc + 3) lv st) : V X w nL P n cells slots res (cl F K) σ pc lv sk := fun H locs ls hR hS hl9 hK => by
  obtain ⟨x, hF, hK⟩ := cl_of hK
  subst hsk
  subst hRm
  have hB : CallB X.2.2.2.1 X.2.2.2.2.1 X.2.2.2.2.2.2.1 own idx y b ml none (Cond.code y b ml none :: TB) rm mc1 ms1 k := callB_of k C.1.2.2.2.2 (TB_good (TB_ws e1)) rfl e4 e5 (C.wd e2) (C.wd hl) e3 ⟨e6, e7⟩
  have hrun := va_runI (e := X.2.2.1) (below := X.2.2.2.2.2.2.2.1) (meth := X.2.2.2.2.2.2.2.2.1) (H := H) (locs := locs) (g := F0 X.2.2.2.2.2.1 pc ls (As.reverse ++ A w o :: st)) C.1 (hM x hF) ⟨hB, hy, C.wd hi⟩ ⟨fun a U g mk q => ⟨q.1, q.2.1, q.2.2.same rfl⟩, fun U hU hW => ⟨rfl, by rw [hU]; exact hR, C.2.1.warm hW⟩⟩ rfl hn hl9.1 rfl (lv_room hsum) d hcs
  refine va_callv hrun hS (fun q _ h => h) (fun q h => h) (fun u t H1 locs1 ht hvm hp hB hz hk hS1 => ?_)
  rw [← ht] at hS1 ⊢
  exact kk x.1 x.2.1 x.2.2 _ _ ls hB.1 hS1 hl9 hK
theorem v_callNN (C : Cok X w cc nL own ret) {host : String} {y : MethodName} {b : ByteArray} {ml k idx mc1 ms1 : Nat} {rm R : Room} {o : Int} (As : List Value) {sk : List Value} (st : List Value) {F : Option Hs} {K : Hs → Option α} (hM : ∀ x : Hs, F = some x → CtN X.2.1 w y b ml rm mc1 ms1 P n (A w o :: As) σ x) (hy : y.name = "<init>") (e1 : Cond.code y b ml none ∈ TB) (e2 : Cond.initialized y.cls ∈ TB) (e3 : y.cls ≠ "java/lang/invoke/MethodHandle" ∧ y.cls ≠ "java/lang/invoke/VarHandle" ∧ (parseMethodDescriptor y.desc).map (fun d => d.parameters.length) = some k) (e4 : rm.cells = mc1) (e5 : rm.slots = ms1) (hRm : X.2.2.2.1 = R) (e6 : rm.frames + 1 ≤ R.frames) (e7 : 8 + (ml + 11) + rm.locals ≤ R.locals) (hl : (own, idx, y, host) ∈ nests) (hi : Cond.instanceMethod y ∈ TB) (hn : As.length = k) (hsk : sk = As.reverse ++ A w o :: st) (hsum : (st.map fun v => v.category).sum ≤ 8) (hcs : cells + mc1 ≤ R.cells ∧ slots + ms1 ≤ R.slots) (d : decode cc pc = .ok (.invokespecial idx, 3))
    (kk : ∀ (P' : Shp) (n' : Nat) (σ' : St), V X w nL P' n' (cells + mc1) (slots + ms1) res (K (P', n', σ')) σ' (pc + 3) lv st) : V X w nL P n cells slots res (cl F K) σ pc lv sk := fun H locs ls hR hS hl9 hK => by
  obtain ⟨x, hF, hK⟩ := cl_of hK
  subst hsk
  subst hRm
  have hrun := va_runIN (e := X.2.2.1) (below := X.2.2.2.2.2.2.2.1) (meth := X.2.2.2.2.2.2.2.2.1) (H := H) (locs := locs) (g := F0 X.2.2.2.2.2.1 pc ls (As.reverse ++ A w o :: st)) C.1 (hM x hF) ⟨va_cnB k C.1.2.2.2.2 (TB_good (TB_ws e1)) rfl e4 e5 (C.2.1.2.2.2.2.2.2.1 _ hl) (C.wd e2) e3 ⟨e6, e7⟩, hy, C.wd hi⟩ ⟨fun a U g mk q => ⟨q.1, q.2.1, q.2.2.same rfl⟩, fun U hU hW => ⟨rfl, by rw [hU]; exact hR, C.2.1.warm hW⟩⟩ rfl hn hl9.1 rfl (lv_room hsum) d hcs
  refine va_callv hrun hS (fun q _ h => h) (fun q h => h) (fun u t H1 locs1 ht hvm hp hB hz hk hS1 => ?_)
  rw [← ht] at hS1 ⊢
  exact kk x.1 x.2.1 x.2.2 _ _ ls hB.1 hS1 hl9 hK
/-- a constructor's start and end -/
theorem CtN.of {l : Launch} {w : Wd} {y : MethodName} {cc : ByteArray} {maxL : Nat} {rm : Room} {mc ms : Nat} {P : Shp} {n : Nat} {vs : List Value} {σ : St} {F : Option Hs} {res : Hs} {lv : List (Nat × Value)} (hF : F = some res) (hy : plainName y.cls = true) (hlen : (lg_sl vs).length ≤ maxL) (hlv : lv_args 0 vs = lv)
    (body : ∀ X : Cxt, X.2.1 = l → X.2.2.2.1 = rm → Cok X w cc maxL y.cls none → X.2.2.2.2.2.2.2.2.1.name = y.name → Own X w mc ms (QV w res.1 res.2.1 res.2.2) → V X w maxL P n 0 0 res F σ 0 lv []) : CtN l w y cc maxL rm mc ms P n vs σ res := by
  refine Met.ofW (cc := cc) (maxL := maxL) (ret := none) hy rfl ?_
  intro p e s m args below meth c s₁ B hml hv
  obtain ⟨rfl, hR, hKs⟩ := hv
  have hts := atoms_spec (ws := Cond.code y cc maxL none :: TB) B.pre
  have hC : Cok ((p, l, e, rm, s, m, vs.toArray, below, meth, c, MQ below (QV w res.1 res.2.1 res.2.2) vs.toArray s mc ms (wA w)) : Cxt) w cc maxL y.cls none :=
    ⟨⟨B.exec, B.bytes, hml, findClass_of_methodNamed B.named, fun w hw => hts w (List.mem_cons_of_mem _ hw)⟩, hKs, B.returns, B.notSynchronized, hR.2.1, by show w.1.size ≤ s.heap.size; rw [hR.1]; exact Nat.le_add_right _ _⟩
  have hl := lv_entry vs (n := maxL) hlen
  rw [hlv] at hl
  have h := body (p, l, e, rm, s, m, vs.toArray, below, meth, c, MQ below (QV w res.1 res.2.1 res.2.2) vs.toArray s mc ms (wA w)) rfl rfl hC (name_of_methodNamed B.named B.method).1 rfl s.heap [] _ hR va_S.rf hl hF
  rw [lg_entry_eq]
  exact h
theorem v_nret (C : Cok X w cc nL own ret) {mc ms : Nat} {res : Hs} (hr : ret = none) (hO : Own X w mc ms (QV w res.1 res.2.1 res.2.2)) (h1 : cells ≤ mc) (h2 : slots ≤ ms) (d : decode cc pc = .ok (.return_, 1)) : V X w nL P n cells slots res (some (P, n, σ)) σ pc lv [] := v_wid mc ms h1 h2 fun H locs ls hR hS hl hK => by
  have hx := Option.some.inj hK
  subst hx
  show W _ _ _ _ _ _ _ _ _ _ _ _ _ _ X.2.2.2.2.2.2.2.2.2.2 _
  rw [hO]
  exact W.vret C.1.1 C.1.2.1 (C.2.2.1.trans hr) (fun t ht hW => ⟨⟨(), rfl, trivial, Rp.end C hR ht hW⟩, hS.F ht⟩) hS.2.2 d C.2.2.2.1
theorem v_icmp_geF (C : Cok X w cc nL own ret) {x y off : Int} {tgt : Nat} {a b : Option α} (d : decode cc pc = .ok (.if_icmp .ge off, 3)) (ht : (pc : Int) + off = (tgt : Int)) (ka : y ≤ x → V X w nL P n cells slots res a σ tgt lv st) (kb : x < y → V X w nL P n cells slots res b σ (pc + 3) lv st) : V X w nL P n cells slots res (jge x y a b) σ pc lv (I y :: I x :: st) :=
  fun H locs ls hR hS hl hK => by
    have hK0 := hK
    obtain ⟨⟨g1, g2⟩, hK⟩ := gd hK
    by_cases c : y ≤ x
    · exact v_icmp_ge C d ht (ka c) (b := none) v_none H locs ls hR hS hl (by unfold jge; rw [if_pos ⟨g1, g2⟩, if_pos c]; rw [if_pos c] at hK; exact hK)
    · exact v_icmp_ge C d ht (a := none) v_none (kb (by omega)) H locs ls hR hS hl (by unfold jge; rw [if_pos ⟨g1, g2⟩, if_neg c]; rw [if_neg c] at hK; exact hK)
theorem v_iincE (C : Cok X w cc nL own ret) {i j : Nat} {z y : Int} (lv' : List (Nat × Value)) {K : Int → Option α} (d : decode cc pc = .ok (.iinc i y, 3)) (hn : i < nL) (h : lv[j]? = some (i, I z)) (h2 : ∀ x : Int, (i, I x) :: lv.filter (fun q => !(q.1 == i) && !(q.1 + 1 == i && q.2.category == 2)) = (i, I x) :: lv') (k : V X w nL P n cells slots res (K (z + y)) σ (pc + 3) ((i, I (z + y)) :: lv') st) : V X w nL P n cells slots res (bd (z + y) K) σ pc lv st :=
  fun H locs ls hR hS hl hK => lv_iinc (x := Int32.ofInt z) (v := Int32.ofInt (z + y)) C.1.1 C.1.2.1 d hl h (Int32.ofInt_add z y).symm hn (h2 (z + y)) (fun ls' hl' => k H locs ls' hR hS hl' hK)
end VN2
