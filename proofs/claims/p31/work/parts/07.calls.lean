/-! CONTRACTS, returns, calls. -/
section VQ
def Rp (w : Wd) (P : Shp) (n : Nat) (σ : St) (U : State) : Prop := Rep w P n σ U.heap ∧ Ks w U
abbrev Qt : Type := Array Value → State → Outcome → State → Prop
def QI (w : Wd) (P : Shp) (n : Nat) (r : Int) (σ : St) : Qt := va_Qi (fun r2 (_ : Unit) => r2 = Int32.ofInt r) (fun _ t => Rp w P n σ t) (wA w)
def QL (w : Wd) (P : Shp) (n : Nat) (r : Int) (σ : St) : Qt := va_Ql (fun r2 (_ : Unit) => r2 = Int64.ofInt r) (fun _ t => Rp w P n σ t) (wA w)
def QV (w : Wd) (P : Shp) (n : Nat) (σ : St) : Qt := va_Qv (fun (_ : Unit) => True) (fun _ t => Rp w P n σ t) (wA w)
def QR (w : Wd) (P : Shp) (n : Nat) (r : Int) (σ : St) : Qt := va_Qr (fun (_ : Unit) => True) (fun _ a t => a = ad w r ∧ Rp w P n σ t) (wA w)
/-- what a body owes -/
def Own (X : Cxt) (w : Wd) (cells slots : Nat) (Q : Qt) : Prop := X.2.2.2.2.2.2.2.2.2.2 = MQ X.2.2.2.2.2.2.2.1 Q X.2.2.2.2.2.2.1 X.2.2.2.2.1 cells slots (wA w)
def Ct (l : Launch) (w : Wd) (y : MethodName) (cc : ByteArray) (maxL : Nat) (ret : Option FieldType) (rm : Room) (P : Shp) (n : Nat) (vs : List Value) (σ : St) (Q : Qt) : Prop :=
  Met l y (Cond.code y cc maxL ret :: TB) rm (va_Pc vs (Rp w P n σ)) Q 0 0 (wA w)
theorem Ct.of {l : Launch} {w : Wd} {y : MethodName} {cc : ByteArray} {maxL : Nat} {ret : Option FieldType} {rm : Room} {P : Shp} {n : Nat} {vs : List Value} {σ : St} {Q : Qt} {α : Type} {F : Option α} {res : α} {lv : List (Nat × Value)} (hF : F = some res) (hy : plainName y.cls = true) (hlen : (lg_sl vs).length ≤ maxL) (hlv : lv_args 0 vs = lv)
    (body : ∀ X : Cxt, X.2.1 = l → X.2.2.2.1 = rm → Cok X w cc maxL y.cls ret → Own X w 0 0 Q → V X w maxL P n 0 0 res F σ 0 lv []) : Ct l w y cc maxL ret rm P n vs σ Q := by
  refine Met.ofW (cc := cc) (maxL := maxL) (ret := ret) hy rfl ?_
  intro p e s m args below meth c s₁ B hml hv
  obtain ⟨rfl, hR, hKs⟩ := hv
  have hts := atoms_spec (ws := Cond.code y cc maxL ret :: TB) B.pre
  have hC : Cok ((p, l, e, rm, s, m, vs.toArray, below, meth, c, MQ below Q vs.toArray s 0 0 (wA w)) : Cxt) w cc maxL y.cls ret :=
    ⟨⟨B.exec, B.bytes, hml, findClass_of_methodNamed B.named, fun w hw => hts w (List.mem_cons_of_mem _ hw)⟩, hKs, B.returns, B.notSynchronized, hR.2.1, by show w.1.size ≤ s.heap.size; rw [hR.1]; exact Nat.le_add_right _ _⟩
  have hl := lv_entry vs (n := maxL) hlen
  rw [hlv] at hl
  have h := body (p, l, e, rm, s, m, vs.toArray, below, meth, c, MQ below Q vs.toArray s 0 0 (wA w)) rfl rfl hC rfl s.heap [] _ hR va_S.rf hl hF
  rw [lg_entry_eq]
  exact h
end VQ
section VT
variable {X : Cxt} {w : Wd} {cc : ByteArray} {nL : Nat} {own : String} {ret : Option FieldType} {P : Shp} {n cells slots : Nat} {α : Type} {σ : St} {pc : Nat} {lv : List (Nat × Value)} {st : List Value}
theorem Rp.end {H : Heap} {t : State} (C : Cok X w cc nL own ret) (hR : Rep w P n σ H) (ht : t.heap = H) (hW : X.2.2.2.2.1.WarmedH t.vm) : Rp w P n σ t := ⟨by rw [ht]; exact hR, C.2.1.warm hW⟩
theorem v_iret (C : Cok X w cc nL own ret) {x r : Int} {σr : St} (hr : ret = some .int) (hO : Own X w cells slots (QI w P n r σr)) {res : α} {K : Option α} (hx : K = some res → x = r ∧ σ = σr) (d : decode cc pc = .ok (.ireturn, 1)) : V X w nL P n cells slots res K σ pc lv [I x] := fun H locs ls hR hS hl hK => by
  obtain ⟨rfl, rfl⟩ := hx hK
  show W _ _ _ _ _ _ _ _ _ _ _ _ _ _ X.2.2.2.2.2.2.2.2.2.2 _
  rw [hO]
  exact W.iret C.1.1 C.1.2.1 (C.2.2.1.trans hr) (fun t ht hW => ⟨⟨_, (), rfl, rfl, Rp.end C hR ht hW⟩, hS.F ht⟩) hS.2.2 d C.2.2.2.1
theorem v_zret (C : Cok X w cc nL own ret) {x r : Int} {σr : St} (hr : ret = some .boolean) (hO : Own X w cells slots (QI w P n r σr)) {res : α} {K : Option α} (hx : K = some res → x = r ∧ σ = σr) (d : decode cc pc = .ok (.ireturn, 1)) : V X w nL P n cells slots res (bz x K) σ pc lv [I x] := fun H locs ls hR hS hl hK => by
  obtain ⟨g, hK⟩ := gd hK
  obtain ⟨rfl, rfl⟩ := hx hK
  show W _ _ _ _ _ _ _ _ _ _ _ _ _ _ X.2.2.2.2.2.2.2.2.2.2 _
  rw [hO]
  exact W.zret C.1.1 C.1.2.1 (C.2.2.1.trans hr) (by rcases g with rfl | rfl <;> decide) (fun t ht hW => ⟨⟨_, (), rfl, rfl, Rp.end C hR ht hW⟩, hS.F ht⟩) hS.2.2 d C.2.2.2.1
theorem v_lret (C : Cok X w cc nL own ret) {x r : Int} {σr : St} (hr : ret = some .long) (hO : Own X w cells slots (QL w P n r σr)) {res : α} {K : Option α} (hx : K = some res → x = r ∧ σ = σr) (d : decode cc pc = .ok (.lreturn, 1)) : V X w nL P n cells slots res K σ pc lv [J x] := fun H locs ls hR hS hl hK => by
  obtain ⟨rfl, rfl⟩ := hx hK
  show W _ _ _ _ _ _ _ _ _ _ _ _ _ _ X.2.2.2.2.2.2.2.2.2.2 _
  rw [hO]
  exact W.lret C.1.1 C.1.2.1 (C.2.2.1.trans hr) (fun t ht hW => ⟨⟨_, (), rfl, rfl, Rp.end C hR ht hW⟩, hS.F ht⟩) hS.2.2 d C.2.2.2.1
theorem v_aret (C : Cok X w cc nL own ret) {x r : Int} {σr : St} {cn : String} (hr : ret = some (.object cn)) (hO : Own X w cells slots (QR w P n r σr)) {res : α} {K : Option α} (hx : K = some res → x = r ∧ σ = σr) (d : decode cc pc = .ok (.areturn, 1)) : V X w nL P n cells slots res K σ pc lv [A w x] := fun H locs ls hR hS hl hK => by
  obtain ⟨rfl, rfl⟩ := hx hK
  show W _ _ _ _ _ _ _ _ _ _ _ _ _ _ X.2.2.2.2.2.2.2.2.2.2 _
  rw [hO]
  exact W.aret C.1.1 C.1.2.1 (C.2.2.1.trans hr) (Or.inl ⟨_, rfl⟩) (Or.inr ⟨_, rfl⟩) (fun t ht hW => ⟨⟨(), _, rfl, trivial, rfl, Rp.end C hR ht hW⟩, hS.F ht⟩) hS.2.2 d C.2.2.2.1
theorem v_vret (C : Cok X w cc nL own ret) {σr : St} (hr : ret = none) (hO : Own X w cells slots (QV w P n σr)) {res : α} {K : Option α} (hx : K = some res → σ = σr) (d : decode cc pc = .ok (.return_, 1)) : V X w nL P n cells slots res K σ pc lv [] := fun H locs ls hR hS hl hK => by
  obtain rfl := hx hK
  show W _ _ _ _ _ _ _ _ _ _ _ _ _ _ X.2.2.2.2.2.2.2.2.2.2 _
  rw [hO]
  exact W.vret C.1.1 C.1.2.1 (C.2.2.1.trans hr) (fun t ht hW => ⟨⟨(), rfl, trivial, Rp.end C hR ht hW⟩, hS.F ht⟩) hS.2.2 d C.2.2.2.1
/-- what a call gives -/
def Rn (X : Cxt) (w : Wd) (n cells slots : Nat) (P : Shp) (H : Heap) (locs : List Loc) (g : JFrame) (rest : List Value) (Q : Qt) (a : Array Value) : Prop :=
  va_Run X.1 X.2.1 X.2.2.1 X.2.2.2.1 X.2.2.2.2.1 X.2.2.2.2.2.1 X.2.2.2.2.2.2.1 X.2.2.2.2.2.2.2.1 X.2.2.2.2.2.2.2.2.1 X.2.2.2.2.2.2.2.2.2.1 H locs cells slots 0 0 g rest (Q a) (wA w)
/-- the callee, as a call site needs it: its words; its class; how many arguments; its room -/
def Cee (X : Cxt) (y : MethodName) (b : ByteArray) (ml : Nat) (rt : Option FieldType) (rm : Room) (k : Nat) : Prop :=
  Cond.code y b ml rt ∈ TB ∧ Cond.initialized y.cls ∈ TB ∧ (y.cls ≠ "java/lang/invoke/MethodHandle" ∧ y.cls ≠ "java/lang/invoke/VarHandle" ∧ (parseMethodDescriptor y.desc).map (fun d => d.parameters.length) = some k) ∧ rm.cells = 0 ∧ rm.slots = 0 ∧ rm.frames + 1 ≤ X.2.2.2.1.frames ∧ 8 + (ml + 11) + rm.locals ≤ X.2.2.2.1.locals
theorem v_runV (C : Cok X w cc nL own ret) {y : MethodName} {b : ByteArray} {ml k idx : Nat} {rt : Option FieldType} {rm : Room} {Q : Qt} {o : Int} {ci len N : Nat} {Cn : String} {T : u_T} {As sk : List Value} {H : Heap} {locs : List Loc} {ls : Array Slot} (E : Cee X y b ml rt rm k) (hM : Ct X.2.1 w y b ml rt rm P n (A w o :: As) σ Q) (hl : Cond.methodLink own idx y ∈ TB) (hi : Cond.instanceMethod y ∈ TB) (hs : Cond.selects Cn y y ∈ TB) (hCn : y.cls = Cn) (hc : vwCl[ci]? = some (Cn, T, N)) (hci : ci < 9)
    (hR : Rep w P n σ H) (hP : P o = some (ci, len)) (hn : As.length = k) (hsk : sk = As.reverse ++ A w o :: st) (hsum : (st.map fun v => v.category).sum ≤ 8) (hcs : cells ≤ X.2.2.2.1.cells ∧ slots ≤ X.2.2.2.1.slots) (hls : ls.size = nL) (d : decode cc pc = .ok (.invokevirtual idx, 3)) : Rn X w n cells slots P H locs (F0 X.2.2.2.2.2.1 pc ls sk) st Q (A w o :: As).toArray := by
  obtain ⟨e1, e2, e3, e4, e5, e6, e7⟩ := E
  have ha := hR.at hP
  rw [cellE_obj hci] at ha
  subst hsk
  refine va_runV C.1 hM (cwV k C.1.2.2.2.2 (TB_wsV hl hi hs (by rw [← hCn]; exact e2) e1) rfl e4 e5 ⟨hCn, e3⟩ ⟨e6, e7⟩) ⟨?_, va_recv C.2.1.1 (P1 ha) (q0 := 0) hc rfl, fun U hU hW => ⟨rfl, by rw [hU]; exact hR, C.2.1.warm hW⟩⟩ rfl hn hls rfl (lv_room hsum) d hcs
  intro a U g mk q
  obtain ⟨q0, qR, qK⟩ := q
  exact ⟨q0, qR, qK.same rfl⟩
theorem v_runS (C : Cok X w cc nL own ret) {y : MethodName} {b : ByteArray} {ml k idx : Nat} {rt : Option FieldType} {rm : Room} {Q : Qt} {As sk : List Value} {H : Heap} {locs : List Loc} {ls : Array Slot} (E : Cee X y b ml rt rm k) (hM : Ct X.2.1 w y b ml rt rm P n As σ Q) (hl : Cond.methodLink own idx y ∈ TB) (hi : Cond.static y ∈ TB)
    (hR : Rep w P n σ H) (hn : As.length = k) (hsk : sk = As.reverse ++ st) (hsum : (st.map fun v => v.category).sum ≤ 8) (hcs : cells ≤ X.2.2.2.1.cells ∧ slots ≤ X.2.2.2.1.slots) (hls : ls.size = nL) (d : decode cc pc = .ok (.invokestatic idx, 3)) : Rn X w n cells slots P H locs (F0 X.2.2.2.2.2.1 pc ls sk) st Q As.toArray := by
  obtain ⟨e1, e2, e3, e4, e5, e6, e7⟩ := E
  subst hsk
  have hB : CallB X.2.2.2.1 X.2.2.2.2.1 X.2.2.2.2.2.2.1 own idx y b ml rt (Cond.code y b ml rt :: TB) rm 0 0 k := callB_of k C.1.2.2.2.2 (TB_good (TB_ws e1)) rfl e4 e5 (C.wd e2) (C.wd hl) e3 ⟨e6, e7⟩
  refine va_runS C.1 hM ⟨hB, C.wd hi⟩ ⟨?_, fun U hU hW => ⟨rfl, by rw [hU]; exact hR, C.2.1.warm hW⟩⟩ rfl hn hls rfl (lv_room hsum) d hcs
  intro a U g mk q
  obtain ⟨q0, qR, qK⟩ := q
  exact ⟨q0, qR, qK.same rfl⟩
variable {res : α}
theorem v_afterI {sk : List Value} {H : Heap} {locs : List Loc} {ls : Array Slot} {a : Array Value} {r : Int} {σr : St} {K : Option α} (h : Rn X w n cells slots P H locs (F0 X.2.2.2.2.2.1 pc ls sk) st (QI w P n r σr) a) (hS : va_S (wA w) X.2.2.2.2.1.heap H locs) (hR : Rep w P n σ H) (hl : lv_has ls nL lv) (hK : K = some res) (kk : V X w nL P n cells slots res K σr (pc + 3) lv (I r :: st)) : Wx X H locs cells slots (F0 X.2.2.2.2.2.1 pc ls sk) := by
  refine va_calli h hS (fun q _ h => h) (fun q h => h) (fun r2 u t H1 locs1 ht hvm hp hB hz hk hS1 => ?_)
  subst hp
  rw [← ht] at hS1 ⊢
  exact kk _ _ ls hB.1 hS1 hl hK
theorem v_afterL {sk : List Value} {H : Heap} {locs : List Loc} {ls : Array Slot} {a : Array Value} {r : Int} {σr : St} {K : Option α} (h : Rn X w n cells slots P H locs (F0 X.2.2.2.2.2.1 pc ls sk) st (QL w P n r σr) a) (hS : va_S (wA w) X.2.2.2.2.1.heap H locs) (hR : Rep w P n σ H) (hl : lv_has ls nL lv) (hK : K = some res) (kk : V X w nL P n cells slots res K σr (pc + 3) lv (J r :: st)) : Wx X H locs cells slots (F0 X.2.2.2.2.2.1 pc ls sk) := by
  refine va_calll h hS (fun q _ h => h) (fun q h => h) (fun r2 u t H1 locs1 ht hvm hp hB hz hk hS1 => ?_)
  subst hp
  rw [← ht] at hS1 ⊢
  exact kk _ _ ls hB.1 hS1 hl hK
theorem v_afterV {sk : List Value} {H : Heap} {locs : List Loc} {ls : Array Slot} {a : Array Value} {σr : St} {K : Option α} (h : Rn X w n cells slots P H locs (F0 X.2.2.2.2.2.1 pc ls sk) st (QV w P n σr) a) (hS : va_S (wA w) X.2.2.2.2.1.heap H locs) (hR : Rep w P n σ H) (hl : lv_has ls nL lv) (hK : K = some res) (kk : V X w nL P n cells slots res K σr (pc + 3) lv st) : Wx X H locs cells slots (F0 X.2.2.2.2.2.1 pc ls sk) := by
  refine va_callv h hS (fun q _ h => h) (fun q h => h) (fun u t H1 locs1 ht hvm hp hB hz hk hS1 => ?_)
  rw [← ht] at hS1 ⊢
  exact kk _ _ ls hB.1 hS1 hl hK
theorem v_afterR {sk : List Value} {H : Heap} {locs : List Loc} {ls : Array Slot} {a : Array Value} {r : Int} {σr : St} {K : Option α} (h : Rn X w n cells slots P H locs (F0 X.2.2.2.2.2.1 pc ls sk) st (QR w P n r σr) a) (hS : va_S (wA w) X.2.2.2.2.1.heap H locs) (hR : Rep w P n σ H) (hl : lv_has ls nL lv) (hK : K = some res) (kk : V X w nL P n cells slots res K σr (pc + 3) lv (A w r :: st)) : Wx X H locs cells slots (F0 X.2.2.2.2.2.1 pc ls sk) := by
  refine va_callr h hS (fun q _ h => h) (fun q h => h) (fun u ra t H1 locs1 ht hvm hp hB hz hk hS1 => ?_)
  obtain ⟨rfl, hB⟩ := hB
  rw [← ht] at hS1 ⊢
  exact kk _ _ ls hB.1 hS1 hl hK
/-- calls in the function's text: the receiver is an object of the kind -/
def onO (P : Shp) (k : Nat) (o : Int) (K : Option α) : Option α := if okO P k o = true then K else none
theorem cl_of {β : Type} {f : Option β} {K : β → Option α} {r : α} (h : cl f K = some r) : ∃ x, f = some x ∧ K x = some r := by
  cases f with
  | none => cases h
  | some x => exact ⟨x, rfl, h⟩
theorem v_callV_rI (C : Cok X w cc nL own ret) {y : MethodName} {b : ByteArray} {ml k idx ci N : Nat} {rt : Option FieldType} {rm : Room} {o : Int} {Cn : String} {T : u_T} (As : List Value) {sk : List Value} (st : List Value) {F : Option (Int)} {K : Int → Option α} (E : Cee X y b ml rt rm k) (hM : ∀ x : Int, F = some x → Ct X.2.1 w y b ml rt rm P n (A w o :: As) σ (QI w P n x σ)) (hl : Cond.methodLink own idx y ∈ TB) (hi : Cond.instanceMethod y ∈ TB) (hs : Cond.selects Cn y y ∈ TB) (hCn : y.cls = Cn) (hc : vwCl[ci]? = some (Cn, T, N)) (hci : ci < 9) (hn : As.length = k) (hsk : sk = As.reverse ++ A w o :: st) (hsum : (st.map fun v => v.category).sum ≤ 8) (hcs : cells ≤ X.2.2.2.1.cells ∧ slots ≤ X.2.2.2.1.slots) (d : decode cc pc = .ok (.invokevirtual idx, 3))
    (kk : ∀ x : Int, V X w nL P n cells slots res (K x) σ (pc + 3) lv (I x :: st)) : V X w nL P n cells slots res (onO P ci o (cl F K)) σ pc lv sk := fun H locs ls hR hS hl9 hK => by
  obtain ⟨g, hK⟩ := gd hK
  obtain ⟨len, hP⟩ := okO_of g
  obtain ⟨x, hF, hK⟩ := cl_of hK
  exact v_afterI (v_runV C E (hM x hF) hl hi hs hCn hc hci hR hP hn hsk hsum hcs hl9.1 d) hS hR hl9 hK (kk x)
theorem v_callS_rI (C : Cok X w cc nL own ret) {y : MethodName} {b : ByteArray} {ml k idx : Nat} {rt : Option FieldType} {rm : Room} (As : List Value) {sk : List Value} (st : List Value) {F : Option (Int)} {K : Int → Option α} (E : Cee X y b ml rt rm k) (hM : ∀ x : Int, F = some x → Ct X.2.1 w y b ml rt rm P n As σ (QI w P n x σ)) (hl : Cond.methodLink own idx y ∈ TB) (hi : Cond.static y ∈ TB) (hn : As.length = k) (hsk : sk = As.reverse ++ st) (hsum : (st.map fun v => v.category).sum ≤ 8) (hcs : cells ≤ X.2.2.2.1.cells ∧ slots ≤ X.2.2.2.1.slots) (d : decode cc pc = .ok (.invokestatic idx, 3))
    (kk : ∀ x : Int, V X w nL P n cells slots res (K x) σ (pc + 3) lv (I x :: st)) : V X w nL P n cells slots res (cl F K) σ pc lv sk := fun H locs ls hR hS hl9 hK => by
  obtain ⟨x, hF, hK⟩ := cl_of hK
  exact v_afterI (v_runS C E (hM x hF) hl hi hR hn hsk hsum hcs hl9.1 d) hS hR hl9 hK (kk x)
theorem v_callV_rL (C : Cok X w cc nL own ret) {y : MethodName} {b : ByteArray} {ml k idx ci N : Nat} {rt : Option FieldType} {rm : Room} {o : Int} {Cn : String} {T : u_T} (As : List Value) {sk : List Value} (st : List Value) {F : Option (Int)} {K : Int → Option α} (E : Cee X y b ml rt rm k) (hM : ∀ x : Int, F = some x → Ct X.2.1 w y b ml rt rm P n (A w o :: As) σ (QL w P n x σ)) (hl : Cond.methodLink own idx y ∈ TB) (hi : Cond.instanceMethod y ∈ TB) (hs : Cond.selects Cn y y ∈ TB) (hCn : y.cls = Cn) (hc : vwCl[ci]? = some (Cn, T, N)) (hci : ci < 9) (hn : As.length = k) (hsk : sk = As.reverse ++ A w o :: st) (hsum : (st.map fun v => v.category).sum ≤ 8) (hcs : cells ≤ X.2.2.2.1.cells ∧ slots ≤ X.2.2.2.1.slots) (d : decode cc pc = .ok (.invokevirtual idx, 3))
    (kk : ∀ x : Int, V X w nL P n cells slots res (K x) σ (pc + 3) lv (J x :: st)) : V X w nL P n cells slots res (onO P ci o (cl F K)) σ pc lv sk := fun H locs ls hR hS hl9 hK => by
  obtain ⟨g, hK⟩ := gd hK
  obtain ⟨len, hP⟩ := okO_of g
  obtain ⟨x, hF, hK⟩ := cl_of hK
  exact v_afterL (v_runV C E (hM x hF) hl hi hs hCn hc hci hR hP hn hsk hsum hcs hl9.1 d) hS hR hl9 hK (kk x)
theorem v_callS_rL (C : Cok X w cc nL own ret) {y : MethodName} {b : ByteArray} {ml k idx : Nat} {rt : Option FieldType} {rm : Room} (As : List Value) {sk : List Value} (st : List Value) {F : Option (Int)} {K : Int → Option α} (E : Cee X y b ml rt rm k) (hM : ∀ x : Int, F = some x → Ct X.2.1 w y b ml rt rm P n As σ (QL w P n x σ)) (hl : Cond.methodLink own idx y ∈ TB) (hi : Cond.static y ∈ TB) (hn : As.length = k) (hsk : sk = As.reverse ++ st) (hsum : (st.map fun v => v.category).sum ≤ 8) (hcs : cells ≤ X.2.2.2.1.cells ∧ slots ≤ X.2.2.2.1.slots) (d : decode cc pc = .ok (.invokestatic idx, 3))
    (kk : ∀ x : Int, V X w nL P n cells slots res (K x) σ (pc + 3) lv (J x :: st)) : V X w nL P n cells slots res (cl F K) σ pc lv sk := fun H locs ls hR hS hl9 hK => by
  obtain ⟨x, hF, hK⟩ := cl_of hK
  exact v_afterL (v_runS C E (hM x hF) hl hi hR hn hsk hsum hcs hl9.1 d) hS hR hl9 hK (kk x)
theorem v_callV_rV (C : Cok X w cc nL own ret) {y : MethodName} {b : ByteArray} {ml k idx ci N : Nat} {rt : Option FieldType} {rm : Room} {o : Int} {Cn : String} {T : u_T} (As : List Value) {sk : List Value} (st : List Value) {F : Option (Unit)} {K : Unit → Option α} (E : Cee X y b ml rt rm k) (hM : ∀ x : Unit, F = some x → Ct X.2.1 w y b ml rt rm P n (A w o :: As) σ (QV w P n σ)) (hl : Cond.methodLink own idx y ∈ TB) (hi : Cond.instanceMethod y ∈ TB) (hs : Cond.selects Cn y y ∈ TB) (hCn : y.cls = Cn) (hc : vwCl[ci]? = some (Cn, T, N)) (hci : ci < 9) (hn : As.length = k) (hsk : sk = As.reverse ++ A w o :: st) (hsum : (st.map fun v => v.category).sum ≤ 8) (hcs : cells ≤ X.2.2.2.1.cells ∧ slots ≤ X.2.2.2.1.slots) (d : decode cc pc = .ok (.invokevirtual idx, 3))
    (kk : ∀ x : Unit, V X w nL P n cells slots res (K x) σ (pc + 3) lv st) : V X w nL P n cells slots res (onO P ci o (cl F K)) σ pc lv sk := fun H locs ls hR hS hl9 hK => by
  obtain ⟨g, hK⟩ := gd hK
  obtain ⟨len, hP⟩ := okO_of g
  obtain ⟨x, hF, hK⟩ := cl_of hK
  exact v_afterV (v_runV C E (hM x hF) hl hi hs hCn hc hci hR hP hn hsk hsum hcs hl9.1 d) hS hR hl9 hK (kk x)
theorem v_callS_rV (C : Cok X w cc nL own ret) {y : MethodName} {b : ByteArray} {ml k idx : Nat} {rt : Option FieldType} {rm : Room} (As : List Value) {sk : List Value} (st : List Value) {F : Option (Unit)} {K : Unit → Option α} (E : Cee X y b ml rt rm k) (hM : ∀ x : Unit, F = some x → Ct X.2.1 w y b ml rt rm P n As σ (QV w P n σ)) (hl : Cond.methodLink own idx y ∈ TB) (hi : Cond.static y ∈ TB) (hn : As.length = k) (hsk : sk = As.reverse ++ st) (hsum : (st.map fun v => v.category).sum ≤ 8) (hcs : cells ≤ X.2.2.2.1.cells ∧ slots ≤ X.2.2.2.1.slots) (d : decode cc pc = .ok (.invokestatic idx, 3))
    (kk : ∀ x : Unit, V X w nL P n cells slots res (K x) σ (pc + 3) lv st) : V X w nL P n cells slots res (cl F K) σ pc lv sk := fun H locs ls hR hS hl9 hK => by
  obtain ⟨x, hF, hK⟩ := cl_of hK
  exact v_afterV (v_runS C E (hM x hF) hl hi hR hn hsk hsum hcs hl9.1 d) hS hR hl9 hK (kk x)
theorem v_callV_wI (C : Cok X w cc nL own ret) {y : MethodName} {b : ByteArray} {ml k idx ci N : Nat} {rt : Option FieldType} {rm : Room} {o : Int} {Cn : String} {T : u_T} (As : List Value) {sk : List Value} (st : List Value) {F : Option (Int × St)} {K : Int × St → Option α} (E : Cee X y b ml rt rm k) (hM : ∀ x : Int × St, F = some x → Ct X.2.1 w y b ml rt rm P n (A w o :: As) σ (QI w P n x.1 x.2)) (hl : Cond.methodLink own idx y ∈ TB) (hi : Cond.instanceMethod y ∈ TB) (hs : Cond.selects Cn y y ∈ TB) (hCn : y.cls = Cn) (hc : vwCl[ci]? = some (Cn, T, N)) (hci : ci < 9) (hn : As.length = k) (hsk : sk = As.reverse ++ A w o :: st) (hsum : (st.map fun v => v.category).sum ≤ 8) (hcs : cells ≤ X.2.2.2.1.cells ∧ slots ≤ X.2.2.2.1.slots) (d : decode cc pc = .ok (.invokevirtual idx, 3))
    (kk : ∀ x : Int × St, V X w nL P n cells slots res (K x) x.2 (pc + 3) lv (I x.1 :: st)) : V X w nL P n cells slots res (onO P ci o (cl F K)) σ pc lv sk := fun H locs ls hR hS hl9 hK => by
  obtain ⟨g, hK⟩ := gd hK
  obtain ⟨len, hP⟩ := okO_of g
  obtain ⟨x, hF, hK⟩ := cl_of hK
  exact v_afterI (v_runV C E (hM x hF) hl hi hs hCn hc hci hR hP hn hsk hsum hcs hl9.1 d) hS hR hl9 hK (kk x)
theorem v_callS_wI (C : Cok X w cc nL own ret) {y : MethodName} {b : ByteArray} {ml k idx : Nat} {rt : Option FieldType} {rm : Room} (As : List Value) {sk : List Value} (st : List Value) {F : Option (Int × St)} {K : Int × St → Option α} (E : Cee X y b ml rt rm k) (hM : ∀ x : Int × St, F = some x → Ct X.2.1 w y b ml rt rm P n As σ (QI w P n x.1 x.2)) (hl : Cond.methodLink own idx y ∈ TB) (hi : Cond.static y ∈ TB) (hn : As.length = k) (hsk : sk = As.reverse ++ st) (hsum : (st.map fun v => v.category).sum ≤ 8) (hcs : cells ≤ X.2.2.2.1.cells ∧ slots ≤ X.2.2.2.1.slots) (d : decode cc pc = .ok (.invokestatic idx, 3))
    (kk : ∀ x : Int × St, V X w nL P n cells slots res (K x) x.2 (pc + 3) lv (I x.1 :: st)) : V X w nL P n cells slots res (cl F K) σ pc lv sk := fun H locs ls hR hS hl9 hK => by
  obtain ⟨x, hF, hK⟩ := cl_of hK
  exact v_afterI (v_runS C E (hM x hF) hl hi hR hn hsk hsum hcs hl9.1 d) hS hR hl9 hK (kk x)
theorem v_callV_wV (C : Cok X w cc nL own ret) {y : MethodName} {b : ByteArray} {ml k idx ci N : Nat} {rt : Option FieldType} {rm : Room} {o : Int} {Cn : String} {T : u_T} (As : List Value) {sk : List Value} (st : List Value) {F : Option (St)} {K : St → Option α} (E : Cee X y b ml rt rm k) (hM : ∀ x : St, F = some x → Ct X.2.1 w y b ml rt rm P n (A w o :: As) σ (QV w P n x)) (hl : Cond.methodLink own idx y ∈ TB) (hi : Cond.instanceMethod y ∈ TB) (hs : Cond.selects Cn y y ∈ TB) (hCn : y.cls = Cn) (hc : vwCl[ci]? = some (Cn, T, N)) (hci : ci < 9) (hn : As.length = k) (hsk : sk = As.reverse ++ A w o :: st) (hsum : (st.map fun v => v.category).sum ≤ 8) (hcs : cells ≤ X.2.2.2.1.cells ∧ slots ≤ X.2.2.2.1.slots) (d : decode cc pc = .ok (.invokevirtual idx, 3))
    (kk : ∀ x : St, V X w nL P n cells slots res (K x) x (pc + 3) lv st) : V X w nL P n cells slots res (onO P ci o (cl F K)) σ pc lv sk := fun H locs ls hR hS hl9 hK => by
  obtain ⟨g, hK⟩ := gd hK
  obtain ⟨len, hP⟩ := okO_of g
  obtain ⟨x, hF, hK⟩ := cl_of hK
  exact v_afterV (v_runV C E (hM x hF) hl hi hs hCn hc hci hR hP hn hsk hsum hcs hl9.1 d) hS hR hl9 hK (kk x)
theorem v_callS_wV (C : Cok X w cc nL own ret) {y : MethodName} {b : ByteArray} {ml k idx : Nat} {rt : Option FieldType} {rm : Room} (As : List Value) {sk : List Value} (st : List Value) {F : Option (St)} {K : St → Option α} (E : Cee X y b ml rt rm k) (hM : ∀ x : St, F = some x → Ct X.2.1 w y b ml rt rm P n As σ (QV w P n x)) (hl : Cond.methodLink own idx y ∈ TB) (hi : Cond.static y ∈ TB) (hn : As.length = k) (hsk : sk = As.reverse ++ st) (hsum : (st.map fun v => v.category).sum ≤ 8) (hcs : cells ≤ X.2.2.2.1.cells ∧ slots ≤ X.2.2.2.1.slots) (d : decode cc pc = .ok (.invokestatic idx, 3))
    (kk : ∀ x : St, V X w nL P n cells slots res (K x) x (pc + 3) lv st) : V X w nL P n cells slots res (cl F K) σ pc lv sk := fun H locs ls hR hS hl9 hK => by
  obtain ⟨x, hF, hK⟩ := cl_of hK
  exact v_afterV (v_runS C E (hM x hF) hl hi hR hn hsk hsum hcs hl9.1 d) hS hR hl9 hK (kk x)
theorem v_callV_wR (C : Cok X w cc nL own ret) {y : MethodName} {b : ByteArray} {ml k idx ci N : Nat} {rt : Option FieldType} {rm : Room} {o : Int} {Cn : String} {T : u_T} (As : List Value) {sk : List Value} (st : List Value) {F : Option (Int × St)} {K : Int × St → Option α} (E : Cee X y b ml rt rm k) (hM : ∀ x : Int × St, F = some x → Ct X.2.1 w y b ml rt rm P n (A w o :: As) σ (QR w P n x.1 x.2)) (hl : Cond.methodLink own idx y ∈ TB) (hi : Cond.instanceMethod y ∈ TB) (hs : Cond.selects Cn y y ∈ TB) (hCn : y.cls = Cn) (hc : vwCl[ci]? = some (Cn, T, N)) (hci : ci < 9) (hn : As.length = k) (hsk : sk = As.reverse ++ A w o :: st) (hsum : (st.map fun v => v.category).sum ≤ 8) (hcs : cells ≤ X.2.2.2.1.cells ∧ slots ≤ X.2.2.2.1.slots) (d : decode cc pc = .ok (.invokevirtual idx, 3))
    (kk : ∀ x : Int × St, V X w nL P n cells slots res (K x) x.2 (pc + 3) lv (A w x.1 :: st)) : V X w nL P n cells slots res (onO P ci o (cl F K)) σ pc lv sk := fun H locs ls hR hS hl9 hK => by
  obtain ⟨g, hK⟩ := gd hK
  obtain ⟨len, hP⟩ := okO_of g
  obtain ⟨x, hF, hK⟩ := cl_of hK
  exact v_afterR (v_runV C E (hM x hF) hl hi hs hCn hc hci hR hP hn hsk hsum hcs hl9.1 d) hS hR hl9 hK (kk x)
theorem v_callS_wR (C : Cok X w cc nL own ret) {y : MethodName} {b : ByteArray} {ml k idx : Nat} {rt : Option FieldType} {rm : Room} (As : List Value) {sk : List Value} (st : List Value) {F : Option (Int × St)} {K : Int × St → Option α} (E : Cee X y b ml rt rm k) (hM : ∀ x : Int × St, F = some x → Ct X.2.1 w y b ml rt rm P n As σ (QR w P n x.1 x.2)) (hl : Cond.methodLink own idx y ∈ TB) (hi : Cond.static y ∈ TB) (hn : As.length = k) (hsk : sk = As.reverse ++ st) (hsum : (st.map fun v => v.category).sum ≤ 8) (hcs : cells ≤ X.2.2.2.1.cells ∧ slots ≤ X.2.2.2.1.slots) (d : decode cc pc = .ok (.invokestatic idx, 3))
    (kk : ∀ x : Int × St, V X w nL P n cells slots res (K x) x.2 (pc + 3) lv (A w x.1 :: st)) : V X w nL P n cells slots res (cl F K) σ pc lv sk := fun H locs ls hR hS hl9 hK => by
  obtain ⟨x, hF, hK⟩ := cl_of hK
  exact v_afterR (v_runS C E (hM x hF) hl hi hR hn hsk hsum hcs hl9.1 d) hS hR hl9 hK (kk x)
end VT
