/-! METHODS THAT THROW: contracts, rows. Exceptions by number: 0 IllegalArgumentException, 1 IllegalStateException, 2 IndexOutOfBoundsException. -/
section VE
def exN : Nat → String
  | 0 => "java/lang/IllegalArgumentException"
  | 1 => "java/lang/IllegalStateException"
  | _ => "java/lang/IndexOutOfBoundsException"
def XQI (w : Wd) (P : Shp) (n : Nat) (res : (Int × St) ⊕ Nat) : Qt := va_Qi (fun r2 (x : Int × St) => res = .inl x ∧ r2 = Int32.ofInt x.1) (fun x t => Rp w P n x.2 t) (wA w)
def XQL (w : Wd) (P : Shp) (n : Nat) (res : (Int × St) ⊕ Nat) : Qt := va_Ql (fun r2 (x : Int × St) => res = .inl x ∧ r2 = Int64.ofInt x.1) (fun x t => Rp w P n x.2 t) (wA w)
def XQV (w : Wd) (P : Shp) (n : Nat) (res : (Int × St) ⊕ Nat) : Qt := va_Qv (fun (x : Int × St) => res = .inl x) (fun x t => Rp w P n x.2 t) (wA w)
def XRV (w : Wd) (P : Shp) (n : Nat) (σ : St) (res : Int ⊕ Nat) : Qt := va_Qv (fun (x : Int) => res = .inl x) (fun _ t => Rp w P n σ t) (wA w)
abbrev Xt : Type := String → State → State → Prop
def XXC {β : Type} (w : Wd) (P : Shp) (n : Nat) (σ : St) (res : β ⊕ Nat) : Xt := vx_X (fun (_ : Unit) => True) (fun E _ t => ∃ e n' : Nat, res = .inr e ∧ E = exN e ∧ n ≤ n' ∧ Rep w P n' σ t.heap) (wA w)
def OwnX (X : Cxt) (w : Wd) (mc ms : Nat) (Q : Qt) (Z : Xt) : Prop := X.2.2.2.2.2.2.2.2.2.2 = vx_MQ X.2.2.2.2.2.2.2.1 Q Z X.2.2.2.2.2.2.1 X.2.2.2.2.1 mc ms (wA w)
def CtX (l : Launch) (w : Wd) (y : MethodName) (cc : ByteArray) (maxL : Nat) (ret : Option FieldType) (rm : Room) (mc ms : Nat) (P : Shp) (n : Nat) (vs : List Value) (σ : St) (Q : Qt) {β : Type} (res : β ⊕ Nat) : Prop :=
  vx_Met l y (Cond.code y cc maxL ret :: TB) rm (va_Pc vs (Rp w P n σ)) Q (XXC w P n σ res) mc ms (wA w)
def noT (X : Cxt) : Prop := (∀ x ∈ X.2.2.2.2.2.2.2.2.2.1.exceptionTable.toList, False) ∧ X.2.1.stackTraces = false
theorem CtX.of {l : Launch} {w : Wd} {y : MethodName} {cc : ByteArray} {maxL : Nat} {ret : Option FieldType} {rm : Room} {mc ms : Nat} {P : Shp} {n : Nat} {vs : List Value} {σ : St} {Q : Qt} {β : Type} {F : Option (β ⊕ Nat)} {res : β ⊕ Nat} {lv : List (Nat × Value)} (hst : l.stackTraces = false) (hF : F = some res) (hy : plainName y.cls = true) (hlen : (lg_sl vs).length ≤ maxL) (hlv : lv_args 0 vs = lv)
    (body : ∀ X : Cxt, X.2.1 = l → X.2.2.2.1 = rm → Cok X w cc maxL y.cls ret → noT X → X.2.2.2.2.1.heap.size = w.1.size + n → OwnX X w mc ms Q (XXC w P n σ res) → V X w maxL P n 0 0 res F σ 0 lv []) : CtX l w y cc maxL ret rm mc ms P n vs σ Q res := by
  refine vx_ofW (cc := cc) (maxL := maxL) (ret := ret) hy rfl ?_
  intro p e s m args below meth c s₁ B hml htab hv
  obtain ⟨rfl, hR, hKs⟩ := hv
  have hts := atoms_spec (ws := Cond.code y cc maxL ret :: TB) B.pre
  have hC : Cok ((p, l, e, rm, s, m, vs.toArray, below, meth, c, vx_MQ below Q (XXC w P n σ res) vs.toArray s mc ms (wA w)) : Cxt) w cc maxL y.cls ret :=
    ⟨⟨B.exec, B.bytes, hml, findClass_of_methodNamed B.named, fun w hw => hts w (List.mem_cons_of_mem _ hw)⟩, hKs, B.returns, B.notSynchronized, hR.2.1, by show w.1.size ≤ s.heap.size; rw [hR.1]; exact Nat.le_add_right _ _⟩
  have hl := lv_entry vs (n := maxL) hlen
  rw [hlv] at hl
  have h := body (p, l, e, rm, s, m, vs.toArray, below, meth, c, vx_MQ below Q (XXC w P n σ res) vs.toArray s mc ms (wA w)) rfl rfl hC ⟨htab, hst⟩ hR.1 rfl s.heap [] _ hR va_S.rf hl hF
  rw [lg_entry_eq]
  exact h
/-- calls of what may throw, in a function's text -/
def clx {β : Type} (F : Option (Int ⊕ Nat)) (K : Option (β ⊕ Nat)) : Option (β ⊕ Nat) := match F with
  | some (.inl _) => K
  | some (.inr e) => some (.inr e)
  | none => none
end VE
section VF
variable {X : Cxt} {w : Wd} {cc : ByteArray} {nL : Nat} {own : String} {ret : Option FieldType} {P : Shp} {n cells slots mc ms : Nat} {σ σ0 : St} {pc : Nat} {lv : List (Nat × Value)} {st : List Value} {Z : Xt}
theorem v_wid {α : Type} {res : α} {K : Option α} (k m : Nat) (h1 : cells ≤ k) (h2 : slots ≤ m) (kk : V X w nL P n k m res K σ pc lv st) : V X w nL P n cells slots res K σ pc lv st := fun H locs ls hR hS hl hK => W.widen h1 h2 (kk H locs ls hR hS hl hK)
theorem v_xiret {res : (Int × St) ⊕ Nat} (C : Cok X w cc nL own ret) {x : Int} (hr : ret = some .int) (hO : OwnX X w mc ms (XQI w P n res) Z) (d : decode cc pc = .ok (.ireturn, 1)) : V X w nL P n mc ms res (some (.inl (x, σ))) σ pc lv [I x] := fun H locs ls hR hS hl hK => by
  have hx := Option.some.inj hK
  show W _ _ _ _ _ _ _ _ _ _ _ _ _ _ X.2.2.2.2.2.2.2.2.2.2 _
  rw [hO]
  exact vx_ret (W.iret C.1.1 C.1.2.1 (C.2.2.1.trans hr) (fun t ht hW => ⟨⟨_, (x, σ), rfl, ⟨hx.symm, rfl⟩, Rp.end C hR ht hW⟩, hS.F ht⟩) hS.2.2 d C.2.2.2.1)
theorem v_xlret {res : (Int × St) ⊕ Nat} (C : Cok X w cc nL own ret) {x : Int} (hr : ret = some .long) (hO : OwnX X w mc ms (XQL w P n res) Z) (d : decode cc pc = .ok (.lreturn, 1)) : V X w nL P n mc ms res (some (.inl (x, σ))) σ pc lv [J x] := fun H locs ls hR hS hl hK => by
  have hx := Option.some.inj hK
  show W _ _ _ _ _ _ _ _ _ _ _ _ _ _ X.2.2.2.2.2.2.2.2.2.2 _
  rw [hO]
  exact vx_ret (W.lret C.1.1 C.1.2.1 (C.2.2.1.trans hr) (fun t ht hW => ⟨⟨_, (x, σ), rfl, ⟨hx.symm, rfl⟩, Rp.end C hR ht hW⟩, hS.F ht⟩) hS.2.2 d C.2.2.2.1)
theorem v_xvret {res : (Int × St) ⊕ Nat} (C : Cok X w cc nL own ret) (hr : ret = none) (hO : OwnX X w mc ms (XQV w P n res) Z) (d : decode cc pc = .ok (.return_, 1)) : V X w nL P n mc ms res (some (.inl (0, σ))) σ pc lv [] := fun H locs ls hR hS hl hK => by
  have hx := Option.some.inj hK
  show W _ _ _ _ _ _ _ _ _ _ _ _ _ _ X.2.2.2.2.2.2.2.2.2.2 _
  rw [hO]
  exact vx_ret (W.vret C.1.1 C.1.2.1 (C.2.2.1.trans hr) (fun t ht hW => ⟨⟨(0, σ), rfl, hx.symm, Rp.end C hR ht hW⟩, hS.F ht⟩) hS.2.2 d C.2.2.2.1)
theorem v_rvret {res : Int ⊕ Nat} (C : Cok X w cc nL own ret) (hr : ret = none) (hO : OwnX X w mc ms (XRV w P n σ res) Z) (d : decode cc pc = .ok (.return_, 1)) : V X w nL P n mc ms res (some (.inl 0)) σ pc lv [] := fun H locs ls hR hS hl hK => by
  have hx := Option.some.inj hK
  show W _ _ _ _ _ _ _ _ _ _ _ _ _ _ X.2.2.2.2.2.2.2.2.2.2 _
  rw [hO]
  exact vx_ret (W.vret C.1.1 C.1.2.1 (C.2.2.1.trans hr) (fun t ht hW => ⟨⟨0, rfl, hx.symm, Rp.end C hR ht hW⟩, hS.F ht⟩) hS.2.2 d C.2.2.2.1)
/-- the words of a throw in class ForesightHub -/
def tws (e : Nat) (ic : Nat) : List Cond := vx_atS RX7 ic (exN e) ["java/lang/RuntimeException", "java/lang/Exception"]
theorem v_throw {β : Type} {res : β ⊕ Nat} (C : Cok X w cc nL RX7 ret) (T : noT X) {Q : Qt} (hO : OwnX X w mc ms Q (XXC w P n σ res)) {e ik is ic i : Nat} {tx : String} (hk : Cond.classLink RX7 ik (exN e) ∈ TB) (hini : Cond.initialized (exN e) ∈ TB) (hfit : Bundle.fit (exN e) = true) (hstr : (RX7, is, tx, i) ∈ strs) (hat : ∀ v ∈ tws e ic, v ∈ TB ∨ v ∈ bads) (hgood : ∀ v ∈ Cond.classLink RX7 ik (exN e) :: Cond.initialized (exN e) :: tws e ic, vx_ot v = true)
    (d0 : decode cc pc = .ok (.new ik, 3)) (d3 : decode cc (pc + 3) = .ok (.dup, 1)) (d4 : decode cc (pc + 4) = .ok (.ldc is, 2)) (d6 : decode cc (pc + 6) = .ok (.invokespecial ic, 3)) (d9 : decode cc (pc + 9) = .ok (.athrow, 1)) (hRf : 6 ≤ X.2.2.2.1.frames) (hRl : 90 ≤ X.2.2.2.1.locals) (hsum : (st.map fun v => v.category).sum ≤ 8) (hRc : cells + 1 ≤ X.2.2.2.1.cells) (hRs : slots + 6 ≤ X.2.2.2.1.slots) (hc : cells + 1 ≤ mc) (hs : slots + 6 ≤ ms) : V X w nL P n cells slots res (some (.inr e)) σ pc lv st := fun H locs ls hR hS hl hK => by
  have hx := Option.some.inj hK
  have hz : ∀ a : Nat, a < w.1.size → ¬ wA w a → X.2.2.2.2.1.heap[a]? = w.1[a]? := fun a h _ => C.2.2.2.2.1 a h
  show W _ _ _ _ _ _ _ _ _ _ _ _ _ _ X.2.2.2.2.2.2.2.2.2.2 _
  rw [hO]
  refine vx_throwS (names := ["java/lang/RuntimeException", "java/lang/Exception"]) (A := wA w) C.1.1 C.1.2.1 T.2 C.1.2.2.2.1 hfit (by decide +kernel) (C.wd hk) (C.wd hini) (C.2.1.2.2.2.2.2.1 _ hstr) (fun v hv => (hat v hv).elim (fun h => C.wd h) (fun h => C.2.1.bad v h)) hgood (C.2.1.2.2.1.kept hz) (C.2.1.2.2.2.1.kept hz) hS (hl.1.trans C.1.2.2.1.symm) d0 d3 d4 d6 d9 (fun x hx => (T.1 x hx).elim) (by show 2 + 3 < _; omega) (by show _ + (13 * 3 + 43) ≤ _; omega) hRc hRs C.2.2.2.1 ?_ hS.2.2 hc hs
  intro t ht hsz hq
  refine ⟨(), trivial, ⟨e, t.heap.size - w.1.size, hx.symm, rfl, ?_, ?_⟩, ?_⟩
  · have := hR.1; omega
  · have h1 := hR.1
    refine ⟨by omega, fun q hq1 => (hq q (by omega)).trans (hR.2.1 q hq1), fun z k len hP => ?_⟩
    obtain ⟨p1, p2, p3, p4⟩ := hR.2.2 z k len hP
    exact ⟨p1, by omega, p3, p4.kept (hq _ (show w.1.size + z.toNat < H.size by omega))⟩
  · refine ⟨Nat.le_trans hS.1 hsz, fun q q1 q2 => ?_⟩
    rw [hq q (Nat.lt_of_lt_of_le q1 hS.1)]
    exact hS.2.1 q q1 q2
theorem v_throwW {β : Type} {res : β ⊕ Nat} (C : Cok X w cc nL RX7 ret) (T : noT X) {Q : Qt} (hO : OwnX X w mc ms Q (XXC w P n σ res)) {e ik is ic i : Nat} {tx : String} (hk : Cond.classLink RX7 ik (exN e) ∈ TB) (hini : Cond.initialized (exN e) ∈ TB) (hfit : Bundle.fit (exN e) = true) (hstr : (RX7, is, tx, i) ∈ strs) (hat : ∀ v ∈ tws e ic, v ∈ TB ∨ v ∈ bads) (hgood : ∀ v ∈ Cond.classLink RX7 ik (exN e) :: Cond.initialized (exN e) :: tws e ic, vx_ot v = true)
    (d0 : decode cc pc = .ok (.new ik, 3)) (d3 : decode cc (pc + 3) = .ok (.dup, 1)) (d4 : decode cc (pc + 4) = .ok (.ldc_w is, 3)) (d7 : decode cc (pc + 7) = .ok (.invokespecial ic, 3)) (d10 : decode cc (pc + 10) = .ok (.athrow, 1)) (hRf : 6 ≤ X.2.2.2.1.frames) (hRl : 90 ≤ X.2.2.2.1.locals) (hsum : (st.map fun v => v.category).sum ≤ 8) (hRc : cells + 1 ≤ X.2.2.2.1.cells) (hRs : slots + 6 ≤ X.2.2.2.1.slots) (hc : cells + 1 ≤ mc) (hs : slots + 6 ≤ ms) : V X w nL P n cells slots res (some (.inr e)) σ pc lv st := fun H locs ls hR hS hl hK => by
  have hx := Option.some.inj hK
  have hz : ∀ a : Nat, a < w.1.size → ¬ wA w a → X.2.2.2.2.1.heap[a]? = w.1[a]? := fun a h _ => C.2.2.2.2.1 a h
  show W _ _ _ _ _ _ _ _ _ _ _ _ _ _ X.2.2.2.2.2.2.2.2.2.2 _
  rw [hO]
  refine vx_throwSW (names := ["java/lang/RuntimeException", "java/lang/Exception"]) (A := wA w) C.1.1 C.1.2.1 T.2 C.1.2.2.2.1 hfit (by decide +kernel) (C.wd hk) (C.wd hini) (C.2.1.2.2.2.2.2.1 _ hstr) (fun v hv => (hat v hv).elim (fun h => C.wd h) (fun h => C.2.1.bad v h)) hgood (C.2.1.2.2.1.kept hz) (C.2.1.2.2.2.1.kept hz) hS (hl.1.trans C.1.2.2.1.symm) d0 d3 d4 d7 d10 (fun x hx => (T.1 x hx).elim) (by show 2 + 3 < _; omega) (by show _ + (13 * 3 + 43) ≤ _; omega) hRc hRs C.2.2.2.1 ?_ hS.2.2 hc hs
  intro t ht hsz hq
  refine ⟨(), trivial, ⟨e, t.heap.size - w.1.size, hx.symm, rfl, ?_, ?_⟩, ?_⟩
  · have := hR.1; omega
  · have h1 := hR.1
    refine ⟨by omega, fun q hq1 => (hq q (by omega)).trans (hR.2.1 q hq1), fun z k len hP => ?_⟩
    obtain ⟨p1, p2, p3, p4⟩ := hR.2.2 z k len hP
    exact ⟨p1, by omega, p3, p4.kept (hq _ (show w.1.size + z.toNat < H.size by omega))⟩
  · refine ⟨Nat.le_trans hS.1 hsz, fun q q1 q2 => ?_⟩
    rw [hq q (Nat.lt_of_lt_of_le q1 hS.1)]
    exact hS.2.1 q q1 q2
/-- a private method of the same object, that may throw and answers nothing -/
theorem v_callXV {β : Type} {res : β ⊕ Nat} (C : Cok X w cc nL own ret) (T : noT X) {Q : Qt} (hO : OwnX X w mc ms Q (XXC w P n σ res)) {y : MethodName} {b : ByteArray} {ml k idx ci N mc1 ms1 : Nat} {rt : Option FieldType} {rm : Room} {o : Int} {Cn : String} {Tn : u_T} (As : List Value) {sk : List Value} (st : List Value) {F : Option (Int ⊕ Nat)} {K : Option (β ⊕ Nat)} (hM : ∀ x, F = some x → CtX X.2.1 w y b ml rt rm mc1 ms1 P n (A w o :: As) σ (XRV w P n σ x) x)
    (e1 : Cond.code y b ml rt ∈ TB) (e2 : Cond.initialized y.cls ∈ TB) (e3 : y.cls ≠ "java/lang/invoke/MethodHandle" ∧ y.cls ≠ "java/lang/invoke/VarHandle" ∧ (parseMethodDescriptor y.desc).map (fun d => d.parameters.length) = some k) (e4 : rm.cells = mc1) (e5 : rm.slots = ms1) {R : Room} (hRm : X.2.2.2.1 = R) (e6 : rm.frames + 1 ≤ R.frames) (e7 : 8 + (ml + 11) + rm.locals ≤ R.locals) (hl : Cond.methodLink own idx y ∈ TB) (hi : Cond.instanceMethod y ∈ TB) (hs : Cond.selects Cn y y ∈ TB) (hCn : y.cls = Cn) (hc : vwCl[ci]? = some (Cn, Tn, N)) (hci : ci < 9) (hn : As.length = k) (hsk : sk = As.reverse ++ A w o :: st) (hsum : (st.map fun v => v.category).sum ≤ 8) (hcs : cells + mc1 ≤ R.cells ∧ slots + ms1 ≤ R.slots) (hcs2 : cells + mc1 ≤ mc ∧ slots + ms1 ≤ ms) (d : decode cc pc = .ok (.invokevirtual idx, 3))
    (kk : V X w nL P n (cells + mc1) (slots + ms1) res K σ (pc + 3) lv st) : V X w nL P n cells slots res (onO P ci o (clx F K)) σ pc lv sk := fun H locs ls hR hS hl9 hK => by
  obtain ⟨g, hK⟩ := gd hK
  obtain ⟨len, hP⟩ := okO_of g
  have ha := hR.at hP
  rw [cellE_obj hci] at ha
  subst hsk
  subst hRm
  cases hF : F with
  | none => rw [hF] at hK; cases hK
  | some x =>
    rw [hF] at hK
    have hrun := vx_runV (e := X.2.2.1) (below := X.2.2.2.2.2.2.2.1) (meth := X.2.2.2.2.2.2.2.2.1) (H := H) (locs := locs) (g := F0 X.2.2.2.2.2.1 pc ls (As.reverse ++ A w o :: st)) C.1 (hM x hF) (cwV k C.1.2.2.2.2 (TB_wsV hl hi hs (by rw [← hCn]; exact e2) e1) rfl e4 e5 ⟨hCn, e3⟩ ⟨e6, e7⟩) ⟨fun a U g mk q => ⟨q.1, q.2.1, q.2.2.same rfl⟩, va_recv C.2.1.1 (P1 ha) (q0 := 0) hc rfl, fun U hU hW => ⟨rfl, by rw [hU]; exact hR, C.2.1.warm hW⟩⟩ rfl hn hl9.1 rfl (lv_room hsum) d hcs
    refine vx_callv hrun hS (fun q _ h => h) (fun q h => h) (fun q _ h => h) (fun E ce q9 u t H1 locs1 ht hvm hp hB hz hk hS1 hc9 hv9 hcl9 => ?_) (fun u t H1 locs1 ht hvm hp hB hz hk hS1 => ?_)
    · obtain ⟨e, n', hx, rfl, hn', hR'⟩ := hB
      subst hx
      have hx2 := Option.some.inj hK
      show vx_W _ _ _ _ _ _ _ _ _ _ _ _ _ _ X.2.2.2.2.2.2.2.2.2.2 _ _
      rw [hO]
      refine vx_out (fun x hx => (T.1 x hx).elim) C.2.2.2.1 hc9 hv9 hcl9 (fun t2 ht2 _ => ⟨(), trivial, ⟨e, n', hx2.symm, rfl, hn', by rw [ht2, ← ht]; exact hR'⟩, hS1.F ht2⟩) hS1.2.2 hcs2.1 hcs2.2
    · subst hp
      rw [← ht] at hS1 ⊢
      exact kk _ _ ls hB.1 hS1 hl9 hK
end VF
