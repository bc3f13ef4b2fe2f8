/-! THE LAW'S WRAPPERS: a call in a try block. -/
section VW1
/-- a try block's call in a function's text -/
def trc {α : Type} (P : Shp) (o : Int) (F : Option ((Int × St) ⊕ Nat)) (K : Int × St → Option α) (E : Nat → Option α) : Option α := onO P 7 o (match F with
  | some (.inl x) => K x
  | some (.inr e) => E e
  | none => none)
def QW (w : Wd) (P : Shp) (n : Nat) (res : Int × St) : Qt := va_Qi (fun r2 (x : Nat) => r2 = Int32.ofInt res.1 ∧ n ≤ x) (fun x t => Rp w P x res.2 t) (wA w)
def XN (w : Wd) : Xt := vx_X (fun (_ : Unit) => False) (fun _ _ _ => False) (wA w)
def CtW (l : Launch) (w : Wd) (y : MethodName) (cc : ByteArray) (maxL : Nat) (hh : List (Nat × Nat × Nat × Nat)) (rm : Room) (mc ms : Nat) (P : Shp) (n : Nat) (vs : List Value) (σ : St) (res : Int × St) : Prop :=
  vx_Met l y (Cond.codeWith y cc maxL (some .int) hh :: TB) rm (va_Pc vs (Rp w P n σ)) (QW w P n res) (XN w) mc ms (wA w)
theorem CtW.of {l : Launch} {w : Wd} {y : MethodName} {cc : ByteArray} {maxL : Nat} {hh : List (Nat × Nat × Nat × Nat)} {rm : Room} {mc ms : Nat} {P : Shp} {n : Nat} {vs : List Value} {σ : St} {F : Option (Int × St)} {res : Int × St} {lv : List (Nat × Value)} (hF : F = some res) (hy : plainName y.cls = true) (hlen : (lg_sl vs).length ≤ maxL) (hlv : lv_args 0 vs = lv)
    (body : ∀ X : Cxt, X.2.1 = l → X.2.2.2.1 = rm → Cok X w cc maxL y.cls (some .int) → X.2.2.2.2.2.2.2.2.2.1.exceptionTable.toList = tableOf hh → OwnX X w mc ms (QW w P n res) (XN w) → V X w maxL P n 0 0 res F σ 0 lv []) : CtW l w y cc maxL hh rm mc ms P n vs σ res := by
  refine vx_ofWH (cc := cc) (maxL := maxL) (ret := some .int) (hh := hh) hy rfl ?_
  intro p e s m args below meth c s₁ B hml hv
  obtain ⟨rfl, hR, hKs⟩ := hv
  have hts := atoms_spec (ws := Cond.codeWith y cc maxL (some .int) hh :: TB) B.pre
  have htab := vx_table (x := y) B (hts _ List.mem_cons_self)
  have hC : Cok ((p, l, e, rm, s, m, vs.toArray, below, meth, c, vx_MQ below (QW w P n res) (XN w) vs.toArray s mc ms (wA w)) : Cxt) w cc maxL y.cls (some .int) :=
    ⟨⟨B.exec, B.bytes, hml, findClass_of_methodNamed B.named, fun w hw => hts w (List.mem_cons_of_mem _ hw)⟩, hKs, B.returns, B.notSynchronized, hR.2.1, by show w.1.size ≤ s.heap.size; rw [hR.1]; exact Nat.le_add_right _ _⟩
  have hl := lv_entry vs (n := maxL) hlen
  rw [hlv] at hl
  have h := body (p, l, e, rm, s, m, vs.toArray, below, meth, c, vx_MQ below (QW w P n res) (XN w) vs.toArray s mc ms (wA w)) rfl rfl hC htab rfl s.heap [] _ hR va_S.rf hl hF
  rw [lg_entry_eq]
  exact h
end VW1
section VW2
variable {X : Cxt} {w : Wd} {cc : ByteArray} {nL : Nat} {own : String} {ret : Option FieldType} {P : Shp} {n n0 cells slots mc ms : Nat} {σ : St} {pc : Nat} {lv : List (Nat × Value)} {st : List Value}
theorem v_wiret {res : Int × St} (C : Cok X w cc nL own ret) {x : Int} (hn : n0 ≤ n) (hr : ret = some .int) (hO : OwnX X w mc ms (QW w P n0 res) (XN w)) (d : decode cc pc = .ok (.ireturn, 1)) : V X w nL P n mc ms res (some (x, σ)) σ pc lv [I x] := fun H locs ls hR hS hl hK => by
  have hx := Option.some.inj hK
  subst hx
  show W _ _ _ _ _ _ _ _ _ _ _ _ _ _ X.2.2.2.2.2.2.2.2.2.2 _
  rw [hO]
  exact vx_ret (W.iret C.1.1 C.1.2.1 (C.2.2.1.trans hr) (fun t ht hW => ⟨⟨_, n, rfl, ⟨rfl, hn⟩, Rp.end C hR ht hW⟩, hS.F ht⟩) hS.2.2 d C.2.2.2.1)
theorem v_astq {α : Type} {res : α} {K : Option α} (C : Cok X w cc nL own ret) {i : Nat} {q : Nat} (lv' : List (Nat × Value)) (d : decode cc pc = .ok (.astore i, 2)) (hn : i < nL) (h : (i, Value.ref q) :: lv.filter (fun q => !(q.1 == i) && !(q.1 + 1 == i && q.2.category == 2)) = lv') (k : V X w nL P n cells slots res K σ (pc + 2) lv' st) : V X w nL P n cells slots res K σ pc lv (.ref q :: st) :=
  fun H locs ls hR hS hl hK => lv_astore C.1.1 C.1.2.1 d hl hn h (fun ls' hl' => k H locs ls' hR hS hl' hK)
theorem v_astq_n {α : Type} {res : α} {K : Option α} (C : Cok X w cc nL own ret) {i : Nat} {f : Fin 4} {q : Nat} (lv' : List (Nat × Value)) (d : decode cc pc = .ok (.astore_n f, 1)) (hi : (f : Nat) = i) (hn : i < nL) (h : (i, Value.ref q) :: lv.filter (fun q => !(q.1 == i) && !(q.1 + 1 == i && q.2.category == 2)) = lv') (k : V X w nL P n cells slots res K σ (pc + 1) lv' st) : V X w nL P n cells slots res K σ pc lv (.ref q :: st) :=
  fun H locs ls hR hS hl hK => lv_astore_n C.1.1 C.1.2.1 d hi hl hn h (fun ls' hl' => k H locs ls' hR hS hl' hK)
/-- one row of the table takes it -/
def Takes (X : Cxt) (own : String) (pc e h : Nat) : Prop := ∃ (pre : List ExceptionTableEntry) (x : ExceptionTableEntry) (suf : List ExceptionTableEntry), X.2.2.2.2.2.2.2.2.2.1.exceptionTable.toList = pre ++ x :: suf ∧
  (∀ z ∈ pre, z.catchType ≠ 0 ∧ ∃ nm : String, Cond.classLink own z.catchType nm ∈ TB ∧ (exN e, nm) ∈ ncs) ∧ covers x pc = true ∧ x.catchType ≠ 0 ∧ x.handlerPc = h ∧ Cond.classLink own x.catchType (exN e) ∈ TB ∧ (exN e, exN e) ∈ casts
theorem v_tryI {α : Type} {res : α} (C : Cok X w cc nL own ret) {y : MethodName} {b : ByteArray} {ml k idx N mc1 ms1 : Nat} {rt : Option FieldType} {rm : Room} {o : Int} {Cn : String} {Tn : u_T} (As : List Value) {sk : List Value} (st : List Value) {F : Option ((Int × St) ⊕ Nat)} {KI : Int × St → Option α} {KE : Nat → Option α} (hM : ∀ x, F = some x → CtX X.2.1 w y b ml rt rm mc1 ms1 P n (A w o :: As) σ (XQI w P n x) x)
    (e1 : Cond.code y b ml rt ∈ TB) (e2 : Cond.initialized y.cls ∈ TB) (e3 : y.cls ≠ "java/lang/invoke/MethodHandle" ∧ y.cls ≠ "java/lang/invoke/VarHandle" ∧ (parseMethodDescriptor y.desc).map (fun d => d.parameters.length) = some k) (e4 : rm.cells = mc1) (e5 : rm.slots = ms1) {R : Room} (hRm : X.2.2.2.1 = R) (e6 : rm.frames + 1 ≤ R.frames) (e7 : 8 + (ml + 11) + rm.locals ≤ R.locals) (hl : Cond.methodLink own idx y ∈ TB) (hi : Cond.instanceMethod y ∈ TB) (hs : Cond.selects Cn y y ∈ TB) (hCn : y.cls = Cn) (hc : vwCl[7]? = some (Cn, Tn, N)) (hn : As.length = k) (hsk : sk = As.reverse ++ A w o :: st) (hsum : (st.map fun v => v.category).sum ≤ 8) (hcs : cells + mc1 ≤ R.cells ∧ slots + ms1 ≤ R.slots) (d : decode cc pc = .ok (.invokevirtual idx, 3))
    (kx : ∀ (e n' q : Nat) , n ≤ n' → KE e = some res → ∃ h, Takes X own pc e h ∧ V X w nL P n' (cells + mc1) (slots + ms1) res (KE e) σ h lv [.ref q])
    (kk : ∀ x : Int × St, V X w nL P n (cells + mc1) (slots + ms1) res (KI x) x.2 (pc + 3) lv (I x.1 :: st)) : V X w nL P n cells slots res (trc P o F KI KE) σ pc lv sk := fun H locs ls hR hS hl9 hK => by
  obtain ⟨g, hK⟩ := gd hK
  obtain ⟨len, hP⟩ := okO_of g
  have ha := hR.at hP
  rw [cellE_obj (by decide)] at ha
  subst hsk
  subst hRm
  cases hF : F with
  | none => rw [hF] at hK; cases hK
  | some x =>
    rw [hF] at hK
    have hrun := vx_runV (e := X.2.2.1) (below := X.2.2.2.2.2.2.2.1) (meth := X.2.2.2.2.2.2.2.2.1) (H := H) (locs := locs) (g := F0 X.2.2.2.2.2.1 pc ls (As.reverse ++ A w o :: st)) C.1 (hM x hF) (cwV k C.1.2.2.2.2 (TB_wsV hl hi hs (by rw [← hCn]; exact e2) e1) rfl e4 e5 ⟨hCn, e3⟩ ⟨e6, e7⟩) ⟨fun a U g mk q => ⟨q.1, q.2.1, q.2.2.same rfl⟩, va_recv C.2.1.1 (P1 ha) (q0 := 0) hc rfl, fun U hU hW => ⟨rfl, by rw [hU]; exact hR, C.2.1.warm hW⟩⟩ rfl hn hl9.1 rfl (lv_room hsum) d hcs
    refine vx_calli hrun hS (fun q _ h => h) (fun q h => h) (fun q _ h => h) (fun E ce q9 u t H1 locs1 ht hvm hp hB hz hk hS1 hc9 hv9 hcl9 => ?_) (fun r u t H1 locs1 ht hvm hp hB hz hk hS1 => ?_)
    · obtain ⟨e, n', hx, rfl, hn', hR'⟩ := hB
      subst hx
      rw [ht] at hR'
      obtain ⟨h, ⟨pre, xx, suf, t1, t2, t3, t4, rfl, t6, t7⟩, kv⟩ := kx e n' q9 hn' hK
      refine vx_catch C.1.2.2.2.1 pre xx suf t1 (fun z hz => ?_) t3 t4 (C.wd t6) (C.2.1.bad _ (List.mem_append_right _ (List.mem_map.mpr ⟨_, t7, rfl⟩))) hc9 hv9 hcl9 (kv _ _ ls hR' hS1 hl9 hK)
      obtain ⟨a1, nm, a2, a3⟩ := t2 z hz
      exact Or.inr ⟨a1, nm, C.wd a2, C.2.1.2.2.2.2.2.2.2.2.2.2.1 _ a3⟩
    · obtain ⟨rfl, rfl⟩ := hp
      rw [← ht] at hS1 ⊢
      exact kk u _ _ ls hB.1 hS1 hl9 hK
theorem v_tryL {α : Type} {res : α} (C : Cok X w cc nL own ret) {y : MethodName} {b : ByteArray} {ml k idx N mc1 ms1 : Nat} {rt : Option FieldType} {rm : Room} {o : Int} {Cn : String} {Tn : u_T} (As : List Value) {sk : List Value} (st : List Value) {F : Option ((Int × St) ⊕ Nat)} {KI : Int × St → Option α} {KE : Nat → Option α} (hM : ∀ x, F = some x → CtX X.2.1 w y b ml rt rm mc1 ms1 P n (A w o :: As) σ (XQL w P n x) x)
    (e1 : Cond.code y b ml rt ∈ TB) (e2 : Cond.initialized y.cls ∈ TB) (e3 : y.cls ≠ "java/lang/invoke/MethodHandle" ∧ y.cls ≠ "java/lang/invoke/VarHandle" ∧ (parseMethodDescriptor y.desc).map (fun d => d.parameters.length) = some k) (e4 : rm.cells = mc1) (e5 : rm.slots = ms1) {R : Room} (hRm : X.2.2.2.1 = R) (e6 : rm.frames + 1 ≤ R.frames) (e7 : 8 + (ml + 11) + rm.locals ≤ R.locals) (hl : Cond.methodLink own idx y ∈ TB) (hi : Cond.instanceMethod y ∈ TB) (hs : Cond.selects Cn y y ∈ TB) (hCn : y.cls = Cn) (hc : vwCl[7]? = some (Cn, Tn, N)) (hn : As.length = k) (hsk : sk = As.reverse ++ A w o :: st) (hsum : (st.map fun v => v.category).sum ≤ 8) (hcs : cells + mc1 ≤ R.cells ∧ slots + ms1 ≤ R.slots) (d : decode cc pc = .ok (.invokevirtual idx, 3))
    (kx : ∀ (e n' q : Nat) , n ≤ n' → KE e = some res → ∃ h, Takes X own pc e h ∧ V X w nL P n' (cells + mc1) (slots + ms1) res (KE e) σ h lv [.ref q])
    (kk : ∀ x : Int × St, V X w nL P n (cells + mc1) (slots + ms1) res (KI x) x.2 (pc + 3) lv (J x.1 :: st)) : V X w nL P n cells slots res (trc P o F KI KE) σ pc lv sk := fun H locs ls hR hS hl9 hK => by
  obtain ⟨g, hK⟩ := gd hK
  obtain ⟨len, hP⟩ := okO_of g
  have ha := hR.at hP
  rw [cellE_obj (by decide)] at ha
  subst hsk
  subst hRm
  cases hF : F with
  | none => rw [hF] at hK; cases hK
  | some x =>
    rw [hF] at hK
    have hrun := vx_runV (e := X.2.2.1) (below := X.2.2.2.2.2.2.2.1) (meth := X.2.2.2.2.2.2.2.2.1) (H := H) (locs := locs) (g := F0 X.2.2.2.2.2.1 pc ls (As.reverse ++ A w o :: st)) C.1 (hM x hF) (cwV k C.1.2.2.2.2 (TB_wsV hl hi hs (by rw [← hCn]; exact e2) e1) rfl e4 e5 ⟨hCn, e3⟩ ⟨e6, e7⟩) ⟨fun a U g mk q => ⟨q.1, q.2.1, q.2.2.same rfl⟩, va_recv C.2.1.1 (P1 ha) (q0 := 0) hc rfl, fun U hU hW => ⟨rfl, by rw [hU]; exact hR, C.2.1.warm hW⟩⟩ rfl hn hl9.1 rfl (lv_room hsum) d hcs
    refine vx_calll hrun hS (fun q _ h => h) (fun q h => h) (fun q _ h => h) (fun E ce q9 u t H1 locs1 ht hvm hp hB hz hk hS1 hc9 hv9 hcl9 => ?_) (fun r u t H1 locs1 ht hvm hp hB hz hk hS1 => ?_)
    · obtain ⟨e, n', hx, rfl, hn', hR'⟩ := hB
      subst hx
      rw [ht] at hR'
      obtain ⟨h, ⟨pre, xx, suf, t1, t2, t3, t4, rfl, t6, t7⟩, kv⟩ := kx e n' q9 hn' hK
      refine vx_catch C.1.2.2.2.1 pre xx suf t1 (fun z hz => ?_) t3 t4 (C.wd t6) (C.2.1.bad _ (List.mem_append_right _ (List.mem_map.mpr ⟨_, t7, rfl⟩))) hc9 hv9 hcl9 (kv _ _ ls hR' hS1 hl9 hK)
      obtain ⟨a1, nm, a2, a3⟩ := t2 z hz
      exact Or.inr ⟨a1, nm, C.wd a2, C.2.1.2.2.2.2.2.2.2.2.2.2.1 _ a3⟩
    · obtain ⟨rfl, rfl⟩ := hp
      rw [← ht] at hS1 ⊢
      exact kk u _ _ ls hB.1 hS1 hl9 hK
end VW2
-- parse
abbrev rL_parse : Room := { frames := 14, cells := 1, slots := 6, locals := 332 }
abbrev hL_parse : List (Nat × Nat × Nat × Nat) := [(0, 9, 12, 13)]
noncomputable def fL_parse (P : Shp) (s : St) (a0 : Int) (a1 : Int) (a2 : Int) : Option (Int × St) :=
  trc P a0 (fX7_parse P s a0 a1) (fun x => i2l x.1 fun v => sI P 11 x.2 a2 0 v fun s => some (0, s)) (fun e => if e = 0 then some (1, s) else none)
theorem h9L_parse : yL_parse.cls ≠ "java/lang/invoke/MethodHandle" ∧ yL_parse.cls ≠ "java/lang/invoke/VarHandle" ∧ (parseMethodDescriptor yL_parse.desc).map (fun d => d.parameters.length) = some 3 := by decide +kernel
theorem kL_parse (l : Launch) (hst : l.stackTraces = false) (w : Wd) (P : Shp) (n : Nat) {s : St} {a0 : Int} {a1 : Int} {a2 : Int} {res : Int × St} (h : fL_parse P s a0 a1 a2 = some res) : CtW l w yL_parse cL_parse 4 hL_parse rL_parse 1 6 P n [A w a0, I a1, A w a2] s res :=
  CtW.of h (by decide) (Nat.le_of_ble_eq_true rfl) (lv := [(0, A w a0), (1, I a1), (2, A w a2)]) rfl fun X hl hRm C T hO => by
  subst hl
  unfold fL_parse
  refine v_aload_n C dL_parse_0 rfl (j := 2) rfl ?_
  refine v_iconst C dL_parse_1 ?_
  refine v_aload_n C dL_parse_2 rfl (j := 0) rfl ?_
  refine v_iload_n C dL_parse_3 rfl (j := 1) rfl ?_
  refine v_tryI C (N := 5) (Tn := TX7) [I a1] [I 0, A w a2] (fun x h => kX7_parse X.2.1 hst w P n h) tw_467 tw_1 hX7_parse rfl rfl hRm (Nat.le_of_ble_eq_true rfl) (Nat.le_of_ble_eq_true rfl) tw_464 tw_465 tw_466 rfl rfl rfl rfl (Nat.le_of_ble_eq_true rfl) ⟨(Nat.le_of_ble_eq_true rfl), (Nat.le_of_ble_eq_true rfl)⟩ dL_parse_4 (fun e n2 q hn2 hE => ?_) (fun x => ?_)
  · by_cases g0 : e = 0
    · subst g0
      refine ⟨12, ⟨[], ⟨0, 9, 12, 13⟩, [], T, (fun z hz => absurd hz List.not_mem_nil), by decide, by decide, rfl, tw_463, by decide +kernel⟩, ?_⟩
      show V X w 4 P n2 (0 + 1) (0 + 6) res (some (1, s)) s 12 [(0, A w a0), (1, I a1), (2, A w a2)] [.ref q]
      refine v_astq_n C [(3, .ref q), (0, A w a0), (1, I a1), (2, A w a2)] dL_parse_12 rfl (by decide) rfl ?_
      refine v_iconst C dL_parse_13 ?_
      exact v_wiret C hn2 rfl hO dL_parse_14
    · exfalso
      simp only [if_neg g0] at hE
      cases hE
  · refine v_i2l C dL_parse_7 (fun v => ?_)
    refine v_last C dL_parse_8 (fun s9 => ?_)
    refine v_goto (tgt := 15) C dL_parse_9 rfl ?_
    refine v_iconst C dL_parse_15 ?_
    exact v_wiret C (Nat.le_refl _) rfl hO dL_parse_16
-- size
abbrev rL_size : Room := { frames := 7, cells := 1, slots := 6, locals := 111 }
abbrev hL_size : List (Nat × Nat × Nat × Nat) := [(0, 9, 12, 13)]
noncomputable def fL_size (P : Shp) (s : St) (a0 : Int) (a1 : Int) (a2 : Int) : Option (Int × St) :=
  trc P a0 (fX7_size P s a0 a1) (fun x => i2l x.1 fun v => sI P 11 x.2 a2 0 v fun s => some (0, s)) (fun e => if e = 0 then some (1, s) else none)
theorem h9L_size : yL_size.cls ≠ "java/lang/invoke/MethodHandle" ∧ yL_size.cls ≠ "java/lang/invoke/VarHandle" ∧ (parseMethodDescriptor yL_size.desc).map (fun d => d.parameters.length) = some 3 := by decide +kernel
theorem kL_size (l : Launch) (hst : l.stackTraces = false) (w : Wd) (P : Shp) (n : Nat) {s : St} {a0 : Int} {a1 : Int} {a2 : Int} {res : Int × St} (h : fL_size P s a0 a1 a2 = some res) : CtW l w yL_size cL_size 4 hL_size rL_size 1 6 P n [A w a0, I a1, A w a2] s res :=
  CtW.of h (by decide) (Nat.le_of_ble_eq_true rfl) (lv := [(0, A w a0), (1, I a1), (2, A w a2)]) rfl fun X hl hRm C T hO => by
  subst hl
  unfold fL_size
  refine v_aload_n C dL_size_0 rfl (j := 2) rfl ?_
  refine v_iconst C dL_size_1 ?_
  refine v_aload_n C dL_size_2 rfl (j := 0) rfl ?_
  refine v_iload_n C dL_size_3 rfl (j := 1) rfl ?_
  refine v_tryI C (N := 5) (Tn := TX7) [I a1] [I 0, A w a2] (fun x h => kX7_size X.2.1 hst w P n h) tw_732 tw_1 hX7_size rfl rfl hRm (Nat.le_of_ble_eq_true rfl) (Nat.le_of_ble_eq_true rfl) tw_729 tw_730 tw_731 rfl rfl rfl rfl (Nat.le_of_ble_eq_true rfl) ⟨(Nat.le_of_ble_eq_true rfl), (Nat.le_of_ble_eq_true rfl)⟩ dL_size_4 (fun e n2 q hn2 hE => ?_) (fun x => ?_)
  · by_cases g0 : e = 0
    · subst g0
      refine ⟨12, ⟨[], ⟨0, 9, 12, 13⟩, [], T, (fun z hz => absurd hz List.not_mem_nil), by decide, by decide, rfl, tw_463, by decide +kernel⟩, ?_⟩
      show V X w 4 P n2 (0 + 1) (0 + 6) res (some (1, s)) s 12 [(0, A w a0), (1, I a1), (2, A w a2)] [.ref q]
      refine v_astq_n C [(3, .ref q), (0, A w a0), (1, I a1), (2, A w a2)] dL_size_12 rfl (by decide) rfl ?_
      refine v_iconst C dL_size_13 ?_
      exact v_wiret C hn2 rfl hO dL_size_14
    · exfalso
      simp only [if_neg g0] at hE
      cases hE
  · refine v_i2l C dL_size_7 (fun v => ?_)
    refine v_last C dL_size_8 (fun s9 => ?_)
    refine v_goto (tgt := 15) C dL_size_9 rfl ?_
    refine v_iconst C dL_size_15 ?_
    exact v_wiret C (Nat.le_refl _) rfl hO dL_size_16
-- deviceAt
abbrev rL_deviceAt : Room := { frames := 8, cells := 1, slots := 6, locals := 132 }
abbrev hL_deviceAt : List (Nat × Nat × Nat × Nat) := [(0, 9, 12, 21)]
noncomputable def fL_deviceAt (P : Shp) (s : St) (a0 : Int) (a1 : Int) (a2 : Int) : Option (Int × St) :=
  trc P a0 (fX7_deviceAt P s a0 a1) (fun x => i2l x.1 fun v => sI P 11 x.2 a2 0 v fun s => some (0, s)) (fun e => if e = 2 then some (1, s) else none)
theorem h9L_deviceAt : yL_deviceAt.cls ≠ "java/lang/invoke/MethodHandle" ∧ yL_deviceAt.cls ≠ "java/lang/invoke/VarHandle" ∧ (parseMethodDescriptor yL_deviceAt.desc).map (fun d => d.parameters.length) = some 3 := by decide +kernel
theorem kL_deviceAt (l : Launch) (hst : l.stackTraces = false) (w : Wd) (P : Shp) (n : Nat) {s : St} {a0 : Int} {a1 : Int} {a2 : Int} {res : Int × St} (h : fL_deviceAt P s a0 a1 a2 = some res) : CtW l w yL_deviceAt cL_deviceAt 4 hL_deviceAt rL_deviceAt 1 6 P n [A w a0, I a1, A w a2] s res :=
  CtW.of h (by decide) (Nat.le_of_ble_eq_true rfl) (lv := [(0, A w a0), (1, I a1), (2, A w a2)]) rfl fun X hl hRm C T hO => by
  subst hl
  unfold fL_deviceAt
  refine v_aload_n C dL_deviceAt_0 rfl (j := 2) rfl ?_
  refine v_iconst C dL_deviceAt_1 ?_
  refine v_aload_n C dL_deviceAt_2 rfl (j := 0) rfl ?_
  refine v_iload_n C dL_deviceAt_3 rfl (j := 1) rfl ?_
  refine v_tryI C (N := 5) (Tn := TX7) [I a1] [I 0, A w a2] (fun x h => kX7_deviceAt X.2.1 hst w P n h) tw_742 tw_1 hX7_deviceAt rfl rfl hRm (Nat.le_of_ble_eq_true rfl) (Nat.le_of_ble_eq_true rfl) tw_739 tw_740 tw_741 rfl rfl rfl rfl (Nat.le_of_ble_eq_true rfl) ⟨(Nat.le_of_ble_eq_true rfl), (Nat.le_of_ble_eq_true rfl)⟩ dL_deviceAt_4 (fun e n2 q hn2 hE => ?_) (fun x => ?_)
  · by_cases g0 : e = 2
    · subst g0
      refine ⟨12, ⟨[], ⟨0, 9, 12, 21⟩, [], T, (fun z hz => absurd hz List.not_mem_nil), by decide, by decide, rfl, tw_738, by decide +kernel⟩, ?_⟩
      show V X w 4 P n2 (0 + 1) (0 + 6) res (some (1, s)) s 12 [(0, A w a0), (1, I a1), (2, A w a2)] [.ref q]
      refine v_astq_n C [(3, .ref q), (0, A w a0), (1, I a1), (2, A w a2)] dL_deviceAt_12 rfl (by decide) rfl ?_
      refine v_iconst C dL_deviceAt_13 ?_
      exact v_wiret C hn2 rfl hO dL_deviceAt_14
    · exfalso
      simp only [if_neg g0] at hE
      cases hE
  · refine v_i2l C dL_deviceAt_7 (fun v => ?_)
    refine v_last C dL_deviceAt_8 (fun s9 => ?_)
    refine v_goto (tgt := 15) C dL_deviceAt_9 rfl ?_
    refine v_iconst C dL_deviceAt_15 ?_
    exact v_wiret C (Nat.le_refl _) rfl hO dL_deviceAt_16
-- device
abbrev rL_device : Room := { frames := 8, cells := 2, slots := 12, locals := 160 }
abbrev hL_device : List (Nat × Nat × Nat × Nat) := [(0, 10, 13, 21), (0, 10, 17, 13)]
noncomputable def fL_device (P : Shp) (s : St) (a0 : Int) (a1 : Int) (a2 : Int) (a3 : Int) : Option (Int × St) :=
  trc P a0 (fX7_device P s a0 a1 a2) (fun x => i2l x.1 fun v => sI P 11 x.2 a3 0 v fun s => some (0, s)) (fun e => if e = 2 then some (1, s) else if e = 0 then some (2, s) else none)
theorem h9L_device : yL_device.cls ≠ "java/lang/invoke/MethodHandle" ∧ yL_device.cls ≠ "java/lang/invoke/VarHandle" ∧ (parseMethodDescriptor yL_device.desc).map (fun d => d.parameters.length) = some 4 := by decide +kernel
theorem kL_device (l : Launch) (hst : l.stackTraces = false) (w : Wd) (P : Shp) (n : Nat) {s : St} {a0 : Int} {a1 : Int} {a2 : Int} {a3 : Int} {res : Int × St} (h : fL_device P s a0 a1 a2 a3 = some res) : CtW l w yL_device cL_device 5 hL_device rL_device 2 12 P n [A w a0, I a1, I a2, A w a3] s res :=
  CtW.of h (by decide) (Nat.le_of_ble_eq_true rfl) (lv := [(0, A w a0), (1, I a1), (2, I a2), (3, A w a3)]) rfl fun X hl hRm C T hO => by
  subst hl
  unfold fL_device
  refine v_aload_n C dL_device_0 rfl (j := 3) rfl ?_
  refine v_iconst C dL_device_1 ?_
  refine v_aload_n C dL_device_2 rfl (j := 0) rfl ?_
  refine v_iload_n C dL_device_3 rfl (j := 1) rfl ?_
  refine v_iload_n C dL_device_4 rfl (j := 2) rfl ?_
  refine v_tryI C (N := 5) (Tn := TX7) [I a1, I a2] [I 0, A w a3] (fun x h => kX7_device X.2.1 hst w P n h) tw_773 tw_1 hX7_device rfl rfl hRm (Nat.le_of_ble_eq_true rfl) (Nat.le_of_ble_eq_true rfl) tw_770 tw_771 tw_772 rfl rfl rfl rfl (Nat.le_of_ble_eq_true rfl) ⟨(Nat.le_of_ble_eq_true rfl), (Nat.le_of_ble_eq_true rfl)⟩ dL_device_5 (fun e n2 q hn2 hE => ?_) (fun x => ?_)
  · by_cases g0 : e = 2
    · subst g0
      refine ⟨13, ⟨[], ⟨0, 10, 13, 21⟩, [⟨0, 10, 17, 13⟩], T, (fun z hz => absurd hz List.not_mem_nil), by decide, by decide, rfl, tw_738, by decide +kernel⟩, ?_⟩
      show V X w 5 P n2 (0 + 2) (0 + 12) res (some (1, s)) s 13 [(0, A w a0), (1, I a1), (2, I a2), (3, A w a3)] [.ref q]
      refine v_astq C [(4, .ref q), (0, A w a0), (1, I a1), (2, I a2), (3, A w a3)] dL_device_13 (by decide) rfl ?_
      refine v_iconst C dL_device_15 ?_
      exact v_wiret C hn2 rfl hO dL_device_16
    · by_cases g1 : e = 0
      · subst g1
        refine ⟨17, ⟨[⟨0, 10, 13, 21⟩], ⟨0, 10, 17, 13⟩, [], T, (List.forall_mem_cons.mpr ⟨⟨by decide, _, tw_738, by decide +kernel⟩, fun z hz => absurd hz List.not_mem_nil⟩), by decide, by decide, rfl, tw_463, by decide +kernel⟩, ?_⟩
        show V X w 5 P n2 (0 + 2) (0 + 12) res (some (2, s)) s 17 [(0, A w a0), (1, I a1), (2, I a2), (3, A w a3)] [.ref q]
        refine v_astq C [(4, .ref q), (0, A w a0), (1, I a1), (2, I a2), (3, A w a3)] dL_device_17 (by decide) rfl ?_
        refine v_iconst C dL_device_19 ?_
        exact v_wiret C hn2 rfl hO dL_device_20
      · exfalso
        simp only [if_neg g0, if_neg g1] at hE
        cases hE
  · refine v_i2l C dL_device_8 (fun v => ?_)
    refine v_last C dL_device_9 (fun s9 => ?_)
    refine v_goto (tgt := 21) C dL_device_10 rfl ?_
    refine v_iconst C dL_device_21 ?_
    exact v_wiret C (Nat.le_refl _) rfl hO dL_device_22
-- stream
abbrev rL_stream : Room := { frames := 8, cells := 2, slots := 12, locals := 133 }
abbrev hL_stream : List (Nat × Nat × Nat × Nat) := [(0, 10, 13, 21), (0, 10, 17, 13)]
noncomputable def fL_stream (P : Shp) (s : St) (a0 : Int) (a1 : Int) (a2 : Int) (a3 : Int) : Option (Int × St) :=
  trc P a0 (fX7_stream P s a0 a1 a2) (fun x => i2l x.1 fun v => sI P 11 x.2 a3 0 v fun s => some (0, s)) (fun e => if e = 2 then some (1, s) else if e = 0 then some (2, s) else none)
theorem h9L_stream : yL_stream.cls ≠ "java/lang/invoke/MethodHandle" ∧ yL_stream.cls ≠ "java/lang/invoke/VarHandle" ∧ (parseMethodDescriptor yL_stream.desc).map (fun d => d.parameters.length) = some 4 := by decide +kernel
theorem kL_stream (l : Launch) (hst : l.stackTraces = false) (w : Wd) (P : Shp) (n : Nat) {s : St} {a0 : Int} {a1 : Int} {a2 : Int} {a3 : Int} {res : Int × St} (h : fL_stream P s a0 a1 a2 a3 = some res) : CtW l w yL_stream cL_stream 5 hL_stream rL_stream 2 12 P n [A w a0, I a1, I a2, A w a3] s res :=
  CtW.of h (by decide) (Nat.le_of_ble_eq_true rfl) (lv := [(0, A w a0), (1, I a1), (2, I a2), (3, A w a3)]) rfl fun X hl hRm C T hO => by
  subst hl
  unfold fL_stream
  refine v_aload_n C dL_stream_0 rfl (j := 3) rfl ?_
  refine v_iconst C dL_stream_1 ?_
  refine v_aload_n C dL_stream_2 rfl (j := 0) rfl ?_
  refine v_iload_n C dL_stream_3 rfl (j := 1) rfl ?_
  refine v_iload_n C dL_stream_4 rfl (j := 2) rfl ?_
  refine v_tryI C (N := 5) (Tn := TX7) [I a1, I a2] [I 0, A w a3] (fun x h => kX7_stream X.2.1 hst w P n h) tw_801 tw_1 hX7_stream rfl rfl hRm (Nat.le_of_ble_eq_true rfl) (Nat.le_of_ble_eq_true rfl) tw_798 tw_799 tw_800 rfl rfl rfl rfl (Nat.le_of_ble_eq_true rfl) ⟨(Nat.le_of_ble_eq_true rfl), (Nat.le_of_ble_eq_true rfl)⟩ dL_stream_5 (fun e n2 q hn2 hE => ?_) (fun x => ?_)
  · by_cases g0 : e = 2
    · subst g0
      refine ⟨13, ⟨[], ⟨0, 10, 13, 21⟩, [⟨0, 10, 17, 13⟩], T, (fun z hz => absurd hz List.not_mem_nil), by decide, by decide, rfl, tw_738, by decide +kernel⟩, ?_⟩
      show V X w 5 P n2 (0 + 2) (0 + 12) res (some (1, s)) s 13 [(0, A w a0), (1, I a1), (2, I a2), (3, A w a3)] [.ref q]
      refine v_astq C [(4, .ref q), (0, A w a0), (1, I a1), (2, I a2), (3, A w a3)] dL_stream_13 (by decide) rfl ?_
      refine v_iconst C dL_stream_15 ?_
      exact v_wiret C hn2 rfl hO dL_stream_16
    · by_cases g1 : e = 0
      · subst g1
        refine ⟨17, ⟨[⟨0, 10, 13, 21⟩], ⟨0, 10, 17, 13⟩, [], T, (List.forall_mem_cons.mpr ⟨⟨by decide, _, tw_738, by decide +kernel⟩, fun z hz => absurd hz List.not_mem_nil⟩), by decide, by decide, rfl, tw_463, by decide +kernel⟩, ?_⟩
        show V X w 5 P n2 (0 + 2) (0 + 12) res (some (2, s)) s 17 [(0, A w a0), (1, I a1), (2, I a2), (3, A w a3)] [.ref q]
        refine v_astq C [(4, .ref q), (0, A w a0), (1, I a1), (2, I a2), (3, A w a3)] dL_stream_17 (by decide) rfl ?_
        refine v_iconst C dL_stream_19 ?_
        exact v_wiret C hn2 rfl hO dL_stream_20
      · exfalso
        simp only [if_neg g0, if_neg g1] at hE
        cases hE
  · refine v_i2l C dL_stream_8 (fun v => ?_)
    refine v_last C dL_stream_9 (fun s9 => ?_)
    refine v_goto (tgt := 21) C dL_stream_10 rfl ?_
    refine v_iconst C dL_stream_21 ?_
    exact v_wiret C (Nat.le_refl _) rfl hO dL_stream_22
-- packets
abbrev rL_packets : Room := { frames := 8, cells := 1, slots := 6, locals := 132 }
abbrev hL_packets : List (Nat × Nat × Nat × Nat) := [(0, 8, 11, 21)]
noncomputable def fL_packets (P : Shp) (s : St) (a0 : Int) (a1 : Int) (a2 : Int) : Option (Int × St) :=
  trc P a0 (fX7_packets P s a0 a1) (fun x => sI P 11 x.2 a2 0 x.1 fun s => some (0, s)) (fun e => if e = 2 then some (1, s) else none)
theorem h9L_packets : yL_packets.cls ≠ "java/lang/invoke/MethodHandle" ∧ yL_packets.cls ≠ "java/lang/invoke/VarHandle" ∧ (parseMethodDescriptor yL_packets.desc).map (fun d => d.parameters.length) = some 3 := by decide +kernel
theorem kL_packets (l : Launch) (hst : l.stackTraces = false) (w : Wd) (P : Shp) (n : Nat) {s : St} {a0 : Int} {a1 : Int} {a2 : Int} {res : Int × St} (h : fL_packets P s a0 a1 a2 = some res) : CtW l w yL_packets cL_packets 4 hL_packets rL_packets 1 6 P n [A w a0, I a1, A w a2] s res :=
  CtW.of h (by decide) (Nat.le_of_ble_eq_true rfl) (lv := [(0, A w a0), (1, I a1), (2, A w a2)]) rfl fun X hl hRm C T hO => by
  subst hl
  unfold fL_packets
  refine v_aload_n C dL_packets_0 rfl (j := 2) rfl ?_
  refine v_iconst C dL_packets_1 ?_
  refine v_aload_n C dL_packets_2 rfl (j := 0) rfl ?_
  refine v_iload_n C dL_packets_3 rfl (j := 1) rfl ?_
  refine v_tryL C (N := 5) (Tn := TX7) [I a1] [I 0, A w a2] (fun x h => kX7_packets X.2.1 hst w P n h) tw_815 tw_1 hX7_packets rfl rfl hRm (Nat.le_of_ble_eq_true rfl) (Nat.le_of_ble_eq_true rfl) tw_812 tw_813 tw_814 rfl rfl rfl rfl (Nat.le_of_ble_eq_true rfl) ⟨(Nat.le_of_ble_eq_true rfl), (Nat.le_of_ble_eq_true rfl)⟩ dL_packets_4 (fun e n2 q hn2 hE => ?_) (fun x => ?_)
  · by_cases g0 : e = 2
    · subst g0
      refine ⟨11, ⟨[], ⟨0, 8, 11, 21⟩, [], T, (fun z hz => absurd hz List.not_mem_nil), by decide, by decide, rfl, tw_738, by decide +kernel⟩, ?_⟩
      show V X w 4 P n2 (0 + 1) (0 + 6) res (some (1, s)) s 11 [(0, A w a0), (1, I a1), (2, A w a2)] [.ref q]
      refine v_astq_n C [(3, .ref q), (0, A w a0), (1, I a1), (2, A w a2)] dL_packets_11 rfl (by decide) rfl ?_
      refine v_iconst C dL_packets_12 ?_
      exact v_wiret C hn2 rfl hO dL_packets_13
    · exfalso
      simp only [if_neg g0] at hE
      cases hE
  · refine v_last C dL_packets_7 (fun s9 => ?_)
    refine v_goto (tgt := 14) C dL_packets_8 rfl ?_
    refine v_iconst C dL_packets_14 ?_
    exact v_wiret C (Nat.le_refl _) rfl hO dL_packets_15
-- error
abbrev rL_error : Room := { frames := 8, cells := 2, slots := 12, locals := 134 }
abbrev hL_error : List (Nat × Nat × Nat × Nat) := [(0, 12, 15, 21), (0, 12, 19, 13)]
noncomputable def fL_error (P : Shp) (s : St) (a0 : Int) (a1 : Int) (a2 : Int) (a3 : Int) (a4 : Int) : Option (Int × St) :=
  trc P a0 (fX7_error P s a0 a1 a2 a3) (fun x => i2l x.1 fun v => sI P 11 x.2 a4 0 v fun s => some (0, s)) (fun e => if e = 2 then some (1, s) else if e = 0 then some (2, s) else none)
theorem h9L_error : yL_error.cls ≠ "java/lang/invoke/MethodHandle" ∧ yL_error.cls ≠ "java/lang/invoke/VarHandle" ∧ (parseMethodDescriptor yL_error.desc).map (fun d => d.parameters.length) = some 5 := by decide +kernel
theorem kL_error (l : Launch) (hst : l.stackTraces = false) (w : Wd) (P : Shp) (n : Nat) {s : St} {a0 : Int} {a1 : Int} {a2 : Int} {a3 : Int} {a4 : Int} {res : Int × St} (h : fL_error P s a0 a1 a2 a3 a4 = some res) : CtW l w yL_error cL_error 6 hL_error rL_error 2 12 P n [A w a0, I a1, I a2, I a3, A w a4] s res :=
  CtW.of h (by decide) (Nat.le_of_ble_eq_true rfl) (lv := [(0, A w a0), (1, I a1), (2, I a2), (3, I a3), (4, A w a4)]) rfl fun X hl hRm C T hO => by
  subst hl
  unfold fL_error
  refine v_aload C dL_error_0 (j := 4) rfl ?_
  refine v_iconst C dL_error_2 ?_
  refine v_aload_n C dL_error_3 rfl (j := 0) rfl ?_
  refine v_iload_n C dL_error_4 rfl (j := 1) rfl ?_
  refine v_iload_n C dL_error_5 rfl (j := 2) rfl ?_
  refine v_iload_n C dL_error_6 rfl (j := 3) rfl ?_
  refine v_tryI C (N := 5) (Tn := TX7) [I a1, I a2, I a3] [I 0, A w a4] (fun x h => kX7_error X.2.1 hst w P n h) tw_822 tw_1 hX7_error rfl rfl hRm (Nat.le_of_ble_eq_true rfl) (Nat.le_of_ble_eq_true rfl) tw_819 tw_820 tw_821 rfl rfl rfl rfl (Nat.le_of_ble_eq_true rfl) ⟨(Nat.le_of_ble_eq_true rfl), (Nat.le_of_ble_eq_true rfl)⟩ dL_error_7 (fun e n2 q hn2 hE => ?_) (fun x => ?_)
  · by_cases g0 : e = 2
    · subst g0
      refine ⟨15, ⟨[], ⟨0, 12, 15, 21⟩, [⟨0, 12, 19, 13⟩], T, (fun z hz => absurd hz List.not_mem_nil), by decide, by decide, rfl, tw_738, by decide +kernel⟩, ?_⟩
      show V X w 6 P n2 (0 + 2) (0 + 12) res (some (1, s)) s 15 [(0, A w a0), (1, I a1), (2, I a2), (3, I a3), (4, A w a4)] [.ref q]
      refine v_astq C [(5, .ref q), (0, A w a0), (1, I a1), (2, I a2), (3, I a3), (4, A w a4)] dL_error_15 (by decide) rfl ?_
      refine v_iconst C dL_error_17 ?_
      exact v_wiret C hn2 rfl hO dL_error_18
    · by_cases g1 : e = 0
      · subst g1
        refine ⟨19, ⟨[⟨0, 12, 15, 21⟩], ⟨0, 12, 19, 13⟩, [], T, (List.forall_mem_cons.mpr ⟨⟨by decide, _, tw_738, by decide +kernel⟩, fun z hz => absurd hz List.not_mem_nil⟩), by decide, by decide, rfl, tw_463, by decide +kernel⟩, ?_⟩
        show V X w 6 P n2 (0 + 2) (0 + 12) res (some (2, s)) s 19 [(0, A w a0), (1, I a1), (2, I a2), (3, I a3), (4, A w a4)] [.ref q]
        refine v_astq C [(5, .ref q), (0, A w a0), (1, I a1), (2, I a2), (3, I a3), (4, A w a4)] dL_error_19 (by decide) rfl ?_
        refine v_iconst C dL_error_21 ?_
        exact v_wiret C hn2 rfl hO dL_error_22
      · exfalso
        simp only [if_neg g0, if_neg g1] at hE
        cases hE
  · refine v_i2l C dL_error_10 (fun v => ?_)
    refine v_last C dL_error_11 (fun s9 => ?_)
    refine v_goto (tgt := 23) C dL_error_12 rfl ?_
    refine v_iconst C dL_error_23 ?_
    exact v_wiret C (Nat.le_refl _) rfl hO dL_error_24
-- cause
abbrev rL_cause : Room := { frames := 7, cells := 1, slots := 6, locals := 112 }
abbrev hL_cause : List (Nat × Nat × Nat × Nat) := [(0, 10, 13, 13)]
noncomputable def fL_cause (P : Shp) (s : St) (a0 : Int) (a1 : Int) (a2 : Int) (a3 : Int) : Option (Int × St) :=
  trc P a0 (fX7_cause P s a0 a1 a2) (fun x => i2l x.1 fun v => sI P 11 x.2 a3 0 v fun s => some (0, s)) (fun e => if e = 0 then some (1, s) else none)
theorem h9L_cause : yL_cause.cls ≠ "java/lang/invoke/MethodHandle" ∧ yL_cause.cls ≠ "java/lang/invoke/VarHandle" ∧ (parseMethodDescriptor yL_cause.desc).map (fun d => d.parameters.length) = some 4 := by decide +kernel
theorem kL_cause (l : Launch) (hst : l.stackTraces = false) (w : Wd) (P : Shp) (n : Nat) {s : St} {a0 : Int} {a1 : Int} {a2 : Int} {a3 : Int} {res : Int × St} (h : fL_cause P s a0 a1 a2 a3 = some res) : CtW l w yL_cause cL_cause 5 hL_cause rL_cause 1 6 P n [A w a0, I a1, I a2, A w a3] s res :=
  CtW.of h (by decide) (Nat.le_of_ble_eq_true rfl) (lv := [(0, A w a0), (1, I a1), (2, I a2), (3, A w a3)]) rfl fun X hl hRm C T hO => by
  subst hl
  unfold fL_cause
  refine v_aload_n C dL_cause_0 rfl (j := 3) rfl ?_
  refine v_iconst C dL_cause_1 ?_
  refine v_aload_n C dL_cause_2 rfl (j := 0) rfl ?_
  refine v_iload_n C dL_cause_3 rfl (j := 1) rfl ?_
  refine v_iload_n C dL_cause_4 rfl (j := 2) rfl ?_
  refine v_tryI C (N := 5) (Tn := TX7) [I a1, I a2] [I 0, A w a3] (fun x h => kX7_cause X.2.1 hst w P n h) tw_832 tw_1 hX7_cause rfl rfl hRm (Nat.le_of_ble_eq_true rfl) (Nat.le_of_ble_eq_true rfl) tw_829 tw_830 tw_831 rfl rfl rfl rfl (Nat.le_of_ble_eq_true rfl) ⟨(Nat.le_of_ble_eq_true rfl), (Nat.le_of_ble_eq_true rfl)⟩ dL_cause_5 (fun e n2 q hn2 hE => ?_) (fun x => ?_)
  · by_cases g0 : e = 0
    · subst g0
      refine ⟨13, ⟨[], ⟨0, 10, 13, 13⟩, [], T, (fun z hz => absurd hz List.not_mem_nil), by decide, by decide, rfl, tw_463, by decide +kernel⟩, ?_⟩
      show V X w 5 P n2 (0 + 1) (0 + 6) res (some (1, s)) s 13 [(0, A w a0), (1, I a1), (2, I a2), (3, A w a3)] [.ref q]
      refine v_astq C [(4, .ref q), (0, A w a0), (1, I a1), (2, I a2), (3, A w a3)] dL_cause_13 (by decide) rfl ?_
      refine v_iconst C dL_cause_15 ?_
      exact v_wiret C hn2 rfl hO dL_cause_16
    · exfalso
      simp only [if_neg g0] at hE
      cases hE
  · refine v_i2l C dL_cause_8 (fun v => ?_)
    refine v_last C dL_cause_9 (fun s9 => ?_)
    refine v_goto (tgt := 17) C dL_cause_10 rfl ?_
    refine v_iconst C dL_cause_17 ?_
    exact v_wiret C (Nat.le_refl _) rfl hO dL_cause_18
-- scoreWith
abbrev rL_scoreWith : Room := { frames := 8, cells := 2, slots := 12, locals := 160 }
abbrev hL_scoreWith : List (Nat × Nat × Nat × Nat) := [(0, 10, 13, 21), (0, 10, 17, 13)]
noncomputable def fL_scoreWith (P : Shp) (s : St) (a0 : Int) (a1 : Int) (a2 : Int) (a3 : Int) : Option (Int × St) :=
  trc P a0 (fX7_scoreWith P s a0 a1 a2) (fun x => i2l x.1 fun v => sI P 11 x.2 a3 0 v fun s => some (0, s)) (fun e => if e = 2 then some (1, s) else if e = 0 then some (2, s) else none)
theorem h9L_scoreWith : yL_scoreWith.cls ≠ "java/lang/invoke/MethodHandle" ∧ yL_scoreWith.cls ≠ "java/lang/invoke/VarHandle" ∧ (parseMethodDescriptor yL_scoreWith.desc).map (fun d => d.parameters.length) = some 4 := by decide +kernel
theorem kL_scoreWith (l : Launch) (hst : l.stackTraces = false) (w : Wd) (P : Shp) (n : Nat) {s : St} {a0 : Int} {a1 : Int} {a2 : Int} {a3 : Int} {res : Int × St} (h : fL_scoreWith P s a0 a1 a2 a3 = some res) : CtW l w yL_scoreWith cL_scoreWith 5 hL_scoreWith rL_scoreWith 2 12 P n [A w a0, I a1, I a2, A w a3] s res :=
  CtW.of h (by decide) (Nat.le_of_ble_eq_true rfl) (lv := [(0, A w a0), (1, I a1), (2, I a2), (3, A w a3)]) rfl fun X hl hRm C T hO => by
  subst hl
  unfold fL_scoreWith
  refine v_aload_n C dL_scoreWith_0 rfl (j := 3) rfl ?_
  refine v_iconst C dL_scoreWith_1 ?_
  refine v_aload_n C dL_scoreWith_2 rfl (j := 0) rfl ?_
  refine v_iload_n C dL_scoreWith_3 rfl (j := 1) rfl ?_
  refine v_iload_n C dL_scoreWith_4 rfl (j := 2) rfl ?_
  refine v_tryI C (N := 5) (Tn := TX7) [I a1, I a2] [I 0, A w a3] (fun x h => kX7_scoreWith X.2.1 hst w P n h) tw_844 tw_1 hX7_scoreWith rfl rfl hRm (Nat.le_of_ble_eq_true rfl) (Nat.le_of_ble_eq_true rfl) tw_841 tw_842 tw_843 rfl rfl rfl rfl (Nat.le_of_ble_eq_true rfl) ⟨(Nat.le_of_ble_eq_true rfl), (Nat.le_of_ble_eq_true rfl)⟩ dL_scoreWith_5 (fun e n2 q hn2 hE => ?_) (fun x => ?_)
  · by_cases g0 : e = 2
    · subst g0
      refine ⟨13, ⟨[], ⟨0, 10, 13, 21⟩, [⟨0, 10, 17, 13⟩], T, (fun z hz => absurd hz List.not_mem_nil), by decide, by decide, rfl, tw_738, by decide +kernel⟩, ?_⟩
      show V X w 5 P n2 (0 + 2) (0 + 12) res (some (1, s)) s 13 [(0, A w a0), (1, I a1), (2, I a2), (3, A w a3)] [.ref q]
      refine v_astq C [(4, .ref q), (0, A w a0), (1, I a1), (2, I a2), (3, A w a3)] dL_scoreWith_13 (by decide) rfl ?_
      refine v_iconst C dL_scoreWith_15 ?_
      exact v_wiret C hn2 rfl hO dL_scoreWith_16
    · by_cases g1 : e = 0
      · subst g1
        refine ⟨17, ⟨[⟨0, 10, 13, 21⟩], ⟨0, 10, 17, 13⟩, [], T, (List.forall_mem_cons.mpr ⟨⟨by decide, _, tw_738, by decide +kernel⟩, fun z hz => absurd hz List.not_mem_nil⟩), by decide, by decide, rfl, tw_463, by decide +kernel⟩, ?_⟩
        show V X w 5 P n2 (0 + 2) (0 + 12) res (some (2, s)) s 17 [(0, A w a0), (1, I a1), (2, I a2), (3, A w a3)] [.ref q]
        refine v_astq C [(4, .ref q), (0, A w a0), (1, I a1), (2, I a2), (3, A w a3)] dL_scoreWith_17 (by decide) rfl ?_
        refine v_iconst C dL_scoreWith_19 ?_
        exact v_wiret C hn2 rfl hO dL_scoreWith_20
      · exfalso
        simp only [if_neg g0, if_neg g1] at hE
        cases hE
  · refine v_i2l C dL_scoreWith_8 (fun v => ?_)
    refine v_last C dL_scoreWith_9 (fun s9 => ?_)
    refine v_goto (tgt := 21) C dL_scoreWith_10 rfl ?_
    refine v_iconst C dL_scoreWith_21 ?_
    exact v_wiret C (Nat.le_refl _) rfl hO dL_scoreWith_22
-- feared
abbrev rL_feared : Room := { frames := 8, cells := 1, slots := 6, locals := 181 }
abbrev hL_feared : List (Nat × Nat × Nat × Nat) := [(0, 9, 12, 21)]
noncomputable def fL_feared (P : Shp) (s : St) (a0 : Int) (a1 : Int) (a2 : Int) : Option (Int × St) :=
  trc P a0 (fX7_feared P s a0 a1) (fun x => i2l x.1 fun v => sI P 11 x.2 a2 0 v fun s => some (0, s)) (fun e => if e = 2 then some (1, s) else none)
theorem h9L_feared : yL_feared.cls ≠ "java/lang/invoke/MethodHandle" ∧ yL_feared.cls ≠ "java/lang/invoke/VarHandle" ∧ (parseMethodDescriptor yL_feared.desc).map (fun d => d.parameters.length) = some 3 := by decide +kernel
theorem kL_feared (l : Launch) (hst : l.stackTraces = false) (w : Wd) (P : Shp) (n : Nat) {s : St} {a0 : Int} {a1 : Int} {a2 : Int} {res : Int × St} (h : fL_feared P s a0 a1 a2 = some res) : CtW l w yL_feared cL_feared 4 hL_feared rL_feared 1 6 P n [A w a0, I a1, A w a2] s res :=
  CtW.of h (by decide) (Nat.le_of_ble_eq_true rfl) (lv := [(0, A w a0), (1, I a1), (2, A w a2)]) rfl fun X hl hRm C T hO => by
  subst hl
  unfold fL_feared
  refine v_aload_n C dL_feared_0 rfl (j := 2) rfl ?_
  refine v_iconst C dL_feared_1 ?_
  refine v_aload_n C dL_feared_2 rfl (j := 0) rfl ?_
  refine v_iload_n C dL_feared_3 rfl (j := 1) rfl ?_
  refine v_tryI C (N := 5) (Tn := TX7) [I a1] [I 0, A w a2] (fun x h => kX7_feared X.2.1 hst w P n h) tw_857 tw_1 hX7_feared rfl rfl hRm (Nat.le_of_ble_eq_true rfl) (Nat.le_of_ble_eq_true rfl) tw_854 tw_855 tw_856 rfl rfl rfl rfl (Nat.le_of_ble_eq_true rfl) ⟨(Nat.le_of_ble_eq_true rfl), (Nat.le_of_ble_eq_true rfl)⟩ dL_feared_4 (fun e n2 q hn2 hE => ?_) (fun x => ?_)
  · by_cases g0 : e = 2
    · subst g0
      refine ⟨12, ⟨[], ⟨0, 9, 12, 21⟩, [], T, (fun z hz => absurd hz List.not_mem_nil), by decide, by decide, rfl, tw_738, by decide +kernel⟩, ?_⟩
      show V X w 4 P n2 (0 + 1) (0 + 6) res (some (1, s)) s 12 [(0, A w a0), (1, I a1), (2, A w a2)] [.ref q]
      refine v_astq_n C [(3, .ref q), (0, A w a0), (1, I a1), (2, A w a2)] dL_feared_12 rfl (by decide) rfl ?_
      refine v_iconst C dL_feared_13 ?_
      exact v_wiret C hn2 rfl hO dL_feared_14
    · exfalso
      simp only [if_neg g0] at hE
      cases hE
  · refine v_i2l C dL_feared_7 (fun v => ?_)
    refine v_last C dL_feared_8 (fun s9 => ?_)
    refine v_goto (tgt := 15) C dL_feared_9 rfl ?_
    refine v_iconst C dL_feared_15 ?_
    exact v_wiret C (Nat.le_refl _) rfl hO dL_feared_16
-- framesToClear
abbrev rL_framesToClear : Room := { frames := 8, cells := 1, slots := 6, locals := 132 }
abbrev hL_framesToClear : List (Nat × Nat × Nat × Nat) := [(0, 9, 12, 21)]
noncomputable def fL_framesToClear (P : Shp) (s : St) (a0 : Int) (a1 : Int) (a2 : Int) : Option (Int × St) :=
  trc P a0 (fX7_framesToClear P s a0 a1) (fun x => i2l x.1 fun v => sI P 11 x.2 a2 0 v fun s => some (0, s)) (fun e => if e = 2 then some (1, s) else none)
theorem h9L_framesToClear : yL_framesToClear.cls ≠ "java/lang/invoke/MethodHandle" ∧ yL_framesToClear.cls ≠ "java/lang/invoke/VarHandle" ∧ (parseMethodDescriptor yL_framesToClear.desc).map (fun d => d.parameters.length) = some 3 := by decide +kernel
theorem kL_framesToClear (l : Launch) (hst : l.stackTraces = false) (w : Wd) (P : Shp) (n : Nat) {s : St} {a0 : Int} {a1 : Int} {a2 : Int} {res : Int × St} (h : fL_framesToClear P s a0 a1 a2 = some res) : CtW l w yL_framesToClear cL_framesToClear 4 hL_framesToClear rL_framesToClear 1 6 P n [A w a0, I a1, A w a2] s res :=
  CtW.of h (by decide) (Nat.le_of_ble_eq_true rfl) (lv := [(0, A w a0), (1, I a1), (2, A w a2)]) rfl fun X hl hRm C T hO => by
  subst hl
  unfold fL_framesToClear
  refine v_aload_n C dL_framesToClear_0 rfl (j := 2) rfl ?_
  refine v_iconst C dL_framesToClear_1 ?_
  refine v_aload_n C dL_framesToClear_2 rfl (j := 0) rfl ?_
  refine v_iload_n C dL_framesToClear_3 rfl (j := 1) rfl ?_
  refine v_tryI C (N := 5) (Tn := TX7) [I a1] [I 0, A w a2] (fun x h => kX7_framesToClear X.2.1 hst w P n h) tw_868 tw_1 hX7_framesToClear rfl rfl hRm (Nat.le_of_ble_eq_true rfl) (Nat.le_of_ble_eq_true rfl) tw_865 tw_866 tw_867 rfl rfl rfl rfl (Nat.le_of_ble_eq_true rfl) ⟨(Nat.le_of_ble_eq_true rfl), (Nat.le_of_ble_eq_true rfl)⟩ dL_framesToClear_4 (fun e n2 q hn2 hE => ?_) (fun x => ?_)
  · by_cases g0 : e = 2
    · subst g0
      refine ⟨12, ⟨[], ⟨0, 9, 12, 21⟩, [], T, (fun z hz => absurd hz List.not_mem_nil), by decide, by decide, rfl, tw_738, by decide +kernel⟩, ?_⟩
      show V X w 4 P n2 (0 + 1) (0 + 6) res (some (1, s)) s 12 [(0, A w a0), (1, I a1), (2, A w a2)] [.ref q]
      refine v_astq_n C [(3, .ref q), (0, A w a0), (1, I a1), (2, A w a2)] dL_framesToClear_12 rfl (by decide) rfl ?_
      refine v_iconst C dL_framesToClear_13 ?_
      exact v_wiret C hn2 rfl hO dL_framesToClear_14
    · exfalso
      simp only [if_neg g0] at hE
      cases hE
  · refine v_i2l C dL_framesToClear_7 (fun v => ?_)
    refine v_last C dL_framesToClear_8 (fun s9 => ?_)
    refine v_goto (tgt := 15) C dL_framesToClear_9 rfl ?_
    refine v_iconst C dL_framesToClear_15 ?_
    exact v_wiret C (Nat.le_refl _) rfl hO dL_framesToClear_16
-- atStake
abbrev rL_atStake : Room := { frames := 8, cells := 1, slots := 6, locals := 132 }
abbrev hL_atStake : List (Nat × Nat × Nat × Nat) := [(0, 9, 12, 21)]
noncomputable def fL_atStake (P : Shp) (s : St) (a0 : Int) (a1 : Int) (a2 : Int) : Option (Int × St) :=
  trc P a0 (fX7_atStake P s a0 a1) (fun x => i2l x.1 fun v => sI P 11 x.2 a2 0 v fun s => some (0, s)) (fun e => if e = 2 then some (1, s) else none)
theorem h9L_atStake : yL_atStake.cls ≠ "java/lang/invoke/MethodHandle" ∧ yL_atStake.cls ≠ "java/lang/invoke/VarHandle" ∧ (parseMethodDescriptor yL_atStake.desc).map (fun d => d.parameters.length) = some 3 := by decide +kernel
theorem kL_atStake (l : Launch) (hst : l.stackTraces = false) (w : Wd) (P : Shp) (n : Nat) {s : St} {a0 : Int} {a1 : Int} {a2 : Int} {res : Int × St} (h : fL_atStake P s a0 a1 a2 = some res) : CtW l w yL_atStake cL_atStake 4 hL_atStake rL_atStake 1 6 P n [A w a0, I a1, A w a2] s res :=
  CtW.of h (by decide) (Nat.le_of_ble_eq_true rfl) (lv := [(0, A w a0), (1, I a1), (2, A w a2)]) rfl fun X hl hRm C T hO => by
  subst hl
  unfold fL_atStake
  refine v_aload_n C dL_atStake_0 rfl (j := 2) rfl ?_
  refine v_iconst C dL_atStake_1 ?_
  refine v_aload_n C dL_atStake_2 rfl (j := 0) rfl ?_
  refine v_iload_n C dL_atStake_3 rfl (j := 1) rfl ?_
  refine v_tryI C (N := 5) (Tn := TX7) [I a1] [I 0, A w a2] (fun x h => kX7_atStake X.2.1 hst w P n h) tw_884 tw_1 hX7_atStake rfl rfl hRm (Nat.le_of_ble_eq_true rfl) (Nat.le_of_ble_eq_true rfl) tw_881 tw_882 tw_883 rfl rfl rfl rfl (Nat.le_of_ble_eq_true rfl) ⟨(Nat.le_of_ble_eq_true rfl), (Nat.le_of_ble_eq_true rfl)⟩ dL_atStake_4 (fun e n2 q hn2 hE => ?_) (fun x => ?_)
  · by_cases g0 : e = 2
    · subst g0
      refine ⟨12, ⟨[], ⟨0, 9, 12, 21⟩, [], T, (fun z hz => absurd hz List.not_mem_nil), by decide, by decide, rfl, tw_738, by decide +kernel⟩, ?_⟩
      show V X w 4 P n2 (0 + 1) (0 + 6) res (some (1, s)) s 12 [(0, A w a0), (1, I a1), (2, A w a2)] [.ref q]
      refine v_astq_n C [(3, .ref q), (0, A w a0), (1, I a1), (2, A w a2)] dL_atStake_12 rfl (by decide) rfl ?_
      refine v_iconst C dL_atStake_13 ?_
      exact v_wiret C hn2 rfl hO dL_atStake_14
    · exfalso
      simp only [if_neg g0] at hE
      cases hE
  · refine v_i2l C dL_atStake_7 (fun v => ?_)
    refine v_last C dL_atStake_8 (fun s9 => ?_)
    refine v_goto (tgt := 15) C dL_atStake_9 rfl ?_
    refine v_iconst C dL_atStake_15 ?_
    exact v_wiret C (Nat.le_refl _) rfl hO dL_atStake_16
-- whyNotRunning
abbrev rL_whyNotRunning : Room := { frames := 8, cells := 1, slots := 6, locals := 132 }
abbrev hL_whyNotRunning : List (Nat × Nat × Nat × Nat) := [(0, 9, 12, 21)]
noncomputable def fL_whyNotRunning (P : Shp) (s : St) (a0 : Int) (a1 : Int) (a2 : Int) : Option (Int × St) :=
  trc P a0 (fX7_whyNotRunning P s a0 a1) (fun x => i2l x.1 fun v => sI P 11 x.2 a2 0 v fun s => some (0, s)) (fun e => if e = 2 then some (1, s) else none)
theorem h9L_whyNotRunning : yL_whyNotRunning.cls ≠ "java/lang/invoke/MethodHandle" ∧ yL_whyNotRunning.cls ≠ "java/lang/invoke/VarHandle" ∧ (parseMethodDescriptor yL_whyNotRunning.desc).map (fun d => d.parameters.length) = some 3 := by decide +kernel
theorem kL_whyNotRunning (l : Launch) (hst : l.stackTraces = false) (w : Wd) (P : Shp) (n : Nat) {s : St} {a0 : Int} {a1 : Int} {a2 : Int} {res : Int × St} (h : fL_whyNotRunning P s a0 a1 a2 = some res) : CtW l w yL_whyNotRunning cL_whyNotRunning 4 hL_whyNotRunning rL_whyNotRunning 1 6 P n [A w a0, I a1, A w a2] s res :=
  CtW.of h (by decide) (Nat.le_of_ble_eq_true rfl) (lv := [(0, A w a0), (1, I a1), (2, A w a2)]) rfl fun X hl hRm C T hO => by
  subst hl
  unfold fL_whyNotRunning
  refine v_aload_n C dL_whyNotRunning_0 rfl (j := 2) rfl ?_
  refine v_iconst C dL_whyNotRunning_1 ?_
  refine v_aload_n C dL_whyNotRunning_2 rfl (j := 0) rfl ?_
  refine v_iload_n C dL_whyNotRunning_3 rfl (j := 1) rfl ?_
  refine v_tryI C (N := 5) (Tn := TX7) [I a1] [I 0, A w a2] (fun x h => kX7_whyNotRunning X.2.1 hst w P n h) tw_895 tw_1 hX7_whyNotRunning rfl rfl hRm (Nat.le_of_ble_eq_true rfl) (Nat.le_of_ble_eq_true rfl) tw_892 tw_893 tw_894 rfl rfl rfl rfl (Nat.le_of_ble_eq_true rfl) ⟨(Nat.le_of_ble_eq_true rfl), (Nat.le_of_ble_eq_true rfl)⟩ dL_whyNotRunning_4 (fun e n2 q hn2 hE => ?_) (fun x => ?_)
  · by_cases g0 : e = 2
    · subst g0
      refine ⟨12, ⟨[], ⟨0, 9, 12, 21⟩, [], T, (fun z hz => absurd hz List.not_mem_nil), by decide, by decide, rfl, tw_738, by decide +kernel⟩, ?_⟩
      show V X w 4 P n2 (0 + 1) (0 + 6) res (some (1, s)) s 12 [(0, A w a0), (1, I a1), (2, A w a2)] [.ref q]
      refine v_astq_n C [(3, .ref q), (0, A w a0), (1, I a1), (2, A w a2)] dL_whyNotRunning_12 rfl (by decide) rfl ?_
      refine v_iconst C dL_whyNotRunning_13 ?_
      exact v_wiret C hn2 rfl hO dL_whyNotRunning_14
    · exfalso
      simp only [if_neg g0] at hE
      cases hE
  · refine v_i2l C dL_whyNotRunning_7 (fun v => ?_)
    refine v_last C dL_whyNotRunning_8 (fun s9 => ?_)
    refine v_goto (tgt := 15) C dL_whyNotRunning_9 rfl ?_
    refine v_iconst C dL_whyNotRunning_15 ?_
    exact v_wiret C (Nat.le_refl _) rfl hO dL_whyNotRunning_16
-- event
abbrev rL_event : Room := { frames := 7, cells := 1, slots := 6, locals := 112 }
abbrev hL_event : List (Nat × Nat × Nat × Nat) := [(0, 10, 13, 13)]
noncomputable def fL_event (P : Shp) (s : St) (a0 : Int) (a1 : Int) (a2 : Int) (a3 : Int) : Option (Int × St) :=
  trc P a0 (fX7_event P s a0 a1 a2) (fun x => i2l x.1 fun v => sI P 11 x.2 a3 0 v fun s => some (0, s)) (fun e => if e = 0 then some (1, s) else none)
theorem h9L_event : yL_event.cls ≠ "java/lang/invoke/MethodHandle" ∧ yL_event.cls ≠ "java/lang/invoke/VarHandle" ∧ (parseMethodDescriptor yL_event.desc).map (fun d => d.parameters.length) = some 4 := by decide +kernel
theorem kL_event (l : Launch) (hst : l.stackTraces = false) (w : Wd) (P : Shp) (n : Nat) {s : St} {a0 : Int} {a1 : Int} {a2 : Int} {a3 : Int} {res : Int × St} (h : fL_event P s a0 a1 a2 a3 = some res) : CtW l w yL_event cL_event 5 hL_event rL_event 1 6 P n [A w a0, I a1, I a2, A w a3] s res :=
  CtW.of h (by decide) (Nat.le_of_ble_eq_true rfl) (lv := [(0, A w a0), (1, I a1), (2, I a2), (3, A w a3)]) rfl fun X hl hRm C T hO => by
  subst hl
  unfold fL_event
  refine v_aload_n C dL_event_0 rfl (j := 3) rfl ?_
  refine v_iconst C dL_event_1 ?_
  refine v_aload_n C dL_event_2 rfl (j := 0) rfl ?_
  refine v_iload_n C dL_event_3 rfl (j := 1) rfl ?_
  refine v_iload_n C dL_event_4 rfl (j := 2) rfl ?_
  refine v_tryI C (N := 5) (Tn := TX7) [I a1, I a2] [I 0, A w a3] (fun x h => kX7_event X.2.1 hst w P n h) tw_906 tw_1 hX7_event rfl rfl hRm (Nat.le_of_ble_eq_true rfl) (Nat.le_of_ble_eq_true rfl) tw_903 tw_904 tw_905 rfl rfl rfl rfl (Nat.le_of_ble_eq_true rfl) ⟨(Nat.le_of_ble_eq_true rfl), (Nat.le_of_ble_eq_true rfl)⟩ dL_event_5 (fun e n2 q hn2 hE => ?_) (fun x => ?_)
  · by_cases g0 : e = 0
    · subst g0
      refine ⟨13, ⟨[], ⟨0, 10, 13, 13⟩, [], T, (fun z hz => absurd hz List.not_mem_nil), by decide, by decide, rfl, tw_463, by decide +kernel⟩, ?_⟩
      show V X w 5 P n2 (0 + 1) (0 + 6) res (some (1, s)) s 13 [(0, A w a0), (1, I a1), (2, I a2), (3, A w a3)] [.ref q]
      refine v_astq C [(4, .ref q), (0, A w a0), (1, I a1), (2, I a2), (3, A w a3)] dL_event_13 (by decide) rfl ?_
      refine v_iconst C dL_event_15 ?_
      exact v_wiret C hn2 rfl hO dL_event_16
    · exfalso
      simp only [if_neg g0] at hE
      cases hE
  · refine v_i2l C dL_event_8 (fun v => ?_)
    refine v_last C dL_event_9 (fun s9 => ?_)
    refine v_goto (tgt := 17) C dL_event_10 rfl ?_
    refine v_iconst C dL_event_17 ?_
    exact v_wiret C (Nat.le_refl _) rfl hO dL_event_18
-- account
abbrev rL_account : Room := { frames := 7, cells := 1, slots := 6, locals := 111 }
abbrev hL_account : List (Nat × Nat × Nat × Nat) := [(0, 9, 12, 13)]
noncomputable def fL_account (P : Shp) (s : St) (a0 : Int) (a1 : Int) (a2 : Int) : Option (Int × St) :=
  trc P a0 (fX7_account P s a0 a1) (fun x => i2l x.1 fun v => sI P 11 x.2 a2 0 v fun s => some (0, s)) (fun e => if e = 0 then some (1, s) else none)
theorem h9L_account : yL_account.cls ≠ "java/lang/invoke/MethodHandle" ∧ yL_account.cls ≠ "java/lang/invoke/VarHandle" ∧ (parseMethodDescriptor yL_account.desc).map (fun d => d.parameters.length) = some 3 := by decide +kernel
theorem kL_account (l : Launch) (hst : l.stackTraces = false) (w : Wd) (P : Shp) (n : Nat) {s : St} {a0 : Int} {a1 : Int} {a2 : Int} {res : Int × St} (h : fL_account P s a0 a1 a2 = some res) : CtW l w yL_account cL_account 4 hL_account rL_account 1 6 P n [A w a0, I a1, A w a2] s res :=
  CtW.of h (by decide) (Nat.le_of_ble_eq_true rfl) (lv := [(0, A w a0), (1, I a1), (2, A w a2)]) rfl fun X hl hRm C T hO => by
  subst hl
  unfold fL_account
  refine v_aload_n C dL_account_0 rfl (j := 2) rfl ?_
  refine v_iconst C dL_account_1 ?_
  refine v_aload_n C dL_account_2 rfl (j := 0) rfl ?_
  refine v_iload_n C dL_account_3 rfl (j := 1) rfl ?_
  refine v_tryI C (N := 5) (Tn := TX7) [I a1] [I 0, A w a2] (fun x h => kX7_account X.2.1 hst w P n h) tw_919 tw_1 hX7_account rfl rfl hRm (Nat.le_of_ble_eq_true rfl) (Nat.le_of_ble_eq_true rfl) tw_916 tw_917 tw_918 rfl rfl rfl rfl (Nat.le_of_ble_eq_true rfl) ⟨(Nat.le_of_ble_eq_true rfl), (Nat.le_of_ble_eq_true rfl)⟩ dL_account_4 (fun e n2 q hn2 hE => ?_) (fun x => ?_)
  · by_cases g0 : e = 0
    · subst g0
      refine ⟨12, ⟨[], ⟨0, 9, 12, 13⟩, [], T, (fun z hz => absurd hz List.not_mem_nil), by decide, by decide, rfl, tw_463, by decide +kernel⟩, ?_⟩
      show V X w 4 P n2 (0 + 1) (0 + 6) res (some (1, s)) s 12 [(0, A w a0), (1, I a1), (2, A w a2)] [.ref q]
      refine v_astq_n C [(3, .ref q), (0, A w a0), (1, I a1), (2, A w a2)] dL_account_12 rfl (by decide) rfl ?_
      refine v_iconst C dL_account_13 ?_
      exact v_wiret C hn2 rfl hO dL_account_14
    · exfalso
      simp only [if_neg g0] at hE
      cases hE
  · refine v_i2l C dL_account_7 (fun v => ?_)
    refine v_last C dL_account_8 (fun s9 => ?_)
    refine v_goto (tgt := 15) C dL_account_9 rfl ?_
    refine v_iconst C dL_account_15 ?_
    exact v_wiret C (Nat.le_refl _) rfl hO dL_account_16
-- frames
abbrev rL_frames : Room := { frames := 7, cells := 1, slots := 6, locals := 155 }
abbrev hL_frames : List (Nat × Nat × Nat × Nat) := [(0, 9, 12, 13)]
noncomputable def fL_frames (P : Shp) (s : St) (a0 : Int) (a1 : Int) (a2 : Int) : Option (Int × St) :=
  trc P a0 (fX7_frames P s a0 a1) (fun x => i2l x.1 fun v => sI P 11 x.2 a2 0 v fun s => some (0, s)) (fun e => if e = 0 then some (1, s) else none)
theorem h9L_frames : yL_frames.cls ≠ "java/lang/invoke/MethodHandle" ∧ yL_frames.cls ≠ "java/lang/invoke/VarHandle" ∧ (parseMethodDescriptor yL_frames.desc).map (fun d => d.parameters.length) = some 3 := by decide +kernel
theorem kL_frames (l : Launch) (hst : l.stackTraces = false) (w : Wd) (P : Shp) (n : Nat) {s : St} {a0 : Int} {a1 : Int} {a2 : Int} {res : Int × St} (h : fL_frames P s a0 a1 a2 = some res) : CtW l w yL_frames cL_frames 4 hL_frames rL_frames 1 6 P n [A w a0, I a1, A w a2] s res :=
  CtW.of h (by decide) (Nat.le_of_ble_eq_true rfl) (lv := [(0, A w a0), (1, I a1), (2, A w a2)]) rfl fun X hl hRm C T hO => by
  subst hl
  unfold fL_frames
  refine v_aload_n C dL_frames_0 rfl (j := 2) rfl ?_
  refine v_iconst C dL_frames_1 ?_
  refine v_aload_n C dL_frames_2 rfl (j := 0) rfl ?_
  refine v_iload_n C dL_frames_3 rfl (j := 1) rfl ?_
  refine v_tryI C (N := 5) (Tn := TX7) [I a1] [I 0, A w a2] (fun x h => kX7_frames X.2.1 hst w P n h) tw_927 tw_1 hX7_frames rfl rfl hRm (Nat.le_of_ble_eq_true rfl) (Nat.le_of_ble_eq_true rfl) tw_924 tw_925 tw_926 rfl rfl rfl rfl (Nat.le_of_ble_eq_true rfl) ⟨(Nat.le_of_ble_eq_true rfl), (Nat.le_of_ble_eq_true rfl)⟩ dL_frames_4 (fun e n2 q hn2 hE => ?_) (fun x => ?_)
  · by_cases g0 : e = 0
    · subst g0
      refine ⟨12, ⟨[], ⟨0, 9, 12, 13⟩, [], T, (fun z hz => absurd hz List.not_mem_nil), by decide, by decide, rfl, tw_463, by decide +kernel⟩, ?_⟩
      show V X w 4 P n2 (0 + 1) (0 + 6) res (some (1, s)) s 12 [(0, A w a0), (1, I a1), (2, A w a2)] [.ref q]
      refine v_astq_n C [(3, .ref q), (0, A w a0), (1, I a1), (2, A w a2)] dL_frames_12 rfl (by decide) rfl ?_
      refine v_iconst C dL_frames_13 ?_
      exact v_wiret C hn2 rfl hO dL_frames_14
    · exfalso
      simp only [if_neg g0] at hE
      cases hE
  · refine v_i2l C dL_frames_7 (fun v => ?_)
    refine v_last C dL_frames_8 (fun s9 => ?_)
    refine v_goto (tgt := 15) C dL_frames_9 rfl ?_
    refine v_iconst C dL_frames_15 ?_
    exact v_wiret C (Nat.le_refl _) rfl hO dL_frames_16
-- fail
abbrev rL_fail : Room := { frames := 8, cells := 3, slots := 18, locals := 182 }
abbrev hL_fail : List (Nat × Nat × Nat × Nat) := [(0, 10, 13, 21), (0, 10, 17, 13), (0, 10, 21, 68)]
noncomputable def fL_fail (P : Shp) (s : St) (a0 : Int) (a1 : Int) (a2 : Int) (a3 : Int) : Option (Int × St) :=
  trc P a0 (fX7_fail P s a0 a1 a2) (fun x => i2l x.1 fun v => sI P 11 x.2 a3 0 v fun s => some (0, s)) (fun e => if e = 2 then some (1, s) else if e = 0 then some (2, s) else if e = 1 then some (3, s) else none)
theorem h9L_fail : yL_fail.cls ≠ "java/lang/invoke/MethodHandle" ∧ yL_fail.cls ≠ "java/lang/invoke/VarHandle" ∧ (parseMethodDescriptor yL_fail.desc).map (fun d => d.parameters.length) = some 4 := by decide +kernel
theorem kL_fail (l : Launch) (hst : l.stackTraces = false) (w : Wd) (P : Shp) (n : Nat) {s : St} {a0 : Int} {a1 : Int} {a2 : Int} {a3 : Int} {res : Int × St} (h : fL_fail P s a0 a1 a2 a3 = some res) : CtW l w yL_fail cL_fail 5 hL_fail rL_fail 3 18 P n [A w a0, I a1, I a2, A w a3] s res :=
  CtW.of h (by decide) (Nat.le_of_ble_eq_true rfl) (lv := [(0, A w a0), (1, I a1), (2, I a2), (3, A w a3)]) rfl fun X hl hRm C T hO => by
  subst hl
  unfold fL_fail
  refine v_aload_n C dL_fail_0 rfl (j := 3) rfl ?_
  refine v_iconst C dL_fail_1 ?_
  refine v_aload_n C dL_fail_2 rfl (j := 0) rfl ?_
  refine v_iload_n C dL_fail_3 rfl (j := 1) rfl ?_
  refine v_iload_n C dL_fail_4 rfl (j := 2) rfl ?_
  refine v_tryI C (N := 5) (Tn := TX7) [I a1, I a2] [I 0, A w a3] (fun x h => kX7_fail X.2.1 hst w P n h) tw_966 tw_1 hX7_fail rfl rfl hRm (Nat.le_of_ble_eq_true rfl) (Nat.le_of_ble_eq_true rfl) tw_963 tw_964 tw_965 rfl rfl rfl rfl (Nat.le_of_ble_eq_true rfl) ⟨(Nat.le_of_ble_eq_true rfl), (Nat.le_of_ble_eq_true rfl)⟩ dL_fail_5 (fun e n2 q hn2 hE => ?_) (fun x => ?_)
  · by_cases g0 : e = 2
    · subst g0
      refine ⟨13, ⟨[], ⟨0, 10, 13, 21⟩, [⟨0, 10, 17, 13⟩, ⟨0, 10, 21, 68⟩], T, (fun z hz => absurd hz List.not_mem_nil), by decide, by decide, rfl, tw_738, by decide +kernel⟩, ?_⟩
      show V X w 5 P n2 (0 + 3) (0 + 18) res (some (1, s)) s 13 [(0, A w a0), (1, I a1), (2, I a2), (3, A w a3)] [.ref q]
      refine v_astq C [(4, .ref q), (0, A w a0), (1, I a1), (2, I a2), (3, A w a3)] dL_fail_13 (by decide) rfl ?_
      refine v_iconst C dL_fail_15 ?_
      exact v_wiret C hn2 rfl hO dL_fail_16
    · by_cases g1 : e = 0
      · subst g1
        refine ⟨17, ⟨[⟨0, 10, 13, 21⟩], ⟨0, 10, 17, 13⟩, [⟨0, 10, 21, 68⟩], T, (List.forall_mem_cons.mpr ⟨⟨by decide, _, tw_738, by decide +kernel⟩, fun z hz => absurd hz List.not_mem_nil⟩), by decide, by decide, rfl, tw_463, by decide +kernel⟩, ?_⟩
        show V X w 5 P n2 (0 + 3) (0 + 18) res (some (2, s)) s 17 [(0, A w a0), (1, I a1), (2, I a2), (3, A w a3)] [.ref q]
        refine v_astq C [(4, .ref q), (0, A w a0), (1, I a1), (2, I a2), (3, A w a3)] dL_fail_17 (by decide) rfl ?_
        refine v_iconst C dL_fail_19 ?_
        exact v_wiret C hn2 rfl hO dL_fail_20
      · by_cases g2 : e = 1
        · subst g2
          refine ⟨21, ⟨[⟨0, 10, 13, 21⟩, ⟨0, 10, 17, 13⟩], ⟨0, 10, 21, 68⟩, [], T, (List.forall_mem_cons.mpr ⟨⟨by decide, _, tw_738, by decide +kernel⟩, List.forall_mem_cons.mpr ⟨⟨by decide, _, tw_463, by decide +kernel⟩, fun z hz => absurd hz List.not_mem_nil⟩⟩), by decide, by decide, rfl, tw_962, by decide +kernel⟩, ?_⟩
          show V X w 5 P n2 (0 + 3) (0 + 18) res (some (3, s)) s 21 [(0, A w a0), (1, I a1), (2, I a2), (3, A w a3)] [.ref q]
          refine v_astq C [(4, .ref q), (0, A w a0), (1, I a1), (2, I a2), (3, A w a3)] dL_fail_21 (by decide) rfl ?_
          refine v_iconst C dL_fail_23 ?_
          exact v_wiret C hn2 rfl hO dL_fail_24
        · exfalso
          simp only [if_neg g0, if_neg g1, if_neg g2] at hE
          cases hE
  · refine v_i2l C dL_fail_8 (fun v => ?_)
    refine v_last C dL_fail_9 (fun s9 => ?_)
    refine v_goto (tgt := 25) C dL_fail_10 rfl ?_
    refine v_iconst C dL_fail_25 ?_
    exact v_wiret C (Nat.le_refl _) rfl hO dL_fail_26
-- warn
abbrev rL_warn : Room := { frames := 8, cells := 3, slots := 18, locals := 134 }
abbrev hL_warn : List (Nat × Nat × Nat × Nat) := [(0, 9, 12, 21), (0, 9, 15, 68)]
noncomputable def fL_warn (P : Shp) (s : St) (a0 : Int) (a1 : Int) (a2 : Int) : Option (Int × St) :=
  trc P a0 (fX7_warn P s a0 a1) (fun x => i2l x.1 fun v => sI P 11 x.2 a2 0 v fun s => some (0, s)) (fun e => if e = 2 then some (1, s) else if e = 1 then some (2, s) else none)
theorem h9L_warn : yL_warn.cls ≠ "java/lang/invoke/MethodHandle" ∧ yL_warn.cls ≠ "java/lang/invoke/VarHandle" ∧ (parseMethodDescriptor yL_warn.desc).map (fun d => d.parameters.length) = some 3 := by decide +kernel
theorem kL_warn (l : Launch) (hst : l.stackTraces = false) (w : Wd) (P : Shp) (n : Nat) {s : St} {a0 : Int} {a1 : Int} {a2 : Int} {res : Int × St} (h : fL_warn P s a0 a1 a2 = some res) : CtW l w yL_warn cL_warn 4 hL_warn rL_warn 3 18 P n [A w a0, I a1, A w a2] s res :=
  CtW.of h (by decide) (Nat.le_of_ble_eq_true rfl) (lv := [(0, A w a0), (1, I a1), (2, A w a2)]) rfl fun X hl hRm C T hO => by
  subst hl
  unfold fL_warn
  refine v_aload_n C dL_warn_0 rfl (j := 2) rfl ?_
  refine v_iconst C dL_warn_1 ?_
  refine v_aload_n C dL_warn_2 rfl (j := 0) rfl ?_
  refine v_iload_n C dL_warn_3 rfl (j := 1) rfl ?_
  refine v_tryI C (N := 5) (Tn := TX7) [I a1] [I 0, A w a2] (fun x h => kX7_warn X.2.1 hst w P n h) tw_1013 tw_1 hX7_warn rfl rfl hRm (Nat.le_of_ble_eq_true rfl) (Nat.le_of_ble_eq_true rfl) tw_1010 tw_1011 tw_1012 rfl rfl rfl rfl (Nat.le_of_ble_eq_true rfl) ⟨(Nat.le_of_ble_eq_true rfl), (Nat.le_of_ble_eq_true rfl)⟩ dL_warn_4 (fun e n2 q hn2 hE => ?_) (fun x => ?_)
  · by_cases g0 : e = 2
    · subst g0
      refine ⟨12, ⟨[], ⟨0, 9, 12, 21⟩, [⟨0, 9, 15, 68⟩], T, (fun z hz => absurd hz List.not_mem_nil), by decide, by decide, rfl, tw_738, by decide +kernel⟩, ?_⟩
      show V X w 4 P n2 (0 + 3) (0 + 18) res (some (1, s)) s 12 [(0, A w a0), (1, I a1), (2, A w a2)] [.ref q]
      refine v_astq_n C [(3, .ref q), (0, A w a0), (1, I a1), (2, A w a2)] dL_warn_12 rfl (by decide) rfl ?_
      refine v_iconst C dL_warn_13 ?_
      exact v_wiret C hn2 rfl hO dL_warn_14
    · by_cases g1 : e = 1
      · subst g1
        refine ⟨15, ⟨[⟨0, 9, 12, 21⟩], ⟨0, 9, 15, 68⟩, [], T, (List.forall_mem_cons.mpr ⟨⟨by decide, _, tw_738, by decide +kernel⟩, fun z hz => absurd hz List.not_mem_nil⟩), by decide, by decide, rfl, tw_962, by decide +kernel⟩, ?_⟩
        show V X w 4 P n2 (0 + 3) (0 + 18) res (some (2, s)) s 15 [(0, A w a0), (1, I a1), (2, A w a2)] [.ref q]
        refine v_astq_n C [(3, .ref q), (0, A w a0), (1, I a1), (2, A w a2)] dL_warn_15 rfl (by decide) rfl ?_
        refine v_iconst C dL_warn_16 ?_
        exact v_wiret C hn2 rfl hO dL_warn_17
      · exfalso
        simp only [if_neg g0, if_neg g1] at hE
        cases hE
  · refine v_i2l C dL_warn_7 (fun v => ?_)
    refine v_last C dL_warn_8 (fun s9 => ?_)
    refine v_goto (tgt := 18) C dL_warn_9 rfl ?_
    refine v_iconst C dL_warn_18 ?_
    exact v_wiret C (Nat.le_refl _) rfl hO dL_warn_19
-- callOff
abbrev rL_callOff : Room := { frames := 8, cells := 2, slots := 12, locals := 133 }
abbrev hL_callOff : List (Nat × Nat × Nat × Nat) := [(0, 9, 12, 21), (0, 9, 15, 68)]
noncomputable def fL_callOff (P : Shp) (s : St) (a0 : Int) (a1 : Int) (a2 : Int) : Option (Int × St) :=
  trc P a0 (fX7_callOff P s a0 a1) (fun x => i2l x.1 fun v => sI P 11 x.2 a2 0 v fun s => some (0, s)) (fun e => if e = 2 then some (1, s) else if e = 1 then some (2, s) else none)
theorem h9L_callOff : yL_callOff.cls ≠ "java/lang/invoke/MethodHandle" ∧ yL_callOff.cls ≠ "java/lang/invoke/VarHandle" ∧ (parseMethodDescriptor yL_callOff.desc).map (fun d => d.parameters.length) = some 3 := by decide +kernel
theorem kL_callOff (l : Launch) (hst : l.stackTraces = false) (w : Wd) (P : Shp) (n : Nat) {s : St} {a0 : Int} {a1 : Int} {a2 : Int} {res : Int × St} (h : fL_callOff P s a0 a1 a2 = some res) : CtW l w yL_callOff cL_callOff 4 hL_callOff rL_callOff 2 12 P n [A w a0, I a1, A w a2] s res :=
  CtW.of h (by decide) (Nat.le_of_ble_eq_true rfl) (lv := [(0, A w a0), (1, I a1), (2, A w a2)]) rfl fun X hl hRm C T hO => by
  subst hl
  unfold fL_callOff
  refine v_aload_n C dL_callOff_0 rfl (j := 2) rfl ?_
  refine v_iconst C dL_callOff_1 ?_
  refine v_aload_n C dL_callOff_2 rfl (j := 0) rfl ?_
  refine v_iload_n C dL_callOff_3 rfl (j := 1) rfl ?_
  refine v_tryI C (N := 5) (Tn := TX7) [I a1] [I 0, A w a2] (fun x h => kX7_callOff X.2.1 hst w P n h) tw_1023 tw_1 hX7_callOff rfl rfl hRm (Nat.le_of_ble_eq_true rfl) (Nat.le_of_ble_eq_true rfl) tw_1020 tw_1021 tw_1022 rfl rfl rfl rfl (Nat.le_of_ble_eq_true rfl) ⟨(Nat.le_of_ble_eq_true rfl), (Nat.le_of_ble_eq_true rfl)⟩ dL_callOff_4 (fun e n2 q hn2 hE => ?_) (fun x => ?_)
  · by_cases g0 : e = 2
    · subst g0
      refine ⟨12, ⟨[], ⟨0, 9, 12, 21⟩, [⟨0, 9, 15, 68⟩], T, (fun z hz => absurd hz List.not_mem_nil), by decide, by decide, rfl, tw_738, by decide +kernel⟩, ?_⟩
      show V X w 4 P n2 (0 + 2) (0 + 12) res (some (1, s)) s 12 [(0, A w a0), (1, I a1), (2, A w a2)] [.ref q]
      refine v_astq_n C [(3, .ref q), (0, A w a0), (1, I a1), (2, A w a2)] dL_callOff_12 rfl (by decide) rfl ?_
      refine v_iconst C dL_callOff_13 ?_
      exact v_wiret C hn2 rfl hO dL_callOff_14
    · by_cases g1 : e = 1
      · subst g1
        refine ⟨15, ⟨[⟨0, 9, 12, 21⟩], ⟨0, 9, 15, 68⟩, [], T, (List.forall_mem_cons.mpr ⟨⟨by decide, _, tw_738, by decide +kernel⟩, fun z hz => absurd hz List.not_mem_nil⟩), by decide, by decide, rfl, tw_962, by decide +kernel⟩, ?_⟩
        show V X w 4 P n2 (0 + 2) (0 + 12) res (some (2, s)) s 15 [(0, A w a0), (1, I a1), (2, A w a2)] [.ref q]
        refine v_astq_n C [(3, .ref q), (0, A w a0), (1, I a1), (2, A w a2)] dL_callOff_15 rfl (by decide) rfl ?_
        refine v_iconst C dL_callOff_16 ?_
        exact v_wiret C hn2 rfl hO dL_callOff_17
      · exfalso
        simp only [if_neg g0, if_neg g1] at hE
        cases hE
  · refine v_i2l C dL_callOff_7 (fun v => ?_)
    refine v_last C dL_callOff_8 (fun s9 => ?_)
    refine v_goto (tgt := 18) C dL_callOff_9 rfl ?_
    refine v_iconst C dL_callOff_18 ?_
    exact v_wiret C (Nat.le_refl _) rfl hO dL_callOff_19
-- unplug
abbrev rL_unplug : Room := { frames := 8, cells := 2, slots := 12, locals := 156 }
abbrev hL_unplug : List (Nat × Nat × Nat × Nat) := [(0, 9, 12, 21), (0, 9, 15, 68)]
noncomputable def fL_unplug (P : Shp) (s : St) (a0 : Int) (a1 : Int) (a2 : Int) : Option (Int × St) :=
  trc P a0 (fX7_unplug P s a0 a1) (fun x => i2l x.1 fun v => sI P 11 x.2 a2 0 v fun s => some (0, s)) (fun e => if e = 2 then some (1, s) else if e = 1 then some (2, s) else none)
theorem h9L_unplug : yL_unplug.cls ≠ "java/lang/invoke/MethodHandle" ∧ yL_unplug.cls ≠ "java/lang/invoke/VarHandle" ∧ (parseMethodDescriptor yL_unplug.desc).map (fun d => d.parameters.length) = some 3 := by decide +kernel
theorem kL_unplug (l : Launch) (hst : l.stackTraces = false) (w : Wd) (P : Shp) (n : Nat) {s : St} {a0 : Int} {a1 : Int} {a2 : Int} {res : Int × St} (h : fL_unplug P s a0 a1 a2 = some res) : CtW l w yL_unplug cL_unplug 4 hL_unplug rL_unplug 2 12 P n [A w a0, I a1, A w a2] s res :=
  CtW.of h (by decide) (Nat.le_of_ble_eq_true rfl) (lv := [(0, A w a0), (1, I a1), (2, A w a2)]) rfl fun X hl hRm C T hO => by
  subst hl
  unfold fL_unplug
  refine v_aload_n C dL_unplug_0 rfl (j := 2) rfl ?_
  refine v_iconst C dL_unplug_1 ?_
  refine v_aload_n C dL_unplug_2 rfl (j := 0) rfl ?_
  refine v_iload_n C dL_unplug_3 rfl (j := 1) rfl ?_
  refine v_tryI C (N := 5) (Tn := TX7) [I a1] [I 0, A w a2] (fun x h => kX7_unplug X.2.1 hst w P n h) tw_1038 tw_1 hX7_unplug rfl rfl hRm (Nat.le_of_ble_eq_true rfl) (Nat.le_of_ble_eq_true rfl) tw_1035 tw_1036 tw_1037 rfl rfl rfl rfl (Nat.le_of_ble_eq_true rfl) ⟨(Nat.le_of_ble_eq_true rfl), (Nat.le_of_ble_eq_true rfl)⟩ dL_unplug_4 (fun e n2 q hn2 hE => ?_) (fun x => ?_)
  · by_cases g0 : e = 2
    · subst g0
      refine ⟨12, ⟨[], ⟨0, 9, 12, 21⟩, [⟨0, 9, 15, 68⟩], T, (fun z hz => absurd hz List.not_mem_nil), by decide, by decide, rfl, tw_738, by decide +kernel⟩, ?_⟩
      show V X w 4 P n2 (0 + 2) (0 + 12) res (some (1, s)) s 12 [(0, A w a0), (1, I a1), (2, A w a2)] [.ref q]
      refine v_astq_n C [(3, .ref q), (0, A w a0), (1, I a1), (2, A w a2)] dL_unplug_12 rfl (by decide) rfl ?_
      refine v_iconst C dL_unplug_13 ?_
      exact v_wiret C hn2 rfl hO dL_unplug_14
    · by_cases g1 : e = 1
      · subst g1
        refine ⟨15, ⟨[⟨0, 9, 12, 21⟩], ⟨0, 9, 15, 68⟩, [], T, (List.forall_mem_cons.mpr ⟨⟨by decide, _, tw_738, by decide +kernel⟩, fun z hz => absurd hz List.not_mem_nil⟩), by decide, by decide, rfl, tw_962, by decide +kernel⟩, ?_⟩
        show V X w 4 P n2 (0 + 2) (0 + 12) res (some (2, s)) s 15 [(0, A w a0), (1, I a1), (2, A w a2)] [.ref q]
        refine v_astq_n C [(3, .ref q), (0, A w a0), (1, I a1), (2, A w a2)] dL_unplug_15 rfl (by decide) rfl ?_
        refine v_iconst C dL_unplug_16 ?_
        exact v_wiret C hn2 rfl hO dL_unplug_17
      · exfalso
        simp only [if_neg g0, if_neg g1] at hE
        cases hE
  · refine v_i2l C dL_unplug_7 (fun v => ?_)
    refine v_last C dL_unplug_8 (fun s9 => ?_)
    refine v_goto (tgt := 18) C dL_unplug_9 rfl ?_
    refine v_iconst C dL_unplug_18 ?_
    exact v_wiret C (Nat.le_refl _) rfl hO dL_unplug_19
-- plug
abbrev rL_plug : Room := { frames := 8, cells := 3, slots := 18, locals := 156 }
abbrev hL_plug : List (Nat × Nat × Nat × Nat) := [(0, 10, 13, 21), (0, 10, 17, 68)]
noncomputable def fL_plug (P : Shp) (s : St) (a0 : Int) (a1 : Int) (a2 : Int) (a3 : Int) : Option (Int × St) :=
  trc P a0 (fX7_plug P s a0 a1 a2) (fun x => i2l x.1 fun v => sI P 11 x.2 a3 0 v fun s => some (0, s)) (fun e => if e = 2 then some (1, s) else if e = 1 then some (2, s) else none)
theorem h9L_plug : yL_plug.cls ≠ "java/lang/invoke/MethodHandle" ∧ yL_plug.cls ≠ "java/lang/invoke/VarHandle" ∧ (parseMethodDescriptor yL_plug.desc).map (fun d => d.parameters.length) = some 4 := by decide +kernel
theorem kL_plug (l : Launch) (hst : l.stackTraces = false) (w : Wd) (P : Shp) (n : Nat) {s : St} {a0 : Int} {a1 : Int} {a2 : Int} {a3 : Int} {res : Int × St} (h : fL_plug P s a0 a1 a2 a3 = some res) : CtW l w yL_plug cL_plug 5 hL_plug rL_plug 3 18 P n [A w a0, I a1, I a2, A w a3] s res :=
  CtW.of h (by decide) (Nat.le_of_ble_eq_true rfl) (lv := [(0, A w a0), (1, I a1), (2, I a2), (3, A w a3)]) rfl fun X hl hRm C T hO => by
  subst hl
  unfold fL_plug
  refine v_aload_n C dL_plug_0 rfl (j := 3) rfl ?_
  refine v_iconst C dL_plug_1 ?_
  refine v_aload_n C dL_plug_2 rfl (j := 0) rfl ?_
  refine v_iload_n C dL_plug_3 rfl (j := 1) rfl ?_
  refine v_iload_n C dL_plug_4 rfl (j := 2) rfl ?_
  refine v_tryI C (N := 5) (Tn := TX7) [I a1, I a2] [I 0, A w a3] (fun x h => kX7_plug X.2.1 hst w P n h) tw_1053 tw_1 hX7_plug rfl rfl hRm (Nat.le_of_ble_eq_true rfl) (Nat.le_of_ble_eq_true rfl) tw_1050 tw_1051 tw_1052 rfl rfl rfl rfl (Nat.le_of_ble_eq_true rfl) ⟨(Nat.le_of_ble_eq_true rfl), (Nat.le_of_ble_eq_true rfl)⟩ dL_plug_5 (fun e n2 q hn2 hE => ?_) (fun x => ?_)
  · by_cases g0 : e = 2
    · subst g0
      refine ⟨13, ⟨[], ⟨0, 10, 13, 21⟩, [⟨0, 10, 17, 68⟩], T, (fun z hz => absurd hz List.not_mem_nil), by decide, by decide, rfl, tw_738, by decide +kernel⟩, ?_⟩
      show V X w 5 P n2 (0 + 3) (0 + 18) res (some (1, s)) s 13 [(0, A w a0), (1, I a1), (2, I a2), (3, A w a3)] [.ref q]
      refine v_astq C [(4, .ref q), (0, A w a0), (1, I a1), (2, I a2), (3, A w a3)] dL_plug_13 (by decide) rfl ?_
      refine v_iconst C dL_plug_15 ?_
      exact v_wiret C hn2 rfl hO dL_plug_16
    · by_cases g1 : e = 1
      · subst g1
        refine ⟨17, ⟨[⟨0, 10, 13, 21⟩], ⟨0, 10, 17, 68⟩, [], T, (List.forall_mem_cons.mpr ⟨⟨by decide, _, tw_738, by decide +kernel⟩, fun z hz => absurd hz List.not_mem_nil⟩), by decide, by decide, rfl, tw_962, by decide +kernel⟩, ?_⟩
        show V X w 5 P n2 (0 + 3) (0 + 18) res (some (2, s)) s 17 [(0, A w a0), (1, I a1), (2, I a2), (3, A w a3)] [.ref q]
        refine v_astq C [(4, .ref q), (0, A w a0), (1, I a1), (2, I a2), (3, A w a3)] dL_plug_17 (by decide) rfl ?_
        refine v_iconst C dL_plug_19 ?_
        exact v_wiret C hn2 rfl hO dL_plug_20
      · exfalso
        simp only [if_neg g0, if_neg g1] at hE
        cases hE
  · refine v_i2l C dL_plug_8 (fun v => ?_)
    refine v_last C dL_plug_9 (fun s9 => ?_)
    refine v_goto (tgt := 21) C dL_plug_10 rfl ?_
    refine v_iconst C dL_plug_21 ?_
    exact v_wiret C (Nat.le_refl _) rfl hO dL_plug_22
-- setScore
abbrev rL_setScore : Room := { frames := 7, cells := 1, slots := 6, locals := 125 }
abbrev hL_setScore : List (Nat × Nat × Nat × Nat) := [(0, 9, 12, 13)]
noncomputable def fL_setScore (P : Shp) (s : St) (a0 : Int) (a1 : Int) (a2 : Int) : Option (Int × St) :=
  trc P a0 (fX7_setScore P s a0 a1) (fun x => i2l x.1 fun v => sI P 11 x.2 a2 0 v fun s => some (0, s)) (fun e => if e = 0 then some (1, s) else none)
theorem h9L_setScore : yL_setScore.cls ≠ "java/lang/invoke/MethodHandle" ∧ yL_setScore.cls ≠ "java/lang/invoke/VarHandle" ∧ (parseMethodDescriptor yL_setScore.desc).map (fun d => d.parameters.length) = some 3 := by decide +kernel
theorem kL_setScore (l : Launch) (hst : l.stackTraces = false) (w : Wd) (P : Shp) (n : Nat) {s : St} {a0 : Int} {a1 : Int} {a2 : Int} {res : Int × St} (h : fL_setScore P s a0 a1 a2 = some res) : CtW l w yL_setScore cL_setScore 4 hL_setScore rL_setScore 1 6 P n [A w a0, I a1, A w a2] s res :=
  CtW.of h (by decide) (Nat.le_of_ble_eq_true rfl) (lv := [(0, A w a0), (1, I a1), (2, A w a2)]) rfl fun X hl hRm C T hO => by
  subst hl
  unfold fL_setScore
  refine v_aload_n C dL_setScore_0 rfl (j := 2) rfl ?_
  refine v_iconst C dL_setScore_1 ?_
  refine v_aload_n C dL_setScore_2 rfl (j := 0) rfl ?_
  refine v_iload_n C dL_setScore_3 rfl (j := 1) rfl ?_
  refine v_tryI C (N := 5) (Tn := TX7) [I a1] [I 0, A w a2] (fun x h => kX7_setScore X.2.1 hst w P n h) tw_1066 tw_1 hX7_setScore rfl rfl hRm (Nat.le_of_ble_eq_true rfl) (Nat.le_of_ble_eq_true rfl) tw_1063 tw_1064 tw_1065 rfl rfl rfl rfl (Nat.le_of_ble_eq_true rfl) ⟨(Nat.le_of_ble_eq_true rfl), (Nat.le_of_ble_eq_true rfl)⟩ dL_setScore_4 (fun e n2 q hn2 hE => ?_) (fun x => ?_)
  · by_cases g0 : e = 0
    · subst g0
      refine ⟨12, ⟨[], ⟨0, 9, 12, 13⟩, [], T, (fun z hz => absurd hz List.not_mem_nil), by decide, by decide, rfl, tw_463, by decide +kernel⟩, ?_⟩
      show V X w 4 P n2 (0 + 1) (0 + 6) res (some (1, s)) s 12 [(0, A w a0), (1, I a1), (2, A w a2)] [.ref q]
      refine v_astq_n C [(3, .ref q), (0, A w a0), (1, I a1), (2, A w a2)] dL_setScore_12 rfl (by decide) rfl ?_
      refine v_iconst C dL_setScore_13 ?_
      exact v_wiret C hn2 rfl hO dL_setScore_14
    · exfalso
      simp only [if_neg g0] at hE
      cases hE
  · refine v_i2l C dL_setScore_7 (fun v => ?_)
    refine v_last C dL_setScore_8 (fun s9 => ?_)
    refine v_goto (tgt := 15) C dL_setScore_9 rfl ?_
    refine v_iconst C dL_setScore_15 ?_
    exact v_wiret C (Nat.le_refl _) rfl hO dL_setScore_16
