/-! THE LAW'S BODY (laid by wip/p31/gen/wmake.py) -/
section VW1
/-- a call in a try block -/
def trc {α : Type} (P : Shp) (o : Int) (F : Option ((Int × St) ⊕ Nat)) (K : Int × St → Option α) (E : Nat → Option α) : Option α := onO P 7 o (match F with
  | some (.inl x) => K x
  | some (.inr e) => E e
  | none => none)
def QW (w : Wd) (P : Shp) (n : Nat) (res : Int × St) : Qt := va_Qi (fun r2 (x : Nat) => r2 = Int32.ofInt res.1 ∧ n ≤ x) (fun x t => Rp w P x res.2 t) (wA w)
def XN (w : Wd) : Xt := vx_X (fun (_ : Unit) => False) (fun _ _ _ => False) (wA w)
def CtW (l : Launch) (w : Wd) (y : MethodName) (cc : ByteArray) (maxL : Nat) (rt : Option FieldType) (hh : List (Nat × Nat × Nat × Nat)) (rm : Room) (mc ms : Nat) (P : Shp) (n : Nat) (vs : List Value) (σ : St) (res : Int × St) : Prop :=
  vx_Met l y (Cond.codeWith y cc maxL rt hh :: TB) rm (va_Pc vs (Rp w P n σ)) (QW w P n res) (XN w) mc ms (wA w)
theorem CtW.of {l : Launch} {w : Wd} {y : MethodName} {cc : ByteArray} {maxL : Nat} {rt : Option FieldType} {hh : List (Nat × Nat × Nat × Nat)} {rm : Room} {mc ms : Nat} {P : Shp} {n : Nat} {vs : List Value} {σ : St} {F : Option (Int × St)} {res : Int × St} {lv : List (Nat × Value)} (hF : F = some res) (hy : plainName y.cls = true) (hlen : (lg_sl vs).length ≤ maxL) (hlv : lv_args 0 vs = lv)
    (body : ∀ X : Cxt, X.2.1 = l → X.2.2.2.1 = rm → Cok X w cc maxL y.cls rt → X.2.2.2.2.2.2.2.2.2.1.exceptionTable.toList = tableOf hh → OwnX X w mc ms (QW w P n res) (XN w) → V X w maxL P n 0 0 res F σ 0 lv []) : CtW l w y cc maxL rt hh rm mc ms P n vs σ res := by
  refine vx_ofWH (cc := cc) (maxL := maxL) (ret := rt) (hh := hh) hy rfl ?_
  intro p e s m args below meth c s₁ B hml hv
  obtain ⟨rfl, hR, hKs⟩ := hv
  have hts := atoms_spec (ws := Cond.codeWith y cc maxL rt hh :: TB) B.pre
  have htab := vx_table (x := y) B (hts _ List.mem_cons_self)
  have hC : Cok ((p, l, e, rm, s, m, vs.toArray, below, meth, c, vx_MQ below (QW w P n res) (XN w) vs.toArray s mc ms (wA w)) : Cxt) w cc maxL y.cls rt :=
    ⟨⟨B.exec, B.bytes, hml, findClass_of_methodNamed B.named, fun w hw => hts w (List.mem_cons_of_mem _ hw)⟩, hKs, B.returns, B.notSynchronized, hR.2.1, by show w.1.size ≤ s.heap.size; rw [hR.1]; exact Nat.le_add_right _ _⟩
  have hl := lv_entry vs (n := maxL) hlen
  rw [hlv] at hl
  have h := body (p, l, e, rm, s, m, vs.toArray, below, meth, c, vx_MQ below (QW w P n res) (XN w) vs.toArray s mc ms (wA w)) rfl rfl hC htab rfl s.heap [] _ hR va_S.rf hl hF
  rw [lg_entry_eq]
  exact h
end VW1
section VW2
variable {X : Cxt} {w : Wd} {cc : ByteArray} {nL : Nat} {own : String} {ret : Option FieldType} {P : Shp} {n n0 cells slots mc ms : Nat} {σ : St} {pc : Nat} {lv : List (Nat × Value)} {st : List Value}
theorem v_wzret {res : Int × St} (C : Cok X w cc nL own ret) {x : Int} (hx01 : x = 0 ∨ x = 1) (hn : n0 ≤ n) (hr : ret = some .boolean) (hO : OwnX X w mc ms (QW w P n0 res) (XN w)) (d : decode cc pc = .ok (.ireturn, 1)) : V X w nL P n mc ms res (some (x, σ)) σ pc lv [I x] := fun H locs ls hR hS hl hK => by
  have hx := Option.some.inj hK
  subst hx
  show W _ _ _ _ _ _ _ _ _ _ _ _ _ _ X.2.2.2.2.2.2.2.2.2.2 _
  rw [hO]
  exact vx_ret (W.zret C.1.1 C.1.2.1 (C.2.2.1.trans hr) (by rcases hx01 with rfl | rfl <;> decide) (fun t ht hW => ⟨⟨_, n, rfl, ⟨rfl, hn⟩, Rp.end C hR ht hW⟩, hS.F ht⟩) hS.2.2 d C.2.2.2.1)
theorem v_astq {α : Type} {res : α} {K : Option α} (C : Cok X w cc nL own ret) {i : Nat} {q : Nat} (lv' : List (Nat × Value)) (d : decode cc pc = .ok (.astore i, 2)) (hn : i < nL) (h : (i, Value.ref q) :: lv.filter (fun q => !(q.1 == i) && !(q.1 + 1 == i && q.2.category == 2)) = lv') (k : V X w nL P n cells slots res K σ (pc + 2) lv' st) : V X w nL P n cells slots res K σ pc lv (.ref q :: st) :=
  fun H locs ls hR hS hl hK => lv_astore C.1.1 C.1.2.1 d hl hn h (fun ls' hl' => k H locs ls' hR hS hl' hK)
theorem v_astq_n {α : Type} {res : α} {K : Option α} (C : Cok X w cc nL own ret) {i : Nat} {f : Fin 4} {q : Nat} (lv' : List (Nat × Value)) (d : decode cc pc = .ok (.astore_n f, 1)) (hi : (f : Nat) = i) (hn : i < nL) (h : (i, Value.ref q) :: lv.filter (fun q => !(q.1 == i) && !(q.1 + 1 == i && q.2.category == 2)) = lv') (k : V X w nL P n cells slots res K σ (pc + 1) lv' st) : V X w nL P n cells slots res K σ pc lv (.ref q :: st) :=
  fun H locs ls hR hS hl hK => lv_astore_n C.1.1 C.1.2.1 d hi hl hn h (fun ls' hl' => k H locs ls' hR hS hl' hK)
/-- one row of the table takes it -/
def Takes (X : Cxt) (own : String) (pc e h : Nat) : Prop := ∃ (pre : List ExceptionTableEntry) (x : ExceptionTableEntry) (suf : List ExceptionTableEntry), X.2.2.2.2.2.2.2.2.2.1.exceptionTable.toList = pre ++ x :: suf ∧
  (∀ z ∈ pre, z.catchType ≠ 0 ∧ ∃ nm : String, Cond.classLink own z.catchType nm ∈ TB ∧ (exN e, nm) ∈ ncs) ∧ covers x pc = true ∧ x.catchType ≠ 0 ∧ x.handlerPc = h ∧ Cond.classLink own x.catchType (exN e) ∈ TB ∧ (exN e, exN e) ∈ casts
theorem v_tryI {α : Type} {res : α} (C : Cok X w cc nL own ret) {y : MethodName} {b : ByteArray} {ml k idx N mc1 ms1 : Nat} {rt : Option FieldType} {rm : Room} {o : Int} {Cn : String} {Tn : u_T} (As : List Value) {sk : List Value} (st : List Value) {F : Option ((Int × St) ⊕ Nat)} {KI : Int × St → Option α} {KE : Nat → Option α} (hM : ∀ x, F = some x → CtX X.2.1 w y b ml rt rm mc1 ms1 P n (A w o :: As) σ (XQI w P n x) x)
    (e1 : Cond.code y b ml rt ∈ TB) (e2 : Cond.initialized y.cls ∈ TB) (e3 : y.cls ≠ "java/lang/invoke/MethodHandle" ∧ y.cls ≠ "java/lang/invoke/VarHandle" ∧ (parseMethodDescriptor y.desc).map (fun d => d.parameters.length) = some k) (e4 : rm.cells = mc1) (e5 : rm.slots = ms1) {R : Room} (hRm : X.2.2.2.1 = R) (e6 : rm.frames + 1 ≤ R.frames) (e7 : 8 + (ml + 11) + rm.locals ≤ R.locals) (hl : Cond.methodLink own idx y ∈ TB) (hi : Cond.instanceMethod y ∈ TB) (hs : Cond.selects Cn y y ∈ TB) (hCn : y.cls = Cn) (hc : vwCl[7]? = some (Cn, Tn, N)) (hn : As.length = k) (hsk : sk = As.reverse ++ A w o :: st) (hsum : (st.map fun v => v.category).sum ≤ 8) (hcs : cells + mc1 ≤ R.cells ∧ slots + ms1 ≤ R.slots) (d : decode cc pc = .ok (.invokevirtual idx, 3))
    (kx : ∀ (e n' q : Nat) , n ≤ n' → KE e = some res → ∃ h, Takes X own pc e h ∧ V X w nL P n' (cells + mc1) (slots + ms1) res (KE e) σ h lv [.ref q])
    (kk : ∀ x : Int × St, V X w nL P n (cells + mc1) (slots + ms1) res (KI x) x.2 (pc + 3) lv (I x.1 :: st)) : V X w nL P n cells slots res (trc P o F KI KE) σ pc lv sk := fun H locs ls hR hS hl9 hK => by
  obtain ⟨g, hK⟩ := gd hK
  obtain ⟨len, hP⟩ := okO_of g
  have ha := hR.at hP
  rw [cellE_obj (by decide)] at ha
  subst hsk
  subst hRm
  cases hF : F with
  | none => rw [hF] at hK; cases hK
  | some x =>
    rw [hF] at hK
    have hrun := vx_runV (e := X.2.2.1) (below := X.2.2.2.2.2.2.2.1) (meth := X.2.2.2.2.2.2.2.2.1) (H := H) (locs := locs) (g := F0 X.2.2.2.2.2.1 pc ls (As.reverse ++ A w o :: st)) C.1 (hM x hF) (cwV k C.1.2.2.2.2 (TB_wsV hl hi hs (by rw [← hCn]; exact e2) e1) rfl e4 e5 ⟨hCn, e3⟩ ⟨e6, e7⟩) ⟨fun a U g mk q => ⟨q.1, q.2.1, q.2.2.same rfl⟩, va_recv C.2.1.1 (P1 ha) (q0 := 0) hc rfl, fun U hU hW => ⟨rfl, by rw [hU]; exact hR, C.2.1.warm hW⟩⟩ rfl hn hl9.1 rfl (lv_room hsum) d hcs
    refine vx_calli hrun hS (fun q _ h => h) (fun q h => h) (fun q _ h => h) (fun E ce q9 u t H1 locs1 ht hvm hp hB hz hk hS1 hc9 hv9 hcl9 => ?_) (fun r u t H1 locs1 ht hvm hp hB hz hk hS1 => ?_)
    · obtain ⟨e, n', hx, rfl, hn', hR'⟩ := hB
      subst hx
      rw [ht] at hR'
      obtain ⟨h, ⟨pre, xx, suf, t1, t2, t3, t4, rfl, t6, t7⟩, kv⟩ := kx e n' q9 hn' hK
      refine vx_catch C.1.2.2.2.1 pre xx suf t1 (fun z hz => ?_) t3 t4 (C.wd t6) (C.2.1.bad _ (List.mem_append_right _ (List.mem_map.mpr ⟨_, t7, rfl⟩))) hc9 hv9 hcl9 (kv _ _ ls hR' hS1 hl9 hK)
      obtain ⟨a1, nm, a2, a3⟩ := t2 z hz
      exact Or.inr ⟨a1, nm, C.wd a2, C.2.1.2.2.2.2.2.2.2.2.2.2.1 _ a3⟩
    · obtain ⟨rfl, rfl⟩ := hp
      rw [← ht] at hS1 ⊢
      exact kk u _ _ ls hB.1 hS1 hl9 hK
end VW2
section VW3
variable {X : Cxt} {w : Wd} {cc : ByteArray} {nL : Nat} {own : String} {ret : Option FieldType} {P : Shp} {n cells slots : Nat} {α : Type} {res : α} {σ : St} {pc : Nat} {lv : List (Nat × Value)} {st : List Value}
theorem v_callW (C : Cok X w cc nL own ret) {y : MethodName} {b : ByteArray} {ml k idx mc1 ms1 : Nat} {rt : Option FieldType} {hh : List (Nat × Nat × Nat × Nat)} {rm : Room} (As : List Value) {sk : List Value} (st : List Value) {F : Option (Int × St)} {K : Int × St → Option α} (hM : ∀ x, F = some x → CtW X.2.1 w y b ml rt hh rm mc1 ms1 P n As σ x)
    (e1 : Cond.codeWith y b ml rt hh ∈ TB) (e2 : Cond.initialized y.cls ∈ TB) (e3 : y.cls ≠ "java/lang/invoke/MethodHandle" ∧ y.cls ≠ "java/lang/invoke/VarHandle" ∧ (parseMethodDescriptor y.desc).map (fun d => d.parameters.length) = some k) (e4 : rm.cells = mc1) (e5 : rm.slots = ms1) {R : Room} (hRm : X.2.2.2.1 = R) (e6 : rm.frames + 1 ≤ R.frames) (e7 : 8 + (ml + 11) + rm.locals ≤ R.locals) (hl : Cond.methodLink own idx y ∈ TB) (hi : Cond.static y ∈ TB) (hn : As.length = k) (hsk : sk = As.reverse ++ st) (hsum : (st.map fun v => v.category).sum ≤ 8) (hcs : cells + mc1 ≤ X.2.2.2.1.cells ∧ slots + ms1 ≤ X.2.2.2.1.slots) (d : decode cc pc = .ok (.invokestatic idx, 3))
    (kk : ∀ (x : Int × St) (n' : Nat), n ≤ n' → V X w nL P n' (cells + mc1) (slots + ms1) res (K x) x.2 (pc + 3) lv (I x.1 :: st)) : V X w nL P n cells slots res (cl F K) σ pc lv sk := fun H locs ls hR hS hl9 hK => by
  obtain ⟨x, hF, hK⟩ := cl_of hK
  subst hsk
  subst hRm
  have hG : GoodIn TB (va_wsS own idx y (Cond.codeWith y b ml rt hh :: TB)) := TB_good fun v hv => by
    rcases List.mem_append.mp hv with h | h
    · simp only [List.mem_cons, List.not_mem_nil, or_false] at h
      rcases h with rfl | rfl | rfl <;> assumption
    · exact TB_ws e1 v h
  have hrun := vx_runSX (e := X.2.2.1) (below := X.2.2.2.2.2.2.2.1) (meth := X.2.2.2.2.2.2.2.2.1) (H := H) (locs := locs) (g := F0 X.2.2.2.2.2.1 pc ls (As.reverse ++ st)) C.1 (hM x hF) (vx_cwSW k C.1.2.2.2.2 hG rfl e4 e5 e3 ⟨e6, e7⟩) ⟨fun a U g mk q => ⟨q.1, q.2.1, q.2.2.same rfl⟩, fun U hU hW => ⟨rfl, by rw [hU]; exact hR, C.2.1.warm hW⟩⟩ rfl hn hl9.1 rfl (lv_room hsum) d hcs
  refine vx_calli hrun hS (fun q _ h => h) (fun q h => h) (fun q _ h => h) (fun E ce q9 u t H1 locs1 ht hvm hp hB hz hk hS1 hc9 hv9 hcl9 => hp.elim) (fun r u t H1 locs1 ht hvm hp hB hz hk hS1 => ?_)
  obtain ⟨rfl, hn'⟩ := hp
  rw [← ht] at hS1 ⊢
  exact kk x u hn' _ _ ls hB.1 hS1 hl9 hK
def bul (m : Nat) (K : Option α) : Option α := if m ≤ 3000 then K else none
theorem v_bul {m : Nat} {K : Option α} (k : m ≤ 3000 → V X w nL P n cells slots res K σ pc lv st) : V X w nL P n cells slots res (bul m K) σ pc lv st := fun H locs ls hR hS hl hK => by
  obtain ⟨h, hK⟩ := gd hK
  exact k h H locs ls hR hS hl hK
def LawEnd (X : Cxt) (w : Wd) : Prop := ∀ (P : Shp) (n cells slots : Nat) (s : St) (lv : List (Nat × Value)), cells ≤ 600086 → slots ≤ 7301442 → V X w 5 P n cells slots () (some ()) s 156 lv [I 1]
end VW3
abbrev rL_refuses : Room := { frames := 7, cells := 1, slots := 6, locals := 155 }
abbrev hdL_refuses : List (Nat × Nat × Nat × Nat) := [(0, 7, 8, 158)]
noncomputable def fL_refuses (P : Shp) (s : St) (a0 : Int) : Option (Int × St) :=
  trc P a0 (fzX7_frames P s a0 0) (fun _ => none) (fun e => if e = 0 then some (1, s) else none)
theorem hL_refuses : yL_refuses.cls ≠ "java/lang/invoke/MethodHandle" ∧ yL_refuses.cls ≠ "java/lang/invoke/VarHandle" ∧ (parseMethodDescriptor yL_refuses.desc).map (fun d => d.parameters.length) = some 1 := by decide +kernel
theorem kL_refuses (l : Launch) (hst : l.stackTraces = false) (w : Wd) (P : Shp) (n : Nat) {s : St} {a0 : Int} {res : Int × St} (h : fL_refuses P s a0 = some res) : CtW l w yL_refuses cL_refuses 2 (some .boolean) hdL_refuses rL_refuses 1 6 P n [A w a0] s res :=
  CtW.of h (by decide) (Nat.le_of_ble_eq_true rfl) (lv := [(0, A w a0)]) rfl fun X hl hRm C T hO => by
  subst hl
  unfold fL_refuses
  refine v_aload_n C dL_refuses_0 rfl (j := 0) rfl ?_
  refine v_iconst C dL_refuses_1 ?_
  refine v_tryI C (N := 5) (Tn := TX7) [I 0] [] (fun x h => kzX7_frames X.2.1 hst w P n h) tw_1082 tw_1 hzX7_frames rfl rfl hRm (Nat.le_of_ble_eq_true rfl) (Nat.le_of_ble_eq_true rfl) tw_1079 tw_1080 tw_1081 rfl rfl rfl rfl (Nat.le_of_ble_eq_true rfl) ⟨(Nat.le_of_ble_eq_true rfl), (Nat.le_of_ble_eq_true rfl)⟩ dL_refuses_2 (fun e n2 q hn2 hE => ?_) (fun x => v_none)
  by_cases g0 : e = 0
  · subst g0
    refine ⟨8, ⟨[], ⟨0, 7, 8, 158⟩, [], T, (fun z hz => absurd hz List.not_mem_nil), by decide, by decide, rfl, tw_1168, by decide +kernel⟩, ?_⟩
    show V X w 2 P n2 (0 + 1) (0 + 6) res (some (1, s)) s 8 [(0, A w a0)] [.ref q]
    refine v_astq_n C [(1, .ref q), (0, A w a0)] dL_refuses_8 rfl (by decide) rfl ?_
    refine v_iconst C dL_refuses_9 ?_
    exact v_wzret C (Or.inr rfl) hn2 rfl hO dL_refuses_10
  · exfalso
    simp only [if_neg g0] at hE
    cases hE
theorem v_callRef {X : Cxt} {w : Wd} {P : Shp} {n cells slots : Nat} {s : St} {o : Int} {idx : Nat} {lv : List (Nat × Value)} {res : Unit} (C : Cok X w cL_law 5 RL ret) (hst : X.2.1.stackTraces = false) (hRm : X.2.2.2.1 = room_1) (h1 : cells + 1 ≤ 600086) (h2 : slots + 6 ≤ 7301442) (hE : LawEnd X w) (e1 : Cond.codeWith yL_refuses cL_refuses 2 (some .boolean) hdL_refuses ∈ TB) (e2 : Cond.initialized RL ∈ TB) (hl : Cond.methodLink RL idx yL_refuses ∈ TB) (hi : Cond.static yL_refuses ∈ TB) (d : decode cL_law 153 = .ok (.invokestatic idx, 3)) :
    V X w 5 P n cells slots res (cl (fL_refuses P s o) fun q => if q.1 = 1 then some () else none) s 153 lv [A w o] := by
  refine v_callW C [A w o] [] (fun x h => kL_refuses X.2.1 hst w P n h) e1 e2 hL_refuses rfl rfl hRm (Nat.le_of_ble_eq_true rfl) (Nat.le_of_ble_eq_true rfl) hl hi rfl rfl (Nat.le_of_ble_eq_true rfl) (by rw [hRm]; exact ⟨h1, h2⟩) d (fun x n2 hn2 => ?_)
  intro H locs ls hR hS hl9 hK
  obtain ⟨g, hK⟩ := gd hK
  rw [g]
  exact hE P n2 _ _ _ lv h1 h2 H locs ls hR hS hl9 hK
noncomputable def fL_law_L44 (L : Nat) (xs : Nat → Int32) (c1 : Int) (kE152 : Shp → Nat → Nat → St → Option (Unit)) (kE73 : Shp → Nat → Nat → St → Option (Unit)) (kE144 : Shp → Nat → Nat → St → Option (Unit)) : Nat → Int → Shp → Nat → Nat → St → Option (Unit)
  | 0, _, _, _, _, _ => none
  | m + 1, p2, P, n, c, s =>
    jge p2 9
      (kE152 P n c s)
      (
        bul c <|
        cl (fL_acts L xs P s c1 (50 + (4 * p2))) fun (x12, s13) =>
        jeq x12 0
          (kE73 P n c s13)
          (
            bul c <|
            cl (fL_isWithin P s13 c1) fun x14 =>
            jne x14 0
              (
                bul c <|
                onO P 7 c1 <| cl (fX7_size P s13 c1 1) fun x15 =>
                bul c <|
                cl (fL_pick L xs P s13 (90 + p2) x15) fun x16 =>
                bul c <|
                onO P 7 c1 <| cl (fX7_device P s13 c1 x16 0) fun x17 =>
                jnt
                  (fun P18 n18 c18 s18 =>
                    bd (p2 + 1) fun x19 =>
                    fL_law_L44 L xs c1 kE152 kE73 kE144 m x19 P18 n18 c18 s18)
                  fun k146 =>
                jne x17 ((-1))
                  (
                    bul c <|
                    onO P 7 c1 <| cl (fX7_saveSnapshot P s13 c1 0) fun (x21, s22) =>
                    bul c <|
                    cl (fL_isForeseen P s22 c1 x16) fun (x24, s25) =>
                    jeq x24 0
                      (kE144 P n c s25)
                      (
                        bul c <|
                        onO P 7 c1 <| cl (fX7_restoreSnapshot P s25 c1 0) fun (x27, s28) =>
                        jeq x27 0
                          (kE144 P n c s28)
                          (
                            bul c <|
                            cl (fL_isTorn P s28 c1 x16) fun (x30, s31) =>
                            jeq x30 0
                              (kE144 P n c s31)
                              (
                                bul c <|
                                onO P 7 c1 <| cl (fX7_restoreSnapshot P s31 c1 0) fun (x33, s34) =>
                                jne x33 0
                                  (k146 P n c s34)
                                  (kE144 P n c s34)))))
                  (k146 P n c s13))
              (kE73 P n c s13)))
noncomputable def fL_law (L : Nat) (xs : Nat → Int32) (P : Shp) (n : Nat) (s : St) : Option (Unit) :=
  bul (0 + 1) <| mkO P n s 7 fun P2 n2 x1 s2 =>
  bul (0 + 265) <|
  cl (fX7_init P2 n2 s2 x1) fun (P3, n3, s3) =>
  bul (0 + 265) <|
  onO P3 7 x1 <| cl (fX7_size P3 s3 x1 1) fun x4 =>
  jne x4 0
    (none)
    (
      bul (0 + 265) <|
      onO P3 7 x1 <| cl (fX7_weakest P3 s3 x1) fun x5 =>
      jne x5 ((-1))
        (none)
        (
          bul (0 + 265) <|
          onO P3 7 x1 <| cl (fX7_undo P3 s3 x1) fun (x7, s8) =>
          jne x7 ((-1))
            (none)
            (
              bul (0 + 1265) <|
              cl (fL_begins L xs P3 n3 s8 x1) fun (x10, P9, n9, s9) =>
              jne x10 0
                (
                  fL_law_L44 L xs x1
                    (fun P35 n35 c35 s35 =>
                      bul (c35 + 1) <|
                      cl (fL_refuses P35 s35 x1) fun x36 =>
                      if x36.1 = 1 then some () else none)
                    (fun P37 n37 c37 s37 =>
                      none)
                    (fun P38 n38 c38 s38 =>
                      none)
                    1000 0 P9 n9 (0 + 1265) s9)
                (none))))
set_option maxRecDepth 100000 in
theorem vL_law_L44 {X : Cxt} {w : Wd} (res : Unit) (hRm : X.2.2.2.1 = room_1) (C : Cok X w cL_law 5 RL ret) (hst : X.2.1.stackTraces = false) (hE : LawEnd X w)  (c1 : Int) (kE152 : Shp → Nat → Nat → St → Option (Unit)) (kE73 : Shp → Nat → Nat → St → Option (Unit)) (kE144 : Shp → Nat → Nat → St → Option (Unit)) (hE152 : ∀ (Pe : Shp) (ne ce : Nat) (se : St), V X w 5 Pe ne ce (1024 * ce) res (kE152 Pe ne ce se) se 152 [(1, A w c1)] []) (hE73 : ∀ (Pe : Shp) (ne ce : Nat) (se : St), V X w 5 Pe ne ce (1024 * ce) res (kE73 Pe ne ce se) se 73 [] []) (hE144 : ∀ (Pe : Shp) (ne ce : Nat) (se : St), V X w 5 Pe ne ce (1024 * ce) res (kE144 Pe ne ce se) se 144 [] []) : ∀ (fuel : Nat) (p2 : Int) (P : Shp) (n c : Nat) (s : St), V X w 5 P n c (1024 * c) res (fL_law_L44 (wL w) (wX w) c1 kE152 kE73 kE144 fuel p2 P n c s) s 44 [(0, A w ((-101))), (1, A w c1), (2, I p2)] [] := by
  intro fuel
  induction fuel with
  | zero => intro p2 P n c s; exact v_none
  | succ m ih =>
    intro p2 P n c s
    rw [fL_law_L44]
    refine v_iload_n C dL_law_44 rfl (j := 2) rfl ?_
    refine v_bipush C dL_law_45 (by decide) ?_
    refine v_icmp_ge (tgt := 152) C dL_law_47 rfl ?_ ?_
    · skip
      refine v_sub [(1, A w c1)] [1] rfl ?_
      exact hE152 P n c s
    · skip
      refine v_aload_n C dL_law_50 rfl (j := 1) rfl ?_
      refine v_aload_n C dL_law_51 rfl (j := 0) rfl ?_
      refine v_bipush C dL_law_52 (by decide) ?_
      refine v_iconst C dL_law_54 ?_
      refine v_iload_n C dL_law_55 rfl (j := 2) rfl ?_
      refine v_imul C dL_law_56 ?_
      refine v_iadd C dL_law_57 ?_
      refine v_bul (fun hb => ?_)
      refine v_callS_wI C [A w c1, A w ((-101)), I (50 + (4 * p2))] [] (Cee.of (rm := rL_acts) tw_983 tw_0 hL_acts rfl rfl hRm (Nat.le_of_ble_eq_true rfl) (Nat.le_of_ble_eq_true rfl)) (fun x h => kL_acts X.2.1 w _ _ h) tw_981 tw_982 rfl rfl (Nat.le_of_ble_eq_true rfl) ⟨by rw [hRm]; show _ ≤ 600086; omega, by rw [hRm]; show _ ≤ 7301442; omega⟩ dL_law_58 (fun q11 => ?_)
      obtain ⟨x12, s13⟩ := q11
      refine v_istore_n C [(3, I x12), (0, A w ((-101))), (1, A w c1), (2, I p2)] dL_law_61 rfl (by decide) rfl ?_
      refine v_iload_n C dL_law_62 rfl (j := 0) rfl ?_
      refine v_if_eq (tgt := 73) C dL_law_63 rfl ?_ ?_
      · skip
        refine v_sub [] [] rfl ?_
        exact hE73 P n c s13
      · skip
        refine v_aload_n C dL_law_66 rfl (j := 2) rfl ?_
        refine v_bul (fun hb => ?_)
        refine v_callS_rI C [A w c1] [] (Cee.of (rm := rL_isWithin) tw_1103 tw_0 hL_isWithin rfl rfl hRm (Nat.le_of_ble_eq_true rfl) (Nat.le_of_ble_eq_true rfl)) (fun x h => kL_isWithin X.2.1 w _ _ h) tw_1101 tw_1102 rfl rfl (Nat.le_of_ble_eq_true rfl) ⟨by rw [hRm]; show _ ≤ 600086; omega, by rw [hRm]; show _ ≤ 7301442; omega⟩ dL_law_67 (fun x14 => ?_)
        refine v_if_ne (tgt := 75) C dL_law_70 rfl ?_ ?_
        · skip
          refine v_aload_n C dL_law_75 rfl (j := 1) rfl ?_
          refine v_bipush C dL_law_76 (by decide) ?_
          refine v_iload_n C dL_law_78 rfl (j := 3) rfl ?_
          refine v_iadd C dL_law_79 ?_
          refine v_aload_n C dL_law_80 rfl (j := 2) rfl ?_
          refine v_iconst C dL_law_81 ?_
          refine v_bul (fun hb => ?_)
          refine v_callV_rI C [I 1] [I (90 + p2), A w ((-101))] (Cee.of (rm := rX7_size) tw_357 tw_1 hX7_size rfl rfl hRm (Nat.le_of_ble_eq_true rfl) (Nat.le_of_ble_eq_true rfl)) (fun x h => kX7_size X.2.1 w _ _ h) tw_354 tw_355 tw_356 rfl (ci := 7) rfl (by decide) rfl rfl (Nat.le_of_ble_eq_true rfl) ⟨by rw [hRm]; show _ ≤ 600086; omega, by rw [hRm]; show _ ≤ 7301442; omega⟩ dL_law_82 (fun x15 => ?_)
          refine v_bul (fun hb => ?_)
          refine v_callS_rI C [A w ((-101)), I (90 + p2), I x15] [] (Cee.of (rm := rL_pick) tw_563 tw_0 hL_pick rfl rfl hRm (Nat.le_of_ble_eq_true rfl) (Nat.le_of_ble_eq_true rfl)) (fun x h => kL_pick X.2.1 w _ _ h) tw_561 tw_562 rfl rfl (Nat.le_of_ble_eq_true rfl) ⟨by rw [hRm]; show _ ≤ 600086; omega, by rw [hRm]; show _ ≤ 7301442; omega⟩ dL_law_85 (fun x16 => ?_)
          refine v_istore C [(4, I x16), (3, I x12), (0, A w ((-101))), (1, A w c1), (2, I p2)] dL_law_88 (by decide) rfl ?_
          refine v_aload_n C dL_law_90 rfl (j := 3) rfl ?_
          refine v_iload C dL_law_91 (j := 0) rfl ?_
          refine v_iconst C dL_law_93 ?_
          refine v_bul (fun hb => ?_)
          refine v_callV_rI C [I x16, I 0] [] (Cee.of (rm := rX7_device) tw_432 tw_1 hX7_device rfl rfl hRm (Nat.le_of_ble_eq_true rfl) (Nat.le_of_ble_eq_true rfl)) (fun x h => kX7_device X.2.1 w _ _ h) tw_429 tw_430 tw_431 rfl (ci := 7) rfl (by decide) rfl rfl (Nat.le_of_ble_eq_true rfl) ⟨by rw [hRm]; show _ ≤ 600086; omega, by rw [hRm]; show _ ≤ 7301442; omega⟩ dL_law_94 (fun x17 => ?_)
          refine v_iconst C dL_law_97 ?_
          refine v_jnt (fun (k146 : Shp → Nat → Nat → St → Option (Unit)) => ∀ (P18 : Shp) (n18 c18 : Nat) (s18 : St), V X w 5 P18 n18 c18 (1024 * c18) res (k146 P18 n18 c18 s18) s18 146 [(0, A w ((-101))), (1, A w c1), (2, I p2)] []) ?_ ?_
          · intro P18 n18 c18 s18
            refine v_iinc C (j := 2) [(0, A w ((-101))), (1, A w c1)] dL_law_146 (by decide) rfl (fun _ => rfl) (fun x19 => ?_)
            refine v_goto (tgt := 44) C dL_law_149 rfl ?_
            refine v_sub [(0, A w ((-101))), (1, A w c1), (2, I x19)] [1, 2, 0] rfl ?_
            exact ih x19 P18 n18 c18 s18
          intro k146 hk146
          refine v_icmp_ne (tgt := 104) C dL_law_98 rfl ?_ ?_
          · skip
            refine v_aload_n C dL_law_104 rfl (j := 3) rfl ?_
            refine v_iconst C dL_law_105 ?_
            refine v_bul (fun hb => ?_)
            refine v_callV_wI C [I 0] [] (Cee.of (rm := rX7_saveSnapshot) tw_551 tw_1 hX7_saveSnapshot rfl rfl hRm (Nat.le_of_ble_eq_true rfl) (Nat.le_of_ble_eq_true rfl)) (fun x h => kX7_saveSnapshot X.2.1 w _ _ h) tw_548 tw_549 tw_550 rfl (ci := 7) rfl (by decide) rfl rfl (Nat.le_of_ble_eq_true rfl) ⟨by rw [hRm]; show _ ≤ 600086; omega, by rw [hRm]; show _ ≤ 7301442; omega⟩ dL_law_106 (fun q20 => ?_)
            obtain ⟨x21, s22⟩ := q20
            refine v_pop C dL_law_109 rfl ?_
            refine v_aload_n C dL_law_110 rfl (j := 3) rfl ?_
            refine v_iload C dL_law_111 (j := 0) rfl ?_
            refine v_bul (fun hb => ?_)
            refine v_callS_wI C [A w c1, I x16] [] (Cee.of (rm := rL_isForeseen) tw_1117 tw_0 hL_isForeseen rfl rfl hRm (Nat.le_of_ble_eq_true rfl) (Nat.le_of_ble_eq_true rfl)) (fun x h => kL_isForeseen X.2.1 w _ _ h) tw_1115 tw_1116 rfl rfl (Nat.le_of_ble_eq_true rfl) ⟨by rw [hRm]; show _ ≤ 600086; omega, by rw [hRm]; show _ ≤ 7301442; omega⟩ dL_law_113 (fun q23 => ?_)
            obtain ⟨x24, s25⟩ := q23
            refine v_if_eq (tgt := 144) C dL_law_116 rfl ?_ ?_
            · skip
              refine v_sub [] [] rfl ?_
              exact hE144 P n c s25
            · skip
              refine v_aload_n C dL_law_119 rfl (j := 3) rfl ?_
              refine v_iconst C dL_law_120 ?_
              refine v_bul (fun hb => ?_)
              refine v_callV_wI C [I 0] [] (Cee.of (rm := rX7_restoreSnapshot) tw_556 tw_1 hX7_restoreSnapshot rfl rfl hRm (Nat.le_of_ble_eq_true rfl) (Nat.le_of_ble_eq_true rfl)) (fun x h => kX7_restoreSnapshot X.2.1 w _ _ h) tw_553 tw_554 tw_555 rfl (ci := 7) rfl (by decide) rfl rfl (Nat.le_of_ble_eq_true rfl) ⟨by rw [hRm]; show _ ≤ 600086; omega, by rw [hRm]; show _ ≤ 7301442; omega⟩ dL_law_121 (fun q26 => ?_)
              obtain ⟨x27, s28⟩ := q26
              refine v_if_eq (tgt := 144) C dL_law_124 rfl ?_ ?_
              · skip
                refine v_sub [] [] rfl ?_
                exact hE144 P n c s28
              · skip
                refine v_aload_n C dL_law_127 rfl (j := 3) rfl ?_
                refine v_iload C dL_law_128 (j := 0) rfl ?_
                refine v_bul (fun hb => ?_)
                refine v_callS_wI C [A w c1, I x16] [] (Cee.of (rm := rL_isTorn) tw_1164 tw_0 hL_isTorn rfl rfl hRm (Nat.le_of_ble_eq_true rfl) (Nat.le_of_ble_eq_true rfl)) (fun x h => kL_isTorn X.2.1 w _ _ h) tw_1162 tw_1163 rfl rfl (Nat.le_of_ble_eq_true rfl) ⟨by rw [hRm]; show _ ≤ 600086; omega, by rw [hRm]; show _ ≤ 7301442; omega⟩ dL_law_130 (fun q29 => ?_)
                obtain ⟨x30, s31⟩ := q29
                refine v_if_eq (tgt := 144) C dL_law_133 rfl ?_ ?_
                · skip
                  refine v_sub [] [] rfl ?_
                  exact hE144 P n c s31
                · skip
                  refine v_aload_n C dL_law_136 rfl (j := 3) rfl ?_
                  refine v_iconst C dL_law_137 ?_
                  refine v_bul (fun hb => ?_)
                  refine v_callV_wI C [I 0] [] (Cee.of (rm := rX7_restoreSnapshot) tw_556 tw_1 hX7_restoreSnapshot rfl rfl hRm (Nat.le_of_ble_eq_true rfl) (Nat.le_of_ble_eq_true rfl)) (fun x h => kX7_restoreSnapshot X.2.1 w _ _ h) tw_553 tw_554 tw_555 rfl (ci := 7) rfl (by decide) rfl rfl (Nat.le_of_ble_eq_true rfl) ⟨by rw [hRm]; show _ ≤ 600086; omega, by rw [hRm]; show _ ≤ 7301442; omega⟩ dL_law_138 (fun q32 => ?_)
                  obtain ⟨x33, s34⟩ := q32
                  refine v_if_ne (tgt := 146) C dL_law_141 rfl ?_ ?_
                  · skip
                    refine v_sub [(0, A w ((-101))), (1, A w c1), (2, I p2)] [2, 3, 4] rfl ?_
                    exact hk146 P n c s34
                  · skip
                    refine v_sub [] [] rfl ?_
                    exact hE144 P n c s34
          · skip
            refine v_goto (tgt := 146) C dL_law_101 rfl ?_
            refine v_sub [(0, A w ((-101))), (1, A w c1), (2, I p2)] [2, 3, 4] rfl ?_
            exact hk146 P n c s13
        · skip
          refine v_sub [] [] rfl ?_
          exact hE73 P n c s13
set_option maxRecDepth 100000 in
theorem v_lawB {X : Cxt} {w : Wd} {P : Shp} {n : Nat} {s : St} (res : Unit) (hst : X.2.1.stackTraces = false) (hRm : X.2.2.2.1 = room_1) (C : Cok X w cL_law 5 RL ret) (hE : LawEnd X w) : V X w 5 P n 0 0 res (fL_law (wL w) (wX w) P n s) s 0 [(0, A w ((-101)))] [] := by
  unfold fL_law
  refine v_bul (fun hb => ?_)
  refine v_new C (ci := 7) rfl inB7 (by decide) tyX7_ok dfX7 tw_26 tw_27 tw_1 (by rw [hRm]; show _ ≤ 600086; omega) (by rw [hRm]; show _ + 5 ≤ 7301442; omega) dL_law_0 (fun P2 n2 x1 s2 => ?_)
  refine v_wid (0 + 1) (1024 * (0 + 1)) (by omega) (by omega) ?_
  refine v_dup C dL_law_3 rfl ?_
  refine v_bul (fun hb => ?_)
  refine v_callN C (rm := rX7_init) [] [A w x1] (fun x h9 => kX7_init X.2.1 w _ _ h9) rfl tw_30 tw_1 hX7_init rfl rfl hRm (Nat.le_of_ble_eq_true rfl) (Nat.le_of_ble_eq_true rfl) tw_28 tw_29 rfl rfl (Nat.le_of_ble_eq_true rfl) ⟨by show _ ≤ 600086; omega, by show _ ≤ 7301442; omega⟩ dL_law_4 (fun P3 n3 s3 => ?_)
  refine v_wid (0 + 265) (1024 * (0 + 265)) (by omega) (by omega) ?_
  refine v_astore_n C [(1, A w x1), (0, A w ((-101)))] dL_law_7 rfl (by decide) rfl ?_
  refine v_aload_n C dL_law_8 rfl (j := 0) rfl ?_
  refine v_iconst C dL_law_9 ?_
  refine v_bul (fun hb => ?_)
  refine v_callV_rI C [I 1] [] (Cee.of (rm := rX7_size) tw_357 tw_1 hX7_size rfl rfl hRm (Nat.le_of_ble_eq_true rfl) (Nat.le_of_ble_eq_true rfl)) (fun x h => kX7_size X.2.1 w _ _ h) tw_354 tw_355 tw_356 rfl (ci := 7) rfl (by decide) rfl rfl (Nat.le_of_ble_eq_true rfl) ⟨by rw [hRm]; show _ ≤ 600086; omega, by rw [hRm]; show _ ≤ 7301442; omega⟩ dL_law_10 (fun x4 => ?_)
  refine v_if_ne (tgt := 40) C dL_law_13 rfl ?_ ?_
  · skip
    refine v_iconst C dL_law_40 ?_
    exact v_none
  · skip
    refine v_aload_n C dL_law_16 rfl (j := 0) rfl ?_
    refine v_bul (fun hb => ?_)
    refine v_callV_rI C [] [] (Cee.of (rm := rX7_weakest) tw_510 tw_1 hX7_weakest rfl rfl hRm (Nat.le_of_ble_eq_true rfl) (Nat.le_of_ble_eq_true rfl)) (fun x h => kX7_weakest X.2.1 w _ _ h) tw_507 tw_508 tw_509 rfl (ci := 7) rfl (by decide) rfl rfl (Nat.le_of_ble_eq_true rfl) ⟨by rw [hRm]; show _ ≤ 600086; omega, by rw [hRm]; show _ ≤ 7301442; omega⟩ dL_law_17 (fun x5 => ?_)
    refine v_iconst C dL_law_20 ?_
    refine v_icmp_ne (tgt := 40) C dL_law_21 rfl ?_ ?_
    · skip
      refine v_iconst C dL_law_40 ?_
      exact v_none
    · skip
      refine v_aload_n C dL_law_24 rfl (j := 0) rfl ?_
      refine v_bul (fun hb => ?_)
      refine v_callV_wI C [] [] (Cee.of (rm := rX7_undo) tw_523 tw_1 hX7_undo rfl rfl hRm (Nat.le_of_ble_eq_true rfl) (Nat.le_of_ble_eq_true rfl)) (fun x h => kX7_undo X.2.1 w _ _ h) tw_520 tw_521 tw_522 rfl (ci := 7) rfl (by decide) rfl rfl (Nat.le_of_ble_eq_true rfl) ⟨by rw [hRm]; show _ ≤ 600086; omega, by rw [hRm]; show _ ≤ 7301442; omega⟩ dL_law_25 (fun q6 => ?_)
      obtain ⟨x7, s8⟩ := q6
      refine v_iconst C dL_law_28 ?_
      refine v_icmp_ne (tgt := 40) C dL_law_29 rfl ?_ ?_
      · skip
        refine v_iconst C dL_law_40 ?_
        exact v_none
      · skip
        refine v_aload_n C dL_law_32 rfl (j := 0) rfl ?_
        refine v_aload_n C dL_law_33 rfl (j := 1) rfl ?_
        refine v_bul (fun hb => ?_)
        refine v_saI (st := []) (fun H9 locs9 ls9 x9 hR9 hs9 h9 => v_rS C (CeeM.of (mc := 1000) (ms := 1024000) (rm := rL_begins) tw_571 tw_0 hL_begins rfl rfl hRm (Nat.le_of_ble_eq_true rfl) (Nat.le_of_ble_eq_true rfl)) (kL_begins X.2.1 w _ _ h9) tw_569 tw_570 hR9 hs9 rfl rfl (Nat.le_of_ble_eq_true rfl) ⟨by rw [hRm]; show _ ≤ 600086; omega, by rw [hRm]; show _ ≤ 7301442; omega⟩ dL_law_34) (fun x10 P9 n9 s9 => ?_)
        refine v_wid (0 + 1265) (1024 * (0 + 1265)) (by omega) (by omega) ?_
        refine v_if_ne (tgt := 42) C dL_law_37 rfl ?_ ?_
        · skip
          refine v_iconst C dL_law_42 ?_
          refine v_istore_n C [(2, I 0), (1, A w x1), (0, A w ((-101)))] dL_law_43 rfl (by decide) rfl ?_
          refine v_sub [(0, A w ((-101))), (1, A w x1), (2, I 0)] [2, 1, 0] rfl ?_
          refine vL_law_L44 res hRm C hst hE x1 _ _ _ ?_ ?_ ?_ 1000 0 P9 n9 (0 + 1265) s9
          · intro P35 n35 c35 s35
            refine v_aload_n C dL_law_152 rfl (j := 0) rfl ?_
            refine v_bul (fun hb => ?_)
            exact v_callRef C hst hRm (by omega) (by omega) hE tw_1167 tw_0 tw_1165 tw_1166 dL_law_153
          · intro P37 n37 c37 s37
            refine v_iconst C dL_law_73 ?_
            exact v_none
          · intro P38 n38 c38 s38
            refine v_iconst C dL_law_144 ?_
            exact v_none
        · skip
          refine v_iconst C dL_law_40 ?_
          exact v_none
