/-! THE LAW'S CASES. The script is the 'literal' 99: A w (-101). -/
section VL1
variable {X : Cxt} {w : Wd} {cc : ByteArray} {nL : Nat} {own : String} {ret : Option FieldType} {P : Shp} {n cells slots : Nat} {α : Type} {res : α} {σ : St} {pc : Nat} {lv : List (Nat × Value)} {st : List Value} {b L : Nat} {xs : Nat → Int32}
def LX (X : Cxt) (w : Wd) (b L : Nat) (xs : Nat → Int32) : Prop := va_X b L xs X.2.2.2.2.1 X.2.2.2.2.1.heap ∧ b < X.2.2.2.2.1.heap.size ∧ b < w.1.size ∧ w.2.1 99 = b ∧ L ≤ 3072
def sc (xs : Nat → Int32) (j : Int) : Int := (xs j.toNat).toInt
def aS (L : Nat) (xs : Nat → Int32) (i : Int) (K : Int → Option α) : Option α := if 0 ≤ i ∧ i < L then K (sc xs i) else none
theorem A_scr (S : LX X w b L xs) : A w (-101) = .ref b := by
  show Value.ref (ad w (-101)) = _
  unfold ad
  rw [if_neg (by decide)]
  exact congrArg Value.ref S.2.2.2.1
theorem v_sc (C : Cok X w cc nL own ret) (S : LX X w b L xs) {i : Int} {K : Int → Option α} (d : decode cc pc = .ok (.iaload, 1)) (kk : ∀ x : Int, V X w nL P n cells slots res (K x) σ (pc + 1) lv (I x :: st)) : V X w nL P n cells slots res (aS L xs i K) σ pc lv (I i :: A w (-101) :: st) := fun H locs ls hR hS hl hK => by
  obtain ⟨⟨g0, g1⟩, hK⟩ := gd hK
  have hL : L < 2147483648 := by have := S.2.2.2.2; omega
  rw [A_scr S]
  refine va_sld C.1.1 C.1.2.1 S.1 S.2.1 (show ¬ wA w b from fun h => Nat.lt_irrefl _ (Nat.lt_of_lt_of_le S.2.2.1 h)) hS (i32_in g0 g1 hL) d ?_
  have h := kk _ H locs ls hR hS hl hK
  rw [i32_clamp g0 g1 hL]
  unfold I sc at h
  rw [Int32.ofInt_toInt] at h
  exact h
theorem v_scl {K : Option α} (C : Cok X w cc nL own ret) (S : LX X w b L xs) (d : decode cc pc = .ok (.arraylength, 1)) (kk : V X w nL P n cells slots res K σ (pc + 1) lv (I (L : Int) :: st)) : V X w nL P n cells slots res K σ pc lv (A w (-101) :: st) := fun H locs ls hR hS hl hK => by
  rw [A_scr S]
  exact va_slen C.1.1 C.1.2.1 S.1 S.2.1 (show ¬ wA w b from fun h => Nat.lt_irrefl _ (Nat.lt_of_lt_of_le S.2.2.1 h)) hS d (kk H locs ls hR hS hl hK)
theorem v_callW (C : Cok X w cc nL own ret) {y : MethodName} {b : ByteArray} {ml k idx mc1 ms1 : Nat} {hh : List (Nat × Nat × Nat × Nat)} {rm : Room} (As : List Value) {sk : List Value} (st : List Value) {F : Option (Int × St)} {K : Int × St → Option α} (hM : ∀ x, F = some x → CtW X.2.1 w y b ml hh rm mc1 ms1 P n As σ x)
    (e1 : Cond.codeWith y b ml (some .int) hh ∈ TB) (e2 : Cond.initialized y.cls ∈ TB) (e3 : y.cls ≠ "java/lang/invoke/MethodHandle" ∧ y.cls ≠ "java/lang/invoke/VarHandle" ∧ (parseMethodDescriptor y.desc).map (fun d => d.parameters.length) = some k) (e4 : rm.cells = mc1) (e5 : rm.slots = ms1) {R : Room} (hRm : X.2.2.2.1 = R) (e6 : rm.frames + 1 ≤ R.frames) (e7 : 8 + (ml + 11) + rm.locals ≤ R.locals) (hl : Cond.methodLink own idx y ∈ TB) (hi : Cond.static y ∈ TB) (hn : As.length = k) (hsk : sk = As.reverse ++ st) (hsum : (st.map fun v => v.category).sum ≤ 8) (hcs : cells + mc1 ≤ X.2.2.2.1.cells ∧ slots + ms1 ≤ X.2.2.2.1.slots) (d : decode cc pc = .ok (.invokestatic idx, 3))
    (kk : ∀ (x : Int × St) (n' : Nat), n ≤ n' → V X w nL P n' (cells + mc1) (slots + ms1) res (K x) x.2 (pc + 3) lv (I x.1 :: st)) : V X w nL P n cells slots res (cl F K) σ pc lv sk := fun H locs ls hR hS hl9 hK => by
  obtain ⟨x, hF, hK⟩ := cl_of hK
  subst hsk
  subst hRm
  have hG : GoodIn TB (va_wsS own idx y (Cond.codeWith y b ml (some .int) hh :: TB)) := TB_good fun v hv => by
    rcases List.mem_append.mp hv with h | h
    · simp only [List.mem_cons, List.not_mem_nil, or_false] at h
      rcases h with rfl | rfl | rfl <;> assumption
    · exact TB_ws e1 v h
  have hrun := vx_runSX (e := X.2.2.1) (below := X.2.2.2.2.2.2.2.1) (meth := X.2.2.2.2.2.2.2.2.1) (H := H) (locs := locs) (g := F0 X.2.2.2.2.2.1 pc ls (As.reverse ++ st)) C.1 (hM x hF) (vx_cwSW k C.1.2.2.2.2 hG rfl e4 e5 e3 ⟨e6, e7⟩) ⟨fun a U g mk q => ⟨q.1, q.2.1, q.2.2.same rfl⟩, fun U hU hW => ⟨rfl, by rw [hU]; exact hR, C.2.1.warm hW⟩⟩ rfl hn hl9.1 rfl (lv_room hsum) d hcs
  refine vx_calli hrun hS (fun q _ h => h) (fun q h => h) (fun q _ h => h) (fun E ce q9 u t H1 locs1 ht hvm hp hB hz hk hS1 hc9 hv9 hcl9 => hp.elim) (fun r u t H1 locs1 ht hvm hp hB hz hk hS1 => ?_)
  obtain ⟨rfl, hn'⟩ := hp
  rw [← ht] at hS1 ⊢
  exact kk x u hn' _ _ ls hB.1 hS1 hl9 hK
theorem v_dstore {K : Option α} (C : Cok X w cc nL own ret) {i : Nat} {z : UInt64} (lv' : List (Nat × Value)) (d : decode cc pc = .ok (.dstore i, 2)) (hn : i + 1 < nL) (h : (i, D z) :: lv.filter (fun q => !(q.1 == i) && (!(q.1 == i + 1) && !(q.1 + 1 == i && q.2.category == 2))) = lv') (k : V X w nL P n cells slots res K σ (pc + 2) lv' st) : V X w nL P n cells slots res K σ pc lv (D z :: st) :=
  fun H locs ls hR hS hl hK => lv_dstore C.1.1 C.1.2.1 d hl hn h (fun ls' hl' => k H locs ls' hR hS hl' hK)
theorem v_dload {K : Option α} (C : Cok X w cc nL own ret) {i j : Nat} {z : UInt64} (d : decode cc pc = .ok (.dload i, 2)) (h : lv[j]? = some (i, D z)) (k : V X w nL P n cells slots res K σ (pc + 2) lv (D z :: st)) : V X w nL P n cells slots res K σ pc lv st :=
  fun H locs ls hR hS hl hK => lv_dload C.1.1 C.1.2.1 d (lv_at hl j h) (k H locs ls hR hS hl hK)
/-- the two doubles are equal -/
def deq (x y : UInt64) (K : Option α) : Option α := if Op.cmpValue (FP.dcmp x y) .l = 0 then K else none
theorem v_deq {K : Option α} {x y : UInt64} {off : Int} {tgt : Nat} (C : Cok X w cc nL own ret) (d : decode cc pc = .ok (.ifCond .eq off, 3)) (ht : (pc : Int) + off = (tgt : Int)) (k : V X w nL P n cells slots res K σ tgt lv st) : V X w nL P n cells slots res (deq x y K) σ pc lv (.int (Op.cmpValue (FP.dcmp x y) .l) :: st) := fun H locs ls hR hS hl hK => by
  obtain ⟨g, hK⟩ := gd hK
  exact lv_if_eq C.1.1 C.1.2.1 d ht (fun _ => k H locs ls hR hS hl hK) (fun c => absurd g c)
end VL1
section VL2
variable {X : Cxt} {w : Wd} {cc : ByteArray} {nL : Nat} {own : String} {ret : Option FieldType} {P : Shp} {n cells slots : Nat} {α : Type} {res : α} {σ : St} {pc : Nat} {lv : List (Nat × Value)} {st : List Value}
theorem v_callV_wL (C : Cok X w cc nL own ret) {y : MethodName} {b : ByteArray} {ml k idx ci N : Nat} {rt : Option FieldType} {rm : Room} {o : Int} {Cn : String} {T : u_T} (As : List Value) {sk : List Value} (st : List Value) {F : Option (Int × St)} {K : Int × St → Option α} (E : Cee X y b ml rt rm k) (hM : ∀ x : Int × St, F = some x → Ct X.2.1 w y b ml rt rm P n (A w o :: As) σ (QL w P n x.1 x.2)) (hl : Cond.methodLink own idx y ∈ TB) (hi : Cond.instanceMethod y ∈ TB) (hs : Cond.selects Cn y y ∈ TB) (hCn : y.cls = Cn) (hc : vwCl[ci]? = some (Cn, T, N)) (hci : ci < 9) (hn : As.length = k) (hsk : sk = As.reverse ++ A w o :: st) (hsum : (st.map fun v => v.category).sum ≤ 8) (hcs : cells ≤ X.2.2.2.1.cells ∧ slots ≤ X.2.2.2.1.slots) (d : decode cc pc = .ok (.invokevirtual idx, 3))
    (kk : ∀ x : Int × St, V X w nL P n cells slots res (K x) x.2 (pc + 3) lv (J x.1 :: st)) : V X w nL P n cells slots res (onO P ci o (cl F K)) σ pc lv sk := fun H locs ls hR hS hl9 hK => by
  obtain ⟨g, hK⟩ := gd hK
  obtain ⟨len, hP⟩ := okO_of g
  obtain ⟨x, hF, hK⟩ := cl_of hK
  exact v_afterL (v_runV C E (hM x hF) hl hi hs hCn hc hci hR hP hn hsk hsum hcs hl9.1 d) hS hR hl9 hK (kk x)
end VL2
theorem h9bX7_append : yX7_append.cls ≠ "java/lang/invoke/MethodHandle" ∧ yX7_append.cls ≠ "java/lang/invoke/VarHandle" ∧ (parseMethodDescriptor yX7_append.desc).map (fun d => d.parameters.length) = some 5 := by decide +kernel
theorem h9bX7_restoreSnapshot : yX7_restoreSnapshot.cls ≠ "java/lang/invoke/MethodHandle" ∧ yX7_restoreSnapshot.cls ≠ "java/lang/invoke/VarHandle" ∧ (parseMethodDescriptor yX7_restoreSnapshot.desc).map (fun d => d.parameters.length) = some 1 := by decide +kernel
theorem h9bX7_rightShare : yX7_rightShare.cls ≠ "java/lang/invoke/MethodHandle" ∧ yX7_rightShare.cls ≠ "java/lang/invoke/VarHandle" ∧ (parseMethodDescriptor yX7_rightShare.desc).map (fun d => d.parameters.length) = some 0 := by decide +kernel
theorem h9bX7_saveSnapshot : yX7_saveSnapshot.cls ≠ "java/lang/invoke/MethodHandle" ∧ yX7_saveSnapshot.cls ≠ "java/lang/invoke/VarHandle" ∧ (parseMethodDescriptor yX7_saveSnapshot.desc).map (fun d => d.parameters.length) = some 1 := by decide +kernel
theorem h9bX7_undo : yX7_undo.cls ≠ "java/lang/invoke/MethodHandle" ∧ yX7_undo.cls ≠ "java/lang/invoke/VarHandle" ∧ (parseMethodDescriptor yX7_undo.desc).map (fun d => d.parameters.length) = some 0 := by decide +kernel
theorem h9bX7_weakest : yX7_weakest.cls ≠ "java/lang/invoke/MethodHandle" ∧ yX7_weakest.cls ≠ "java/lang/invoke/VarHandle" ∧ (parseMethodDescriptor yX7_weakest.desc).map (fun d => d.parameters.length) = some 0 := by decide +kernel
theorem h9bX8_account : yX8_account.cls ≠ "java/lang/invoke/MethodHandle" ∧ yX8_account.cls ≠ "java/lang/invoke/VarHandle" ∧ (parseMethodDescriptor yX8_account.desc).map (fun d => d.parameters.length) = some 1 := by decide +kernel
theorem h9bX8_append : yX8_append.cls ≠ "java/lang/invoke/MethodHandle" ∧ yX8_append.cls ≠ "java/lang/invoke/VarHandle" ∧ (parseMethodDescriptor yX8_append.desc).map (fun d => d.parameters.length) = some 5 := by decide +kernel
theorem h9bX8_atStake : yX8_atStake.cls ≠ "java/lang/invoke/MethodHandle" ∧ yX8_atStake.cls ≠ "java/lang/invoke/VarHandle" ∧ (parseMethodDescriptor yX8_atStake.desc).map (fun d => d.parameters.length) = some 1 := by decide +kernel
theorem h9bX8_callOff : yX8_callOff.cls ≠ "java/lang/invoke/MethodHandle" ∧ yX8_callOff.cls ≠ "java/lang/invoke/VarHandle" ∧ (parseMethodDescriptor yX8_callOff.desc).map (fun d => d.parameters.length) = some 1 := by decide +kernel
theorem h9bX8_cause : yX8_cause.cls ≠ "java/lang/invoke/MethodHandle" ∧ yX8_cause.cls ≠ "java/lang/invoke/VarHandle" ∧ (parseMethodDescriptor yX8_cause.desc).map (fun d => d.parameters.length) = some 2 := by decide +kernel
theorem h9bX8_device : yX8_device.cls ≠ "java/lang/invoke/MethodHandle" ∧ yX8_device.cls ≠ "java/lang/invoke/VarHandle" ∧ (parseMethodDescriptor yX8_device.desc).map (fun d => d.parameters.length) = some 2 := by decide +kernel
theorem h9bX8_deviceAt : yX8_deviceAt.cls ≠ "java/lang/invoke/MethodHandle" ∧ yX8_deviceAt.cls ≠ "java/lang/invoke/VarHandle" ∧ (parseMethodDescriptor yX8_deviceAt.desc).map (fun d => d.parameters.length) = some 1 := by decide +kernel
theorem h9bX8_error : yX8_error.cls ≠ "java/lang/invoke/MethodHandle" ∧ yX8_error.cls ≠ "java/lang/invoke/VarHandle" ∧ (parseMethodDescriptor yX8_error.desc).map (fun d => d.parameters.length) = some 3 := by decide +kernel
theorem h9bX8_event : yX8_event.cls ≠ "java/lang/invoke/MethodHandle" ∧ yX8_event.cls ≠ "java/lang/invoke/VarHandle" ∧ (parseMethodDescriptor yX8_event.desc).map (fun d => d.parameters.length) = some 2 := by decide +kernel
theorem h9bX8_fail : yX8_fail.cls ≠ "java/lang/invoke/MethodHandle" ∧ yX8_fail.cls ≠ "java/lang/invoke/VarHandle" ∧ (parseMethodDescriptor yX8_fail.desc).map (fun d => d.parameters.length) = some 2 := by decide +kernel
theorem h9bX8_feared : yX8_feared.cls ≠ "java/lang/invoke/MethodHandle" ∧ yX8_feared.cls ≠ "java/lang/invoke/VarHandle" ∧ (parseMethodDescriptor yX8_feared.desc).map (fun d => d.parameters.length) = some 1 := by decide +kernel
theorem h9bX8_frames : yX8_frames.cls ≠ "java/lang/invoke/MethodHandle" ∧ yX8_frames.cls ≠ "java/lang/invoke/VarHandle" ∧ (parseMethodDescriptor yX8_frames.desc).map (fun d => d.parameters.length) = some 1 := by decide +kernel
theorem h9bX8_framesToClear : yX8_framesToClear.cls ≠ "java/lang/invoke/MethodHandle" ∧ yX8_framesToClear.cls ≠ "java/lang/invoke/VarHandle" ∧ (parseMethodDescriptor yX8_framesToClear.desc).map (fun d => d.parameters.length) = some 1 := by decide +kernel
theorem h9bX8_packets : yX8_packets.cls ≠ "java/lang/invoke/MethodHandle" ∧ yX8_packets.cls ≠ "java/lang/invoke/VarHandle" ∧ (parseMethodDescriptor yX8_packets.desc).map (fun d => d.parameters.length) = some 1 := by decide +kernel
theorem h9bX8_parse : yX8_parse.cls ≠ "java/lang/invoke/MethodHandle" ∧ yX8_parse.cls ≠ "java/lang/invoke/VarHandle" ∧ (parseMethodDescriptor yX8_parse.desc).map (fun d => d.parameters.length) = some 1 := by decide +kernel
theorem h9bX8_plug : yX8_plug.cls ≠ "java/lang/invoke/MethodHandle" ∧ yX8_plug.cls ≠ "java/lang/invoke/VarHandle" ∧ (parseMethodDescriptor yX8_plug.desc).map (fun d => d.parameters.length) = some 2 := by decide +kernel
theorem h9bX8_restoreSnapshot : yX8_restoreSnapshot.cls ≠ "java/lang/invoke/MethodHandle" ∧ yX8_restoreSnapshot.cls ≠ "java/lang/invoke/VarHandle" ∧ (parseMethodDescriptor yX8_restoreSnapshot.desc).map (fun d => d.parameters.length) = some 1 := by decide +kernel
theorem h9bX8_rightShare : yX8_rightShare.cls ≠ "java/lang/invoke/MethodHandle" ∧ yX8_rightShare.cls ≠ "java/lang/invoke/VarHandle" ∧ (parseMethodDescriptor yX8_rightShare.desc).map (fun d => d.parameters.length) = some 0 := by decide +kernel
theorem h9bX8_saveSnapshot : yX8_saveSnapshot.cls ≠ "java/lang/invoke/MethodHandle" ∧ yX8_saveSnapshot.cls ≠ "java/lang/invoke/VarHandle" ∧ (parseMethodDescriptor yX8_saveSnapshot.desc).map (fun d => d.parameters.length) = some 1 := by decide +kernel
theorem h9bX8_scoreWith : yX8_scoreWith.cls ≠ "java/lang/invoke/MethodHandle" ∧ yX8_scoreWith.cls ≠ "java/lang/invoke/VarHandle" ∧ (parseMethodDescriptor yX8_scoreWith.desc).map (fun d => d.parameters.length) = some 2 := by decide +kernel
theorem h9bX8_setScore : yX8_setScore.cls ≠ "java/lang/invoke/MethodHandle" ∧ yX8_setScore.cls ≠ "java/lang/invoke/VarHandle" ∧ (parseMethodDescriptor yX8_setScore.desc).map (fun d => d.parameters.length) = some 1 := by decide +kernel
theorem h9bX8_size : yX8_size.cls ≠ "java/lang/invoke/MethodHandle" ∧ yX8_size.cls ≠ "java/lang/invoke/VarHandle" ∧ (parseMethodDescriptor yX8_size.desc).map (fun d => d.parameters.length) = some 1 := by decide +kernel
theorem h9bX8_stream : yX8_stream.cls ≠ "java/lang/invoke/MethodHandle" ∧ yX8_stream.cls ≠ "java/lang/invoke/VarHandle" ∧ (parseMethodDescriptor yX8_stream.desc).map (fun d => d.parameters.length) = some 2 := by decide +kernel
theorem h9bX8_thrown : yX8_thrown.cls ≠ "java/lang/invoke/MethodHandle" ∧ yX8_thrown.cls ≠ "java/lang/invoke/VarHandle" ∧ (parseMethodDescriptor yX8_thrown.desc).map (fun d => d.parameters.length) = some 0 := by decide +kernel
theorem h9bX8_undo : yX8_undo.cls ≠ "java/lang/invoke/MethodHandle" ∧ yX8_undo.cls ≠ "java/lang/invoke/VarHandle" ∧ (parseMethodDescriptor yX8_undo.desc).map (fun d => d.parameters.length) = some 0 := by decide +kernel
theorem h9bX8_unplug : yX8_unplug.cls ≠ "java/lang/invoke/MethodHandle" ∧ yX8_unplug.cls ≠ "java/lang/invoke/VarHandle" ∧ (parseMethodDescriptor yX8_unplug.desc).map (fun d => d.parameters.length) = some 1 := by decide +kernel
theorem h9bX8_warn : yX8_warn.cls ≠ "java/lang/invoke/MethodHandle" ∧ yX8_warn.cls ≠ "java/lang/invoke/VarHandle" ∧ (parseMethodDescriptor yX8_warn.desc).map (fun d => d.parameters.length) = some 1 := by decide +kernel
theorem h9bX8_weakest : yX8_weakest.cls ≠ "java/lang/invoke/MethodHandle" ∧ yX8_weakest.cls ≠ "java/lang/invoke/VarHandle" ∧ (parseMethodDescriptor yX8_weakest.desc).map (fun d => d.parameters.length) = some 0 := by decide +kernel
theorem h9bX8_whyNotRunning : yX8_whyNotRunning.cls ≠ "java/lang/invoke/MethodHandle" ∧ yX8_whyNotRunning.cls ≠ "java/lang/invoke/VarHandle" ∧ (parseMethodDescriptor yX8_whyNotRunning.desc).map (fun d => d.parameters.length) = some 1 := by decide +kernel
noncomputable def fc_0 (P : Shp) (L : Nat) (xs : Nat → Int32) (s : St) (x m o i : Int) (kE : St → Option Unit) : Option Unit :=
  aS L xs (i + 1) fun x1 =>
  aS L xs (i + 2) fun x2 =>
  aS L xs (i + 3) fun x3 =>
  aS L xs (i + 4) fun x4 =>
  aS L xs (i + 5) fun x5 =>
  onO P 7 x <| cl (fX7_append P s x x1 x2 x3 x4 x5) fun (x6, s7) =>
  aS L xs (i + 1) fun x9 =>
  aS L xs (i + 2) fun x10 =>
  aS L xs (i + 3) fun x11 =>
  aS L xs (i + 4) fun x12 =>
  aS L xs (i + 5) fun x13 =>
  onO P 8 m <| cl (fX8_append P s7 m x9 x10 x11 x12 x13) fun (x14, s15) =>
  jeq x6 x14 (
    kE s15) none
noncomputable def fc_1 (P : Shp) (L : Nat) (xs : Nat → Int32) (s : St) (x m o i : Int) (kE : St → Option Unit) : Option Unit :=
  aS L xs (i + 1) fun x1 =>
  cl (fL_parse P s x x1 o) fun (x2, s3) =>
  aS L xs (i + 1) fun x6 =>
  onO P 8 m <| cl (fX8_parse P s3 m x6) fun (x7, s8) =>
  onO P 8 m <| cl (fX8_thrown P s8 m) fun x10 =>
  jeq x10 x2 (
    jne x2 0 (
      kE s8) (
      aI P 11 s8 o 0 fun x13 =>
      i2l x7 fun x14 =>
      lc x13 x14 fun x15 =>
      jeq x15 0 (
        kE s8) none)) none
noncomputable def fc_2 (P : Shp) (L : Nat) (xs : Nat → Int32) (s : St) (x m o i : Int) (kE : St → Option Unit) : Option Unit :=
  aS L xs (i + 1) fun x1 =>
  cl (fL_size P s x x1 o) fun (x2, s3) =>
  aS L xs (i + 1) fun x6 =>
  onO P 8 m <| cl (fX8_size P s3 m x6) fun (x7, s8) =>
  onO P 8 m <| cl (fX8_thrown P s8 m) fun x10 =>
  jeq x10 x2 (
    jne x2 0 (
      kE s8) (
      aI P 11 s8 o 0 fun x13 =>
      i2l x7 fun x14 =>
      lc x13 x14 fun x15 =>
      jeq x15 0 (
        kE s8) none)) none
noncomputable def fc_3 (P : Shp) (L : Nat) (xs : Nat → Int32) (s : St) (x m o i : Int) (kE : St → Option Unit) : Option Unit :=
  aS L xs (i + 1) fun x1 =>
  cl (fL_deviceAt P s x x1 o) fun (x2, s3) =>
  aS L xs (i + 1) fun x6 =>
  onO P 8 m <| cl (fX8_deviceAt P s3 m x6) fun (x7, s8) =>
  onO P 8 m <| cl (fX8_thrown P s8 m) fun x10 =>
  jeq x10 x2 (
    jne x2 0 (
      kE s8) (
      aI P 11 s8 o 0 fun x13 =>
      i2l x7 fun x14 =>
      lc x13 x14 fun x15 =>
      jeq x15 0 (
        kE s8) none)) none
noncomputable def fc_4 (P : Shp) (L : Nat) (xs : Nat → Int32) (s : St) (x m o i : Int) (kE : St → Option Unit) : Option Unit :=
  aS L xs (i + 1) fun x1 =>
  aS L xs (i + 2) fun x2 =>
  cl (fL_device P s x x1 x2 o) fun (x3, s4) =>
  aS L xs (i + 1) fun x7 =>
  aS L xs (i + 2) fun x8 =>
  onO P 8 m <| cl (fX8_device P s4 m x7 x8) fun (x9, s10) =>
  onO P 8 m <| cl (fX8_thrown P s10 m) fun x12 =>
  jeq x12 x3 (
    jne x3 0 (
      kE s10) (
      aI P 11 s10 o 0 fun x15 =>
      i2l x9 fun x16 =>
      lc x15 x16 fun x17 =>
      jeq x17 0 (
        kE s10) none)) none
noncomputable def fc_5 (P : Shp) (L : Nat) (xs : Nat → Int32) (s : St) (x m o i : Int) (kE : St → Option Unit) : Option Unit :=
  aS L xs (i + 1) fun x1 =>
  aS L xs (i + 2) fun x2 =>
  cl (fL_stream P s x x1 x2 o) fun (x3, s4) =>
  aS L xs (i + 1) fun x7 =>
  aS L xs (i + 2) fun x8 =>
  onO P 8 m <| cl (fX8_stream P s4 m x7 x8) fun (x9, s10) =>
  onO P 8 m <| cl (fX8_thrown P s10 m) fun x12 =>
  jeq x12 x3 (
    jne x3 0 (
      kE s10) (
      aI P 11 s10 o 0 fun x15 =>
      i2l x9 fun x16 =>
      lc x15 x16 fun x17 =>
      jeq x17 0 (
        kE s10) none)) none
noncomputable def fc_6 (P : Shp) (L : Nat) (xs : Nat → Int32) (s : St) (x m o i : Int) (kE : St → Option Unit) : Option Unit :=
  aS L xs (i + 1) fun x1 =>
  cl (fL_packets P s x x1 o) fun (x2, s3) =>
  aS L xs (i + 1) fun x6 =>
  onO P 8 m <| cl (fX8_packets P s3 m x6) fun (x7, s8) =>
  onO P 8 m <| cl (fX8_thrown P s8 m) fun x10 =>
  jeq x10 x2 (
    jne x2 0 (
      kE s8) (
      aI P 11 s8 o 0 fun x13 =>
      lc x13 x7 fun x14 =>
      jeq x14 0 (
        kE s8) none)) none
noncomputable def fc_7 (P : Shp) (L : Nat) (xs : Nat → Int32) (s : St) (x m o i : Int) (kE : St → Option Unit) : Option Unit :=
  aS L xs (i + 1) fun x1 =>
  aS L xs (i + 2) fun x2 =>
  aS L xs (i + 3) fun x3 =>
  cl (fL_error P s x x1 x2 x3 o) fun (x4, s5) =>
  aS L xs (i + 1) fun x8 =>
  aS L xs (i + 2) fun x9 =>
  aS L xs (i + 3) fun x10 =>
  onO P 8 m <| cl (fX8_error P s5 m x8 x9 x10) fun (x11, s12) =>
  onO P 8 m <| cl (fX8_thrown P s12 m) fun x14 =>
  jeq x14 x4 (
    jne x4 0 (
      kE s12) (
      aI P 11 s12 o 0 fun x17 =>
      i2l x11 fun x18 =>
      lc x17 x18 fun x19 =>
      jeq x19 0 (
        kE s12) none)) none
noncomputable def fc_8 (P : Shp) (L : Nat) (xs : Nat → Int32) (s : St) (x m o i : Int) (kE : St → Option Unit) : Option Unit :=
  aS L xs (i + 1) fun x1 =>
  aS L xs (i + 2) fun x2 =>
  cl (fL_cause P s x x1 x2 o) fun (x3, s4) =>
  aS L xs (i + 1) fun x7 =>
  aS L xs (i + 2) fun x8 =>
  onO P 8 m <| cl (fX8_cause P s4 m x7 x8) fun (x9, s10) =>
  onO P 8 m <| cl (fX8_thrown P s10 m) fun x12 =>
  jeq x12 x3 (
    jne x3 0 (
      kE s10) (
      aI P 11 s10 o 0 fun x15 =>
      i2l x9 fun x16 =>
      lc x15 x16 fun x17 =>
      jeq x17 0 (
        kE s10) none)) none
noncomputable def fc_9 (P : Shp) (L : Nat) (xs : Nat → Int32) (s : St) (x m o i : Int) (kE : St → Option Unit) : Option Unit :=
  aS L xs (i + 1) fun x1 =>
  aS L xs (i + 2) fun x2 =>
  cl (fL_scoreWith P s x x1 x2 o) fun (x3, s4) =>
  aS L xs (i + 1) fun x7 =>
  aS L xs (i + 2) fun x8 =>
  onO P 8 m <| cl (fX8_scoreWith P s4 m x7 x8) fun (x9, s10) =>
  onO P 8 m <| cl (fX8_thrown P s10 m) fun x12 =>
  jeq x12 x3 (
    jne x3 0 (
      kE s10) (
      aI P 11 s10 o 0 fun x15 =>
      i2l x9 fun x16 =>
      lc x15 x16 fun x17 =>
      jeq x17 0 (
        kE s10) none)) none
noncomputable def fc_10 (P : Shp) (L : Nat) (xs : Nat → Int32) (s : St) (x m o i : Int) (kE : St → Option Unit) : Option Unit :=
  aS L xs (i + 1) fun x1 =>
  cl (fL_feared P s x x1 o) fun (x2, s3) =>
  aS L xs (i + 1) fun x6 =>
  onO P 8 m <| cl (fX8_feared P s3 m x6) fun (x7, s8) =>
  onO P 8 m <| cl (fX8_thrown P s8 m) fun x10 =>
  jeq x10 x2 (
    jne x2 0 (
      kE s8) (
      aI P 11 s8 o 0 fun x13 =>
      i2l x7 fun x14 =>
      lc x13 x14 fun x15 =>
      jeq x15 0 (
        kE s8) none)) none
noncomputable def fc_11 (P : Shp) (L : Nat) (xs : Nat → Int32) (s : St) (x m o i : Int) (kE : St → Option Unit) : Option Unit :=
  aS L xs (i + 1) fun x1 =>
  cl (fL_framesToClear P s x x1 o) fun (x2, s3) =>
  aS L xs (i + 1) fun x6 =>
  onO P 8 m <| cl (fX8_framesToClear P s3 m x6) fun (x7, s8) =>
  onO P 8 m <| cl (fX8_thrown P s8 m) fun x10 =>
  jeq x10 x2 (
    jne x2 0 (
      kE s8) (
      aI P 11 s8 o 0 fun x13 =>
      i2l x7 fun x14 =>
      lc x13 x14 fun x15 =>
      jeq x15 0 (
        kE s8) none)) none
noncomputable def fc_12 (P : Shp) (L : Nat) (xs : Nat → Int32) (s : St) (x m o i : Int) (kE : St → Option Unit) : Option Unit :=
  aS L xs (i + 1) fun x1 =>
  cl (fL_atStake P s x x1 o) fun (x2, s3) =>
  aS L xs (i + 1) fun x6 =>
  onO P 8 m <| cl (fX8_atStake P s3 m x6) fun (x7, s8) =>
  onO P 8 m <| cl (fX8_thrown P s8 m) fun x10 =>
  jeq x10 x2 (
    jne x2 0 (
      kE s8) (
      aI P 11 s8 o 0 fun x13 =>
      i2l x7 fun x14 =>
      lc x13 x14 fun x15 =>
      jeq x15 0 (
        kE s8) none)) none
noncomputable def fc_13 (P : Shp) (L : Nat) (xs : Nat → Int32) (s : St) (x m o i : Int) (kE : St → Option Unit) : Option Unit :=
  onO P 7 x <| cl (fX7_weakest P s x) fun x1 =>
  onO P 8 m <| cl (fX8_weakest P s m) fun (x4, s5) =>
  jeq x1 x4 (
    kE s5) none
noncomputable def fc_14 (P : Shp) (L : Nat) (xs : Nat → Int32) (s : St) (x m o i : Int) (kE : St → Option Unit) : Option Unit :=
  aS L xs (i + 1) fun x1 =>
  cl (fL_whyNotRunning P s x x1 o) fun (x2, s3) =>
  aS L xs (i + 1) fun x6 =>
  onO P 8 m <| cl (fX8_whyNotRunning P s3 m x6) fun (x7, s8) =>
  onO P 8 m <| cl (fX8_thrown P s8 m) fun x10 =>
  jeq x10 x2 (
    jne x2 0 (
      kE s8) (
      aI P 11 s8 o 0 fun x13 =>
      i2l x7 fun x14 =>
      lc x13 x14 fun x15 =>
      jeq x15 0 (
        kE s8) none)) none
noncomputable def fc_15 (P : Shp) (L : Nat) (xs : Nat → Int32) (s : St) (x m o i : Int) (kE : St → Option Unit) : Option Unit :=
  aS L xs (i + 1) fun x1 =>
  aS L xs (i + 2) fun x2 =>
  cl (fL_event P s x x1 x2 o) fun (x3, s4) =>
  aS L xs (i + 1) fun x7 =>
  aS L xs (i + 2) fun x8 =>
  onO P 8 m <| cl (fX8_event P s4 m x7 x8) fun (x9, s10) =>
  onO P 8 m <| cl (fX8_thrown P s10 m) fun x12 =>
  jeq x12 x3 (
    jne x3 0 (
      kE s10) (
      aI P 11 s10 o 0 fun x15 =>
      i2l x9 fun x16 =>
      lc x15 x16 fun x17 =>
      jeq x17 0 (
        kE s10) none)) none
noncomputable def fc_16 (P : Shp) (L : Nat) (xs : Nat → Int32) (s : St) (x m o i : Int) (kE : St → Option Unit) : Option Unit :=
  aS L xs (i + 1) fun x1 =>
  cl (fL_account P s x x1 o) fun (x2, s3) =>
  aS L xs (i + 1) fun x6 =>
  onO P 8 m <| cl (fX8_account P s3 m x6) fun (x7, s8) =>
  onO P 8 m <| cl (fX8_thrown P s8 m) fun x10 =>
  jeq x10 x2 (
    jne x2 0 (
      kE s8) (
      aI P 11 s8 o 0 fun x13 =>
      i2l x7 fun x14 =>
      lc x13 x14 fun x15 =>
      jeq x15 0 (
        kE s8) none)) none
noncomputable def fc_17 (P : Shp) (L : Nat) (xs : Nat → Int32) (s : St) (x m o i : Int) (kE : St → Option Unit) : Option Unit :=
  onO P 7 x <| cl (fX7_rightShare P s x) fun x1 =>
  onO P 8 m <| cl (fX8_rightShare P s m) fun (x4, s5) =>
  deq x1 x4 <|
  kE s5
noncomputable def fc_18 (P : Shp) (L : Nat) (xs : Nat → Int32) (s : St) (x m o i : Int) (kE : St → Option Unit) : Option Unit :=
  aS L xs (i + 1) fun x1 =>
  cl (fL_frames P s x x1 o) fun (x2, s3) =>
  aS L xs (i + 1) fun x6 =>
  onO P 8 m <| cl (fX8_frames P s3 m x6) fun (x7, s8) =>
  onO P 8 m <| cl (fX8_thrown P s8 m) fun x10 =>
  jeq x10 x2 (
    jne x2 0 (
      kE s8) (
      aI P 11 s8 o 0 fun x13 =>
      i2l x7 fun x14 =>
      lc x13 x14 fun x15 =>
      jeq x15 0 (
        kE s8) none)) none
noncomputable def fc_19 (P : Shp) (L : Nat) (xs : Nat → Int32) (s : St) (x m o i : Int) (kE : St → Option Unit) : Option Unit :=
  aS L xs (i + 1) fun x1 =>
  aS L xs (i + 2) fun x2 =>
  cl (fL_fail P s x x1 x2 o) fun (x3, s4) =>
  aS L xs (i + 1) fun x7 =>
  aS L xs (i + 2) fun x8 =>
  onO P 8 m <| cl (fX8_fail P s4 m x7 x8) fun (x9, s10) =>
  onO P 8 m <| cl (fX8_thrown P s10 m) fun x12 =>
  jeq x12 x3 (
    jne x3 0 (
      kE s10) (
      aI P 11 s10 o 0 fun x15 =>
      i2l x9 fun x16 =>
      lc x15 x16 fun x17 =>
      jeq x17 0 (
        kE s10) none)) none
noncomputable def fc_20 (P : Shp) (L : Nat) (xs : Nat → Int32) (s : St) (x m o i : Int) (kE : St → Option Unit) : Option Unit :=
  aS L xs (i + 1) fun x1 =>
  cl (fL_warn P s x x1 o) fun (x2, s3) =>
  aS L xs (i + 1) fun x6 =>
  onO P 8 m <| cl (fX8_warn P s3 m x6) fun (x7, s8) =>
  onO P 8 m <| cl (fX8_thrown P s8 m) fun x10 =>
  jeq x10 x2 (
    jne x2 0 (
      kE s8) (
      aI P 11 s8 o 0 fun x13 =>
      i2l x7 fun x14 =>
      lc x13 x14 fun x15 =>
      jeq x15 0 (
        kE s8) none)) none
noncomputable def fc_21 (P : Shp) (L : Nat) (xs : Nat → Int32) (s : St) (x m o i : Int) (kE : St → Option Unit) : Option Unit :=
  aS L xs (i + 1) fun x1 =>
  cl (fL_callOff P s x x1 o) fun (x2, s3) =>
  aS L xs (i + 1) fun x6 =>
  onO P 8 m <| cl (fX8_callOff P s3 m x6) fun (x7, s8) =>
  onO P 8 m <| cl (fX8_thrown P s8 m) fun x10 =>
  jeq x10 x2 (
    jne x2 0 (
      kE s8) (
      aI P 11 s8 o 0 fun x13 =>
      i2l x7 fun x14 =>
      lc x13 x14 fun x15 =>
      jeq x15 0 (
        kE s8) none)) none
noncomputable def fc_22 (P : Shp) (L : Nat) (xs : Nat → Int32) (s : St) (x m o i : Int) (kE : St → Option Unit) : Option Unit :=
  aS L xs (i + 1) fun x1 =>
  cl (fL_unplug P s x x1 o) fun (x2, s3) =>
  aS L xs (i + 1) fun x6 =>
  onO P 8 m <| cl (fX8_unplug P s3 m x6) fun (x7, s8) =>
  onO P 8 m <| cl (fX8_thrown P s8 m) fun x10 =>
  jeq x10 x2 (
    jne x2 0 (
      kE s8) (
      aI P 11 s8 o 0 fun x13 =>
      i2l x7 fun x14 =>
      lc x13 x14 fun x15 =>
      jeq x15 0 (
        kE s8) none)) none
noncomputable def fc_23 (P : Shp) (L : Nat) (xs : Nat → Int32) (s : St) (x m o i : Int) (kE : St → Option Unit) : Option Unit :=
  aS L xs (i + 1) fun x1 =>
  aS L xs (i + 2) fun x2 =>
  cl (fL_plug P s x x1 x2 o) fun (x3, s4) =>
  aS L xs (i + 1) fun x7 =>
  aS L xs (i + 2) fun x8 =>
  onO P 8 m <| cl (fX8_plug P s4 m x7 x8) fun (x9, s10) =>
  onO P 8 m <| cl (fX8_thrown P s10 m) fun x12 =>
  jeq x12 x3 (
    jne x3 0 (
      kE s10) (
      aI P 11 s10 o 0 fun x15 =>
      i2l x9 fun x16 =>
      lc x15 x16 fun x17 =>
      jeq x17 0 (
        kE s10) none)) none
noncomputable def fc_24 (P : Shp) (L : Nat) (xs : Nat → Int32) (s : St) (x m o i : Int) (kE : St → Option Unit) : Option Unit :=
  aS L xs (i + 1) fun x1 =>
  cl (fL_setScore P s x x1 o) fun (x2, s3) =>
  aS L xs (i + 1) fun x6 =>
  onO P 8 m <| cl (fX8_setScore P s3 m x6) fun (x7, s8) =>
  onO P 8 m <| cl (fX8_thrown P s8 m) fun x10 =>
  jeq x10 x2 (
    jne x2 0 (
      kE s8) (
      aI P 11 s8 o 0 fun x13 =>
      i2l x7 fun x14 =>
      lc x13 x14 fun x15 =>
      jeq x15 0 (
        kE s8) none)) none
noncomputable def fc_25 (P : Shp) (L : Nat) (xs : Nat → Int32) (s : St) (x m o i : Int) (kE : St → Option Unit) : Option Unit :=
  onO P 7 x <| cl (fX7_undo P s x) fun (x1, s2) =>
  onO P 8 m <| cl (fX8_undo P s2 m) fun (x4, s5) =>
  jeq x1 x4 (
    kE s5) none
noncomputable def fc_26 (P : Shp) (L : Nat) (xs : Nat → Int32) (s : St) (x m o i : Int) (kE : St → Option Unit) : Option Unit :=
  aS L xs (i + 1) fun x1 =>
  onO P 7 x <| cl (fX7_saveSnapshot P s x x1) fun (x2, s3) =>
  aS L xs (i + 1) fun x5 =>
  onO P 8 m <| cl (fX8_saveSnapshot P s3 m x5) fun (x6, s7) =>
  jeq x2 x6 (
    kE s7) none
noncomputable def fc_27 (P : Shp) (L : Nat) (xs : Nat → Int32) (s : St) (x m o i : Int) (kE : St → Option Unit) : Option Unit :=
  aS L xs (i + 1) fun x1 =>
  onO P 7 x <| cl (fX7_restoreSnapshot P s x x1) fun (x2, s3) =>
  aS L xs (i + 1) fun x5 =>
  onO P 8 m <| cl (fX8_restoreSnapshot P s3 m x5) fun (x6, s7) =>
  jeq x2 x6 (
    kE s7) none
theorem vc_0 {X : Cxt} {w : Wd} {ret : Option FieldType} {P : Shp} {n cells slots b L : Nat} {xs : Nat → Int32} {s : St} {x m o i : Int} {kE : St → Option Unit} (hst : X.2.1.stackTraces = false) (C : Cok X w cL_law 9 RL ret) (S : LX X w b L xs) (hRm : X.2.2.2.1 = room_1) (hB : cells + 3 ≤ 601024 ∧ slots + 18 ≤ 7293034) (hk : ∀ (n' : Nat) (σ' : St), n ≤ n' → V X w 9 P n' (cells + 3) (slots + 18) () (kE σ') σ' 1697 [(0, A w (-101)), (1, A w x), (2, A w m), (3, A w o), (4, I i)] []) : V X w 9 P n cells slots () (fc_0 P L xs s x m o i kE) s 168 [(0, A w (-101)), (1, A w x), (2, A w m), (3, A w o), (4, I i)] [] := by
  have hC9 : X.2.2.2.1.cells = 601024 := by rw [hRm]; rfl
  have hS9 : X.2.2.2.1.slots = 7293034 := by rw [hRm]; rfl
  unfold fc_0
  refine v_aload_n C dL_law_168 rfl (j := 1) rfl ?_
  refine v_aload_n C dL_law_169 rfl (j := 0) rfl ?_
  refine v_iload C dL_law_170 (j := 4) rfl ?_
  refine v_iconst C dL_law_172 ?_
  refine v_iadd C dL_law_173 ?_
  refine v_sc C S dL_law_174 (fun x1 => ?_)
  refine v_aload_n C dL_law_175 rfl (j := 0) rfl ?_
  refine v_iload C dL_law_176 (j := 4) rfl ?_
  refine v_iconst C dL_law_178 ?_
  refine v_iadd C dL_law_179 ?_
  refine v_sc C S dL_law_180 (fun x2 => ?_)
  refine v_aload_n C dL_law_181 rfl (j := 0) rfl ?_
  refine v_iload C dL_law_182 (j := 4) rfl ?_
  refine v_iconst C dL_law_184 ?_
  refine v_iadd C dL_law_185 ?_
  refine v_sc C S dL_law_186 (fun x3 => ?_)
  refine v_aload_n C dL_law_187 rfl (j := 0) rfl ?_
  refine v_iload C dL_law_188 (j := 4) rfl ?_
  refine v_iconst C dL_law_190 ?_
  refine v_iadd C dL_law_191 ?_
  refine v_sc C S dL_law_192 (fun x4 => ?_)
  refine v_aload_n C dL_law_193 rfl (j := 0) rfl ?_
  refine v_iload C dL_law_194 (j := 4) rfl ?_
  refine v_iconst C dL_law_196 ?_
  refine v_iadd C dL_law_197 ?_
  refine v_sc C S dL_law_198 (fun x5 => ?_)
  refine v_callV_wI C [I x1, I x2, I x3, I x4, I x5] [] (Cee.of (rm := rX7_append) tw_355 tw_1 h9bX7_append rfl rfl hRm (Nat.le_of_ble_eq_true rfl) (Nat.le_of_ble_eq_true rfl)) (fun x h => kX7_append X.2.1 w P _ h) tw_352 tw_353 tw_354 rfl (ci := 7) rfl (by decide) rfl rfl (Nat.le_of_ble_eq_true rfl) ⟨by omega, by omega⟩ dL_law_199 (fun q8 => ?_)
  obtain ⟨x6, s7⟩ := q8
  refine v_aload_n C dL_law_202 rfl (j := 2) rfl ?_
  refine v_aload_n C dL_law_203 rfl (j := 0) rfl ?_
  refine v_iload C dL_law_204 (j := 4) rfl ?_
  refine v_iconst C dL_law_206 ?_
  refine v_iadd C dL_law_207 ?_
  refine v_sc C S dL_law_208 (fun x9 => ?_)
  refine v_aload_n C dL_law_209 rfl (j := 0) rfl ?_
  refine v_iload C dL_law_210 (j := 4) rfl ?_
  refine v_iconst C dL_law_212 ?_
  refine v_iadd C dL_law_213 ?_
  refine v_sc C S dL_law_214 (fun x10 => ?_)
  refine v_aload_n C dL_law_215 rfl (j := 0) rfl ?_
  refine v_iload C dL_law_216 (j := 4) rfl ?_
  refine v_iconst C dL_law_218 ?_
  refine v_iadd C dL_law_219 ?_
  refine v_sc C S dL_law_220 (fun x11 => ?_)
  refine v_aload_n C dL_law_221 rfl (j := 0) rfl ?_
  refine v_iload C dL_law_222 (j := 4) rfl ?_
  refine v_iconst C dL_law_224 ?_
  refine v_iadd C dL_law_225 ?_
  refine v_sc C S dL_law_226 (fun x12 => ?_)
  refine v_aload_n C dL_law_227 rfl (j := 0) rfl ?_
  refine v_iload C dL_law_228 (j := 4) rfl ?_
  refine v_iconst C dL_law_230 ?_
  refine v_iadd C dL_law_231 ?_
  refine v_sc C S dL_law_232 (fun x13 => ?_)
  refine v_callV_wI C [I x9, I x10, I x11, I x12, I x13] [I x6] (Cee.of (rm := rX8_append) tw_1217 tw_9 h9bX8_append rfl rfl hRm (Nat.le_of_ble_eq_true rfl) (Nat.le_of_ble_eq_true rfl)) (fun x h => kX8_append X.2.1 w P _ h) tw_1214 tw_1215 tw_1216 rfl (ci := 8) rfl (by decide) rfl rfl (Nat.le_of_ble_eq_true rfl) ⟨by omega, by omega⟩ dL_law_233 (fun q16 => ?_)
  obtain ⟨x14, s15⟩ := q16
  refine v_icmp_eq (tgt := 1697) C dL_law_236 rfl ?_ v_none
  refine v_wid (cells + 3) (slots + 18) (by omega) (by omega) ?_
  exact hk _ _ (Nat.le_refl _)
theorem vc_1 {X : Cxt} {w : Wd} {ret : Option FieldType} {P : Shp} {n cells slots b L : Nat} {xs : Nat → Int32} {s : St} {x m o i : Int} {kE : St → Option Unit} (hst : X.2.1.stackTraces = false) (C : Cok X w cL_law 9 RL ret) (S : LX X w b L xs) (hRm : X.2.2.2.1 = room_1) (hB : cells + 3 ≤ 601024 ∧ slots + 18 ≤ 7293034) (hk : ∀ (n' : Nat) (σ' : St), n ≤ n' → V X w 9 P n' (cells + 3) (slots + 18) () (kE σ') σ' 1697 [(0, A w (-101)), (1, A w x), (2, A w m), (3, A w o), (4, I i)] []) : V X w 9 P n cells slots () (fc_1 P L xs s x m o i kE) s 241 [(0, A w (-101)), (1, A w x), (2, A w m), (3, A w o), (4, I i)] [] := by
  have hC9 : X.2.2.2.1.cells = 601024 := by rw [hRm]; rfl
  have hS9 : X.2.2.2.1.slots = 7293034 := by rw [hRm]; rfl
  unfold fc_1
  refine v_aload_n C dL_law_241 rfl (j := 1) rfl ?_
  refine v_aload_n C dL_law_242 rfl (j := 0) rfl ?_
  refine v_iload C dL_law_243 (j := 4) rfl ?_
  refine v_iconst C dL_law_245 ?_
  refine v_iadd C dL_law_246 ?_
  refine v_sc C S dL_law_247 (fun x1 => ?_)
  refine v_aload_n C dL_law_248 rfl (j := 3) rfl ?_
  refine v_callW C [A w x, I x1, A w o] [] (fun x h => kL_parse X.2.1 hst w P _ h) tw_462 tw_0 h9L_parse rfl rfl hRm (Nat.le_of_ble_eq_true rfl) (Nat.le_of_ble_eq_true rfl) tw_460 tw_461 rfl rfl (Nat.le_of_ble_eq_true rfl) ⟨by omega, by omega⟩ dL_law_249 (fun q5 n4 hn4 => ?_)
  obtain ⟨x2, s3⟩ := q5
  refine v_istore C [(5, I x2), (0, A w (-101)), (1, A w x), (2, A w m), (3, A w o), (4, I i)] dL_law_252 (by decide) rfl ?_
  refine v_aload_n C dL_law_254 rfl (j := 3) rfl ?_
  refine v_aload_n C dL_law_255 rfl (j := 1) rfl ?_
  refine v_iload C dL_law_256 (j := 5) rfl ?_
  refine v_iconst C dL_law_258 ?_
  refine v_iadd C dL_law_259 ?_
  refine v_sc C S dL_law_260 (fun x6 => ?_)
  refine v_callV_wI C [I x6] [] (Cee.of (rm := rX8_parse) tw_1225 tw_9 h9bX8_parse rfl rfl hRm (Nat.le_of_ble_eq_true rfl) (Nat.le_of_ble_eq_true rfl)) (fun x h => kX8_parse X.2.1 w P _ h) tw_1222 tw_1223 tw_1224 rfl (ci := 8) rfl (by decide) rfl rfl (Nat.le_of_ble_eq_true rfl) ⟨by omega, by omega⟩ dL_law_261 (fun q9 => ?_)
  obtain ⟨x7, s8⟩ := q9
  refine v_istore C [(6, I x7), (5, I x2), (0, A w (-101)), (1, A w x), (2, A w m), (3, A w o), (4, I i)] dL_law_264 (by decide) rfl ?_
  refine v_aload_n C dL_law_266 rfl (j := 4) rfl ?_
  refine v_callV_rI C [] [] (Cee.of (rm := rX8_thrown) tw_1213 tw_9 h9bX8_thrown rfl rfl hRm (Nat.le_of_ble_eq_true rfl) (Nat.le_of_ble_eq_true rfl)) (fun x h => kX8_thrown X.2.1 w P _ h) tw_1210 tw_1211 tw_1212 rfl (ci := 8) rfl (by decide) rfl rfl (Nat.le_of_ble_eq_true rfl) ⟨by omega, by omega⟩ dL_law_267 (fun x10 => ?_)
  refine v_iload C dL_law_270 (j := 1) rfl ?_
  refine v_icmp_eq (tgt := 277) C dL_law_272 rfl ?_ v_none
  refine v_iload C dL_law_277 (j := 1) rfl ?_
  refine v_if_ne (tgt := 294) C dL_law_279 rfl ?_ ?_
  · refine v_goto (tgt := 1697) C dL_law_294 rfl ?_
    refine v_wid (cells + 3) (slots + 18) (by omega) (by omega) ?_
    refine v_sub [(0, A w (-101)), (1, A w x), (2, A w m), (3, A w o), (4, I i)] [2, 3, 4, 5, 6] rfl ?_
    exact hk _ _ hn4
  · refine v_aload_n C dL_law_282 rfl (j := 5) rfl ?_
    refine v_iconst C dL_law_283 ?_
    refine v_lald C dL_law_284 (fun x13 => ?_)
    refine v_iload C dL_law_285 (j := 0) rfl ?_
    refine v_i2l C dL_law_287 (fun x14 => ?_)
    refine v_lcmp C dL_law_288 (fun x15 => ?_)
    refine v_if_eq (tgt := 294) C dL_law_289 rfl ?_ v_none
    refine v_goto (tgt := 1697) C dL_law_294 rfl ?_
    refine v_wid (cells + 3) (slots + 18) (by omega) (by omega) ?_
    refine v_sub [(0, A w (-101)), (1, A w x), (2, A w m), (3, A w o), (4, I i)] [2, 3, 4, 5, 6] rfl ?_
    exact hk _ _ hn4
theorem vc_2 {X : Cxt} {w : Wd} {ret : Option FieldType} {P : Shp} {n cells slots b L : Nat} {xs : Nat → Int32} {s : St} {x m o i : Int} {kE : St → Option Unit} (hst : X.2.1.stackTraces = false) (C : Cok X w cL_law 9 RL ret) (S : LX X w b L xs) (hRm : X.2.2.2.1 = room_1) (hB : cells + 3 ≤ 601024 ∧ slots + 18 ≤ 7293034) (hk : ∀ (n' : Nat) (σ' : St), n ≤ n' → V X w 9 P n' (cells + 3) (slots + 18) () (kE σ') σ' 1697 [(0, A w (-101)), (1, A w x), (2, A w m), (3, A w o), (4, I i)] []) : V X w 9 P n cells slots () (fc_2 P L xs s x m o i kE) s 297 [(0, A w (-101)), (1, A w x), (2, A w m), (3, A w o), (4, I i)] [] := by
  have hC9 : X.2.2.2.1.cells = 601024 := by rw [hRm]; rfl
  have hS9 : X.2.2.2.1.slots = 7293034 := by rw [hRm]; rfl
  unfold fc_2
  refine v_aload_n C dL_law_297 rfl (j := 1) rfl ?_
  refine v_aload_n C dL_law_298 rfl (j := 0) rfl ?_
  refine v_iload C dL_law_299 (j := 4) rfl ?_
  refine v_iconst C dL_law_301 ?_
  refine v_iadd C dL_law_302 ?_
  refine v_sc C S dL_law_303 (fun x1 => ?_)
  refine v_aload_n C dL_law_304 rfl (j := 3) rfl ?_
  refine v_callW C [A w x, I x1, A w o] [] (fun x h => kL_size X.2.1 hst w P _ h) tw_728 tw_0 h9L_size rfl rfl hRm (Nat.le_of_ble_eq_true rfl) (Nat.le_of_ble_eq_true rfl) tw_726 tw_727 rfl rfl (Nat.le_of_ble_eq_true rfl) ⟨by omega, by omega⟩ dL_law_305 (fun q5 n4 hn4 => ?_)
  obtain ⟨x2, s3⟩ := q5
  refine v_istore C [(5, I x2), (0, A w (-101)), (1, A w x), (2, A w m), (3, A w o), (4, I i)] dL_law_308 (by decide) rfl ?_
  refine v_aload_n C dL_law_310 rfl (j := 3) rfl ?_
  refine v_aload_n C dL_law_311 rfl (j := 1) rfl ?_
  refine v_iload C dL_law_312 (j := 5) rfl ?_
  refine v_iconst C dL_law_314 ?_
  refine v_iadd C dL_law_315 ?_
  refine v_sc C S dL_law_316 (fun x6 => ?_)
  refine v_callV_wI C [I x6] [] (Cee.of (rm := rX8_size) tw_1315 tw_9 h9bX8_size rfl rfl hRm (Nat.le_of_ble_eq_true rfl) (Nat.le_of_ble_eq_true rfl)) (fun x h => kX8_size X.2.1 w P _ h) tw_1312 tw_1313 tw_1314 rfl (ci := 8) rfl (by decide) rfl rfl (Nat.le_of_ble_eq_true rfl) ⟨by omega, by omega⟩ dL_law_317 (fun q9 => ?_)
  obtain ⟨x7, s8⟩ := q9
  refine v_istore C [(6, I x7), (5, I x2), (0, A w (-101)), (1, A w x), (2, A w m), (3, A w o), (4, I i)] dL_law_320 (by decide) rfl ?_
  refine v_aload_n C dL_law_322 rfl (j := 4) rfl ?_
  refine v_callV_rI C [] [] (Cee.of (rm := rX8_thrown) tw_1213 tw_9 h9bX8_thrown rfl rfl hRm (Nat.le_of_ble_eq_true rfl) (Nat.le_of_ble_eq_true rfl)) (fun x h => kX8_thrown X.2.1 w P _ h) tw_1210 tw_1211 tw_1212 rfl (ci := 8) rfl (by decide) rfl rfl (Nat.le_of_ble_eq_true rfl) ⟨by omega, by omega⟩ dL_law_323 (fun x10 => ?_)
  refine v_iload C dL_law_326 (j := 1) rfl ?_
  refine v_icmp_eq (tgt := 333) C dL_law_328 rfl ?_ v_none
  refine v_iload C dL_law_333 (j := 1) rfl ?_
  refine v_if_ne (tgt := 350) C dL_law_335 rfl ?_ ?_
  · refine v_goto (tgt := 1697) C dL_law_350 rfl ?_
    refine v_wid (cells + 3) (slots + 18) (by omega) (by omega) ?_
    refine v_sub [(0, A w (-101)), (1, A w x), (2, A w m), (3, A w o), (4, I i)] [2, 3, 4, 5, 6] rfl ?_
    exact hk _ _ hn4
  · refine v_aload_n C dL_law_338 rfl (j := 5) rfl ?_
    refine v_iconst C dL_law_339 ?_
    refine v_lald C dL_law_340 (fun x13 => ?_)
    refine v_iload C dL_law_341 (j := 0) rfl ?_
    refine v_i2l C dL_law_343 (fun x14 => ?_)
    refine v_lcmp C dL_law_344 (fun x15 => ?_)
    refine v_if_eq (tgt := 350) C dL_law_345 rfl ?_ v_none
    refine v_goto (tgt := 1697) C dL_law_350 rfl ?_
    refine v_wid (cells + 3) (slots + 18) (by omega) (by omega) ?_
    refine v_sub [(0, A w (-101)), (1, A w x), (2, A w m), (3, A w o), (4, I i)] [2, 3, 4, 5, 6] rfl ?_
    exact hk _ _ hn4
theorem vc_3 {X : Cxt} {w : Wd} {ret : Option FieldType} {P : Shp} {n cells slots b L : Nat} {xs : Nat → Int32} {s : St} {x m o i : Int} {kE : St → Option Unit} (hst : X.2.1.stackTraces = false) (C : Cok X w cL_law 9 RL ret) (S : LX X w b L xs) (hRm : X.2.2.2.1 = room_1) (hB : cells + 3 ≤ 601024 ∧ slots + 18 ≤ 7293034) (hk : ∀ (n' : Nat) (σ' : St), n ≤ n' → V X w 9 P n' (cells + 3) (slots + 18) () (kE σ') σ' 1697 [(0, A w (-101)), (1, A w x), (2, A w m), (3, A w o), (4, I i)] []) : V X w 9 P n cells slots () (fc_3 P L xs s x m o i kE) s 353 [(0, A w (-101)), (1, A w x), (2, A w m), (3, A w o), (4, I i)] [] := by
  have hC9 : X.2.2.2.1.cells = 601024 := by rw [hRm]; rfl
  have hS9 : X.2.2.2.1.slots = 7293034 := by rw [hRm]; rfl
  unfold fc_3
  refine v_aload_n C dL_law_353 rfl (j := 1) rfl ?_
  refine v_aload_n C dL_law_354 rfl (j := 0) rfl ?_
  refine v_iload C dL_law_355 (j := 4) rfl ?_
  refine v_iconst C dL_law_357 ?_
  refine v_iadd C dL_law_358 ?_
  refine v_sc C S dL_law_359 (fun x1 => ?_)
  refine v_aload_n C dL_law_360 rfl (j := 3) rfl ?_
  refine v_callW C [A w x, I x1, A w o] [] (fun x h => kL_deviceAt X.2.1 hst w P _ h) tw_737 tw_0 h9L_deviceAt rfl rfl hRm (Nat.le_of_ble_eq_true rfl) (Nat.le_of_ble_eq_true rfl) tw_735 tw_736 rfl rfl (Nat.le_of_ble_eq_true rfl) ⟨by omega, by omega⟩ dL_law_361 (fun q5 n4 hn4 => ?_)
  obtain ⟨x2, s3⟩ := q5
  refine v_istore C [(5, I x2), (0, A w (-101)), (1, A w x), (2, A w m), (3, A w o), (4, I i)] dL_law_364 (by decide) rfl ?_
  refine v_aload_n C dL_law_366 rfl (j := 3) rfl ?_
  refine v_aload_n C dL_law_367 rfl (j := 1) rfl ?_
  refine v_iload C dL_law_368 (j := 5) rfl ?_
  refine v_iconst C dL_law_370 ?_
  refine v_iadd C dL_law_371 ?_
  refine v_sc C S dL_law_372 (fun x6 => ?_)
  refine v_callV_wI C [I x6] [] (Cee.of (rm := rX8_deviceAt) tw_1319 tw_9 h9bX8_deviceAt rfl rfl hRm (Nat.le_of_ble_eq_true rfl) (Nat.le_of_ble_eq_true rfl)) (fun x h => kX8_deviceAt X.2.1 w P _ h) tw_1316 tw_1317 tw_1318 rfl (ci := 8) rfl (by decide) rfl rfl (Nat.le_of_ble_eq_true rfl) ⟨by omega, by omega⟩ dL_law_373 (fun q9 => ?_)
  obtain ⟨x7, s8⟩ := q9
  refine v_istore C [(6, I x7), (5, I x2), (0, A w (-101)), (1, A w x), (2, A w m), (3, A w o), (4, I i)] dL_law_376 (by decide) rfl ?_
  refine v_aload_n C dL_law_378 rfl (j := 4) rfl ?_
  refine v_callV_rI C [] [] (Cee.of (rm := rX8_thrown) tw_1213 tw_9 h9bX8_thrown rfl rfl hRm (Nat.le_of_ble_eq_true rfl) (Nat.le_of_ble_eq_true rfl)) (fun x h => kX8_thrown X.2.1 w P _ h) tw_1210 tw_1211 tw_1212 rfl (ci := 8) rfl (by decide) rfl rfl (Nat.le_of_ble_eq_true rfl) ⟨by omega, by omega⟩ dL_law_379 (fun x10 => ?_)
  refine v_iload C dL_law_382 (j := 1) rfl ?_
  refine v_icmp_eq (tgt := 389) C dL_law_384 rfl ?_ v_none
  refine v_iload C dL_law_389 (j := 1) rfl ?_
  refine v_if_ne (tgt := 406) C dL_law_391 rfl ?_ ?_
  · refine v_goto (tgt := 1697) C dL_law_406 rfl ?_
    refine v_wid (cells + 3) (slots + 18) (by omega) (by omega) ?_
    refine v_sub [(0, A w (-101)), (1, A w x), (2, A w m), (3, A w o), (4, I i)] [2, 3, 4, 5, 6] rfl ?_
    exact hk _ _ hn4
  · refine v_aload_n C dL_law_394 rfl (j := 5) rfl ?_
    refine v_iconst C dL_law_395 ?_
    refine v_lald C dL_law_396 (fun x13 => ?_)
    refine v_iload C dL_law_397 (j := 0) rfl ?_
    refine v_i2l C dL_law_399 (fun x14 => ?_)
    refine v_lcmp C dL_law_400 (fun x15 => ?_)
    refine v_if_eq (tgt := 406) C dL_law_401 rfl ?_ v_none
    refine v_goto (tgt := 1697) C dL_law_406 rfl ?_
    refine v_wid (cells + 3) (slots + 18) (by omega) (by omega) ?_
    refine v_sub [(0, A w (-101)), (1, A w x), (2, A w m), (3, A w o), (4, I i)] [2, 3, 4, 5, 6] rfl ?_
    exact hk _ _ hn4
theorem vc_4 {X : Cxt} {w : Wd} {ret : Option FieldType} {P : Shp} {n cells slots b L : Nat} {xs : Nat → Int32} {s : St} {x m o i : Int} {kE : St → Option Unit} (hst : X.2.1.stackTraces = false) (C : Cok X w cL_law 9 RL ret) (S : LX X w b L xs) (hRm : X.2.2.2.1 = room_1) (hB : cells + 3 ≤ 601024 ∧ slots + 18 ≤ 7293034) (hk : ∀ (n' : Nat) (σ' : St), n ≤ n' → V X w 9 P n' (cells + 3) (slots + 18) () (kE σ') σ' 1697 [(0, A w (-101)), (1, A w x), (2, A w m), (3, A w o), (4, I i)] []) : V X w 9 P n cells slots () (fc_4 P L xs s x m o i kE) s 409 [(0, A w (-101)), (1, A w x), (2, A w m), (3, A w o), (4, I i)] [] := by
  have hC9 : X.2.2.2.1.cells = 601024 := by rw [hRm]; rfl
  have hS9 : X.2.2.2.1.slots = 7293034 := by rw [hRm]; rfl
  unfold fc_4
  refine v_aload_n C dL_law_409 rfl (j := 1) rfl ?_
  refine v_aload_n C dL_law_410 rfl (j := 0) rfl ?_
  refine v_iload C dL_law_411 (j := 4) rfl ?_
  refine v_iconst C dL_law_413 ?_
  refine v_iadd C dL_law_414 ?_
  refine v_sc C S dL_law_415 (fun x1 => ?_)
  refine v_aload_n C dL_law_416 rfl (j := 0) rfl ?_
  refine v_iload C dL_law_417 (j := 4) rfl ?_
  refine v_iconst C dL_law_419 ?_
  refine v_iadd C dL_law_420 ?_
  refine v_sc C S dL_law_421 (fun x2 => ?_)
  refine v_aload_n C dL_law_422 rfl (j := 3) rfl ?_
  refine v_callW C [A w x, I x1, I x2, A w o] [] (fun x h => kL_device X.2.1 hst w P _ h) tw_769 tw_0 h9L_device rfl rfl hRm (Nat.le_of_ble_eq_true rfl) (Nat.le_of_ble_eq_true rfl) tw_767 tw_768 rfl rfl (Nat.le_of_ble_eq_true rfl) ⟨by omega, by omega⟩ dL_law_423 (fun q6 n5 hn5 => ?_)
  obtain ⟨x3, s4⟩ := q6
  refine v_istore C [(5, I x3), (0, A w (-101)), (1, A w x), (2, A w m), (3, A w o), (4, I i)] dL_law_426 (by decide) rfl ?_
  refine v_aload_n C dL_law_428 rfl (j := 3) rfl ?_
  refine v_aload_n C dL_law_429 rfl (j := 1) rfl ?_
  refine v_iload C dL_law_430 (j := 5) rfl ?_
  refine v_iconst C dL_law_432 ?_
  refine v_iadd C dL_law_433 ?_
  refine v_sc C S dL_law_434 (fun x7 => ?_)
  refine v_aload_n C dL_law_435 rfl (j := 1) rfl ?_
  refine v_iload C dL_law_436 (j := 5) rfl ?_
  refine v_iconst C dL_law_438 ?_
  refine v_iadd C dL_law_439 ?_
  refine v_sc C S dL_law_440 (fun x8 => ?_)
  refine v_callV_wI C [I x7, I x8] [] (Cee.of (rm := rX8_device) tw_1327 tw_9 h9bX8_device rfl rfl hRm (Nat.le_of_ble_eq_true rfl) (Nat.le_of_ble_eq_true rfl)) (fun x h => kX8_device X.2.1 w P _ h) tw_1324 tw_1325 tw_1326 rfl (ci := 8) rfl (by decide) rfl rfl (Nat.le_of_ble_eq_true rfl) ⟨by omega, by omega⟩ dL_law_441 (fun q11 => ?_)
  obtain ⟨x9, s10⟩ := q11
  refine v_istore C [(6, I x9), (5, I x3), (0, A w (-101)), (1, A w x), (2, A w m), (3, A w o), (4, I i)] dL_law_444 (by decide) rfl ?_
  refine v_aload_n C dL_law_446 rfl (j := 4) rfl ?_
  refine v_callV_rI C [] [] (Cee.of (rm := rX8_thrown) tw_1213 tw_9 h9bX8_thrown rfl rfl hRm (Nat.le_of_ble_eq_true rfl) (Nat.le_of_ble_eq_true rfl)) (fun x h => kX8_thrown X.2.1 w P _ h) tw_1210 tw_1211 tw_1212 rfl (ci := 8) rfl (by decide) rfl rfl (Nat.le_of_ble_eq_true rfl) ⟨by omega, by omega⟩ dL_law_447 (fun x12 => ?_)
  refine v_iload C dL_law_450 (j := 1) rfl ?_
  refine v_icmp_eq (tgt := 457) C dL_law_452 rfl ?_ v_none
  refine v_iload C dL_law_457 (j := 1) rfl ?_
  refine v_if_ne (tgt := 474) C dL_law_459 rfl ?_ ?_
  · refine v_goto (tgt := 1697) C dL_law_474 rfl ?_
    refine v_wid (cells + 3) (slots + 18) (by omega) (by omega) ?_
    refine v_sub [(0, A w (-101)), (1, A w x), (2, A w m), (3, A w o), (4, I i)] [2, 3, 4, 5, 6] rfl ?_
    exact hk _ _ hn5
  · refine v_aload_n C dL_law_462 rfl (j := 5) rfl ?_
    refine v_iconst C dL_law_463 ?_
    refine v_lald C dL_law_464 (fun x15 => ?_)
    refine v_iload C dL_law_465 (j := 0) rfl ?_
    refine v_i2l C dL_law_467 (fun x16 => ?_)
    refine v_lcmp C dL_law_468 (fun x17 => ?_)
    refine v_if_eq (tgt := 474) C dL_law_469 rfl ?_ v_none
    refine v_goto (tgt := 1697) C dL_law_474 rfl ?_
    refine v_wid (cells + 3) (slots + 18) (by omega) (by omega) ?_
    refine v_sub [(0, A w (-101)), (1, A w x), (2, A w m), (3, A w o), (4, I i)] [2, 3, 4, 5, 6] rfl ?_
    exact hk _ _ hn5
theorem vc_5 {X : Cxt} {w : Wd} {ret : Option FieldType} {P : Shp} {n cells slots b L : Nat} {xs : Nat → Int32} {s : St} {x m o i : Int} {kE : St → Option Unit} (hst : X.2.1.stackTraces = false) (C : Cok X w cL_law 9 RL ret) (S : LX X w b L xs) (hRm : X.2.2.2.1 = room_1) (hB : cells + 3 ≤ 601024 ∧ slots + 18 ≤ 7293034) (hk : ∀ (n' : Nat) (σ' : St), n ≤ n' → V X w 9 P n' (cells + 3) (slots + 18) () (kE σ') σ' 1697 [(0, A w (-101)), (1, A w x), (2, A w m), (3, A w o), (4, I i)] []) : V X w 9 P n cells slots () (fc_5 P L xs s x m o i kE) s 477 [(0, A w (-101)), (1, A w x), (2, A w m), (3, A w o), (4, I i)] [] := by
  have hC9 : X.2.2.2.1.cells = 601024 := by rw [hRm]; rfl
  have hS9 : X.2.2.2.1.slots = 7293034 := by rw [hRm]; rfl
  unfold fc_5
  refine v_aload_n C dL_law_477 rfl (j := 1) rfl ?_
  refine v_aload_n C dL_law_478 rfl (j := 0) rfl ?_
  refine v_iload C dL_law_479 (j := 4) rfl ?_
  refine v_iconst C dL_law_481 ?_
  refine v_iadd C dL_law_482 ?_
  refine v_sc C S dL_law_483 (fun x1 => ?_)
  refine v_aload_n C dL_law_484 rfl (j := 0) rfl ?_
  refine v_iload C dL_law_485 (j := 4) rfl ?_
  refine v_iconst C dL_law_487 ?_
  refine v_iadd C dL_law_488 ?_
  refine v_sc C S dL_law_489 (fun x2 => ?_)
  refine v_aload_n C dL_law_490 rfl (j := 3) rfl ?_
  refine v_callW C [A w x, I x1, I x2, A w o] [] (fun x h => kL_stream X.2.1 hst w P _ h) tw_797 tw_0 h9L_stream rfl rfl hRm (Nat.le_of_ble_eq_true rfl) (Nat.le_of_ble_eq_true rfl) tw_795 tw_796 rfl rfl (Nat.le_of_ble_eq_true rfl) ⟨by omega, by omega⟩ dL_law_491 (fun q6 n5 hn5 => ?_)
  obtain ⟨x3, s4⟩ := q6
  refine v_istore C [(5, I x3), (0, A w (-101)), (1, A w x), (2, A w m), (3, A w o), (4, I i)] dL_law_494 (by decide) rfl ?_
  refine v_aload_n C dL_law_496 rfl (j := 3) rfl ?_
  refine v_aload_n C dL_law_497 rfl (j := 1) rfl ?_
  refine v_iload C dL_law_498 (j := 5) rfl ?_
  refine v_iconst C dL_law_500 ?_
  refine v_iadd C dL_law_501 ?_
  refine v_sc C S dL_law_502 (fun x7 => ?_)
  refine v_aload_n C dL_law_503 rfl (j := 1) rfl ?_
  refine v_iload C dL_law_504 (j := 5) rfl ?_
  refine v_iconst C dL_law_506 ?_
  refine v_iadd C dL_law_507 ?_
  refine v_sc C S dL_law_508 (fun x8 => ?_)
  refine v_callV_wI C [I x7, I x8] [] (Cee.of (rm := rX8_stream) tw_1359 tw_9 h9bX8_stream rfl rfl hRm (Nat.le_of_ble_eq_true rfl) (Nat.le_of_ble_eq_true rfl)) (fun x h => kX8_stream X.2.1 w P _ h) tw_1356 tw_1357 tw_1358 rfl (ci := 8) rfl (by decide) rfl rfl (Nat.le_of_ble_eq_true rfl) ⟨by omega, by omega⟩ dL_law_509 (fun q11 => ?_)
  obtain ⟨x9, s10⟩ := q11
  refine v_istore C [(6, I x9), (5, I x3), (0, A w (-101)), (1, A w x), (2, A w m), (3, A w o), (4, I i)] dL_law_512 (by decide) rfl ?_
  refine v_aload_n C dL_law_514 rfl (j := 4) rfl ?_
  refine v_callV_rI C [] [] (Cee.of (rm := rX8_thrown) tw_1213 tw_9 h9bX8_thrown rfl rfl hRm (Nat.le_of_ble_eq_true rfl) (Nat.le_of_ble_eq_true rfl)) (fun x h => kX8_thrown X.2.1 w P _ h) tw_1210 tw_1211 tw_1212 rfl (ci := 8) rfl (by decide) rfl rfl (Nat.le_of_ble_eq_true rfl) ⟨by omega, by omega⟩ dL_law_515 (fun x12 => ?_)
  refine v_iload C dL_law_518 (j := 1) rfl ?_
  refine v_icmp_eq (tgt := 525) C dL_law_520 rfl ?_ v_none
  refine v_iload C dL_law_525 (j := 1) rfl ?_
  refine v_if_ne (tgt := 542) C dL_law_527 rfl ?_ ?_
  · refine v_goto (tgt := 1697) C dL_law_542 rfl ?_
    refine v_wid (cells + 3) (slots + 18) (by omega) (by omega) ?_
    refine v_sub [(0, A w (-101)), (1, A w x), (2, A w m), (3, A w o), (4, I i)] [2, 3, 4, 5, 6] rfl ?_
    exact hk _ _ hn5
  · refine v_aload_n C dL_law_530 rfl (j := 5) rfl ?_
    refine v_iconst C dL_law_531 ?_
    refine v_lald C dL_law_532 (fun x15 => ?_)
    refine v_iload C dL_law_533 (j := 0) rfl ?_
    refine v_i2l C dL_law_535 (fun x16 => ?_)
    refine v_lcmp C dL_law_536 (fun x17 => ?_)
    refine v_if_eq (tgt := 542) C dL_law_537 rfl ?_ v_none
    refine v_goto (tgt := 1697) C dL_law_542 rfl ?_
    refine v_wid (cells + 3) (slots + 18) (by omega) (by omega) ?_
    refine v_sub [(0, A w (-101)), (1, A w x), (2, A w m), (3, A w o), (4, I i)] [2, 3, 4, 5, 6] rfl ?_
    exact hk _ _ hn5
theorem vc_6 {X : Cxt} {w : Wd} {ret : Option FieldType} {P : Shp} {n cells slots b L : Nat} {xs : Nat → Int32} {s : St} {x m o i : Int} {kE : St → Option Unit} (hst : X.2.1.stackTraces = false) (C : Cok X w cL_law 9 RL ret) (S : LX X w b L xs) (hRm : X.2.2.2.1 = room_1) (hB : cells + 3 ≤ 601024 ∧ slots + 18 ≤ 7293034) (hk : ∀ (n' : Nat) (σ' : St), n ≤ n' → V X w 9 P n' (cells + 3) (slots + 18) () (kE σ') σ' 1697 [(0, A w (-101)), (1, A w x), (2, A w m), (3, A w o), (4, I i)] []) : V X w 9 P n cells slots () (fc_6 P L xs s x m o i kE) s 545 [(0, A w (-101)), (1, A w x), (2, A w m), (3, A w o), (4, I i)] [] := by
  have hC9 : X.2.2.2.1.cells = 601024 := by rw [hRm]; rfl
  have hS9 : X.2.2.2.1.slots = 7293034 := by rw [hRm]; rfl
  unfold fc_6
  refine v_aload_n C dL_law_545 rfl (j := 1) rfl ?_
  refine v_aload_n C dL_law_546 rfl (j := 0) rfl ?_
  refine v_iload C dL_law_547 (j := 4) rfl ?_
  refine v_iconst C dL_law_549 ?_
  refine v_iadd C dL_law_550 ?_
  refine v_sc C S dL_law_551 (fun x1 => ?_)
  refine v_aload_n C dL_law_552 rfl (j := 3) rfl ?_
  refine v_callW C [A w x, I x1, A w o] [] (fun x h => kL_packets X.2.1 hst w P _ h) tw_811 tw_0 h9L_packets rfl rfl hRm (Nat.le_of_ble_eq_true rfl) (Nat.le_of_ble_eq_true rfl) tw_809 tw_810 rfl rfl (Nat.le_of_ble_eq_true rfl) ⟨by omega, by omega⟩ dL_law_553 (fun q5 n4 hn4 => ?_)
  obtain ⟨x2, s3⟩ := q5
  refine v_istore C [(5, I x2), (0, A w (-101)), (1, A w x), (2, A w m), (3, A w o), (4, I i)] dL_law_556 (by decide) rfl ?_
  refine v_aload_n C dL_law_558 rfl (j := 3) rfl ?_
  refine v_aload_n C dL_law_559 rfl (j := 1) rfl ?_
  refine v_iload C dL_law_560 (j := 5) rfl ?_
  refine v_iconst C dL_law_562 ?_
  refine v_iadd C dL_law_563 ?_
  refine v_sc C S dL_law_564 (fun x6 => ?_)
  refine v_callV_wL C [I x6] [] (Cee.of (rm := rX8_packets) tw_1371 tw_9 h9bX8_packets rfl rfl hRm (Nat.le_of_ble_eq_true rfl) (Nat.le_of_ble_eq_true rfl)) (fun x h => kX8_packets X.2.1 w P _ h) tw_1368 tw_1369 tw_1370 rfl (ci := 8) rfl (by decide) rfl rfl (Nat.le_of_ble_eq_true rfl) ⟨by omega, by omega⟩ dL_law_565 (fun q9 => ?_)
  obtain ⟨x7, s8⟩ := q9
  refine v_lstore C [(6, J x7), (5, I x2), (0, A w (-101)), (1, A w x), (2, A w m), (3, A w o), (4, I i)] dL_law_568 (by decide) rfl ?_
  refine v_aload_n C dL_law_570 rfl (j := 4) rfl ?_
  refine v_callV_rI C [] [] (Cee.of (rm := rX8_thrown) tw_1213 tw_9 h9bX8_thrown rfl rfl hRm (Nat.le_of_ble_eq_true rfl) (Nat.le_of_ble_eq_true rfl)) (fun x h => kX8_thrown X.2.1 w P _ h) tw_1210 tw_1211 tw_1212 rfl (ci := 8) rfl (by decide) rfl rfl (Nat.le_of_ble_eq_true rfl) ⟨by omega, by omega⟩ dL_law_571 (fun x10 => ?_)
  refine v_iload C dL_law_574 (j := 1) rfl ?_
  refine v_icmp_eq (tgt := 581) C dL_law_576 rfl ?_ v_none
  refine v_iload C dL_law_581 (j := 1) rfl ?_
  refine v_if_ne (tgt := 597) C dL_law_583 rfl ?_ ?_
  · refine v_goto (tgt := 1697) C dL_law_597 rfl ?_
    refine v_wid (cells + 3) (slots + 18) (by omega) (by omega) ?_
    refine v_sub [(0, A w (-101)), (1, A w x), (2, A w m), (3, A w o), (4, I i)] [2, 3, 4, 5, 6] rfl ?_
    exact hk _ _ hn4
  · refine v_aload_n C dL_law_586 rfl (j := 5) rfl ?_
    refine v_iconst C dL_law_587 ?_
    refine v_lald C dL_law_588 (fun x13 => ?_)
    refine v_lload C dL_law_589 (j := 0) rfl ?_
    refine v_lcmp C dL_law_591 (fun x14 => ?_)
    refine v_if_eq (tgt := 597) C dL_law_592 rfl ?_ v_none
    refine v_goto (tgt := 1697) C dL_law_597 rfl ?_
    refine v_wid (cells + 3) (slots + 18) (by omega) (by omega) ?_
    refine v_sub [(0, A w (-101)), (1, A w x), (2, A w m), (3, A w o), (4, I i)] [2, 3, 4, 5, 6] rfl ?_
    exact hk _ _ hn4
theorem vc_7 {X : Cxt} {w : Wd} {ret : Option FieldType} {P : Shp} {n cells slots b L : Nat} {xs : Nat → Int32} {s : St} {x m o i : Int} {kE : St → Option Unit} (hst : X.2.1.stackTraces = false) (C : Cok X w cL_law 9 RL ret) (S : LX X w b L xs) (hRm : X.2.2.2.1 = room_1) (hB : cells + 3 ≤ 601024 ∧ slots + 18 ≤ 7293034) (hk : ∀ (n' : Nat) (σ' : St), n ≤ n' → V X w 9 P n' (cells + 3) (slots + 18) () (kE σ') σ' 1697 [(0, A w (-101)), (1, A w x), (2, A w m), (3, A w o), (4, I i)] []) : V X w 9 P n cells slots () (fc_7 P L xs s x m o i kE) s 600 [(0, A w (-101)), (1, A w x), (2, A w m), (3, A w o), (4, I i)] [] := by
  have hC9 : X.2.2.2.1.cells = 601024 := by rw [hRm]; rfl
  have hS9 : X.2.2.2.1.slots = 7293034 := by rw [hRm]; rfl
  unfold fc_7
  refine v_aload_n C dL_law_600 rfl (j := 1) rfl ?_
  refine v_aload_n C dL_law_601 rfl (j := 0) rfl ?_
  refine v_iload C dL_law_602 (j := 4) rfl ?_
  refine v_iconst C dL_law_604 ?_
  refine v_iadd C dL_law_605 ?_
  refine v_sc C S dL_law_606 (fun x1 => ?_)
  refine v_aload_n C dL_law_607 rfl (j := 0) rfl ?_
  refine v_iload C dL_law_608 (j := 4) rfl ?_
  refine v_iconst C dL_law_610 ?_
  refine v_iadd C dL_law_611 ?_
  refine v_sc C S dL_law_612 (fun x2 => ?_)
  refine v_aload_n C dL_law_613 rfl (j := 0) rfl ?_
  refine v_iload C dL_law_614 (j := 4) rfl ?_
  refine v_iconst C dL_law_616 ?_
  refine v_iadd C dL_law_617 ?_
  refine v_sc C S dL_law_618 (fun x3 => ?_)
  refine v_aload_n C dL_law_619 rfl (j := 3) rfl ?_
  refine v_callW C [A w x, I x1, I x2, I x3, A w o] [] (fun x h => kL_error X.2.1 hst w P _ h) tw_818 tw_0 h9L_error rfl rfl hRm (Nat.le_of_ble_eq_true rfl) (Nat.le_of_ble_eq_true rfl) tw_816 tw_817 rfl rfl (Nat.le_of_ble_eq_true rfl) ⟨by omega, by omega⟩ dL_law_620 (fun q7 n6 hn6 => ?_)
  obtain ⟨x4, s5⟩ := q7
  refine v_istore C [(5, I x4), (0, A w (-101)), (1, A w x), (2, A w m), (3, A w o), (4, I i)] dL_law_623 (by decide) rfl ?_
  refine v_aload_n C dL_law_625 rfl (j := 3) rfl ?_
  refine v_aload_n C dL_law_626 rfl (j := 1) rfl ?_
  refine v_iload C dL_law_627 (j := 5) rfl ?_
  refine v_iconst C dL_law_629 ?_
  refine v_iadd C dL_law_630 ?_
  refine v_sc C S dL_law_631 (fun x8 => ?_)
  refine v_aload_n C dL_law_632 rfl (j := 1) rfl ?_
  refine v_iload C dL_law_633 (j := 5) rfl ?_
  refine v_iconst C dL_law_635 ?_
  refine v_iadd C dL_law_636 ?_
  refine v_sc C S dL_law_637 (fun x9 => ?_)
  refine v_aload_n C dL_law_638 rfl (j := 1) rfl ?_
  refine v_iload C dL_law_639 (j := 5) rfl ?_
  refine v_iconst C dL_law_641 ?_
  refine v_iadd C dL_law_642 ?_
  refine v_sc C S dL_law_643 (fun x10 => ?_)
  refine v_callV_wI C [I x8, I x9, I x10] [] (Cee.of (rm := rX8_error) tw_1375 tw_9 h9bX8_error rfl rfl hRm (Nat.le_of_ble_eq_true rfl) (Nat.le_of_ble_eq_true rfl)) (fun x h => kX8_error X.2.1 w P _ h) tw_1372 tw_1373 tw_1374 rfl (ci := 8) rfl (by decide) rfl rfl (Nat.le_of_ble_eq_true rfl) ⟨by omega, by omega⟩ dL_law_644 (fun q13 => ?_)
  obtain ⟨x11, s12⟩ := q13
  refine v_istore C [(6, I x11), (5, I x4), (0, A w (-101)), (1, A w x), (2, A w m), (3, A w o), (4, I i)] dL_law_647 (by decide) rfl ?_
  refine v_aload_n C dL_law_649 rfl (j := 4) rfl ?_
  refine v_callV_rI C [] [] (Cee.of (rm := rX8_thrown) tw_1213 tw_9 h9bX8_thrown rfl rfl hRm (Nat.le_of_ble_eq_true rfl) (Nat.le_of_ble_eq_true rfl)) (fun x h => kX8_thrown X.2.1 w P _ h) tw_1210 tw_1211 tw_1212 rfl (ci := 8) rfl (by decide) rfl rfl (Nat.le_of_ble_eq_true rfl) ⟨by omega, by omega⟩ dL_law_650 (fun x14 => ?_)
  refine v_iload C dL_law_653 (j := 1) rfl ?_
  refine v_icmp_eq (tgt := 660) C dL_law_655 rfl ?_ v_none
  refine v_iload C dL_law_660 (j := 1) rfl ?_
  refine v_if_ne (tgt := 677) C dL_law_662 rfl ?_ ?_
  · refine v_goto (tgt := 1697) C dL_law_677 rfl ?_
    refine v_wid (cells + 3) (slots + 18) (by omega) (by omega) ?_
    refine v_sub [(0, A w (-101)), (1, A w x), (2, A w m), (3, A w o), (4, I i)] [2, 3, 4, 5, 6] rfl ?_
    exact hk _ _ hn6
  · refine v_aload_n C dL_law_665 rfl (j := 5) rfl ?_
    refine v_iconst C dL_law_666 ?_
    refine v_lald C dL_law_667 (fun x17 => ?_)
    refine v_iload C dL_law_668 (j := 0) rfl ?_
    refine v_i2l C dL_law_670 (fun x18 => ?_)
    refine v_lcmp C dL_law_671 (fun x19 => ?_)
    refine v_if_eq (tgt := 677) C dL_law_672 rfl ?_ v_none
    refine v_goto (tgt := 1697) C dL_law_677 rfl ?_
    refine v_wid (cells + 3) (slots + 18) (by omega) (by omega) ?_
    refine v_sub [(0, A w (-101)), (1, A w x), (2, A w m), (3, A w o), (4, I i)] [2, 3, 4, 5, 6] rfl ?_
    exact hk _ _ hn6
theorem vc_8 {X : Cxt} {w : Wd} {ret : Option FieldType} {P : Shp} {n cells slots b L : Nat} {xs : Nat → Int32} {s : St} {x m o i : Int} {kE : St → Option Unit} (hst : X.2.1.stackTraces = false) (C : Cok X w cL_law 9 RL ret) (S : LX X w b L xs) (hRm : X.2.2.2.1 = room_1) (hB : cells + 3 ≤ 601024 ∧ slots + 18 ≤ 7293034) (hk : ∀ (n' : Nat) (σ' : St), n ≤ n' → V X w 9 P n' (cells + 3) (slots + 18) () (kE σ') σ' 1697 [(0, A w (-101)), (1, A w x), (2, A w m), (3, A w o), (4, I i)] []) : V X w 9 P n cells slots () (fc_8 P L xs s x m o i kE) s 680 [(0, A w (-101)), (1, A w x), (2, A w m), (3, A w o), (4, I i)] [] := by
  have hC9 : X.2.2.2.1.cells = 601024 := by rw [hRm]; rfl
  have hS9 : X.2.2.2.1.slots = 7293034 := by rw [hRm]; rfl
  unfold fc_8
  refine v_aload_n C dL_law_680 rfl (j := 1) rfl ?_
  refine v_aload_n C dL_law_681 rfl (j := 0) rfl ?_
  refine v_iload C dL_law_682 (j := 4) rfl ?_
  refine v_iconst C dL_law_684 ?_
  refine v_iadd C dL_law_685 ?_
  refine v_sc C S dL_law_686 (fun x1 => ?_)
  refine v_aload_n C dL_law_687 rfl (j := 0) rfl ?_
  refine v_iload C dL_law_688 (j := 4) rfl ?_
  refine v_iconst C dL_law_690 ?_
  refine v_iadd C dL_law_691 ?_
  refine v_sc C S dL_law_692 (fun x2 => ?_)
  refine v_aload_n C dL_law_693 rfl (j := 3) rfl ?_
  refine v_callW C [A w x, I x1, I x2, A w o] [] (fun x h => kL_cause X.2.1 hst w P _ h) tw_828 tw_0 h9L_cause rfl rfl hRm (Nat.le_of_ble_eq_true rfl) (Nat.le_of_ble_eq_true rfl) tw_826 tw_827 rfl rfl (Nat.le_of_ble_eq_true rfl) ⟨by omega, by omega⟩ dL_law_694 (fun q6 n5 hn5 => ?_)
  obtain ⟨x3, s4⟩ := q6
  refine v_istore C [(5, I x3), (0, A w (-101)), (1, A w x), (2, A w m), (3, A w o), (4, I i)] dL_law_697 (by decide) rfl ?_
  refine v_aload_n C dL_law_699 rfl (j := 3) rfl ?_
  refine v_aload_n C dL_law_700 rfl (j := 1) rfl ?_
  refine v_iload C dL_law_701 (j := 5) rfl ?_
  refine v_iconst C dL_law_703 ?_
  refine v_iadd C dL_law_704 ?_
  refine v_sc C S dL_law_705 (fun x7 => ?_)
  refine v_aload_n C dL_law_706 rfl (j := 1) rfl ?_
  refine v_iload C dL_law_707 (j := 5) rfl ?_
  refine v_iconst C dL_law_709 ?_
  refine v_iadd C dL_law_710 ?_
  refine v_sc C S dL_law_711 (fun x8 => ?_)
  refine v_callV_wI C [I x7, I x8] [] (Cee.of (rm := rX8_cause) tw_1379 tw_9 h9bX8_cause rfl rfl hRm (Nat.le_of_ble_eq_true rfl) (Nat.le_of_ble_eq_true rfl)) (fun x h => kX8_cause X.2.1 w P _ h) tw_1376 tw_1377 tw_1378 rfl (ci := 8) rfl (by decide) rfl rfl (Nat.le_of_ble_eq_true rfl) ⟨by omega, by omega⟩ dL_law_712 (fun q11 => ?_)
  obtain ⟨x9, s10⟩ := q11
  refine v_istore C [(6, I x9), (5, I x3), (0, A w (-101)), (1, A w x), (2, A w m), (3, A w o), (4, I i)] dL_law_715 (by decide) rfl ?_
  refine v_aload_n C dL_law_717 rfl (j := 4) rfl ?_
  refine v_callV_rI C [] [] (Cee.of (rm := rX8_thrown) tw_1213 tw_9 h9bX8_thrown rfl rfl hRm (Nat.le_of_ble_eq_true rfl) (Nat.le_of_ble_eq_true rfl)) (fun x h => kX8_thrown X.2.1 w P _ h) tw_1210 tw_1211 tw_1212 rfl (ci := 8) rfl (by decide) rfl rfl (Nat.le_of_ble_eq_true rfl) ⟨by omega, by omega⟩ dL_law_718 (fun x12 => ?_)
  refine v_iload C dL_law_721 (j := 1) rfl ?_
  refine v_icmp_eq (tgt := 728) C dL_law_723 rfl ?_ v_none
  refine v_iload C dL_law_728 (j := 1) rfl ?_
  refine v_if_ne (tgt := 745) C dL_law_730 rfl ?_ ?_
  · refine v_goto (tgt := 1697) C dL_law_745 rfl ?_
    refine v_wid (cells + 3) (slots + 18) (by omega) (by omega) ?_
    refine v_sub [(0, A w (-101)), (1, A w x), (2, A w m), (3, A w o), (4, I i)] [2, 3, 4, 5, 6] rfl ?_
    exact hk _ _ hn5
  · refine v_aload_n C dL_law_733 rfl (j := 5) rfl ?_
    refine v_iconst C dL_law_734 ?_
    refine v_lald C dL_law_735 (fun x15 => ?_)
    refine v_iload C dL_law_736 (j := 0) rfl ?_
    refine v_i2l C dL_law_738 (fun x16 => ?_)
    refine v_lcmp C dL_law_739 (fun x17 => ?_)
    refine v_if_eq (tgt := 745) C dL_law_740 rfl ?_ v_none
    refine v_goto (tgt := 1697) C dL_law_745 rfl ?_
    refine v_wid (cells + 3) (slots + 18) (by omega) (by omega) ?_
    refine v_sub [(0, A w (-101)), (1, A w x), (2, A w m), (3, A w o), (4, I i)] [2, 3, 4, 5, 6] rfl ?_
    exact hk _ _ hn5
theorem vc_9 {X : Cxt} {w : Wd} {ret : Option FieldType} {P : Shp} {n cells slots b L : Nat} {xs : Nat → Int32} {s : St} {x m o i : Int} {kE : St → Option Unit} (hst : X.2.1.stackTraces = false) (C : Cok X w cL_law 9 RL ret) (S : LX X w b L xs) (hRm : X.2.2.2.1 = room_1) (hB : cells + 3 ≤ 601024 ∧ slots + 18 ≤ 7293034) (hk : ∀ (n' : Nat) (σ' : St), n ≤ n' → V X w 9 P n' (cells + 3) (slots + 18) () (kE σ') σ' 1697 [(0, A w (-101)), (1, A w x), (2, A w m), (3, A w o), (4, I i)] []) : V X w 9 P n cells slots () (fc_9 P L xs s x m o i kE) s 748 [(0, A w (-101)), (1, A w x), (2, A w m), (3, A w o), (4, I i)] [] := by
  have hC9 : X.2.2.2.1.cells = 601024 := by rw [hRm]; rfl
  have hS9 : X.2.2.2.1.slots = 7293034 := by rw [hRm]; rfl
  unfold fc_9
  refine v_aload_n C dL_law_748 rfl (j := 1) rfl ?_
  refine v_aload_n C dL_law_749 rfl (j := 0) rfl ?_
  refine v_iload C dL_law_750 (j := 4) rfl ?_
  refine v_iconst C dL_law_752 ?_
  refine v_iadd C dL_law_753 ?_
  refine v_sc C S dL_law_754 (fun x1 => ?_)
  refine v_aload_n C dL_law_755 rfl (j := 0) rfl ?_
  refine v_iload C dL_law_756 (j := 4) rfl ?_
  refine v_iconst C dL_law_758 ?_
  refine v_iadd C dL_law_759 ?_
  refine v_sc C S dL_law_760 (fun x2 => ?_)
  refine v_aload_n C dL_law_761 rfl (j := 3) rfl ?_
  refine v_callW C [A w x, I x1, I x2, A w o] [] (fun x h => kL_scoreWith X.2.1 hst w P _ h) tw_840 tw_0 h9L_scoreWith rfl rfl hRm (Nat.le_of_ble_eq_true rfl) (Nat.le_of_ble_eq_true rfl) tw_838 tw_839 rfl rfl (Nat.le_of_ble_eq_true rfl) ⟨by omega, by omega⟩ dL_law_762 (fun q6 n5 hn5 => ?_)
  obtain ⟨x3, s4⟩ := q6
  refine v_istore C [(5, I x3), (0, A w (-101)), (1, A w x), (2, A w m), (3, A w o), (4, I i)] dL_law_765 (by decide) rfl ?_
  refine v_aload_n C dL_law_767 rfl (j := 3) rfl ?_
  refine v_aload_n C dL_law_768 rfl (j := 1) rfl ?_
  refine v_iload C dL_law_769 (j := 5) rfl ?_
  refine v_iconst C dL_law_771 ?_
  refine v_iadd C dL_law_772 ?_
  refine v_sc C S dL_law_773 (fun x7 => ?_)
  refine v_aload_n C dL_law_774 rfl (j := 1) rfl ?_
  refine v_iload C dL_law_775 (j := 5) rfl ?_
  refine v_iconst C dL_law_777 ?_
  refine v_iadd C dL_law_778 ?_
  refine v_sc C S dL_law_779 (fun x8 => ?_)
  refine v_callV_wI C [I x7, I x8] [] (Cee.of (rm := rX8_scoreWith) tw_1383 tw_9 h9bX8_scoreWith rfl rfl hRm (Nat.le_of_ble_eq_true rfl) (Nat.le_of_ble_eq_true rfl)) (fun x h => kX8_scoreWith X.2.1 w P _ h) tw_1380 tw_1381 tw_1382 rfl (ci := 8) rfl (by decide) rfl rfl (Nat.le_of_ble_eq_true rfl) ⟨by omega, by omega⟩ dL_law_780 (fun q11 => ?_)
  obtain ⟨x9, s10⟩ := q11
  refine v_istore C [(6, I x9), (5, I x3), (0, A w (-101)), (1, A w x), (2, A w m), (3, A w o), (4, I i)] dL_law_783 (by decide) rfl ?_
  refine v_aload_n C dL_law_785 rfl (j := 4) rfl ?_
  refine v_callV_rI C [] [] (Cee.of (rm := rX8_thrown) tw_1213 tw_9 h9bX8_thrown rfl rfl hRm (Nat.le_of_ble_eq_true rfl) (Nat.le_of_ble_eq_true rfl)) (fun x h => kX8_thrown X.2.1 w P _ h) tw_1210 tw_1211 tw_1212 rfl (ci := 8) rfl (by decide) rfl rfl (Nat.le_of_ble_eq_true rfl) ⟨by omega, by omega⟩ dL_law_786 (fun x12 => ?_)
  refine v_iload C dL_law_789 (j := 1) rfl ?_
  refine v_icmp_eq (tgt := 796) C dL_law_791 rfl ?_ v_none
  refine v_iload C dL_law_796 (j := 1) rfl ?_
  refine v_if_ne (tgt := 813) C dL_law_798 rfl ?_ ?_
  · refine v_goto (tgt := 1697) C dL_law_813 rfl ?_
    refine v_wid (cells + 3) (slots + 18) (by omega) (by omega) ?_
    refine v_sub [(0, A w (-101)), (1, A w x), (2, A w m), (3, A w o), (4, I i)] [2, 3, 4, 5, 6] rfl ?_
    exact hk _ _ hn5
  · refine v_aload_n C dL_law_801 rfl (j := 5) rfl ?_
    refine v_iconst C dL_law_802 ?_
    refine v_lald C dL_law_803 (fun x15 => ?_)
    refine v_iload C dL_law_804 (j := 0) rfl ?_
    refine v_i2l C dL_law_806 (fun x16 => ?_)
    refine v_lcmp C dL_law_807 (fun x17 => ?_)
    refine v_if_eq (tgt := 813) C dL_law_808 rfl ?_ v_none
    refine v_goto (tgt := 1697) C dL_law_813 rfl ?_
    refine v_wid (cells + 3) (slots + 18) (by omega) (by omega) ?_
    refine v_sub [(0, A w (-101)), (1, A w x), (2, A w m), (3, A w o), (4, I i)] [2, 3, 4, 5, 6] rfl ?_
    exact hk _ _ hn5
theorem vc_10 {X : Cxt} {w : Wd} {ret : Option FieldType} {P : Shp} {n cells slots b L : Nat} {xs : Nat → Int32} {s : St} {x m o i : Int} {kE : St → Option Unit} (hst : X.2.1.stackTraces = false) (C : Cok X w cL_law 9 RL ret) (S : LX X w b L xs) (hRm : X.2.2.2.1 = room_1) (hB : cells + 3 ≤ 601024 ∧ slots + 18 ≤ 7293034) (hk : ∀ (n' : Nat) (σ' : St), n ≤ n' → V X w 9 P n' (cells + 3) (slots + 18) () (kE σ') σ' 1697 [(0, A w (-101)), (1, A w x), (2, A w m), (3, A w o), (4, I i)] []) : V X w 9 P n cells slots () (fc_10 P L xs s x m o i kE) s 816 [(0, A w (-101)), (1, A w x), (2, A w m), (3, A w o), (4, I i)] [] := by
  have hC9 : X.2.2.2.1.cells = 601024 := by rw [hRm]; rfl
  have hS9 : X.2.2.2.1.slots = 7293034 := by rw [hRm]; rfl
  unfold fc_10
  refine v_aload_n C dL_law_816 rfl (j := 1) rfl ?_
  refine v_aload_n C dL_law_817 rfl (j := 0) rfl ?_
  refine v_iload C dL_law_818 (j := 4) rfl ?_
  refine v_iconst C dL_law_820 ?_
  refine v_iadd C dL_law_821 ?_
  refine v_sc C S dL_law_822 (fun x1 => ?_)
  refine v_aload_n C dL_law_823 rfl (j := 3) rfl ?_
  refine v_callW C [A w x, I x1, A w o] [] (fun x h => kL_feared X.2.1 hst w P _ h) tw_853 tw_0 h9L_feared rfl rfl hRm (Nat.le_of_ble_eq_true rfl) (Nat.le_of_ble_eq_true rfl) tw_851 tw_852 rfl rfl (Nat.le_of_ble_eq_true rfl) ⟨by omega, by omega⟩ dL_law_824 (fun q5 n4 hn4 => ?_)
  obtain ⟨x2, s3⟩ := q5
  refine v_istore C [(5, I x2), (0, A w (-101)), (1, A w x), (2, A w m), (3, A w o), (4, I i)] dL_law_827 (by decide) rfl ?_
  refine v_aload_n C dL_law_829 rfl (j := 3) rfl ?_
  refine v_aload_n C dL_law_830 rfl (j := 1) rfl ?_
  refine v_iload C dL_law_831 (j := 5) rfl ?_
  refine v_iconst C dL_law_833 ?_
  refine v_iadd C dL_law_834 ?_
  refine v_sc C S dL_law_835 (fun x6 => ?_)
  refine v_callV_wI C [I x6] [] (Cee.of (rm := rX8_feared) tw_1395 tw_9 h9bX8_feared rfl rfl hRm (Nat.le_of_ble_eq_true rfl) (Nat.le_of_ble_eq_true rfl)) (fun x h => kX8_feared X.2.1 w P _ h) tw_1392 tw_1393 tw_1394 rfl (ci := 8) rfl (by decide) rfl rfl (Nat.le_of_ble_eq_true rfl) ⟨by omega, by omega⟩ dL_law_836 (fun q9 => ?_)
  obtain ⟨x7, s8⟩ := q9
  refine v_istore C [(6, I x7), (5, I x2), (0, A w (-101)), (1, A w x), (2, A w m), (3, A w o), (4, I i)] dL_law_839 (by decide) rfl ?_
  refine v_aload_n C dL_law_841 rfl (j := 4) rfl ?_
  refine v_callV_rI C [] [] (Cee.of (rm := rX8_thrown) tw_1213 tw_9 h9bX8_thrown rfl rfl hRm (Nat.le_of_ble_eq_true rfl) (Nat.le_of_ble_eq_true rfl)) (fun x h => kX8_thrown X.2.1 w P _ h) tw_1210 tw_1211 tw_1212 rfl (ci := 8) rfl (by decide) rfl rfl (Nat.le_of_ble_eq_true rfl) ⟨by omega, by omega⟩ dL_law_842 (fun x10 => ?_)
  refine v_iload C dL_law_845 (j := 1) rfl ?_
  refine v_icmp_eq (tgt := 852) C dL_law_847 rfl ?_ v_none
  refine v_iload C dL_law_852 (j := 1) rfl ?_
  refine v_if_ne (tgt := 869) C dL_law_854 rfl ?_ ?_
  · refine v_goto (tgt := 1697) C dL_law_869 rfl ?_
    refine v_wid (cells + 3) (slots + 18) (by omega) (by omega) ?_
    refine v_sub [(0, A w (-101)), (1, A w x), (2, A w m), (3, A w o), (4, I i)] [2, 3, 4, 5, 6] rfl ?_
    exact hk _ _ hn4
  · refine v_aload_n C dL_law_857 rfl (j := 5) rfl ?_
    refine v_iconst C dL_law_858 ?_
    refine v_lald C dL_law_859 (fun x13 => ?_)
    refine v_iload C dL_law_860 (j := 0) rfl ?_
    refine v_i2l C dL_law_862 (fun x14 => ?_)
    refine v_lcmp C dL_law_863 (fun x15 => ?_)
    refine v_if_eq (tgt := 869) C dL_law_864 rfl ?_ v_none
    refine v_goto (tgt := 1697) C dL_law_869 rfl ?_
    refine v_wid (cells + 3) (slots + 18) (by omega) (by omega) ?_
    refine v_sub [(0, A w (-101)), (1, A w x), (2, A w m), (3, A w o), (4, I i)] [2, 3, 4, 5, 6] rfl ?_
    exact hk _ _ hn4
theorem vc_11 {X : Cxt} {w : Wd} {ret : Option FieldType} {P : Shp} {n cells slots b L : Nat} {xs : Nat → Int32} {s : St} {x m o i : Int} {kE : St → Option Unit} (hst : X.2.1.stackTraces = false) (C : Cok X w cL_law 9 RL ret) (S : LX X w b L xs) (hRm : X.2.2.2.1 = room_1) (hB : cells + 3 ≤ 601024 ∧ slots + 18 ≤ 7293034) (hk : ∀ (n' : Nat) (σ' : St), n ≤ n' → V X w 9 P n' (cells + 3) (slots + 18) () (kE σ') σ' 1697 [(0, A w (-101)), (1, A w x), (2, A w m), (3, A w o), (4, I i)] []) : V X w 9 P n cells slots () (fc_11 P L xs s x m o i kE) s 872 [(0, A w (-101)), (1, A w x), (2, A w m), (3, A w o), (4, I i)] [] := by
  have hC9 : X.2.2.2.1.cells = 601024 := by rw [hRm]; rfl
  have hS9 : X.2.2.2.1.slots = 7293034 := by rw [hRm]; rfl
  unfold fc_11
  refine v_aload_n C dL_law_872 rfl (j := 1) rfl ?_
  refine v_aload_n C dL_law_873 rfl (j := 0) rfl ?_
  refine v_iload C dL_law_874 (j := 4) rfl ?_
  refine v_iconst C dL_law_876 ?_
  refine v_iadd C dL_law_877 ?_
  refine v_sc C S dL_law_878 (fun x1 => ?_)
  refine v_aload_n C dL_law_879 rfl (j := 3) rfl ?_
  refine v_callW C [A w x, I x1, A w o] [] (fun x h => kL_framesToClear X.2.1 hst w P _ h) tw_864 tw_0 h9L_framesToClear rfl rfl hRm (Nat.le_of_ble_eq_true rfl) (Nat.le_of_ble_eq_true rfl) tw_862 tw_863 rfl rfl (Nat.le_of_ble_eq_true rfl) ⟨by omega, by omega⟩ dL_law_880 (fun q5 n4 hn4 => ?_)
  obtain ⟨x2, s3⟩ := q5
  refine v_istore C [(5, I x2), (0, A w (-101)), (1, A w x), (2, A w m), (3, A w o), (4, I i)] dL_law_883 (by decide) rfl ?_
  refine v_aload_n C dL_law_885 rfl (j := 3) rfl ?_
  refine v_aload_n C dL_law_886 rfl (j := 1) rfl ?_
  refine v_iload C dL_law_887 (j := 5) rfl ?_
  refine v_iconst C dL_law_889 ?_
  refine v_iadd C dL_law_890 ?_
  refine v_sc C S dL_law_891 (fun x6 => ?_)
  refine v_callV_wI C [I x6] [] (Cee.of (rm := rX8_framesToClear) tw_1399 tw_9 h9bX8_framesToClear rfl rfl hRm (Nat.le_of_ble_eq_true rfl) (Nat.le_of_ble_eq_true rfl)) (fun x h => kX8_framesToClear X.2.1 w P _ h) tw_1396 tw_1397 tw_1398 rfl (ci := 8) rfl (by decide) rfl rfl (Nat.le_of_ble_eq_true rfl) ⟨by omega, by omega⟩ dL_law_892 (fun q9 => ?_)
  obtain ⟨x7, s8⟩ := q9
  refine v_istore C [(6, I x7), (5, I x2), (0, A w (-101)), (1, A w x), (2, A w m), (3, A w o), (4, I i)] dL_law_895 (by decide) rfl ?_
  refine v_aload_n C dL_law_897 rfl (j := 4) rfl ?_
  refine v_callV_rI C [] [] (Cee.of (rm := rX8_thrown) tw_1213 tw_9 h9bX8_thrown rfl rfl hRm (Nat.le_of_ble_eq_true rfl) (Nat.le_of_ble_eq_true rfl)) (fun x h => kX8_thrown X.2.1 w P _ h) tw_1210 tw_1211 tw_1212 rfl (ci := 8) rfl (by decide) rfl rfl (Nat.le_of_ble_eq_true rfl) ⟨by omega, by omega⟩ dL_law_898 (fun x10 => ?_)
  refine v_iload C dL_law_901 (j := 1) rfl ?_
  refine v_icmp_eq (tgt := 908) C dL_law_903 rfl ?_ v_none
  refine v_iload C dL_law_908 (j := 1) rfl ?_
  refine v_if_ne (tgt := 925) C dL_law_910 rfl ?_ ?_
  · refine v_goto (tgt := 1697) C dL_law_925 rfl ?_
    refine v_wid (cells + 3) (slots + 18) (by omega) (by omega) ?_
    refine v_sub [(0, A w (-101)), (1, A w x), (2, A w m), (3, A w o), (4, I i)] [2, 3, 4, 5, 6] rfl ?_
    exact hk _ _ hn4
  · refine v_aload_n C dL_law_913 rfl (j := 5) rfl ?_
    refine v_iconst C dL_law_914 ?_
    refine v_lald C dL_law_915 (fun x13 => ?_)
    refine v_iload C dL_law_916 (j := 0) rfl ?_
    refine v_i2l C dL_law_918 (fun x14 => ?_)
    refine v_lcmp C dL_law_919 (fun x15 => ?_)
    refine v_if_eq (tgt := 925) C dL_law_920 rfl ?_ v_none
    refine v_goto (tgt := 1697) C dL_law_925 rfl ?_
    refine v_wid (cells + 3) (slots + 18) (by omega) (by omega) ?_
    refine v_sub [(0, A w (-101)), (1, A w x), (2, A w m), (3, A w o), (4, I i)] [2, 3, 4, 5, 6] rfl ?_
    exact hk _ _ hn4
theorem vc_12 {X : Cxt} {w : Wd} {ret : Option FieldType} {P : Shp} {n cells slots b L : Nat} {xs : Nat → Int32} {s : St} {x m o i : Int} {kE : St → Option Unit} (hst : X.2.1.stackTraces = false) (C : Cok X w cL_law 9 RL ret) (S : LX X w b L xs) (hRm : X.2.2.2.1 = room_1) (hB : cells + 3 ≤ 601024 ∧ slots + 18 ≤ 7293034) (hk : ∀ (n' : Nat) (σ' : St), n ≤ n' → V X w 9 P n' (cells + 3) (slots + 18) () (kE σ') σ' 1697 [(0, A w (-101)), (1, A w x), (2, A w m), (3, A w o), (4, I i)] []) : V X w 9 P n cells slots () (fc_12 P L xs s x m o i kE) s 928 [(0, A w (-101)), (1, A w x), (2, A w m), (3, A w o), (4, I i)] [] := by
  have hC9 : X.2.2.2.1.cells = 601024 := by rw [hRm]; rfl
  have hS9 : X.2.2.2.1.slots = 7293034 := by rw [hRm]; rfl
  unfold fc_12
  refine v_aload_n C dL_law_928 rfl (j := 1) rfl ?_
  refine v_aload_n C dL_law_929 rfl (j := 0) rfl ?_
  refine v_iload C dL_law_930 (j := 4) rfl ?_
  refine v_iconst C dL_law_932 ?_
  refine v_iadd C dL_law_933 ?_
  refine v_sc C S dL_law_934 (fun x1 => ?_)
  refine v_aload_n C dL_law_935 rfl (j := 3) rfl ?_
  refine v_callW C [A w x, I x1, A w o] [] (fun x h => kL_atStake X.2.1 hst w P _ h) tw_880 tw_0 h9L_atStake rfl rfl hRm (Nat.le_of_ble_eq_true rfl) (Nat.le_of_ble_eq_true rfl) tw_878 tw_879 rfl rfl (Nat.le_of_ble_eq_true rfl) ⟨by omega, by omega⟩ dL_law_936 (fun q5 n4 hn4 => ?_)
  obtain ⟨x2, s3⟩ := q5
  refine v_istore C [(5, I x2), (0, A w (-101)), (1, A w x), (2, A w m), (3, A w o), (4, I i)] dL_law_939 (by decide) rfl ?_
  refine v_aload_n C dL_law_941 rfl (j := 3) rfl ?_
  refine v_aload_n C dL_law_942 rfl (j := 1) rfl ?_
  refine v_iload C dL_law_943 (j := 5) rfl ?_
  refine v_iconst C dL_law_945 ?_
  refine v_iadd C dL_law_946 ?_
  refine v_sc C S dL_law_947 (fun x6 => ?_)
  refine v_callV_wI C [I x6] [] (Cee.of (rm := rX8_atStake) tw_1407 tw_9 h9bX8_atStake rfl rfl hRm (Nat.le_of_ble_eq_true rfl) (Nat.le_of_ble_eq_true rfl)) (fun x h => kX8_atStake X.2.1 w P _ h) tw_1404 tw_1405 tw_1406 rfl (ci := 8) rfl (by decide) rfl rfl (Nat.le_of_ble_eq_true rfl) ⟨by omega, by omega⟩ dL_law_948 (fun q9 => ?_)
  obtain ⟨x7, s8⟩ := q9
  refine v_istore C [(6, I x7), (5, I x2), (0, A w (-101)), (1, A w x), (2, A w m), (3, A w o), (4, I i)] dL_law_951 (by decide) rfl ?_
  refine v_aload_n C dL_law_953 rfl (j := 4) rfl ?_
  refine v_callV_rI C [] [] (Cee.of (rm := rX8_thrown) tw_1213 tw_9 h9bX8_thrown rfl rfl hRm (Nat.le_of_ble_eq_true rfl) (Nat.le_of_ble_eq_true rfl)) (fun x h => kX8_thrown X.2.1 w P _ h) tw_1210 tw_1211 tw_1212 rfl (ci := 8) rfl (by decide) rfl rfl (Nat.le_of_ble_eq_true rfl) ⟨by omega, by omega⟩ dL_law_954 (fun x10 => ?_)
  refine v_iload C dL_law_957 (j := 1) rfl ?_
  refine v_icmp_eq (tgt := 964) C dL_law_959 rfl ?_ v_none
  refine v_iload C dL_law_964 (j := 1) rfl ?_
  refine v_if_ne (tgt := 981) C dL_law_966 rfl ?_ ?_
  · refine v_goto (tgt := 1697) C dL_law_981 rfl ?_
    refine v_wid (cells + 3) (slots + 18) (by omega) (by omega) ?_
    refine v_sub [(0, A w (-101)), (1, A w x), (2, A w m), (3, A w o), (4, I i)] [2, 3, 4, 5, 6] rfl ?_
    exact hk _ _ hn4
  · refine v_aload_n C dL_law_969 rfl (j := 5) rfl ?_
    refine v_iconst C dL_law_970 ?_
    refine v_lald C dL_law_971 (fun x13 => ?_)
    refine v_iload C dL_law_972 (j := 0) rfl ?_
    refine v_i2l C dL_law_974 (fun x14 => ?_)
    refine v_lcmp C dL_law_975 (fun x15 => ?_)
    refine v_if_eq (tgt := 981) C dL_law_976 rfl ?_ v_none
    refine v_goto (tgt := 1697) C dL_law_981 rfl ?_
    refine v_wid (cells + 3) (slots + 18) (by omega) (by omega) ?_
    refine v_sub [(0, A w (-101)), (1, A w x), (2, A w m), (3, A w o), (4, I i)] [2, 3, 4, 5, 6] rfl ?_
    exact hk _ _ hn4
theorem vc_13 {X : Cxt} {w : Wd} {ret : Option FieldType} {P : Shp} {n cells slots b L : Nat} {xs : Nat → Int32} {s : St} {x m o i : Int} {kE : St → Option Unit} (hst : X.2.1.stackTraces = false) (C : Cok X w cL_law 9 RL ret) (S : LX X w b L xs) (hRm : X.2.2.2.1 = room_1) (hB : cells + 3 ≤ 601024 ∧ slots + 18 ≤ 7293034) (hk : ∀ (n' : Nat) (σ' : St), n ≤ n' → V X w 9 P n' (cells + 3) (slots + 18) () (kE σ') σ' 1697 [(0, A w (-101)), (1, A w x), (2, A w m), (3, A w o), (4, I i)] []) : V X w 9 P n cells slots () (fc_13 P L xs s x m o i kE) s 984 [(0, A w (-101)), (1, A w x), (2, A w m), (3, A w o), (4, I i)] [] := by
  have hC9 : X.2.2.2.1.cells = 601024 := by rw [hRm]; rfl
  have hS9 : X.2.2.2.1.slots = 7293034 := by rw [hRm]; rfl
  unfold fc_13
  refine v_aload_n C dL_law_984 rfl (j := 1) rfl ?_
  refine v_callV_rI C [] [] (Cee.of (rm := rX7_weakest) tw_367 tw_1 h9bX7_weakest rfl rfl hRm (Nat.le_of_ble_eq_true rfl) (Nat.le_of_ble_eq_true rfl)) (fun x h => kX7_weakest X.2.1 w P _ h) tw_364 tw_365 tw_366 rfl (ci := 7) rfl (by decide) rfl rfl (Nat.le_of_ble_eq_true rfl) ⟨by omega, by omega⟩ dL_law_985 (fun x1 => ?_)
  refine v_aload_n C dL_law_988 rfl (j := 2) rfl ?_
  refine v_callV_wI C [] [I x1] (Cee.of (rm := rX8_weakest) tw_1415 tw_9 h9bX8_weakest rfl rfl hRm (Nat.le_of_ble_eq_true rfl) (Nat.le_of_ble_eq_true rfl)) (fun x h => kX8_weakest X.2.1 w P _ h) tw_1412 tw_1413 tw_1414 rfl (ci := 8) rfl (by decide) rfl rfl (Nat.le_of_ble_eq_true rfl) ⟨by omega, by omega⟩ dL_law_989 (fun q6 => ?_)
  obtain ⟨x4, s5⟩ := q6
  refine v_icmp_eq (tgt := 1697) C dL_law_992 rfl ?_ v_none
  refine v_wid (cells + 3) (slots + 18) (by omega) (by omega) ?_
  exact hk _ _ (Nat.le_refl _)
theorem vc_14 {X : Cxt} {w : Wd} {ret : Option FieldType} {P : Shp} {n cells slots b L : Nat} {xs : Nat → Int32} {s : St} {x m o i : Int} {kE : St → Option Unit} (hst : X.2.1.stackTraces = false) (C : Cok X w cL_law 9 RL ret) (S : LX X w b L xs) (hRm : X.2.2.2.1 = room_1) (hB : cells + 3 ≤ 601024 ∧ slots + 18 ≤ 7293034) (hk : ∀ (n' : Nat) (σ' : St), n ≤ n' → V X w 9 P n' (cells + 3) (slots + 18) () (kE σ') σ' 1697 [(0, A w (-101)), (1, A w x), (2, A w m), (3, A w o), (4, I i)] []) : V X w 9 P n cells slots () (fc_14 P L xs s x m o i kE) s 997 [(0, A w (-101)), (1, A w x), (2, A w m), (3, A w o), (4, I i)] [] := by
  have hC9 : X.2.2.2.1.cells = 601024 := by rw [hRm]; rfl
  have hS9 : X.2.2.2.1.slots = 7293034 := by rw [hRm]; rfl
  unfold fc_14
  refine v_aload_n C dL_law_997 rfl (j := 1) rfl ?_
  refine v_aload_n C dL_law_998 rfl (j := 0) rfl ?_
  refine v_iload C dL_law_999 (j := 4) rfl ?_
  refine v_iconst C dL_law_1001 ?_
  refine v_iadd C dL_law_1002 ?_
  refine v_sc C S dL_law_1003 (fun x1 => ?_)
  refine v_aload_n C dL_law_1004 rfl (j := 3) rfl ?_
  refine v_callW C [A w x, I x1, A w o] [] (fun x h => kL_whyNotRunning X.2.1 hst w P _ h) tw_891 tw_0 h9L_whyNotRunning rfl rfl hRm (Nat.le_of_ble_eq_true rfl) (Nat.le_of_ble_eq_true rfl) tw_889 tw_890 rfl rfl (Nat.le_of_ble_eq_true rfl) ⟨by omega, by omega⟩ dL_law_1005 (fun q5 n4 hn4 => ?_)
  obtain ⟨x2, s3⟩ := q5
  refine v_istore C [(5, I x2), (0, A w (-101)), (1, A w x), (2, A w m), (3, A w o), (4, I i)] dL_law_1008 (by decide) rfl ?_
  refine v_aload_n C dL_law_1010 rfl (j := 3) rfl ?_
  refine v_aload_n C dL_law_1011 rfl (j := 1) rfl ?_
  refine v_iload C dL_law_1012 (j := 5) rfl ?_
  refine v_iconst C dL_law_1014 ?_
  refine v_iadd C dL_law_1015 ?_
  refine v_sc C S dL_law_1016 (fun x6 => ?_)
  refine v_callV_wI C [I x6] [] (Cee.of (rm := rX8_whyNotRunning) tw_1419 tw_9 h9bX8_whyNotRunning rfl rfl hRm (Nat.le_of_ble_eq_true rfl) (Nat.le_of_ble_eq_true rfl)) (fun x h => kX8_whyNotRunning X.2.1 w P _ h) tw_1416 tw_1417 tw_1418 rfl (ci := 8) rfl (by decide) rfl rfl (Nat.le_of_ble_eq_true rfl) ⟨by omega, by omega⟩ dL_law_1017 (fun q9 => ?_)
  obtain ⟨x7, s8⟩ := q9
  refine v_istore C [(6, I x7), (5, I x2), (0, A w (-101)), (1, A w x), (2, A w m), (3, A w o), (4, I i)] dL_law_1020 (by decide) rfl ?_
  refine v_aload_n C dL_law_1022 rfl (j := 4) rfl ?_
  refine v_callV_rI C [] [] (Cee.of (rm := rX8_thrown) tw_1213 tw_9 h9bX8_thrown rfl rfl hRm (Nat.le_of_ble_eq_true rfl) (Nat.le_of_ble_eq_true rfl)) (fun x h => kX8_thrown X.2.1 w P _ h) tw_1210 tw_1211 tw_1212 rfl (ci := 8) rfl (by decide) rfl rfl (Nat.le_of_ble_eq_true rfl) ⟨by omega, by omega⟩ dL_law_1023 (fun x10 => ?_)
  refine v_iload C dL_law_1026 (j := 1) rfl ?_
  refine v_icmp_eq (tgt := 1033) C dL_law_1028 rfl ?_ v_none
  refine v_iload C dL_law_1033 (j := 1) rfl ?_
  refine v_if_ne (tgt := 1050) C dL_law_1035 rfl ?_ ?_
  · refine v_goto (tgt := 1697) C dL_law_1050 rfl ?_
    refine v_wid (cells + 3) (slots + 18) (by omega) (by omega) ?_
    refine v_sub [(0, A w (-101)), (1, A w x), (2, A w m), (3, A w o), (4, I i)] [2, 3, 4, 5, 6] rfl ?_
    exact hk _ _ hn4
  · refine v_aload_n C dL_law_1038 rfl (j := 5) rfl ?_
    refine v_iconst C dL_law_1039 ?_
    refine v_lald C dL_law_1040 (fun x13 => ?_)
    refine v_iload C dL_law_1041 (j := 0) rfl ?_
    refine v_i2l C dL_law_1043 (fun x14 => ?_)
    refine v_lcmp C dL_law_1044 (fun x15 => ?_)
    refine v_if_eq (tgt := 1050) C dL_law_1045 rfl ?_ v_none
    refine v_goto (tgt := 1697) C dL_law_1050 rfl ?_
    refine v_wid (cells + 3) (slots + 18) (by omega) (by omega) ?_
    refine v_sub [(0, A w (-101)), (1, A w x), (2, A w m), (3, A w o), (4, I i)] [2, 3, 4, 5, 6] rfl ?_
    exact hk _ _ hn4
theorem vc_15 {X : Cxt} {w : Wd} {ret : Option FieldType} {P : Shp} {n cells slots b L : Nat} {xs : Nat → Int32} {s : St} {x m o i : Int} {kE : St → Option Unit} (hst : X.2.1.stackTraces = false) (C : Cok X w cL_law 9 RL ret) (S : LX X w b L xs) (hRm : X.2.2.2.1 = room_1) (hB : cells + 3 ≤ 601024 ∧ slots + 18 ≤ 7293034) (hk : ∀ (n' : Nat) (σ' : St), n ≤ n' → V X w 9 P n' (cells + 3) (slots + 18) () (kE σ') σ' 1697 [(0, A w (-101)), (1, A w x), (2, A w m), (3, A w o), (4, I i)] []) : V X w 9 P n cells slots () (fc_15 P L xs s x m o i kE) s 1053 [(0, A w (-101)), (1, A w x), (2, A w m), (3, A w o), (4, I i)] [] := by
  have hC9 : X.2.2.2.1.cells = 601024 := by rw [hRm]; rfl
  have hS9 : X.2.2.2.1.slots = 7293034 := by rw [hRm]; rfl
  unfold fc_15
  refine v_aload_n C dL_law_1053 rfl (j := 1) rfl ?_
  refine v_aload_n C dL_law_1054 rfl (j := 0) rfl ?_
  refine v_iload C dL_law_1055 (j := 4) rfl ?_
  refine v_iconst C dL_law_1057 ?_
  refine v_iadd C dL_law_1058 ?_
  refine v_sc C S dL_law_1059 (fun x1 => ?_)
  refine v_aload_n C dL_law_1060 rfl (j := 0) rfl ?_
  refine v_iload C dL_law_1061 (j := 4) rfl ?_
  refine v_iconst C dL_law_1063 ?_
  refine v_iadd C dL_law_1064 ?_
  refine v_sc C S dL_law_1065 (fun x2 => ?_)
  refine v_aload_n C dL_law_1066 rfl (j := 3) rfl ?_
  refine v_callW C [A w x, I x1, I x2, A w o] [] (fun x h => kL_event X.2.1 hst w P _ h) tw_902 tw_0 h9L_event rfl rfl hRm (Nat.le_of_ble_eq_true rfl) (Nat.le_of_ble_eq_true rfl) tw_900 tw_901 rfl rfl (Nat.le_of_ble_eq_true rfl) ⟨by omega, by omega⟩ dL_law_1067 (fun q6 n5 hn5 => ?_)
  obtain ⟨x3, s4⟩ := q6
  refine v_istore C [(5, I x3), (0, A w (-101)), (1, A w x), (2, A w m), (3, A w o), (4, I i)] dL_law_1070 (by decide) rfl ?_
  refine v_aload_n C dL_law_1072 rfl (j := 3) rfl ?_
  refine v_aload_n C dL_law_1073 rfl (j := 1) rfl ?_
  refine v_iload C dL_law_1074 (j := 5) rfl ?_
  refine v_iconst C dL_law_1076 ?_
  refine v_iadd C dL_law_1077 ?_
  refine v_sc C S dL_law_1078 (fun x7 => ?_)
  refine v_aload_n C dL_law_1079 rfl (j := 1) rfl ?_
  refine v_iload C dL_law_1080 (j := 5) rfl ?_
  refine v_iconst C dL_law_1082 ?_
  refine v_iadd C dL_law_1083 ?_
  refine v_sc C S dL_law_1084 (fun x8 => ?_)
  refine v_callV_wI C [I x7, I x8] [] (Cee.of (rm := rX8_event) tw_1423 tw_9 h9bX8_event rfl rfl hRm (Nat.le_of_ble_eq_true rfl) (Nat.le_of_ble_eq_true rfl)) (fun x h => kX8_event X.2.1 w P _ h) tw_1420 tw_1421 tw_1422 rfl (ci := 8) rfl (by decide) rfl rfl (Nat.le_of_ble_eq_true rfl) ⟨by omega, by omega⟩ dL_law_1085 (fun q11 => ?_)
  obtain ⟨x9, s10⟩ := q11
  refine v_istore C [(6, I x9), (5, I x3), (0, A w (-101)), (1, A w x), (2, A w m), (3, A w o), (4, I i)] dL_law_1088 (by decide) rfl ?_
  refine v_aload_n C dL_law_1090 rfl (j := 4) rfl ?_
  refine v_callV_rI C [] [] (Cee.of (rm := rX8_thrown) tw_1213 tw_9 h9bX8_thrown rfl rfl hRm (Nat.le_of_ble_eq_true rfl) (Nat.le_of_ble_eq_true rfl)) (fun x h => kX8_thrown X.2.1 w P _ h) tw_1210 tw_1211 tw_1212 rfl (ci := 8) rfl (by decide) rfl rfl (Nat.le_of_ble_eq_true rfl) ⟨by omega, by omega⟩ dL_law_1091 (fun x12 => ?_)
  refine v_iload C dL_law_1094 (j := 1) rfl ?_
  refine v_icmp_eq (tgt := 1101) C dL_law_1096 rfl ?_ v_none
  refine v_iload C dL_law_1101 (j := 1) rfl ?_
  refine v_if_ne (tgt := 1118) C dL_law_1103 rfl ?_ ?_
  · refine v_goto (tgt := 1697) C dL_law_1118 rfl ?_
    refine v_wid (cells + 3) (slots + 18) (by omega) (by omega) ?_
    refine v_sub [(0, A w (-101)), (1, A w x), (2, A w m), (3, A w o), (4, I i)] [2, 3, 4, 5, 6] rfl ?_
    exact hk _ _ hn5
  · refine v_aload_n C dL_law_1106 rfl (j := 5) rfl ?_
    refine v_iconst C dL_law_1107 ?_
    refine v_lald C dL_law_1108 (fun x15 => ?_)
    refine v_iload C dL_law_1109 (j := 0) rfl ?_
    refine v_i2l C dL_law_1111 (fun x16 => ?_)
    refine v_lcmp C dL_law_1112 (fun x17 => ?_)
    refine v_if_eq (tgt := 1118) C dL_law_1113 rfl ?_ v_none
    refine v_goto (tgt := 1697) C dL_law_1118 rfl ?_
    refine v_wid (cells + 3) (slots + 18) (by omega) (by omega) ?_
    refine v_sub [(0, A w (-101)), (1, A w x), (2, A w m), (3, A w o), (4, I i)] [2, 3, 4, 5, 6] rfl ?_
    exact hk _ _ hn5
theorem vc_16 {X : Cxt} {w : Wd} {ret : Option FieldType} {P : Shp} {n cells slots b L : Nat} {xs : Nat → Int32} {s : St} {x m o i : Int} {kE : St → Option Unit} (hst : X.2.1.stackTraces = false) (C : Cok X w cL_law 9 RL ret) (S : LX X w b L xs) (hRm : X.2.2.2.1 = room_1) (hB : cells + 3 ≤ 601024 ∧ slots + 18 ≤ 7293034) (hk : ∀ (n' : Nat) (σ' : St), n ≤ n' → V X w 9 P n' (cells + 3) (slots + 18) () (kE σ') σ' 1697 [(0, A w (-101)), (1, A w x), (2, A w m), (3, A w o), (4, I i)] []) : V X w 9 P n cells slots () (fc_16 P L xs s x m o i kE) s 1121 [(0, A w (-101)), (1, A w x), (2, A w m), (3, A w o), (4, I i)] [] := by
  have hC9 : X.2.2.2.1.cells = 601024 := by rw [hRm]; rfl
  have hS9 : X.2.2.2.1.slots = 7293034 := by rw [hRm]; rfl
  unfold fc_16
  refine v_aload_n C dL_law_1121 rfl (j := 1) rfl ?_
  refine v_aload_n C dL_law_1122 rfl (j := 0) rfl ?_
  refine v_iload C dL_law_1123 (j := 4) rfl ?_
  refine v_iconst C dL_law_1125 ?_
  refine v_iadd C dL_law_1126 ?_
  refine v_sc C S dL_law_1127 (fun x1 => ?_)
  refine v_aload_n C dL_law_1128 rfl (j := 3) rfl ?_
  refine v_callW C [A w x, I x1, A w o] [] (fun x h => kL_account X.2.1 hst w P _ h) tw_915 tw_0 h9L_account rfl rfl hRm (Nat.le_of_ble_eq_true rfl) (Nat.le_of_ble_eq_true rfl) tw_913 tw_914 rfl rfl (Nat.le_of_ble_eq_true rfl) ⟨by omega, by omega⟩ dL_law_1129 (fun q5 n4 hn4 => ?_)
  obtain ⟨x2, s3⟩ := q5
  refine v_istore C [(5, I x2), (0, A w (-101)), (1, A w x), (2, A w m), (3, A w o), (4, I i)] dL_law_1132 (by decide) rfl ?_
  refine v_aload_n C dL_law_1134 rfl (j := 3) rfl ?_
  refine v_aload_n C dL_law_1135 rfl (j := 1) rfl ?_
  refine v_iload C dL_law_1136 (j := 5) rfl ?_
  refine v_iconst C dL_law_1138 ?_
  refine v_iadd C dL_law_1139 ?_
  refine v_sc C S dL_law_1140 (fun x6 => ?_)
  refine v_callV_wI C [I x6] [] (Cee.of (rm := rX8_account) tw_1427 tw_9 h9bX8_account rfl rfl hRm (Nat.le_of_ble_eq_true rfl) (Nat.le_of_ble_eq_true rfl)) (fun x h => kX8_account X.2.1 w P _ h) tw_1424 tw_1425 tw_1426 rfl (ci := 8) rfl (by decide) rfl rfl (Nat.le_of_ble_eq_true rfl) ⟨by omega, by omega⟩ dL_law_1141 (fun q9 => ?_)
  obtain ⟨x7, s8⟩ := q9
  refine v_istore C [(6, I x7), (5, I x2), (0, A w (-101)), (1, A w x), (2, A w m), (3, A w o), (4, I i)] dL_law_1144 (by decide) rfl ?_
  refine v_aload_n C dL_law_1146 rfl (j := 4) rfl ?_
  refine v_callV_rI C [] [] (Cee.of (rm := rX8_thrown) tw_1213 tw_9 h9bX8_thrown rfl rfl hRm (Nat.le_of_ble_eq_true rfl) (Nat.le_of_ble_eq_true rfl)) (fun x h => kX8_thrown X.2.1 w P _ h) tw_1210 tw_1211 tw_1212 rfl (ci := 8) rfl (by decide) rfl rfl (Nat.le_of_ble_eq_true rfl) ⟨by omega, by omega⟩ dL_law_1147 (fun x10 => ?_)
  refine v_iload C dL_law_1150 (j := 1) rfl ?_
  refine v_icmp_eq (tgt := 1157) C dL_law_1152 rfl ?_ v_none
  refine v_iload C dL_law_1157 (j := 1) rfl ?_
  refine v_if_ne (tgt := 1174) C dL_law_1159 rfl ?_ ?_
  · refine v_goto (tgt := 1697) C dL_law_1174 rfl ?_
    refine v_wid (cells + 3) (slots + 18) (by omega) (by omega) ?_
    refine v_sub [(0, A w (-101)), (1, A w x), (2, A w m), (3, A w o), (4, I i)] [2, 3, 4, 5, 6] rfl ?_
    exact hk _ _ hn4
  · refine v_aload_n C dL_law_1162 rfl (j := 5) rfl ?_
    refine v_iconst C dL_law_1163 ?_
    refine v_lald C dL_law_1164 (fun x13 => ?_)
    refine v_iload C dL_law_1165 (j := 0) rfl ?_
    refine v_i2l C dL_law_1167 (fun x14 => ?_)
    refine v_lcmp C dL_law_1168 (fun x15 => ?_)
    refine v_if_eq (tgt := 1174) C dL_law_1169 rfl ?_ v_none
    refine v_goto (tgt := 1697) C dL_law_1174 rfl ?_
    refine v_wid (cells + 3) (slots + 18) (by omega) (by omega) ?_
    refine v_sub [(0, A w (-101)), (1, A w x), (2, A w m), (3, A w o), (4, I i)] [2, 3, 4, 5, 6] rfl ?_
    exact hk _ _ hn4
theorem vc_17 {X : Cxt} {w : Wd} {ret : Option FieldType} {P : Shp} {n cells slots b L : Nat} {xs : Nat → Int32} {s : St} {x m o i : Int} {kE : St → Option Unit} (hst : X.2.1.stackTraces = false) (C : Cok X w cL_law 9 RL ret) (S : LX X w b L xs) (hRm : X.2.2.2.1 = room_1) (hB : cells + 3 ≤ 601024 ∧ slots + 18 ≤ 7293034) (hk : ∀ (n' : Nat) (σ' : St), n ≤ n' → V X w 9 P n' (cells + 3) (slots + 18) () (kE σ') σ' 1697 [(0, A w (-101)), (1, A w x), (2, A w m), (3, A w o), (4, I i)] []) : V X w 9 P n cells slots () (fc_17 P L xs s x m o i kE) s 1177 [(0, A w (-101)), (1, A w x), (2, A w m), (3, A w o), (4, I i)] [] := by
  have hC9 : X.2.2.2.1.cells = 601024 := by rw [hRm]; rfl
  have hS9 : X.2.2.2.1.slots = 7293034 := by rw [hRm]; rfl
  unfold fc_17
  refine v_aload_n C dL_law_1177 rfl (j := 1) rfl ?_
  refine v_callV_rD C [] [] (Cee.of (rm := rX7_rightShare) tw_418 tw_1 h9bX7_rightShare rfl rfl hRm (Nat.le_of_ble_eq_true rfl) (Nat.le_of_ble_eq_true rfl)) (fun x h => kX7_rightShare X.2.1 w P _ h) tw_415 tw_416 tw_417 rfl (ci := 7) rfl (by decide) rfl rfl (Nat.le_of_ble_eq_true rfl) ⟨by omega, by omega⟩ dL_law_1178 (fun x1 => ?_)
  refine v_dstore C [(5, D x1), (0, A w (-101)), (1, A w x), (2, A w m), (3, A w o), (4, I i)] dL_law_1181 (by decide) rfl ?_
  refine v_aload_n C dL_law_1183 rfl (j := 3) rfl ?_
  refine v_callV_wD C [] [] (Cee.of (rm := rX8_rightShare) tw_1431 tw_9 h9bX8_rightShare rfl rfl hRm (Nat.le_of_ble_eq_true rfl) (Nat.le_of_ble_eq_true rfl)) (fun x h => kX8_rightShare X.2.1 w P _ h) tw_1428 tw_1429 tw_1430 rfl (ci := 8) rfl (by decide) rfl rfl (Nat.le_of_ble_eq_true rfl) ⟨by omega, by omega⟩ dL_law_1184 (fun q6 => ?_)
  obtain ⟨x4, s5⟩ := q6
  refine v_dstore C [(7, D x4), (5, D x1), (0, A w (-101)), (1, A w x), (2, A w m), (3, A w o), (4, I i)] dL_law_1187 (by decide) rfl ?_
  refine v_dload C dL_law_1189 (j := 1) rfl ?_
  refine v_dload C dL_law_1191 (j := 0) rfl ?_
  refine v_dcmp C dL_law_1193 ?_
  refine v_deq (tgt := 1215) C dL_law_1194 rfl ?_
  refine v_goto (tgt := 1697) C dL_law_1215 rfl ?_
  refine v_wid (cells + 3) (slots + 18) (by omega) (by omega) ?_
  refine v_sub [(0, A w (-101)), (1, A w x), (2, A w m), (3, A w o), (4, I i)] [2, 3, 4, 5, 6] rfl ?_
  exact hk _ _ (Nat.le_refl _)
theorem vc_18 {X : Cxt} {w : Wd} {ret : Option FieldType} {P : Shp} {n cells slots b L : Nat} {xs : Nat → Int32} {s : St} {x m o i : Int} {kE : St → Option Unit} (hst : X.2.1.stackTraces = false) (C : Cok X w cL_law 9 RL ret) (S : LX X w b L xs) (hRm : X.2.2.2.1 = room_1) (hB : cells + 3 ≤ 601024 ∧ slots + 18 ≤ 7293034) (hk : ∀ (n' : Nat) (σ' : St), n ≤ n' → V X w 9 P n' (cells + 3) (slots + 18) () (kE σ') σ' 1697 [(0, A w (-101)), (1, A w x), (2, A w m), (3, A w o), (4, I i)] []) : V X w 9 P n cells slots () (fc_18 P L xs s x m o i kE) s 1218 [(0, A w (-101)), (1, A w x), (2, A w m), (3, A w o), (4, I i)] [] := by
  have hC9 : X.2.2.2.1.cells = 601024 := by rw [hRm]; rfl
  have hS9 : X.2.2.2.1.slots = 7293034 := by rw [hRm]; rfl
  unfold fc_18
  refine v_aload_n C dL_law_1218 rfl (j := 1) rfl ?_
  refine v_aload_n C dL_law_1219 rfl (j := 0) rfl ?_
  refine v_iload C dL_law_1220 (j := 4) rfl ?_
  refine v_iconst C dL_law_1222 ?_
  refine v_iadd C dL_law_1223 ?_
  refine v_sc C S dL_law_1224 (fun x1 => ?_)
  refine v_aload_n C dL_law_1225 rfl (j := 3) rfl ?_
  refine v_callW C [A w x, I x1, A w o] [] (fun x h => kL_frames X.2.1 hst w P _ h) tw_923 tw_0 h9L_frames rfl rfl hRm (Nat.le_of_ble_eq_true rfl) (Nat.le_of_ble_eq_true rfl) tw_921 tw_922 rfl rfl (Nat.le_of_ble_eq_true rfl) ⟨by omega, by omega⟩ dL_law_1226 (fun q5 n4 hn4 => ?_)
  obtain ⟨x2, s3⟩ := q5
  refine v_istore C [(5, I x2), (0, A w (-101)), (1, A w x), (2, A w m), (3, A w o), (4, I i)] dL_law_1229 (by decide) rfl ?_
  refine v_aload_n C dL_law_1231 rfl (j := 3) rfl ?_
  refine v_aload_n C dL_law_1232 rfl (j := 1) rfl ?_
  refine v_iload C dL_law_1233 (j := 5) rfl ?_
  refine v_iconst C dL_law_1235 ?_
  refine v_iadd C dL_law_1236 ?_
  refine v_sc C S dL_law_1237 (fun x6 => ?_)
  refine v_callV_wI C [I x6] [] (Cee.of (rm := rX8_frames) tw_1435 tw_9 h9bX8_frames rfl rfl hRm (Nat.le_of_ble_eq_true rfl) (Nat.le_of_ble_eq_true rfl)) (fun x h => kX8_frames X.2.1 w P _ h) tw_1432 tw_1433 tw_1434 rfl (ci := 8) rfl (by decide) rfl rfl (Nat.le_of_ble_eq_true rfl) ⟨by omega, by omega⟩ dL_law_1238 (fun q9 => ?_)
  obtain ⟨x7, s8⟩ := q9
  refine v_istore C [(6, I x7), (5, I x2), (0, A w (-101)), (1, A w x), (2, A w m), (3, A w o), (4, I i)] dL_law_1241 (by decide) rfl ?_
  refine v_aload_n C dL_law_1243 rfl (j := 4) rfl ?_
  refine v_callV_rI C [] [] (Cee.of (rm := rX8_thrown) tw_1213 tw_9 h9bX8_thrown rfl rfl hRm (Nat.le_of_ble_eq_true rfl) (Nat.le_of_ble_eq_true rfl)) (fun x h => kX8_thrown X.2.1 w P _ h) tw_1210 tw_1211 tw_1212 rfl (ci := 8) rfl (by decide) rfl rfl (Nat.le_of_ble_eq_true rfl) ⟨by omega, by omega⟩ dL_law_1244 (fun x10 => ?_)
  refine v_iload C dL_law_1247 (j := 1) rfl ?_
  refine v_icmp_eq (tgt := 1254) C dL_law_1249 rfl ?_ v_none
  refine v_iload C dL_law_1254 (j := 1) rfl ?_
  refine v_if_ne (tgt := 1271) C dL_law_1256 rfl ?_ ?_
  · refine v_goto (tgt := 1697) C dL_law_1271 rfl ?_
    refine v_wid (cells + 3) (slots + 18) (by omega) (by omega) ?_
    refine v_sub [(0, A w (-101)), (1, A w x), (2, A w m), (3, A w o), (4, I i)] [2, 3, 4, 5, 6] rfl ?_
    exact hk _ _ hn4
  · refine v_aload_n C dL_law_1259 rfl (j := 5) rfl ?_
    refine v_iconst C dL_law_1260 ?_
    refine v_lald C dL_law_1261 (fun x13 => ?_)
    refine v_iload C dL_law_1262 (j := 0) rfl ?_
    refine v_i2l C dL_law_1264 (fun x14 => ?_)
    refine v_lcmp C dL_law_1265 (fun x15 => ?_)
    refine v_if_eq (tgt := 1271) C dL_law_1266 rfl ?_ v_none
    refine v_goto (tgt := 1697) C dL_law_1271 rfl ?_
    refine v_wid (cells + 3) (slots + 18) (by omega) (by omega) ?_
    refine v_sub [(0, A w (-101)), (1, A w x), (2, A w m), (3, A w o), (4, I i)] [2, 3, 4, 5, 6] rfl ?_
    exact hk _ _ hn4
theorem vc_19 {X : Cxt} {w : Wd} {ret : Option FieldType} {P : Shp} {n cells slots b L : Nat} {xs : Nat → Int32} {s : St} {x m o i : Int} {kE : St → Option Unit} (hst : X.2.1.stackTraces = false) (C : Cok X w cL_law 9 RL ret) (S : LX X w b L xs) (hRm : X.2.2.2.1 = room_1) (hB : cells + 3 ≤ 601024 ∧ slots + 18 ≤ 7293034) (hk : ∀ (n' : Nat) (σ' : St), n ≤ n' → V X w 9 P n' (cells + 3) (slots + 18) () (kE σ') σ' 1697 [(0, A w (-101)), (1, A w x), (2, A w m), (3, A w o), (4, I i)] []) : V X w 9 P n cells slots () (fc_19 P L xs s x m o i kE) s 1274 [(0, A w (-101)), (1, A w x), (2, A w m), (3, A w o), (4, I i)] [] := by
  have hC9 : X.2.2.2.1.cells = 601024 := by rw [hRm]; rfl
  have hS9 : X.2.2.2.1.slots = 7293034 := by rw [hRm]; rfl
  unfold fc_19
  refine v_aload_n C dL_law_1274 rfl (j := 1) rfl ?_
  refine v_aload_n C dL_law_1275 rfl (j := 0) rfl ?_
  refine v_iload C dL_law_1276 (j := 4) rfl ?_
  refine v_iconst C dL_law_1278 ?_
  refine v_iadd C dL_law_1279 ?_
  refine v_sc C S dL_law_1280 (fun x1 => ?_)
  refine v_aload_n C dL_law_1281 rfl (j := 0) rfl ?_
  refine v_iload C dL_law_1282 (j := 4) rfl ?_
  refine v_iconst C dL_law_1284 ?_
  refine v_iadd C dL_law_1285 ?_
  refine v_sc C S dL_law_1286 (fun x2 => ?_)
  refine v_aload_n C dL_law_1287 rfl (j := 3) rfl ?_
  refine v_callW C [A w x, I x1, I x2, A w o] [] (fun x h => kL_fail X.2.1 hst w P _ h) tw_961 tw_0 h9L_fail rfl rfl hRm (Nat.le_of_ble_eq_true rfl) (Nat.le_of_ble_eq_true rfl) tw_959 tw_960 rfl rfl (Nat.le_of_ble_eq_true rfl) ⟨by omega, by omega⟩ dL_law_1288 (fun q6 n5 hn5 => ?_)
  obtain ⟨x3, s4⟩ := q6
  refine v_istore C [(5, I x3), (0, A w (-101)), (1, A w x), (2, A w m), (3, A w o), (4, I i)] dL_law_1291 (by decide) rfl ?_
  refine v_aload_n C dL_law_1293 rfl (j := 3) rfl ?_
  refine v_aload_n C dL_law_1294 rfl (j := 1) rfl ?_
  refine v_iload C dL_law_1295 (j := 5) rfl ?_
  refine v_iconst C dL_law_1297 ?_
  refine v_iadd C dL_law_1298 ?_
  refine v_sc C S dL_law_1299 (fun x7 => ?_)
  refine v_aload_n C dL_law_1300 rfl (j := 1) rfl ?_
  refine v_iload C dL_law_1301 (j := 5) rfl ?_
  refine v_iconst C dL_law_1303 ?_
  refine v_iadd C dL_law_1304 ?_
  refine v_sc C S dL_law_1305 (fun x8 => ?_)
  refine v_callV_wI C [I x7, I x8] [] (Cee.of (rm := rX8_fail) tw_1462 tw_9 h9bX8_fail rfl rfl hRm (Nat.le_of_ble_eq_true rfl) (Nat.le_of_ble_eq_true rfl)) (fun x h => kX8_fail X.2.1 w P _ h) tw_1459 tw_1460 tw_1461 rfl (ci := 8) rfl (by decide) rfl rfl (Nat.le_of_ble_eq_true rfl) ⟨by omega, by omega⟩ dL_law_1306 (fun q11 => ?_)
  obtain ⟨x9, s10⟩ := q11
  refine v_istore C [(6, I x9), (5, I x3), (0, A w (-101)), (1, A w x), (2, A w m), (3, A w o), (4, I i)] dL_law_1309 (by decide) rfl ?_
  refine v_aload_n C dL_law_1311 rfl (j := 4) rfl ?_
  refine v_callV_rI C [] [] (Cee.of (rm := rX8_thrown) tw_1213 tw_9 h9bX8_thrown rfl rfl hRm (Nat.le_of_ble_eq_true rfl) (Nat.le_of_ble_eq_true rfl)) (fun x h => kX8_thrown X.2.1 w P _ h) tw_1210 tw_1211 tw_1212 rfl (ci := 8) rfl (by decide) rfl rfl (Nat.le_of_ble_eq_true rfl) ⟨by omega, by omega⟩ dL_law_1312 (fun x12 => ?_)
  refine v_iload C dL_law_1315 (j := 1) rfl ?_
  refine v_icmp_eq (tgt := 1322) C dL_law_1317 rfl ?_ v_none
  refine v_iload C dL_law_1322 (j := 1) rfl ?_
  refine v_if_ne (tgt := 1339) C dL_law_1324 rfl ?_ ?_
  · refine v_goto (tgt := 1697) C dL_law_1339 rfl ?_
    refine v_wid (cells + 3) (slots + 18) (by omega) (by omega) ?_
    refine v_sub [(0, A w (-101)), (1, A w x), (2, A w m), (3, A w o), (4, I i)] [2, 3, 4, 5, 6] rfl ?_
    exact hk _ _ hn5
  · refine v_aload_n C dL_law_1327 rfl (j := 5) rfl ?_
    refine v_iconst C dL_law_1328 ?_
    refine v_lald C dL_law_1329 (fun x15 => ?_)
    refine v_iload C dL_law_1330 (j := 0) rfl ?_
    refine v_i2l C dL_law_1332 (fun x16 => ?_)
    refine v_lcmp C dL_law_1333 (fun x17 => ?_)
    refine v_if_eq (tgt := 1339) C dL_law_1334 rfl ?_ v_none
    refine v_goto (tgt := 1697) C dL_law_1339 rfl ?_
    refine v_wid (cells + 3) (slots + 18) (by omega) (by omega) ?_
    refine v_sub [(0, A w (-101)), (1, A w x), (2, A w m), (3, A w o), (4, I i)] [2, 3, 4, 5, 6] rfl ?_
    exact hk _ _ hn5
theorem vc_20 {X : Cxt} {w : Wd} {ret : Option FieldType} {P : Shp} {n cells slots b L : Nat} {xs : Nat → Int32} {s : St} {x m o i : Int} {kE : St → Option Unit} (hst : X.2.1.stackTraces = false) (C : Cok X w cL_law 9 RL ret) (S : LX X w b L xs) (hRm : X.2.2.2.1 = room_1) (hB : cells + 3 ≤ 601024 ∧ slots + 18 ≤ 7293034) (hk : ∀ (n' : Nat) (σ' : St), n ≤ n' → V X w 9 P n' (cells + 3) (slots + 18) () (kE σ') σ' 1697 [(0, A w (-101)), (1, A w x), (2, A w m), (3, A w o), (4, I i)] []) : V X w 9 P n cells slots () (fc_20 P L xs s x m o i kE) s 1342 [(0, A w (-101)), (1, A w x), (2, A w m), (3, A w o), (4, I i)] [] := by
  have hC9 : X.2.2.2.1.cells = 601024 := by rw [hRm]; rfl
  have hS9 : X.2.2.2.1.slots = 7293034 := by rw [hRm]; rfl
  unfold fc_20
  refine v_aload_n C dL_law_1342 rfl (j := 1) rfl ?_
  refine v_aload_n C dL_law_1343 rfl (j := 0) rfl ?_
  refine v_iload C dL_law_1344 (j := 4) rfl ?_
  refine v_iconst C dL_law_1346 ?_
  refine v_iadd C dL_law_1347 ?_
  refine v_sc C S dL_law_1348 (fun x1 => ?_)
  refine v_aload_n C dL_law_1349 rfl (j := 3) rfl ?_
  refine v_callW C [A w x, I x1, A w o] [] (fun x h => kL_warn X.2.1 hst w P _ h) tw_1009 tw_0 h9L_warn rfl rfl hRm (Nat.le_of_ble_eq_true rfl) (Nat.le_of_ble_eq_true rfl) tw_1007 tw_1008 rfl rfl (Nat.le_of_ble_eq_true rfl) ⟨by omega, by omega⟩ dL_law_1350 (fun q5 n4 hn4 => ?_)
  obtain ⟨x2, s3⟩ := q5
  refine v_istore C [(5, I x2), (0, A w (-101)), (1, A w x), (2, A w m), (3, A w o), (4, I i)] dL_law_1353 (by decide) rfl ?_
  refine v_aload_n C dL_law_1355 rfl (j := 3) rfl ?_
  refine v_aload_n C dL_law_1356 rfl (j := 1) rfl ?_
  refine v_iload C dL_law_1357 (j := 5) rfl ?_
  refine v_iconst C dL_law_1359 ?_
  refine v_iadd C dL_law_1360 ?_
  refine v_sc C S dL_law_1361 (fun x6 => ?_)
  refine v_callV_wI C [I x6] [] (Cee.of (rm := rX8_warn) tw_1474 tw_9 h9bX8_warn rfl rfl hRm (Nat.le_of_ble_eq_true rfl) (Nat.le_of_ble_eq_true rfl)) (fun x h => kX8_warn X.2.1 w P _ h) tw_1471 tw_1472 tw_1473 rfl (ci := 8) rfl (by decide) rfl rfl (Nat.le_of_ble_eq_true rfl) ⟨by omega, by omega⟩ dL_law_1362 (fun q9 => ?_)
  obtain ⟨x7, s8⟩ := q9
  refine v_istore C [(6, I x7), (5, I x2), (0, A w (-101)), (1, A w x), (2, A w m), (3, A w o), (4, I i)] dL_law_1365 (by decide) rfl ?_
  refine v_aload_n C dL_law_1367 rfl (j := 4) rfl ?_
  refine v_callV_rI C [] [] (Cee.of (rm := rX8_thrown) tw_1213 tw_9 h9bX8_thrown rfl rfl hRm (Nat.le_of_ble_eq_true rfl) (Nat.le_of_ble_eq_true rfl)) (fun x h => kX8_thrown X.2.1 w P _ h) tw_1210 tw_1211 tw_1212 rfl (ci := 8) rfl (by decide) rfl rfl (Nat.le_of_ble_eq_true rfl) ⟨by omega, by omega⟩ dL_law_1368 (fun x10 => ?_)
  refine v_iload C dL_law_1371 (j := 1) rfl ?_
  refine v_icmp_eq (tgt := 1378) C dL_law_1373 rfl ?_ v_none
  refine v_iload C dL_law_1378 (j := 1) rfl ?_
  refine v_if_ne (tgt := 1395) C dL_law_1380 rfl ?_ ?_
  · refine v_goto (tgt := 1697) C dL_law_1395 rfl ?_
    refine v_wid (cells + 3) (slots + 18) (by omega) (by omega) ?_
    refine v_sub [(0, A w (-101)), (1, A w x), (2, A w m), (3, A w o), (4, I i)] [2, 3, 4, 5, 6] rfl ?_
    exact hk _ _ hn4
  · refine v_aload_n C dL_law_1383 rfl (j := 5) rfl ?_
    refine v_iconst C dL_law_1384 ?_
    refine v_lald C dL_law_1385 (fun x13 => ?_)
    refine v_iload C dL_law_1386 (j := 0) rfl ?_
    refine v_i2l C dL_law_1388 (fun x14 => ?_)
    refine v_lcmp C dL_law_1389 (fun x15 => ?_)
    refine v_if_eq (tgt := 1395) C dL_law_1390 rfl ?_ v_none
    refine v_goto (tgt := 1697) C dL_law_1395 rfl ?_
    refine v_wid (cells + 3) (slots + 18) (by omega) (by omega) ?_
    refine v_sub [(0, A w (-101)), (1, A w x), (2, A w m), (3, A w o), (4, I i)] [2, 3, 4, 5, 6] rfl ?_
    exact hk _ _ hn4
theorem vc_21 {X : Cxt} {w : Wd} {ret : Option FieldType} {P : Shp} {n cells slots b L : Nat} {xs : Nat → Int32} {s : St} {x m o i : Int} {kE : St → Option Unit} (hst : X.2.1.stackTraces = false) (C : Cok X w cL_law 9 RL ret) (S : LX X w b L xs) (hRm : X.2.2.2.1 = room_1) (hB : cells + 3 ≤ 601024 ∧ slots + 18 ≤ 7293034) (hk : ∀ (n' : Nat) (σ' : St), n ≤ n' → V X w 9 P n' (cells + 3) (slots + 18) () (kE σ') σ' 1697 [(0, A w (-101)), (1, A w x), (2, A w m), (3, A w o), (4, I i)] []) : V X w 9 P n cells slots () (fc_21 P L xs s x m o i kE) s 1398 [(0, A w (-101)), (1, A w x), (2, A w m), (3, A w o), (4, I i)] [] := by
  have hC9 : X.2.2.2.1.cells = 601024 := by rw [hRm]; rfl
  have hS9 : X.2.2.2.1.slots = 7293034 := by rw [hRm]; rfl
  unfold fc_21
  refine v_aload_n C dL_law_1398 rfl (j := 1) rfl ?_
  refine v_aload_n C dL_law_1399 rfl (j := 0) rfl ?_
  refine v_iload C dL_law_1400 (j := 4) rfl ?_
  refine v_iconst C dL_law_1402 ?_
  refine v_iadd C dL_law_1403 ?_
  refine v_sc C S dL_law_1404 (fun x1 => ?_)
  refine v_aload_n C dL_law_1405 rfl (j := 3) rfl ?_
  refine v_callW C [A w x, I x1, A w o] [] (fun x h => kL_callOff X.2.1 hst w P _ h) tw_1019 tw_0 h9L_callOff rfl rfl hRm (Nat.le_of_ble_eq_true rfl) (Nat.le_of_ble_eq_true rfl) tw_1017 tw_1018 rfl rfl (Nat.le_of_ble_eq_true rfl) ⟨by omega, by omega⟩ dL_law_1406 (fun q5 n4 hn4 => ?_)
  obtain ⟨x2, s3⟩ := q5
  refine v_istore C [(5, I x2), (0, A w (-101)), (1, A w x), (2, A w m), (3, A w o), (4, I i)] dL_law_1409 (by decide) rfl ?_
  refine v_aload_n C dL_law_1411 rfl (j := 3) rfl ?_
  refine v_aload_n C dL_law_1412 rfl (j := 1) rfl ?_
  refine v_iload C dL_law_1413 (j := 5) rfl ?_
  refine v_iconst C dL_law_1415 ?_
  refine v_iadd C dL_law_1416 ?_
  refine v_sc C S dL_law_1417 (fun x6 => ?_)
  refine v_callV_wI C [I x6] [] (Cee.of (rm := rX8_callOff) tw_1478 tw_9 h9bX8_callOff rfl rfl hRm (Nat.le_of_ble_eq_true rfl) (Nat.le_of_ble_eq_true rfl)) (fun x h => kX8_callOff X.2.1 w P _ h) tw_1475 tw_1476 tw_1477 rfl (ci := 8) rfl (by decide) rfl rfl (Nat.le_of_ble_eq_true rfl) ⟨by omega, by omega⟩ dL_law_1418 (fun q9 => ?_)
  obtain ⟨x7, s8⟩ := q9
  refine v_istore C [(6, I x7), (5, I x2), (0, A w (-101)), (1, A w x), (2, A w m), (3, A w o), (4, I i)] dL_law_1421 (by decide) rfl ?_
  refine v_aload_n C dL_law_1423 rfl (j := 4) rfl ?_
  refine v_callV_rI C [] [] (Cee.of (rm := rX8_thrown) tw_1213 tw_9 h9bX8_thrown rfl rfl hRm (Nat.le_of_ble_eq_true rfl) (Nat.le_of_ble_eq_true rfl)) (fun x h => kX8_thrown X.2.1 w P _ h) tw_1210 tw_1211 tw_1212 rfl (ci := 8) rfl (by decide) rfl rfl (Nat.le_of_ble_eq_true rfl) ⟨by omega, by omega⟩ dL_law_1424 (fun x10 => ?_)
  refine v_iload C dL_law_1427 (j := 1) rfl ?_
  refine v_icmp_eq (tgt := 1434) C dL_law_1429 rfl ?_ v_none
  refine v_iload C dL_law_1434 (j := 1) rfl ?_
  refine v_if_ne (tgt := 1451) C dL_law_1436 rfl ?_ ?_
  · refine v_goto (tgt := 1697) C dL_law_1451 rfl ?_
    refine v_wid (cells + 3) (slots + 18) (by omega) (by omega) ?_
    refine v_sub [(0, A w (-101)), (1, A w x), (2, A w m), (3, A w o), (4, I i)] [2, 3, 4, 5, 6] rfl ?_
    exact hk _ _ hn4
  · refine v_aload_n C dL_law_1439 rfl (j := 5) rfl ?_
    refine v_iconst C dL_law_1440 ?_
    refine v_lald C dL_law_1441 (fun x13 => ?_)
    refine v_iload C dL_law_1442 (j := 0) rfl ?_
    refine v_i2l C dL_law_1444 (fun x14 => ?_)
    refine v_lcmp C dL_law_1445 (fun x15 => ?_)
    refine v_if_eq (tgt := 1451) C dL_law_1446 rfl ?_ v_none
    refine v_goto (tgt := 1697) C dL_law_1451 rfl ?_
    refine v_wid (cells + 3) (slots + 18) (by omega) (by omega) ?_
    refine v_sub [(0, A w (-101)), (1, A w x), (2, A w m), (3, A w o), (4, I i)] [2, 3, 4, 5, 6] rfl ?_
    exact hk _ _ hn4
theorem vc_22 {X : Cxt} {w : Wd} {ret : Option FieldType} {P : Shp} {n cells slots b L : Nat} {xs : Nat → Int32} {s : St} {x m o i : Int} {kE : St → Option Unit} (hst : X.2.1.stackTraces = false) (C : Cok X w cL_law 9 RL ret) (S : LX X w b L xs) (hRm : X.2.2.2.1 = room_1) (hB : cells + 3 ≤ 601024 ∧ slots + 18 ≤ 7293034) (hk : ∀ (n' : Nat) (σ' : St), n ≤ n' → V X w 9 P n' (cells + 3) (slots + 18) () (kE σ') σ' 1697 [(0, A w (-101)), (1, A w x), (2, A w m), (3, A w o), (4, I i)] []) : V X w 9 P n cells slots () (fc_22 P L xs s x m o i kE) s 1454 [(0, A w (-101)), (1, A w x), (2, A w m), (3, A w o), (4, I i)] [] := by
  have hC9 : X.2.2.2.1.cells = 601024 := by rw [hRm]; rfl
  have hS9 : X.2.2.2.1.slots = 7293034 := by rw [hRm]; rfl
  unfold fc_22
  refine v_aload_n C dL_law_1454 rfl (j := 1) rfl ?_
  refine v_aload_n C dL_law_1455 rfl (j := 0) rfl ?_
  refine v_iload C dL_law_1456 (j := 4) rfl ?_
  refine v_iconst C dL_law_1458 ?_
  refine v_iadd C dL_law_1459 ?_
  refine v_sc C S dL_law_1460 (fun x1 => ?_)
  refine v_aload_n C dL_law_1461 rfl (j := 3) rfl ?_
  refine v_callW C [A w x, I x1, A w o] [] (fun x h => kL_unplug X.2.1 hst w P _ h) tw_1034 tw_0 h9L_unplug rfl rfl hRm (Nat.le_of_ble_eq_true rfl) (Nat.le_of_ble_eq_true rfl) tw_1032 tw_1033 rfl rfl (Nat.le_of_ble_eq_true rfl) ⟨by omega, by omega⟩ dL_law_1462 (fun q5 n4 hn4 => ?_)
  obtain ⟨x2, s3⟩ := q5
  refine v_istore C [(5, I x2), (0, A w (-101)), (1, A w x), (2, A w m), (3, A w o), (4, I i)] dL_law_1465 (by decide) rfl ?_
  refine v_aload_n C dL_law_1467 rfl (j := 3) rfl ?_
  refine v_aload_n C dL_law_1468 rfl (j := 1) rfl ?_
  refine v_iload C dL_law_1469 (j := 5) rfl ?_
  refine v_iconst C dL_law_1471 ?_
  refine v_iadd C dL_law_1472 ?_
  refine v_sc C S dL_law_1473 (fun x6 => ?_)
  refine v_callV_wI C [I x6] [] (Cee.of (rm := rX8_unplug) tw_1486 tw_9 h9bX8_unplug rfl rfl hRm (Nat.le_of_ble_eq_true rfl) (Nat.le_of_ble_eq_true rfl)) (fun x h => kX8_unplug X.2.1 w P _ h) tw_1483 tw_1484 tw_1485 rfl (ci := 8) rfl (by decide) rfl rfl (Nat.le_of_ble_eq_true rfl) ⟨by omega, by omega⟩ dL_law_1474 (fun q9 => ?_)
  obtain ⟨x7, s8⟩ := q9
  refine v_istore C [(6, I x7), (5, I x2), (0, A w (-101)), (1, A w x), (2, A w m), (3, A w o), (4, I i)] dL_law_1477 (by decide) rfl ?_
  refine v_aload_n C dL_law_1479 rfl (j := 4) rfl ?_
  refine v_callV_rI C [] [] (Cee.of (rm := rX8_thrown) tw_1213 tw_9 h9bX8_thrown rfl rfl hRm (Nat.le_of_ble_eq_true rfl) (Nat.le_of_ble_eq_true rfl)) (fun x h => kX8_thrown X.2.1 w P _ h) tw_1210 tw_1211 tw_1212 rfl (ci := 8) rfl (by decide) rfl rfl (Nat.le_of_ble_eq_true rfl) ⟨by omega, by omega⟩ dL_law_1480 (fun x10 => ?_)
  refine v_iload C dL_law_1483 (j := 1) rfl ?_
  refine v_icmp_eq (tgt := 1490) C dL_law_1485 rfl ?_ v_none
  refine v_iload C dL_law_1490 (j := 1) rfl ?_
  refine v_if_ne (tgt := 1507) C dL_law_1492 rfl ?_ ?_
  · refine v_goto (tgt := 1697) C dL_law_1507 rfl ?_
    refine v_wid (cells + 3) (slots + 18) (by omega) (by omega) ?_
    refine v_sub [(0, A w (-101)), (1, A w x), (2, A w m), (3, A w o), (4, I i)] [2, 3, 4, 5, 6] rfl ?_
    exact hk _ _ hn4
  · refine v_aload_n C dL_law_1495 rfl (j := 5) rfl ?_
    refine v_iconst C dL_law_1496 ?_
    refine v_lald C dL_law_1497 (fun x13 => ?_)
    refine v_iload C dL_law_1498 (j := 0) rfl ?_
    refine v_i2l C dL_law_1500 (fun x14 => ?_)
    refine v_lcmp C dL_law_1501 (fun x15 => ?_)
    refine v_if_eq (tgt := 1507) C dL_law_1502 rfl ?_ v_none
    refine v_goto (tgt := 1697) C dL_law_1507 rfl ?_
    refine v_wid (cells + 3) (slots + 18) (by omega) (by omega) ?_
    refine v_sub [(0, A w (-101)), (1, A w x), (2, A w m), (3, A w o), (4, I i)] [2, 3, 4, 5, 6] rfl ?_
    exact hk _ _ hn4
theorem vc_23 {X : Cxt} {w : Wd} {ret : Option FieldType} {P : Shp} {n cells slots b L : Nat} {xs : Nat → Int32} {s : St} {x m o i : Int} {kE : St → Option Unit} (hst : X.2.1.stackTraces = false) (C : Cok X w cL_law 9 RL ret) (S : LX X w b L xs) (hRm : X.2.2.2.1 = room_1) (hB : cells + 3 ≤ 601024 ∧ slots + 18 ≤ 7293034) (hk : ∀ (n' : Nat) (σ' : St), n ≤ n' → V X w 9 P n' (cells + 3) (slots + 18) () (kE σ') σ' 1697 [(0, A w (-101)), (1, A w x), (2, A w m), (3, A w o), (4, I i)] []) : V X w 9 P n cells slots () (fc_23 P L xs s x m o i kE) s 1510 [(0, A w (-101)), (1, A w x), (2, A w m), (3, A w o), (4, I i)] [] := by
  have hC9 : X.2.2.2.1.cells = 601024 := by rw [hRm]; rfl
  have hS9 : X.2.2.2.1.slots = 7293034 := by rw [hRm]; rfl
  unfold fc_23
  refine v_aload_n C dL_law_1510 rfl (j := 1) rfl ?_
  refine v_aload_n C dL_law_1511 rfl (j := 0) rfl ?_
  refine v_iload C dL_law_1512 (j := 4) rfl ?_
  refine v_iconst C dL_law_1514 ?_
  refine v_iadd C dL_law_1515 ?_
  refine v_sc C S dL_law_1516 (fun x1 => ?_)
  refine v_aload_n C dL_law_1517 rfl (j := 0) rfl ?_
  refine v_iload C dL_law_1518 (j := 4) rfl ?_
  refine v_iconst C dL_law_1520 ?_
  refine v_iadd C dL_law_1521 ?_
  refine v_sc C S dL_law_1522 (fun x2 => ?_)
  refine v_aload_n C dL_law_1523 rfl (j := 3) rfl ?_
  refine v_callW C [A w x, I x1, I x2, A w o] [] (fun x h => kL_plug X.2.1 hst w P _ h) tw_1049 tw_0 h9L_plug rfl rfl hRm (Nat.le_of_ble_eq_true rfl) (Nat.le_of_ble_eq_true rfl) tw_1047 tw_1048 rfl rfl (Nat.le_of_ble_eq_true rfl) ⟨by omega, by omega⟩ dL_law_1524 (fun q6 n5 hn5 => ?_)
  obtain ⟨x3, s4⟩ := q6
  refine v_istore C [(5, I x3), (0, A w (-101)), (1, A w x), (2, A w m), (3, A w o), (4, I i)] dL_law_1527 (by decide) rfl ?_
  refine v_aload_n C dL_law_1529 rfl (j := 3) rfl ?_
  refine v_aload_n C dL_law_1530 rfl (j := 1) rfl ?_
  refine v_iload C dL_law_1531 (j := 5) rfl ?_
  refine v_iconst C dL_law_1533 ?_
  refine v_iadd C dL_law_1534 ?_
  refine v_sc C S dL_law_1535 (fun x7 => ?_)
  refine v_aload_n C dL_law_1536 rfl (j := 1) rfl ?_
  refine v_iload C dL_law_1537 (j := 5) rfl ?_
  refine v_iconst C dL_law_1539 ?_
  refine v_iadd C dL_law_1540 ?_
  refine v_sc C S dL_law_1541 (fun x8 => ?_)
  refine v_callV_wI C [I x7, I x8] [] (Cee.of (rm := rX8_plug) tw_1490 tw_9 h9bX8_plug rfl rfl hRm (Nat.le_of_ble_eq_true rfl) (Nat.le_of_ble_eq_true rfl)) (fun x h => kX8_plug X.2.1 w P _ h) tw_1487 tw_1488 tw_1489 rfl (ci := 8) rfl (by decide) rfl rfl (Nat.le_of_ble_eq_true rfl) ⟨by omega, by omega⟩ dL_law_1542 (fun q11 => ?_)
  obtain ⟨x9, s10⟩ := q11
  refine v_istore C [(6, I x9), (5, I x3), (0, A w (-101)), (1, A w x), (2, A w m), (3, A w o), (4, I i)] dL_law_1545 (by decide) rfl ?_
  refine v_aload_n C dL_law_1547 rfl (j := 4) rfl ?_
  refine v_callV_rI C [] [] (Cee.of (rm := rX8_thrown) tw_1213 tw_9 h9bX8_thrown rfl rfl hRm (Nat.le_of_ble_eq_true rfl) (Nat.le_of_ble_eq_true rfl)) (fun x h => kX8_thrown X.2.1 w P _ h) tw_1210 tw_1211 tw_1212 rfl (ci := 8) rfl (by decide) rfl rfl (Nat.le_of_ble_eq_true rfl) ⟨by omega, by omega⟩ dL_law_1548 (fun x12 => ?_)
  refine v_iload C dL_law_1551 (j := 1) rfl ?_
  refine v_icmp_eq (tgt := 1558) C dL_law_1553 rfl ?_ v_none
  refine v_iload C dL_law_1558 (j := 1) rfl ?_
  refine v_if_ne (tgt := 1575) C dL_law_1560 rfl ?_ ?_
  · refine v_goto (tgt := 1697) C dL_law_1575 rfl ?_
    refine v_wid (cells + 3) (slots + 18) (by omega) (by omega) ?_
    refine v_sub [(0, A w (-101)), (1, A w x), (2, A w m), (3, A w o), (4, I i)] [2, 3, 4, 5, 6] rfl ?_
    exact hk _ _ hn5
  · refine v_aload_n C dL_law_1563 rfl (j := 5) rfl ?_
    refine v_iconst C dL_law_1564 ?_
    refine v_lald C dL_law_1565 (fun x15 => ?_)
    refine v_iload C dL_law_1566 (j := 0) rfl ?_
    refine v_i2l C dL_law_1568 (fun x16 => ?_)
    refine v_lcmp C dL_law_1569 (fun x17 => ?_)
    refine v_if_eq (tgt := 1575) C dL_law_1570 rfl ?_ v_none
    refine v_goto (tgt := 1697) C dL_law_1575 rfl ?_
    refine v_wid (cells + 3) (slots + 18) (by omega) (by omega) ?_
    refine v_sub [(0, A w (-101)), (1, A w x), (2, A w m), (3, A w o), (4, I i)] [2, 3, 4, 5, 6] rfl ?_
    exact hk _ _ hn5
theorem vc_24 {X : Cxt} {w : Wd} {ret : Option FieldType} {P : Shp} {n cells slots b L : Nat} {xs : Nat → Int32} {s : St} {x m o i : Int} {kE : St → Option Unit} (hst : X.2.1.stackTraces = false) (C : Cok X w cL_law 9 RL ret) (S : LX X w b L xs) (hRm : X.2.2.2.1 = room_1) (hB : cells + 3 ≤ 601024 ∧ slots + 18 ≤ 7293034) (hk : ∀ (n' : Nat) (σ' : St), n ≤ n' → V X w 9 P n' (cells + 3) (slots + 18) () (kE σ') σ' 1697 [(0, A w (-101)), (1, A w x), (2, A w m), (3, A w o), (4, I i)] []) : V X w 9 P n cells slots () (fc_24 P L xs s x m o i kE) s 1578 [(0, A w (-101)), (1, A w x), (2, A w m), (3, A w o), (4, I i)] [] := by
  have hC9 : X.2.2.2.1.cells = 601024 := by rw [hRm]; rfl
  have hS9 : X.2.2.2.1.slots = 7293034 := by rw [hRm]; rfl
  unfold fc_24
  refine v_aload_n C dL_law_1578 rfl (j := 1) rfl ?_
  refine v_aload_n C dL_law_1579 rfl (j := 0) rfl ?_
  refine v_iload C dL_law_1580 (j := 4) rfl ?_
  refine v_iconst C dL_law_1582 ?_
  refine v_iadd C dL_law_1583 ?_
  refine v_sc C S dL_law_1584 (fun x1 => ?_)
  refine v_aload_n C dL_law_1585 rfl (j := 3) rfl ?_
  refine v_callW C [A w x, I x1, A w o] [] (fun x h => kL_setScore X.2.1 hst w P _ h) tw_1062 tw_0 h9L_setScore rfl rfl hRm (Nat.le_of_ble_eq_true rfl) (Nat.le_of_ble_eq_true rfl) tw_1060 tw_1061 rfl rfl (Nat.le_of_ble_eq_true rfl) ⟨by omega, by omega⟩ dL_law_1586 (fun q5 n4 hn4 => ?_)
  obtain ⟨x2, s3⟩ := q5
  refine v_istore C [(5, I x2), (0, A w (-101)), (1, A w x), (2, A w m), (3, A w o), (4, I i)] dL_law_1589 (by decide) rfl ?_
  refine v_aload_n C dL_law_1591 rfl (j := 3) rfl ?_
  refine v_aload_n C dL_law_1592 rfl (j := 1) rfl ?_
  refine v_iload C dL_law_1593 (j := 5) rfl ?_
  refine v_iconst C dL_law_1595 ?_
  refine v_iadd C dL_law_1596 ?_
  refine v_sc C S dL_law_1597 (fun x6 => ?_)
  refine v_callV_wI C [I x6] [] (Cee.of (rm := rX8_setScore) tw_1494 tw_9 h9bX8_setScore rfl rfl hRm (Nat.le_of_ble_eq_true rfl) (Nat.le_of_ble_eq_true rfl)) (fun x h => kX8_setScore X.2.1 w P _ h) tw_1491 tw_1492 tw_1493 rfl (ci := 8) rfl (by decide) rfl rfl (Nat.le_of_ble_eq_true rfl) ⟨by omega, by omega⟩ dL_law_1598 (fun q9 => ?_)
  obtain ⟨x7, s8⟩ := q9
  refine v_istore C [(6, I x7), (5, I x2), (0, A w (-101)), (1, A w x), (2, A w m), (3, A w o), (4, I i)] dL_law_1601 (by decide) rfl ?_
  refine v_aload_n C dL_law_1603 rfl (j := 4) rfl ?_
  refine v_callV_rI C [] [] (Cee.of (rm := rX8_thrown) tw_1213 tw_9 h9bX8_thrown rfl rfl hRm (Nat.le_of_ble_eq_true rfl) (Nat.le_of_ble_eq_true rfl)) (fun x h => kX8_thrown X.2.1 w P _ h) tw_1210 tw_1211 tw_1212 rfl (ci := 8) rfl (by decide) rfl rfl (Nat.le_of_ble_eq_true rfl) ⟨by omega, by omega⟩ dL_law_1604 (fun x10 => ?_)
  refine v_iload C dL_law_1607 (j := 1) rfl ?_
  refine v_icmp_eq (tgt := 1614) C dL_law_1609 rfl ?_ v_none
  refine v_iload C dL_law_1614 (j := 1) rfl ?_
  refine v_if_ne (tgt := 1631) C dL_law_1616 rfl ?_ ?_
  · refine v_goto (tgt := 1697) C dL_law_1631 rfl ?_
    refine v_wid (cells + 3) (slots + 18) (by omega) (by omega) ?_
    refine v_sub [(0, A w (-101)), (1, A w x), (2, A w m), (3, A w o), (4, I i)] [2, 3, 4, 5, 6] rfl ?_
    exact hk _ _ hn4
  · refine v_aload_n C dL_law_1619 rfl (j := 5) rfl ?_
    refine v_iconst C dL_law_1620 ?_
    refine v_lald C dL_law_1621 (fun x13 => ?_)
    refine v_iload C dL_law_1622 (j := 0) rfl ?_
    refine v_i2l C dL_law_1624 (fun x14 => ?_)
    refine v_lcmp C dL_law_1625 (fun x15 => ?_)
    refine v_if_eq (tgt := 1631) C dL_law_1626 rfl ?_ v_none
    refine v_goto (tgt := 1697) C dL_law_1631 rfl ?_
    refine v_wid (cells + 3) (slots + 18) (by omega) (by omega) ?_
    refine v_sub [(0, A w (-101)), (1, A w x), (2, A w m), (3, A w o), (4, I i)] [2, 3, 4, 5, 6] rfl ?_
    exact hk _ _ hn4
theorem vc_25 {X : Cxt} {w : Wd} {ret : Option FieldType} {P : Shp} {n cells slots b L : Nat} {xs : Nat → Int32} {s : St} {x m o i : Int} {kE : St → Option Unit} (hst : X.2.1.stackTraces = false) (C : Cok X w cL_law 9 RL ret) (S : LX X w b L xs) (hRm : X.2.2.2.1 = room_1) (hB : cells + 3 ≤ 601024 ∧ slots + 18 ≤ 7293034) (hk : ∀ (n' : Nat) (σ' : St), n ≤ n' → V X w 9 P n' (cells + 3) (slots + 18) () (kE σ') σ' 1697 [(0, A w (-101)), (1, A w x), (2, A w m), (3, A w o), (4, I i)] []) : V X w 9 P n cells slots () (fc_25 P L xs s x m o i kE) s 1634 [(0, A w (-101)), (1, A w x), (2, A w m), (3, A w o), (4, I i)] [] := by
  have hC9 : X.2.2.2.1.cells = 601024 := by rw [hRm]; rfl
  have hS9 : X.2.2.2.1.slots = 7293034 := by rw [hRm]; rfl
  unfold fc_25
  refine v_aload_n C dL_law_1634 rfl (j := 1) rfl ?_
  refine v_callV_wI C [] [] (Cee.of (rm := rX7_undo) tw_422 tw_1 h9bX7_undo rfl rfl hRm (Nat.le_of_ble_eq_true rfl) (Nat.le_of_ble_eq_true rfl)) (fun x h => kX7_undo X.2.1 w P _ h) tw_419 tw_420 tw_421 rfl (ci := 7) rfl (by decide) rfl rfl (Nat.le_of_ble_eq_true rfl) ⟨by omega, by omega⟩ dL_law_1635 (fun q3 => ?_)
  obtain ⟨x1, s2⟩ := q3
  refine v_aload_n C dL_law_1638 rfl (j := 2) rfl ?_
  refine v_callV_wI C [] [I x1] (Cee.of (rm := rX8_undo) tw_1498 tw_9 h9bX8_undo rfl rfl hRm (Nat.le_of_ble_eq_true rfl) (Nat.le_of_ble_eq_true rfl)) (fun x h => kX8_undo X.2.1 w P _ h) tw_1495 tw_1496 tw_1497 rfl (ci := 8) rfl (by decide) rfl rfl (Nat.le_of_ble_eq_true rfl) ⟨by omega, by omega⟩ dL_law_1639 (fun q6 => ?_)
  obtain ⟨x4, s5⟩ := q6
  refine v_icmp_eq (tgt := 1697) C dL_law_1642 rfl ?_ v_none
  refine v_wid (cells + 3) (slots + 18) (by omega) (by omega) ?_
  exact hk _ _ (Nat.le_refl _)
theorem vc_26 {X : Cxt} {w : Wd} {ret : Option FieldType} {P : Shp} {n cells slots b L : Nat} {xs : Nat → Int32} {s : St} {x m o i : Int} {kE : St → Option Unit} (hst : X.2.1.stackTraces = false) (C : Cok X w cL_law 9 RL ret) (S : LX X w b L xs) (hRm : X.2.2.2.1 = room_1) (hB : cells + 3 ≤ 601024 ∧ slots + 18 ≤ 7293034) (hk : ∀ (n' : Nat) (σ' : St), n ≤ n' → V X w 9 P n' (cells + 3) (slots + 18) () (kE σ') σ' 1697 [(0, A w (-101)), (1, A w x), (2, A w m), (3, A w o), (4, I i)] []) : V X w 9 P n cells slots () (fc_26 P L xs s x m o i kE) s 1647 [(0, A w (-101)), (1, A w x), (2, A w m), (3, A w o), (4, I i)] [] := by
  have hC9 : X.2.2.2.1.cells = 601024 := by rw [hRm]; rfl
  have hS9 : X.2.2.2.1.slots = 7293034 := by rw [hRm]; rfl
  unfold fc_26
  refine v_aload_n C dL_law_1647 rfl (j := 1) rfl ?_
  refine v_aload_n C dL_law_1648 rfl (j := 0) rfl ?_
  refine v_iload C dL_law_1649 (j := 4) rfl ?_
  refine v_iconst C dL_law_1651 ?_
  refine v_iadd C dL_law_1652 ?_
  refine v_sc C S dL_law_1653 (fun x1 => ?_)
  refine v_callV_wI C [I x1] [] (Cee.of (rm := rX7_saveSnapshot) tw_450 tw_1 h9bX7_saveSnapshot rfl rfl hRm (Nat.le_of_ble_eq_true rfl) (Nat.le_of_ble_eq_true rfl)) (fun x h => kX7_saveSnapshot X.2.1 w P _ h) tw_447 tw_448 tw_449 rfl (ci := 7) rfl (by decide) rfl rfl (Nat.le_of_ble_eq_true rfl) ⟨by omega, by omega⟩ dL_law_1654 (fun q4 => ?_)
  obtain ⟨x2, s3⟩ := q4
  refine v_aload_n C dL_law_1657 rfl (j := 2) rfl ?_
  refine v_aload_n C dL_law_1658 rfl (j := 0) rfl ?_
  refine v_iload C dL_law_1659 (j := 4) rfl ?_
  refine v_iconst C dL_law_1661 ?_
  refine v_iadd C dL_law_1662 ?_
  refine v_sc C S dL_law_1663 (fun x5 => ?_)
  refine v_callV_wI C [I x5] [I x2] (Cee.of (rm := rX8_saveSnapshot) tw_1502 tw_9 h9bX8_saveSnapshot rfl rfl hRm (Nat.le_of_ble_eq_true rfl) (Nat.le_of_ble_eq_true rfl)) (fun x h => kX8_saveSnapshot X.2.1 w P _ h) tw_1499 tw_1500 tw_1501 rfl (ci := 8) rfl (by decide) rfl rfl (Nat.le_of_ble_eq_true rfl) ⟨by omega, by omega⟩ dL_law_1664 (fun q8 => ?_)
  obtain ⟨x6, s7⟩ := q8
  refine v_icmp_eq (tgt := 1697) C dL_law_1667 rfl ?_ v_none
  refine v_wid (cells + 3) (slots + 18) (by omega) (by omega) ?_
  exact hk _ _ (Nat.le_refl _)
theorem vc_27 {X : Cxt} {w : Wd} {ret : Option FieldType} {P : Shp} {n cells slots b L : Nat} {xs : Nat → Int32} {s : St} {x m o i : Int} {kE : St → Option Unit} (hst : X.2.1.stackTraces = false) (C : Cok X w cL_law 9 RL ret) (S : LX X w b L xs) (hRm : X.2.2.2.1 = room_1) (hB : cells + 3 ≤ 601024 ∧ slots + 18 ≤ 7293034) (hk : ∀ (n' : Nat) (σ' : St), n ≤ n' → V X w 9 P n' (cells + 3) (slots + 18) () (kE σ') σ' 1697 [(0, A w (-101)), (1, A w x), (2, A w m), (3, A w o), (4, I i)] []) : V X w 9 P n cells slots () (fc_27 P L xs s x m o i kE) s 1672 [(0, A w (-101)), (1, A w x), (2, A w m), (3, A w o), (4, I i)] [] := by
  have hC9 : X.2.2.2.1.cells = 601024 := by rw [hRm]; rfl
  have hS9 : X.2.2.2.1.slots = 7293034 := by rw [hRm]; rfl
  unfold fc_27
  refine v_aload_n C dL_law_1672 rfl (j := 1) rfl ?_
  refine v_aload_n C dL_law_1673 rfl (j := 0) rfl ?_
  refine v_iload C dL_law_1674 (j := 4) rfl ?_
  refine v_iconst C dL_law_1676 ?_
  refine v_iadd C dL_law_1677 ?_
  refine v_sc C S dL_law_1678 (fun x1 => ?_)
  refine v_callV_wI C [I x1] [] (Cee.of (rm := rX7_restoreSnapshot) tw_455 tw_1 h9bX7_restoreSnapshot rfl rfl hRm (Nat.le_of_ble_eq_true rfl) (Nat.le_of_ble_eq_true rfl)) (fun x h => kX7_restoreSnapshot X.2.1 w P _ h) tw_452 tw_453 tw_454 rfl (ci := 7) rfl (by decide) rfl rfl (Nat.le_of_ble_eq_true rfl) ⟨by omega, by omega⟩ dL_law_1679 (fun q4 => ?_)
  obtain ⟨x2, s3⟩ := q4
  refine v_aload_n C dL_law_1682 rfl (j := 2) rfl ?_
  refine v_aload_n C dL_law_1683 rfl (j := 0) rfl ?_
  refine v_iload C dL_law_1684 (j := 4) rfl ?_
  refine v_iconst C dL_law_1686 ?_
  refine v_iadd C dL_law_1687 ?_
  refine v_sc C S dL_law_1688 (fun x5 => ?_)
  refine v_callV_wI C [I x5] [I x2] (Cee.of (rm := rX8_restoreSnapshot) tw_1506 tw_9 h9bX8_restoreSnapshot rfl rfl hRm (Nat.le_of_ble_eq_true rfl) (Nat.le_of_ble_eq_true rfl)) (fun x h => kX8_restoreSnapshot X.2.1 w P _ h) tw_1503 tw_1504 tw_1505 rfl (ci := 8) rfl (by decide) rfl rfl (Nat.le_of_ble_eq_true rfl) ⟨by omega, by omega⟩ dL_law_1689 (fun q8 => ?_)
  obtain ⟨x6, s7⟩ := q8
  refine v_icmp_eq (tgt := 1697) C dL_law_1692 rfl ?_ v_none
  refine v_wid (cells + 3) (slots + 18) (by omega) (by omega) ?_
  exact hk _ _ (Nat.le_refl _)
