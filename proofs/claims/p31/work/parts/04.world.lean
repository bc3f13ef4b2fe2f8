/-! WHAT IS KNOWN OF THE MACHINE'S TABLES in every state; the words; the judgement V over the number heap. -/
section VW
def nS : Nat := 25
def txS : List String := ["hub", "pattern", "device", "stream", "alarm", "heir", "crc", "stall", "jitter", "power", "hub ", " 5;", "pattern p", " ", " crc", " stall", " jitter", " power", ";", "device d", " heir d", "stream s", " d", "alarm ", " 40;"]
def lenS : List Nat := [3, 7, 6, 6, 5, 4, 3, 5, 6, 5, 4, 3, 9, 1, 4, 6, 7, 6, 1, 8, 7, 8, 2, 6, 4]
def bytS : List (List Int32) := [[104, 117, 98], [112, 97, 116, 116, 101, 114, 110], [100, 101, 118, 105, 99, 101], [115, 116, 114, 101, 97, 109], [97, 108, 97, 114, 109], [104, 101, 105, 114], [99, 114, 99], [115, 116, 97, 108, 108], [106, 105, 116, 116, 101, 114], [112, 111, 119, 101, 114], [104, 117, 98, 32], [32, 53, 59], [112, 97, 116, 116, 101, 114, 110, 32, 112], [32], [32, 99, 114, 99], [32, 115, 116, 97, 108, 108], [32, 106, 105, 116, 116, 101, 114], [32, 112, 111, 119, 101, 114], [59], [100, 101, 118, 105, 99, 101, 32, 100], [32, 104, 101, 105, 114, 32, 100], [115, 116, 114, 101, 97, 109, 32, 115], [32, 100], [97, 108, 97, 114, 109, 32], [32, 52, 48, 59]]
/-- the literals: class, entry, text, its number (10 and on: texts of exceptions) -/
def strs : List (String × Nat × String × Nat) := [("ForesightHub", 118, "no such number", 25), ("ForesightHub", 304, "no such device", 26), ("ForesightHub", 161, "no such property of a device", 27), ("ForesightHubLaw", 29, "hub ", 10), ("ForesightHubLaw", 38, " 5;", 11), ("ForesightHubLaw", 43, "pattern p", 12), ("ForesightHubLaw", 48, " ", 13), ("ForesightHubLaw", 15, " crc", 14), ("ForesightHubLaw", 17, " stall", 15), ("ForesightHubLaw", 19, " jitter", 16), ("ForesightHubLaw", 21, " power", 17), ("ForesightHubLaw", 54, ";", 18), ("ForesightHubLaw", 56, "device d", 19), ("ForesightHubLaw", 58, " heir d", 20), ("ForesightHubLaw", 60, "stream s", 21), ("ForesightHubLaw", 62, " d", 22), ("ForesightHubLaw", 64, "alarm ", 23), ("ForesightHubLaw", 66, " 40;", 24), ("ForesightHub", 55, "no such length of the text", 28), ("ForesightHub$Reader", 81, "hub", 0), ("ForesightHub$Reader", 104, "pattern", 1), ("ForesightHub$Reader", 189, "crc", 6), ("ForesightHub$Reader", 191, "stall", 7), ("ForesightHub$Reader", 193, "jitter", 8), ("ForesightHub$Reader", 195, "power", 9), ("ForesightHub$Reader", 109, "device", 2), ("ForesightHub$Reader", 163, "heir", 5), ("ForesightHub$Reader", 114, "stream", 3), ("ForesightHub$Reader", 119, "alarm", 4), ("ForesightHub", 311, "no such kind of error", 29), ("ForesightHub", 313, "the device is not plugged in", 30), ("ForesightHub", 309, "no such port", 31), ("ForesightHub", 283, "the device is plugged in already", 32), ("ForesightHub", 285, "another device is at the port", 33), ("ForesightHub", 270, "the device is not in alarm", 34), ("ForesightHub", 243, "no such number of frames", 35), ("ForesightHub", 307, "no such stream", 36), ("ForesightHub", 187, "no such property of a stream", 37), ("ForesightHub", 238, "no such account", 38), ("ForesightHub", 261, "the device is in alarm already", 39)]
def nests : List (String × Nat × MethodName × String) := [("ForesightHub", 9, ⟨"ForesightHub$Reader", "<init>", "()V"⟩, "ForesightHub"), ("ForesightHub$Hub", 20, ⟨"ForesightHub$State", "<init>", "()V"⟩, "ForesightHub"), ("ForesightHub$State", 33, ⟨"ForesightHub$ErrorBook", "<init>", "()V"⟩, "ForesightHub"), ("ForesightHub$State", 40, ⟨"ForesightHub$Log", "<init>", "()V"⟩, "ForesightHub"), ("ForesightHub$History", 15, ⟨"ForesightHub$State", "<init>", "()V"⟩, "ForesightHub"), ("ForesightHub", 40, ⟨"ForesightHub$State", "<init>", "()V"⟩, "ForesightHub")]
def decls : List MethodName := [⟨"java/lang/RuntimeException", "<init>", "()V"⟩, ⟨"java/lang/RuntimeException", "<init>", "(Ljava/lang/String;)V"⟩, ⟨"java/lang/Exception", "<init>", "()V"⟩, ⟨"java/lang/Exception", "<init>", "(Ljava/lang/String;)V"⟩, ⟨"java/lang/Throwable", "<init>", "()V"⟩, ⟨"java/lang/Throwable", "<init>", "(Ljava/lang/String;)V"⟩]
def casts : List (String × String) := [("java/lang/IllegalArgumentException", "java/lang/IllegalArgumentException"), ("java/lang/IndexOutOfBoundsException", "java/lang/IndexOutOfBoundsException"), ("java/lang/IllegalStateException", "java/lang/IllegalStateException")]
def ncs : List (String × String) := [("java/lang/IndexOutOfBoundsException", "java/lang/IllegalArgumentException"), ("java/lang/IllegalStateException", "java/lang/IllegalArgumentException")]
def bads : List Cond := decls.map Cond.declares ++ casts.map (fun q => Cond.castable q.1 q.2)
/-- the digits' tables -/
def dgO (j : Nat) : Value := .int (Int32.ofNat (48 + j % 10))
def dgT (j : Nat) : Value := .int (Int32.ofNat (48 + j / 10))
def Ks (w : Wd) (U : State) : Prop :=
  va_K (wD w) vwCl (wT w) U ∧ vk_S nS lenS bytS w.2.1 w.2.2.1 (wA w) U w.1 ∧ vx_Zq Bundle.tN "UNASSIGNED_STACK" Bundle.steD (wA w) U w.1 ∧ vx_Zq Bundle.tN "SUPPRESSED_SENTINEL" Bundle.listD (wA w) U w.1 ∧ va_Z "java/lang/String" "COMPACT_STRINGS" "Z" (.int 1) (wA w) U w.1 ∧
  (∀ q ∈ strs, vk_R q.1 q.2.1 q.2.2.1 (w.2.1 q.2.2.2) U) ∧ (∀ q ∈ nests, va_Nw (.methodLinkNest q.1 q.2.1 q.2.2.1 q.2.2.2) U) ∧ va_AO RX6 U ∧
  (∀ x ∈ decls, va_Nw (.declares x) U) ∧ (∀ q ∈ casts, va_Nw (.castable q.1 q.2) U) ∧ (∀ q ∈ ncs, va_Nc q.1 q.2 U) ∧ va_Zq "jdk/internal/util/Preconditions" "SIOOBE_FORMATTER" "Ljava/util/function/BiFunction;" (wA w) U w.1 ∧
  va_X (w.2.1 99) (wL w) (wX w) U w.1 ∧ w.2.1 99 < w.1.size ∧ wL w ≤ 260 ∧ va_Z "java/lang/Integer" "DigitOnes" "[B" (.ref (w.2.1 100)) (wA w) U w.1 ∧ va_Z "java/lang/Integer" "DigitTens" "[B" (.ref (w.2.1 101)) (wA w) U w.1 ∧ va_T .byte (w.2.1 100) 100 dgO (wA w) U w.1 ∧ va_T .byte (w.2.1 101) 100 dgT (wA w) U w.1
theorem Ks.warm {w : Wd} {s U : State} (hW : s.WarmedH U.vm) (h : Ks w s) : Ks w U := by
  obtain ⟨h1, h2, h3, h4, h5, h6, h7, h8, h9, h10, h11, h12, h13, h14, h15, h16, h17, h18, h19⟩ := h
  exact ⟨h1.moved hW.alike, h2.moved hW.alike, h3.moved hW.alike, h4.moved hW.alike, h5.moved hW.alike, fun q hq => (h6 q hq).warm hW, fun q hq => (h7 q hq).warmM hW, h8.moved hW.alike, fun x hx => (h9 x hx).warmD hW, fun q hq => (h10 q hq).warmC hW, fun q hq => (h11 q hq).moved hW.alike, h12.moved hW.alike, h13.moved hW.alike, h14, h15, h16.moved hW.alike, h17.moved hW.alike, h18.moved hW.alike, h19.moved hW.alike⟩
theorem Ks.same {w : Wd} {u U : State} (hv : U.vm = u.vm) (h : Ks w u) : Ks w U := by
  obtain ⟨h1, h2, h3, h4, h5, h6, h7, h8, h9, h10, h11, h12, h13, h14, h15, h16, h17, h18, h19⟩ := h
  have ha : u.vm.Alike U.vm := by rw [hv]; exact Vm.Alike.refl _
  exact ⟨h1.moved ha, h2.moved ha, h3.moved ha, h4.moved ha, h5.moved ha, fun q hq => (h6 q hq).same hv, fun q hq => va_Nw.same rfl hv.symm (h7 q hq), h8.moved ha, fun x hx => va_Nw.same rfl hv.symm (h9 x hx), fun q hq => va_Nw.same rfl hv.symm (h10 q hq), fun q hq => (h11 q hq).moved ha, h12.moved ha, h13.moved ha, h14, h15, h16.moved ha, h17.moved ha, h18.moved ha, h19.moved ha⟩
theorem Ks.bad {w : Wd} {U : State} {args : Array Value} (h : Ks w U) : ∀ v ∈ bads, v.before args U = true := fun v hv => by
  rcases List.mem_append.mp hv with h1 | h1
  · obtain ⟨x, hx, rfl⟩ := List.mem_map.mp h1
    exact va_Nw.use rfl (h.2.2.2.2.2.2.2.2.1 x hx)
  · obtain ⟨q, hq, rfl⟩ := List.mem_map.mp h1
    exact va_Nw.use rfl (h.2.2.2.2.2.2.2.2.2.1 q hq)
theorem TB_good {ws : List Cond} (h : ∀ w ∈ ws, w ∈ TB) : GoodIn TB ws := fun w hw => ⟨h w hw, good_of_word (List.mem_filter.mp (h w hw)).2⟩
theorem TB_ws {c : Cond} (h : c ∈ TB) : ∀ w ∈ c :: TB, w ∈ TB := fun w hw => (List.mem_cons.mp hw).elim (fun e => e ▸ h) id
theorem TB_wsV {own C : String} {idx : Nat} {y : MethodName} {c : Cond} (h1 : Cond.methodLink own idx y ∈ TB) (h2 : Cond.instanceMethod y ∈ TB) (h3 : Cond.selects C y y ∈ TB) (h4 : Cond.initialized C ∈ TB) (h5 : c ∈ TB) : GoodIn TB (wsV own idx C y (c :: TB)) := TB_good fun w hw => by
  rcases List.mem_append.mp hw with h | h
  · simp only [List.mem_cons, List.not_mem_nil, or_false] at h
    rcases h with rfl | rfl | rfl | rfl <;> assumption
  · exact TB_ws h5 w h
theorem TB_wsS {own : String} {idx : Nat} {y : MethodName} {c : Cond} (h1 : Cond.methodLink own idx y ∈ TB) (h2 : Cond.static y ∈ TB) (h4 : Cond.initialized own ∈ TB) (h5 : c ∈ TB) : GoodIn TB (wsS own idx y (c :: TB)) := TB_good fun w hw => by
  rcases List.mem_append.mp hw with h | h
  · simp only [List.mem_cons, List.not_mem_nil, or_false] at h
    rcases h with rfl | rfl | rfl <;> assumption
  · exact TB_ws h5 w h
/-- a run's fixed things: program, launch, environment, room, the state at the entry, method, arguments, what lies below, the method's row, its code, what is owed -/
abbrev Cxt : Type := Program × Launch × Env × Room × State × MethodId × Array Value × List Frame × Method × Code × (State → Prop)
def Wx (X : Cxt) (H : Heap) (locs : List Loc) (cells slots : Nat) (g : JFrame) : Prop :=
  W X.1 X.2.1 X.2.2.1 X.2.2.2.1 X.2.2.2.2.1 X.2.2.2.2.2.1 X.2.2.2.2.2.2.1 X.2.2.2.2.2.2.2.1 X.2.2.2.2.2.2.2.2.1 X.2.2.2.2.2.2.2.2.2.1 H locs cells slots X.2.2.2.2.2.2.2.2.2.2 g
/-- what a body knows: exec, code, locals, class, words, tables, the answer's type, no lock -/
def Cok (X : Cxt) (w : Wd) (cc : ByteArray) (nL : Nat) (own : String) (ret : Option FieldType) : Prop :=
  CallFix X.1 X.2.2.2.2.2.1 X.2.2.2.2.2.2.2.2.2.1 cc nL X.2.2.2.2.1 X.2.2.2.2.2.2.1 TB own ∧ Ks w X.2.2.2.2.1 ∧ X.2.2.2.2.2.2.2.2.1.sig.returnType = ret ∧ X.2.2.2.2.2.2.2.2.1.locks = false ∧ (∀ q : Nat, q < w.1.size → X.2.2.2.2.1.heap[q]? = w.1[q]?) ∧ w.1.size ≤ X.2.2.2.2.1.heap.size
/-- THE JUDGEMENT: if the function K answers res, the machine, at pc with these locals and this stack over the heap that σ tells, comes to what is owed -/
def V (X : Cxt) (w : Wd) (nL : Nat) (P : Shp) (n cells slots : Nat) {α : Type} (res : α) (K : Option α) (σ : St) (pc : Nat) (lv : List (Nat × Value)) (st : List Value) : Prop :=
  ∀ (H : Heap) (locs : List Loc) (ls : Array Slot), Rep w P n σ H → va_S (wA w) X.2.2.2.2.1.heap H locs → lv_has ls nL lv → K = some res → Wx X H locs cells slots (F0 X.2.2.2.2.2.1 pc ls st)
theorem Cok.frame {X : Cxt} {w : Wd} {cc nL own ret} (C : Cok X w cc nL own ret) {H : Heap} {P : Shp} {n : Nat} {σ : St} (hR : Rep w P n σ H) : ∀ q : Nat, q < w.1.size → H[q]? = X.2.2.2.2.1.heap[q]? := fun q hq => (hR.2.1 q hq).trans (C.2.2.2.2.1 q hq).symm
end VW
