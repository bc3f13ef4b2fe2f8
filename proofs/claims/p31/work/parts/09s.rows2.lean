/-! further rows -/
section VY
variable {X : Cxt} {w : Wd} {cc : ByteArray} {nL : Nat} {own : String} {ret : Option FieldType} {P : Shp} {n cells slots : Nat} {α : Type} {res : α} {K : Option α} {σ : St} {pc : Nat} {lv : List (Nat × Value)} {st : List Value}
def ixor (x y : Int) : Int := b32 (fun a b => a ^^^ b) x y
theorem v_ixor (C : Cok X w cc nL own ret) {x y : Int} (d : decode cc pc = .ok (.ixor, 1)) (k : V X w nL P n cells slots res K σ (pc + 1) lv (I (ixor x y) :: st)) : V X w nL P n cells slots res K σ pc lv (I y :: I x :: st) :=
  fun H locs ls hR hS hl hK => lv_ixor C.1.1 C.1.2.1 d (by have h := k H locs ls hR hS hl hK; unfold I ixor b32 at h; rw [Int32.ofInt_toInt] at h; exact h)
theorem pI {x : Int} {s : St} {r : Int × St} (h : some (x, s) = some r) : x = r.1 ∧ s = r.2 := by cases h; exact ⟨rfl, rfl⟩
theorem pS {x r : Int} {s : St} (h : some x = some r) : x = r ∧ s = s := ⟨Option.some.inj h, rfl⟩
theorem Ct.ofF {l : Launch} {y : MethodName} {cc : ByteArray} {maxL : Nat} {ret : Option FieldType} {rm : Room} {vs : List Value} {Q : Qt} {F : Option α} {lv : List (Nat × Value)} (hF : F = some res) (hy : plainFor y = true) (hlen : (lg_sl vs).length ≤ maxL) (hlv : lv_args 0 vs = lv)
    (body : ∀ X : Cxt, X.2.1 = l → X.2.2.2.1 = rm → Cok X w cc maxL y.cls ret → Own X w 0 0 Q → V X w maxL P n 0 0 res F σ 0 lv []) : Ct l w y cc maxL ret rm P n vs σ Q := by
  refine va_MetF (cc := cc) (maxL := maxL) (ret := ret) hy rfl ?_
  intro p e s m args below meth c s₁ B hml hv
  obtain ⟨rfl, hR, hKs⟩ := hv
  have hts := atoms_spec (ws := Cond.code y cc maxL ret :: TB) B.pre
  have hC : Cok ((p, l, e, rm, s, m, vs.toArray, below, meth, c, MQ below Q vs.toArray s 0 0 (wA w)) : Cxt) w cc maxL y.cls ret :=
    ⟨⟨B.exec, B.bytes, hml, findClass_of_methodNamed B.named, fun w hw => hts w (List.mem_cons_of_mem _ hw)⟩, hKs, B.returns, B.notSynchronized, hR.2.1, by show w.1.size ≤ s.heap.size; rw [hR.1]; exact Nat.le_add_right _ _⟩
  have hl := lv_entry vs (n := maxL) hlen
  rw [hlv] at hl
  have h := body (p, l, e, rm, s, m, vs.toArray, below, meth, c, MQ below Q vs.toArray s 0 0 (wA w)) rfl rfl hC rfl s.heap [] _ hR va_S.rf hl hF
  rw [lg_entry_eq]
  exact h
end VY
