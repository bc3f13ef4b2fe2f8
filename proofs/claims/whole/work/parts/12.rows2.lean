/-! further rows -/
section VY
variable {X : Cxt} {w : Wd} {cc : ByteArray} {nL : Nat} {own : String} {ret : Option FieldType} {P : Shp} {n cells slots : Nat} {α : Type} {res : α} {K : Option α} {σ : St} {pc : Nat} {lv : List (Nat × Value)} {st : List Value}
def ixor (x y : Int) : Int := b32 (fun a b => a ^^^ b) x y
theorem v_ixor (C : Cok X w cc nL own ret) {x y : Int} (d : decode cc pc = .ok (.ixor, 1)) (k : V X w nL P n cells slots res K σ (pc + 1) lv (I (ixor x y) :: st)) : V X w nL P n cells slots res K σ pc lv (I y :: I x :: st) :=
  fun H locs ls hR hS hl hK => lv_ixor C.1.1 C.1.2.1 d (by have h := k H locs ls hR hS hl hK; unfold I ixor b32 at h; rw [Int32.ofInt_toInt] at h; exact h)
end VY
