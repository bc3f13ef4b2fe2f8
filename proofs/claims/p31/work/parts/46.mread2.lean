/-! MORE OF THE REFERENCE'S READERS. -/
section ZH
variable {P : Shp} {σ : St} {t f g : Int → Int} {B : Int} {d k p kind who m h j c x y : Int}
def hdF (f : Int → Int) (k d : Int) : Bool := decide (f (238 + 3 * k) ≠ 0 ∧ f (238 + 3 * k + 1) = d)
def hbF (t f : Int → Int) (d : Int) : Int := forI (fun k a => ior a (if hdF f k d = true then ishl 1 k else 0)) (t 2).toNat 0
def hmF (t f : Int → Int) (d : Int) : Int := forI (fun k a => a + (if hdF f k d = true then 1 else 0)) (t 2).toNat 0
def hrF (t f : Int → Int) (d : Int) : Int := forI (fun k a => a + (if hdF f k d = true then t (71 + 3 * k + 1) else 0)) (t 2).toNat 0
def stF (t f : Int → Int) (d : Int) : Int := forI (fun k a => a + (if hdF f k d = true then f (238 + 3 * k + 2) else 0)) (t 2).toNat 0
def clF (t f : Int → Int) (d : Int) : Int := forI (fun k a => if hdF f k d = true then (if f (238 + 3 * k + 2) = 0 then a else if (t (71 + 3 * k + 2) - f (238 + 3 * k + 2) + t (71 + 3 * k + 1) - 1) / t (71 + 3 * k + 1) ≤ a then a else (t (71 + 3 * k + 2) - f (238 + 3 * k + 2) + t (71 + 3 * k + 1) - 1) / t (71 + 3 * k + 1)) else a) (t 2).toNat 0
def apF (t f : Int → Int) (x : Int) : Int := fstI (fun k => decide (f (14 + 28 * k + 0) = x)) (t 1).toNat 0
def wkF (t f : Int → Int) : Int := forI (fun k a => if f (14 + 28 * k + 0) = -1 then a else if a = -1 then k else if scoF t f k ≤ scoF t f a then a else k) (t 1).toNat (-1)
theorem stF_in (T : TV t) (F : FV B t f g) : 0 ≤ stF t f d ∧ stF t f d ≤ 119988 := by
  have n2 := T.n2
  have hN := T.n2N
  unfold stF
  have key := forI_inv (F := fun k a => a + (if hdF f k d = true then f (238 + 3 * k + 2) else 0)) (I := fun k a => 0 ≤ a ∧ a ≤ 9999 * (k : Int)) (N := (t 2).toNat) (a := 0) (fun k a hk hI => by
    have q1 := F.dn (k : Int) (by omega) (by omega)
    have q2 := T.b (71 + 3 * (k : Int) + 2)
    split <;> (constructor <;> push_cast <;> omega)) ⟨by omega, by omega⟩
  omega
theorem div_in (h0 : 0 ≤ x) (h1 : 1 ≤ y) : 0 ≤ x / y ∧ x / y ≤ x := ⟨Int.ediv_nonneg h0 (by omega), Int.ediv_le_self _ h0⟩
end ZH
