/-! BITS of at most five streams. -/
section ZP4
variable {t f f' f2 a g : Int → Int} {B : Int} {d k p kind who m h j x y i v w s : Int} {n : Nat} {b c : Int → Bool}
def B5 (b0 b1 b2 b3 b4 : Bool) : Int := ior (ior (ior (ior (ior 0 (bt b0 0)) (bt b1 1)) (bt b2 2)) (bt b3 3)) (bt b4 4)
set_option maxRecDepth 1000000 in
theorem bits5or : ∀ b0 b1 b2 b3 b4 c0 c1 c2 c3 c4 : Bool, ior (B5 b0 b1 b2 b3 b4) (B5 c0 c1 c2 c3 c4) = B5 (b0 || c0) (b1 || c1) (b2 || c2) (b3 || c3) (b4 || c4) := by
  decide +kernel
set_option maxRecDepth 1000000 in
theorem bits5and : ∀ b0 b1 b2 b3 b4 c0 c1 c2 c3 c4 : Bool, (b0 && c0 || (b1 && c1 || (b2 && c2 || (b3 && c3 || b4 && c4)))) = false → iand (B5 b0 b1 b2 b3 b4) (B5 c0 c1 c2 c3 c4) = 0 := by
  decide +kernel
theorem bits_5 (hn : n ≤ 5) : bitsF b n = B5 (b 0 && decide ((0 : Int) < n)) (b 1 && decide ((1 : Int) < n)) (b 2 && decide ((2 : Int) < n)) (b 3 && decide ((3 : Int) < n)) (b 4 && decide ((4 : Int) < n)) := by
  have e := bitsF_ext b n (5 - n)
  rw [show n + (5 - n) = 5 by omega] at e
  rw [← e]
  rfl
theorem bits_or (hn : n ≤ 5) : ior (bitsF b n) (bitsF c n) = bitsF (fun k => b k || c k) n := by
  rw [bits_5 hn, bits_5 hn, bits_5 hn, bits5or]
  simp only [Bool.and_or_distrib_right]
theorem bits_and (hn : n ≤ 5) (h : ∀ k, (b k && c k) = false) : iand (bitsF b n) (bitsF c n) = 0 := by
  rw [bits_5 hn, bits_5 hn]
  apply bits5and
  have z : ∀ (k : Int) (q : Bool), (b k && q && (c k && q)) = false := fun k q => by
    have := h k
    cases h1 : b k <;> cases h2 : c k <;> simp_all
  rw [z, z, z, z, z]
  rfl
/-- held by a device ahead of d -/
def hdU (f : Int → Int) (d k : Int) : Bool := decide (f (238 + 3 * k) ≠ 0 ∧ f (238 + 3 * k + 1) < d)
theorem hdU_s (k : Int) : hdU f (d + 1) k = (hdU f d k || hdF f k d) := by
  unfold hdU hdF
  rw [← Bool.decide_or]
  exact decide_eq_decide.mpr (by omega)
theorem hdU_d (k : Int) : (hdU f d k && hdF f k d) = false := by
  unfold hdU hdF
  rw [← Bool.decide_and]
  exact decide_eq_false (by omega)
def ruF (t f : Int → Int) (d : Int) : Int := forI (fun k a => a + (if hdU f d k = true then t (71 + 3 * k + 1) else 0)) (t 2).toNat 0
theorem ruF_s : ruF t f (d + 1) = ruF t f d + hrF t f d := by
  unfold ruF hrF
  rw [← sumI_add]
  refine sumI_eq fun k _ _ => ?_
  rw [hdU_s]
  have := hdU_d (f := f) (d := d) k
  cases h1 : hdU f d k <;> cases h2 : hdF f k d <;> simp_all
theorem ruF_in (T : TV t) : 0 ≤ ruF t f d ∧ ruF t f d ≤ 11988 := by
  have n2 := T.n2
  have hN := T.n2N
  unfold ruF
  have key := forI_inv (F := fun k a => a + (if hdU f d k = true then t (71 + 3 * k + 1) else 0)) (N := (t 2).toNat) (a := 0) (I := fun k a => 0 ≤ a ∧ a ≤ 999 * (k : Int)) (fun k a hk hI => by
    have r := T.ra (k : Int) (by omega) (by omega)
    split <;> (constructor <;> push_cast <;> omega)) ⟨by omega, by omega⟩
  omega
theorem ruF_e (T : TV t) (hh : ∀ k, 0 ≤ k → k < t 2 → f (238 + 3 * k) ≠ 0 → f (238 + 3 * k + 1) < t 1) : ruF t f (t 1) = resvF t f := by
  have hN := T.n2N
  unfold ruF
  rw [resvF_s]
  refine sumI_eq fun k k0 k1 => ?_
  unfold rsv hdU
  by_cases c : f (238 + 3 * k) = 0
  · rw [if_pos c, decide_eq_false (by omega)]; rfl
  · rw [if_neg c, decide_eq_true ⟨c, hh k k0 (by omega) c⟩]; rfl
theorem ruF_0 (T : TV t) (hh : ∀ k, 0 ≤ k → k < t 2 → f (238 + 3 * k) ≠ 0 → 0 ≤ f (238 + 3 * k + 1)) : ruF t f 0 = 0 := by
  have hN := T.n2N
  unfold ruF
  exact forI_inv (F := fun k b => b + (if hdU f 0 k = true then t (71 + 3 * k + 1) else 0)) (N := (t 2).toNat) (a := 0) (I := fun _ b => b = 0) (fun n b hn hb => by
    subst hb
    have q := hh (n : Int) (by omega) (by omega)
    have : hdU f 0 (n : Int) = false := decide_eq_false (by omega)
    simp only [this, Bool.false_eq_true, if_false]
    rfl) rfl
theorem buF_0 (hh : ∀ k, 0 ≤ k → k < (n : Int) → f (238 + 3 * k) ≠ 0 → 0 ≤ f (238 + 3 * k + 1)) : bitsF (hdU f 0) n = 0 := by
  unfold bitsF
  exact forI_inv (F := fun k b => ior b (bt (hdU f 0 k) k)) (N := n) (a := 0) (I := fun _ b => b = 0) (fun n b hn hb => by
    subst hb
    have q := hh (n : Int) (by omega) (by omega)
    have : hdU f 0 (n : Int) = false := decide_eq_false (by omega)
    simp only [this, bt, Bool.false_eq_true, if_false]
    rfl) rfl
theorem hdF_p (H : HV t f) (hp : f (14 + 28 * d + 0) = -1) : ∀ k, 0 ≤ k → k < t 2 → hdF f k d = false := fun k k0 k1 => by
  refine decide_eq_false fun q => ?_
  have := H.2 k k0 k1 q.1
  rw [q.2] at this
  exact this.2.2 hp
end ZP4
