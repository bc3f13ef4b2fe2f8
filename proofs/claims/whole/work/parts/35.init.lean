/-! THE CONSTRUCTORS' OUTCOME, as numbers: the object x is 0, the reference m is 265, the law's long[1] is 278; every thing's shape stands in PL. -/
noncomputable def iCh : Option (Shp × Nat × St × Int × Int × Int) :=
  mkO (fun _ => none) 0 (fun _ _ => 0) 7 fun P n x s => cl (fX7_init P n s x) fun (P, n, s) => mkO P n s 8 fun P n m s => cl (fX8_init P n s m) fun (P, n, s) => mkA P n s 11 1 fun P n o s => some (P, n, s, x, m, o)
def plS : List (Nat × Nat) := [(4, 0), (10, 6), (10, 6), (10, 6), (10, 30), (10, 8), (10, 8), (10, 12), (10, 12), (10, 12)]
def stS : List (Nat × Nat) := [(6, 0), (10, 8), (10, 8), (10, 12), (10, 12), (10, 12), (11, 12), (0, 0), (10, 8), (10, 96), (10, 96), (10, 32), (10, 32), (3, 0), (10, 24), (10, 24), (10, 24), (10, 10)]
def PL : List (Nat × Nat) := [(7, 0), (5, 0), (9, 600)] ++ plS ++ [(11, 6), (11, 8), (11, 12), (2, 0)] ++ plS ++ stS ++ [(1, 0), (13, 10)] ++ (stS ++ stS ++ stS ++ stS ++ stS ++ stS ++ stS ++ stS ++ stS ++ stS) ++ [(13, 2), (12, 2)] ++ (stS ++ stS) ++ [(8, 0), (9, 600), (10, 107), (10, 107), (9, 288), (10, 410), (11, 12), (10, 4100), (11, 120), (10, 820), (11, 24), (12, 2), (10, 28), (11, 1)]
set_option maxRecDepth 1000000 in
theorem iChN : (iCh.map fun q => (q.2.1, q.2.2.2.1, q.2.2.2.2.1, q.2.2.2.2.2)) = some (279, 0, 265, 278) := by decide +kernel
set_option maxRecDepth 1000000 in
theorem iChP : (match iCh with | some (P, _) => (List.range 279).all (fun z => P (z : Int) == PL[z]?) | none => false) = true := by decide +kernel
theorem fLaw_iCh (L : Nat) (xs : Nat → Int32) : fLaw L xs (fun _ => none) 0 (fun _ _ => 0) = iCh.bind fun q => fLoop q.1 L xs q.2.2.2.1 q.2.2.2.2.1 q.2.2.2.2.2 513 0 q.2.2.1 := by
  unfold fLaw iCh mkO
  dsimp only
  cases h1 : fX7_init (al (fun _ => none) 0 7 0) (0 + 1) (nwO (fun _ _ => 0) 0 7) ((0 : Nat) : Int) with
  | none => rfl
  | some r1 =>
    obtain ⟨P1, n1, s1⟩ := r1
    show cl (fX8_init (al P1 n1 8 0) (n1 + 1) (nwO s1 n1 8) (n1 : Int)) _ = (cl (fX8_init (al P1 n1 8 0) (n1 + 1) (nwO s1 n1 8) (n1 : Int)) _).bind _
    cases h2 : fX8_init (al P1 n1 8 0) (n1 + 1) (nwO s1 n1 8) (n1 : Int) with
    | none => rfl
    | some r2 =>
      obtain ⟨P2, n2, s2⟩ := r2
      rfl
/-- what the constructors leave -/
theorem iCh_ok : ∃ (P : Shp) (σ : St), iCh = some (P, 279, σ, 0, 265, 278) ∧ ∀ z : Nat, z < 279 → P (z : Int) = PL[z]? := by
  have hN := iChN
  have hP := iChP
  cases h : iCh with
  | none => rw [h] at hN; cases hN
  | some q =>
    obtain ⟨P, n, σ, x, m, o⟩ := q
    rw [h] at hN hP
    cases hN
    refine ⟨P, σ, rfl, fun z hz => ?_⟩
    have := List.all_eq_true.mp hP z (List.mem_range.mpr hz)
    exact eq_of_beq this
/-- so the law's answer is the loop's, over one fixed table of shapes -/
theorem fLaw_of (R : Shp → St → Prop) (h0 : ∀ P σ, iCh = some (P, 279, σ, 0, 265, 278) → (∀ z : Nat, z < 279 → P (z : Int) = PL[z]?) → R P σ) {L : Nat} {xs : Nat → Int32} (hL : ∀ P σ, R P σ → fLoop P L xs 0 265 278 513 0 σ = some ()) : fLaw L xs (fun _ => none) 0 (fun _ _ => 0) = some () := by
  obtain ⟨P, σ, h1, h2⟩ := iCh_ok
  rw [fLaw_iCh, h1]
  exact hL P σ (h0 P σ h1 h2)
