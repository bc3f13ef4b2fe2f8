/-! fLaw OVER THE CONSTRUCTORS' OUTCOME. -/
theorem law_gen {P0 : Shp} {n0 : Nat} {s0 : St} (f7 f8 : Shp → Nat → St → Int → Option Hs) (G : Shp → Int → Int → Int → St → Option Unit) :
    (mkO P0 n0 s0 7 fun P n x s => cl (f7 P n s x) fun (P, n, s) => mkO P n s 8 fun P n m s => cl (f8 P n s m) fun (P, n, s) => mkA P n s 11 1 fun P n o s => G P x m o s) =
    (mkO P0 n0 s0 7 fun P n x s => cl (f7 P n s x) fun (P, n, s) => mkO P n s 8 fun P n m s => cl (f8 P n s m) fun (P, n, s) => mkA P n s 11 1 fun P n o s => some (P, n, s, x, m, o)).bind fun q => G q.1 q.2.2.2.1 q.2.2.2.2.1 q.2.2.2.2.2 q.2.2.1 := by
  unfold mkO
  dsimp only
  cases f7 (al P0 n0 7 0) (n0 + 1) (nwO s0 n0 7) (n0 : Int) with
  | none => rfl
  | some q =>
    obtain ⟨P1, n1, s1⟩ := q
    dsimp only [cl]
    cases f8 (al P1 n1 8 0) (n1 + 1) (nwO s1 n1 8) (n1 : Int) with
    | none => rfl
    | some q => rfl
theorem law_fin (c : Option (Shp × Nat × St × Int × Int × Int)) (hN : (c.map fun q => (q.2.1, q.2.2.2.1, q.2.2.2.2.1, q.2.2.2.2.2)) = some (279, 0, 265, 278)) (G : Shp → Int → Int → Int → St → Option Unit) (h : ∀ (P : Shp) (σ : St), c = some (P, 279, σ, 0, 265, 278) → G P 0 265 278 σ = some ()) : (c.bind fun q => G q.1 q.2.2.2.1 q.2.2.2.2.1 q.2.2.2.2.2 q.2.2.1) = some () := by
  cases c with
  | none => cases hN
  | some q =>
    obtain ⟨P, n, σ, x, m, o⟩ := q
    simp only [Option.map_some, Option.some.injEq, Prod.mk.injEq] at hN
    obtain ⟨h1, h2, h3, h4⟩ := hN
    subst h1 h2 h3 h4
    exact h P σ rfl
