/-! THE CONSTRUCTORS' OUTCOME, as numbers: the object x is 0, the reference m is 265, the law's long[1] is 278; every thing's shape stands in PL. -/
noncomputable def iCh : Option (Shp × Nat × St × Int × Int × Int) :=
  mkO (fun _ => none) 0 (fun _ _ => 0) 7 fun P n x s => cl (fX7_init P n s x) fun (P, n, s) => mkO P n s 8 fun P n m s => cl (fX8_init P n s m) fun (P, n, s) => mkA P n s 11 1 fun P n o s => some (P, n, s, x, m, o)
set_option maxRecDepth 1000000 in
theorem iChN : (iCh.map fun q => (q.2.1, q.2.2.2.1, q.2.2.2.2.1, q.2.2.2.2.2)) = some (279, 0, 265, 278) := by decide +kernel
