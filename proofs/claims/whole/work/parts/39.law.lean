/-! fLaw OVER THE CONSTRUCTORS' OUTCOME: what is owed, said of the loop from one fixed start. -/
theorem fLaw_of {L : Nat} {xs : Nat → Int32} (h : ∀ (P : Shp) (σ : St), iCh = some (P, 279, σ, 0, 265, 278) → ShpIs P 279 PL → fLoop P L xs 0 265 278 513 0 σ = some ()) : fLaw L xs (fun _ => none) 0 (fun _ _ => 0) = some () := by
  generalize hG : (fun (P : Shp) (x m o : Int) (s : St) => fLoop P L xs x m o 513 0 s) = G
  have hg : ∀ (P : Shp) (x m o : Int) (s : St), fLoop P L xs x m o 513 0 s = G P x m o s := fun P x m o s => congrFun (congrFun (congrFun (congrFun (congrFun hG P) x) m) o) s
  unfold fLaw
  simp only [hg]
  rw [law_gen fX7_init fX8_init G]
  exact law_fin iCh iChN G fun P σ h1 => (hg P 0 265 278 σ).symm.trans (h P σ h1 (iCh_P h1))
