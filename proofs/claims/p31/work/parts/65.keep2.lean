/-! THE REFERENCE KEEPS; the relation after a change. -/
section ZZ1
variable {P : Shp} {σ σ' σ1 σ2 σ3 σ4 σ5 s : St} {t f f' f2 g g' : Int → Int} {B B' : Int} {a b b' d k p q kind who m h j c x y i v w part N K D : Int} {n : Nat}
theorem SP.fr (S : SP σ b) (e : ∀ o, b ≤ o → o ≤ b + 17 → σ' o = σ o) : SP σ' b := by
  unfold SP at S ⊢
  rw [e b (by omega) (by omega), e (b + 7) (by omega) (by omega), e (b + 13) (by omega) (by omega)]
  exact S
theorem PP.fr (S : PP σ p) (e : σ' p = σ p) : PP σ' p := by
  unfold PP at S ⊢
  rw [e]
  exact S
end ZZ1
