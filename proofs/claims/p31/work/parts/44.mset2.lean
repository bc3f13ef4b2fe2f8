/-! THE REFERENCE SETTLES, the loops. -/
section ZF
variable {P : Shp} {σ : St} {t f g : Int → Int} {B : Int} {d k kind who m h j : Int}
theorem FV.seH (F : FV B t f g) (T : TV t) (h0 : 0 ≤ k) (h1 : k < t 2) (hh : f (238 + 3 * k) ≠ 0) (h4 : 12 ≤ B) (hB : B < 2000000000) : FV (B + 1) t (seHF t f k) g := by
  have n2 := T.n2
  have n1 := T.n1
  have w := wantF_in (f := f) T h0 h1
  have F1 := F.mod T h0 h1 hh (Or.inr rfl) h4
  unfold seHF
  by_cases c1 : f (238 + 3 * k + 1) = wantF t f k
  · rw [if_pos c1]
    exact (F.mod T h0 h1 hh (Or.inl rfl) h4).mono (by omega) (by omega)
  · rw [if_neg c1]
    by_cases c2 : f (238 + 3 * k + 2) ≤ 0
    · rw [if_pos c2]
      by_cases c3 : wantF t f k = -1
      · rw [if_pos c3, if_pos c3, c3]
        exact (F1.bec T h0 h1 (Or.inl ⟨rfl, rfl⟩) h4).hap T hB (by omega) (by omega) (by omega) (by omega) h4
      · rw [if_neg c3, if_neg c3]
        exact (F1.bec T h0 h1 (Or.inr ⟨Or.inl rfl, by omega, by omega⟩) h4).hap T hB (by omega) (by omega) (by omega) (by omega) h4
    · rw [if_neg c2]
      exact F1.mono (by omega) (by omega)
theorem resvF_in (T : TV t) : 0 ≤ resvF t f ∧ resvF t f ≤ 11988 := by
  have n2 := T.n2
  have hN := T.n2N
  unfold resvF
  have key : ∀ n : Nat, (n : Int) ≤ t 2 → 0 ≤ forI (fun k a => a + (if f (238 + 3 * k) = 0 then 0 else t (71 + 3 * k + 1))) n 0 ∧ forI (fun k a => a + (if f (238 + 3 * k) = 0 then 0 else t (71 + 3 * k + 1))) n 0 ≤ 999 * (n : Int) := by
    intro n
    induction n with
    | zero => intro _; exact ⟨Int.le_refl _, Int.le_refl _⟩
    | succ n ih =>
      intro hn
      have i1 := ih (by omega)
      have r := T.ra (n : Int) (by omega) (by omega)
      show 0 ≤ _ + _ ∧ _ + _ ≤ _
      split <;> constructor <;> push_cast <;> omega
  have := key (t 2).toNat (by omega)
  omega
theorem FV.seW (F : FV B t f g) (T : TV t) (h0 : 0 ≤ k) (h1 : k < t 2) (h4 : 12 ≤ B) (hB : B < 2000000000) : FV (B + 1) t (seWF t f k) g := by
  have n2 := T.n2
  have n1 := T.n1
  have w := wantF_in (f := f) T h0 h1
  unfold seWF
  by_cases c1 : f (238 + 3 * k) = 0
  · rw [if_pos c1]
    by_cases c2 : wantF t f k = -1
    · rw [if_pos c2]; exact F.mono (by omega) (by omega)
    · rw [if_neg c2]
      by_cases c3 : t (71 + 3 * k + 1) ≤ t 3 - resvF t f
      · rw [if_pos c3]
        exact (F.bec T h0 h1 (Or.inr ⟨Or.inl rfl, by omega, by omega⟩) h4).hap T hB (by omega) (by omega) (by omega) (by omega) h4
      · rw [if_neg c3]; exact F.mono (by omega) (by omega)
  · rw [if_neg c1]; exact F.mono (by omega) (by omega)
theorem FV.set (F : FV B t f g) (T : TV t) (h4 : 12 ≤ B) (hB : B ≤ 1999999900) : FV (B + 24) t (setF t f) g := by
  have n2 := T.n2
  have hN := T.n2N
  unfold setF se1F
  have G0 : FV (B + ((t 2).toNat : Int)) t (forI (fun k a => if a (238 + 3 * k) = 0 then a else seHF t a k) (t 2).toNat f) g :=
    forI_inv (I := fun k a => FV (B + (k : Int)) t a g) (fun k a hk G => by
      by_cases c : a (238 + 3 * (k : Int)) = 0
      · rw [if_pos c]; exact G.mono (by push_cast; omega) (by push_cast; omega)
      · rw [if_neg c]; have := G.seH T (k := (k : Int)) (by omega) (by omega) c (by omega) (by omega); rw [show B + ((k + 1 : Nat) : Int) = B + (k : Int) + 1 by push_cast; omega]; exact this) (by simpa using F)
  generalize forI (fun k a => if a (238 + 3 * k) = 0 then a else seHF t a k) (t 2).toNat f = f1 at G0
  have G1 : FV (B + 12 + ((t 2).toNat : Int)) t (forI (fun k a => seWF t a k) (t 2).toNat f1) g :=
    forI_inv (I := fun k a => FV (B + 12 + (k : Int)) t a g) (fun k a hk G => by
      have := G.seW T (k := (k : Int)) (by omega) (by omega) (by omega) (by omega); rw [show B + 12 + ((k + 1 : Nat) : Int) = B + 12 + (k : Int) + 1 by push_cast; omega]; exact this) (G0.mono (by push_cast; omega) (by push_cast; omega))
  exact G1.mono (by omega) (by omega)
end ZF
