/-! THE REFERENCE'S SCORES AND ERRORS. -/
section ZG
variable {P : Shp} {σ : St} {t f g : Int → Int} {B : Int} {d k p kind who m h j c : Int}
theorem mstep_in {nx : Int} (T : TV t) (p0 : 0 ≤ p) (p1 : p < t 0) (h0 : 0 ≤ nx) (h1 : nx ≤ t (7 + 8 * p + 2)) : 0 ≤ mstep t f d p k nx ∧ mstep t f d p k nx ≤ t (7 + 8 * p + 2) := by
  unfold mstep
  repeat' split
  all_goals omega
theorem scoF_in (T : TV t) : 0 ≤ scoF t f d ∧ scoF t f d ≤ 59994 := by
  have n0 := T.n0
  unfold scoF
  have key : ∀ n : Nat, (n : Int) ≤ t 0 → 0 ≤ forI (fun p a => a + (if matF t f d p = true then t (7 + 8 * p) else 0)) n 0 ∧ forI (fun p a => a + (if matF t f d p = true then t (7 + 8 * p) else 0)) n 0 ≤ 9999 * (n : Int) := by
    intro n
    induction n with
    | zero => intro _; exact ⟨Int.le_refl _, Int.le_refl _⟩
    | succ n ih =>
      intro hn
      have i1 := ih (by omega)
      have r := T.b (7 + 8 * (n : Int))
      have r2 := T.we (n : Int) (by omega) (by omega)
      show _ ≤ _ + _ ∧ _ + _ ≤ _
      split <;> constructor <;> push_cast <;> omega
  have := key (t 0).toNat (by omega)
  omega
theorem shi_loop (f : Int → Int) (d : Int) : ∀ n : Nat, forI (fun k a => zu a (14 + 28 * d + 4 + (k + 2) - 2) (a (14 + 28 * d + 4 + (k + 2)))) n f = fun j => if 14 + 28 * d + 4 ≤ j ∧ j < 14 + 28 * d + 4 + (n : Int) then f (j + 2) else f j := by
  intro n
  induction n with
  | zero => funext j; show f j = _; rw [if_neg (by omega)]
  | succ n ih =>
    show zu (forI _ n f) _ (forI _ n f _) = _
    rw [ih]
    funext j
    unfold zu
    by_cases h : j = 14 + 28 * d + 4 + ((n : Int) + 2) - 2
    · rw [if_pos h, if_pos (by push_cast; omega)]
      show (if _ then _ else _) = _
      rw [if_neg (by omega)]
      congr 1
      omega
    · rw [if_neg h]
      show (if _ then _ else _) = _
      by_cases h2 : 14 + 28 * d + 4 ≤ j ∧ j < 14 + 28 * d + 4 + (n : Int)
      · rw [if_pos h2, if_pos (by push_cast; omega)]
      · rw [if_neg h2, if_neg (by push_cast; omega)]
theorem shi_22 (f : Int → Int) (d : Int) : forI (fun k a => zu a (14 + 28 * d + 4 + (k + 2) - 2) (a (14 + 28 * d + 4 + (k + 2)))) 22 f = shiF f d := by
  rw [shi_loop]
  funext j
  unfold shiF
  by_cases h : 14 + 28 * d + 4 ≤ j ∧ j < 14 + 28 * d + 26
  · rw [if_pos h, if_pos (by push_cast; omega)]
  · rw [if_neg h, if_neg (by push_cast; omega)]
theorem shiF_o (h : j < 14 + 28 * d + 4 ∨ 14 + 28 * d + 26 ≤ j) : shiF f d j = f j := if_neg (by omega)
theorem keeF_o (h0 : 0 ≤ d) (hm : 0 ≤ f (14 + 28 * d + 3)) (hm2 : f (14 + 28 * d + 3) ≤ 12) (h : j < 14 + 28 * d + 3 ∨ 14 + 28 * d + 28 ≤ j) : keeF f d kind j = f j := by
  unfold keeF
  by_cases c : f (14 + 28 * d + 3) = 12
  · rw [if_pos c]
    unfold putF
    simp (disch := omega) only [zu_s, zu_n, shiF_o]
  · rw [if_neg c]
    unfold putF
    simp (disch := omega) only [zu_s, zu_n]
theorem keeF_m (h0 : 0 ≤ d) (hm : 0 ≤ f (14 + 28 * d + 3)) (hm2 : f (14 + 28 * d + 3) ≤ 12) : keeF f d kind (14 + 28 * d + 3) = if f (14 + 28 * d + 3) = 12 then 12 else f (14 + 28 * d + 3) + 1 := by
  unfold keeF
  by_cases c : f (14 + 28 * d + 3) = 12
  · rw [if_pos c, if_pos c]
    unfold putF
    simp (disch := omega) only [zu_s, zu_n, shiF_o]
    rfl
  · rw [if_neg c, if_neg c]
    unfold putF
    simp (disch := omega) only [zu_s, zu_n]
theorem FV.kee (F : FV B t f g) (T : TV t) (h0 : 0 ≤ d) (h1 : d < t 1) (hp : f (14 + 28 * d + 0) ≠ -1) (k0 : 0 ≤ kind) (k1 : kind < 4) (h4 : 12 ≤ B) : FV B t (keeF f d kind) g := by
  have n1 := T.n1
  have n2 := T.n2
  have b0 := F.b0
  have mn := F.mn d h0 h1
  refine ⟨by omega, fun j => ?_, F.bg, ?_, ?_, ?_, ?_, ?_, ?_, ?_, ?_, ?_⟩
  · unfold keeF putF zu shiF
    have q0 := F.bl 0
    have q1 := F.bl j
    have q2 := F.bl (j + 2)
    have q3 := F.bl (14 + 28 * d + 3)
    by_cases c : f (14 + 28 * d + 3) = 12
    · simp only [c, if_true]
      repeat' split
      all_goals first | omega | (have := F.bl (14 + 28 * d + 3 + 2); omega) | (have := F.bl 2; omega) | skip
    · simp only [c, if_false]
      repeat' split
      all_goals omega
  · rw [keeF_o (j := 0) h0 mn.1 mn.2 (by omega), keeF_o (j := 3) h0 mn.1 mn.2 (by omega), keeF_o (j := 4) h0 mn.1 mn.2 (by omega)]; exact F.tq
  · rw [keeF_o h0 mn.1 mn.2 (by omega)]; exact F.ev
  · intro e e0 e1; have := F.al e e0 e1; rw [keeF_o h0 mn.1 mn.2 (by omega)]; exact this
  · intro e e0 e1
    have := F.un e e0 e1
    rw [keeF_o (j := 14 + 28 * e + 0) h0 mn.1 mn.2 (by omega), keeF_o (j := 14 + 28 * e + 1) h0 mn.1 mn.2 (by omega)]
    by_cases c : e = d
    · subst c; intro hh; exact absurd hh hp
    · rw [keeF_o (j := 14 + 28 * e + 3) h0 mn.1 mn.2 (by omega)]; exact this
  · intro e e0 e1; have := F.si e e0 e1; rw [keeF_o h0 mn.1 mn.2 (by omega)]; exact this
  · intro e e0 e1
    have := F.mn e e0 e1
    by_cases c : e = d
    · subst c; rw [keeF_m h0 mn.1 mn.2]; split <;> omega
    · rw [keeF_o (j := 14 + 28 * e + 3) h0 mn.1 mn.2 (by omega)]; exact this
  · intro e e0 e1; have := F.mo e e0 e1; rw [keeF_o h0 mn.1 mn.2 (by omega)]; exact this
  · intro e e0 e1; have := F.ho e e0 e1; rw [keeF_o (j := 238 + 3 * e) h0 mn.1 mn.2 (by omega), keeF_o (j := 238 + 3 * e + 1) h0 mn.1 mn.2 (by omega)]; exact this
  · intro e e0 e1; have := F.dn e e0 e1; rw [keeF_o h0 mn.1 mn.2 (by omega)]; exact this
end ZG
