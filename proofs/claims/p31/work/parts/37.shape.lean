/-! THE SHAPES that the constructors make. -/
section VSH
variable {α β : Type} {P : Shp} {n k : Nat} {σ : St} {o i v len : Int} {r : α}
def ShpC (P : Shp) (n : Nat) (Ls : List (Nat × Nat)) : Prop := n = Ls.length ∧ ∀ z : Nat, P (z : Int) = Ls[z]?
theorem ShpC.al {Ls : List (Nat × Nat)} {l : Nat} (h : ShpC P n Ls) : ShpC (al P n k l) (n + 1) (Ls ++ [(k, l)]) := by
  obtain ⟨h1, h2⟩ := h
  subst h1
  refine ⟨by simp, fun z => ?_⟩
  show (if (z : Int) = ((Ls.length : Nat) : Int) then some (k, l) else P (z : Int)) = _
  by_cases hz : z = Ls.length
  · subst hz
    rw [if_pos rfl]
    simp
  · rw [if_neg (by omega), h2 z]
    by_cases hlt : z < Ls.length
    · rw [List.getElem?_append_left hlt]
    · rw [List.getElem?_eq_none (by omega), List.getElem?_eq_none (by simp; omega)]
theorem ShpC.to {Ls Ms : List (Nat × Nat)} (h : ShpC P n Ls) (e : Ls = Ms) : ShpC P n Ms := e ▸ h
theorem mkA_p {K : Shp → Nat → Int → St → Option α} (h : mkA P n σ k len K = some r) : ∃ s', K (al P n k len.toNat) (n + 1) (n : Int) s' = some r := ⟨_, (gd h).2⟩
theorem mkO_p {K : Shp → Nat → Int → St → Option α} (h : mkO P n σ k K = some r) : ∃ s', K (al P n k 0) (n + 1) (n : Int) s' = some r := ⟨_, h⟩
theorem pR_p {K : St → Option α} (h : pR P k σ o i v K = some r) : ∃ s', K s' = some r := ⟨_, (gd h).2⟩
theorem sR_p {K : St → Option α} (h : sR P σ o i v K = some r) : ∃ s', K s' = some r := ⟨_, (gd h).2⟩
theorem gF_p {K : Int → Option α} (h : gF P k σ o i K = some r) : ∃ x, K x = some r := ⟨_, (gd h).2⟩
theorem pF_p {K : St → Option α} (h : pF P k σ o i v K = some r) : ∃ s', K s' = some r := ⟨_, (gd h).2⟩
theorem gR_p {K : Int → Option α} (h : gR P k σ o i K = some r) : ∃ x, K x = some r := ⟨_, (gd h).2⟩
theorem onO_p {K : Option α} (h : onO P k o K = some r) : K = some r := (gd h).2
theorem jge_p {x y : Int} {a b : Option α} (h : jge x y a b = some r) : (y ≤ x ∧ a = some r) ∨ (x < y ∧ b = some r) := by
  have h := (gd h).2
  by_cases c : y ≤ x
  · rw [if_pos c] at h; exact Or.inl ⟨c, h⟩
  · rw [if_neg c] at h; exact Or.inr ⟨by omega, h⟩
end VSH
def plS : List (Nat × Nat) := [(4, 0), (10, 6), (10, 6), (10, 6), (10, 30), (10, 8), (10, 8), (10, 12), (10, 12), (10, 12)]
def stS : List (Nat × Nat) := [(6, 0), (10, 8), (10, 8), (10, 12), (10, 12), (10, 12), (11, 12), (0, 0), (10, 8), (10, 96), (10, 96), (10, 32), (10, 32), (3, 0), (10, 24), (10, 24), (10, 24), (10, 10)]
def hsS : List (Nat × Nat) := [(1, 0), (13, 10)] ++ (List.replicate 10 stS).flatten
def PL : List (Nat × Nat) := [(7, 0), (5, 0), (9, 600)] ++ plS ++ [(11, 6), (11, 8), (11, 12), (2, 0)] ++ plS ++ stS ++ hsS ++ [(13, 2), (12, 2)] ++ (List.replicate 2 stS).flatten
theorem gX4_init {P : Shp} {n : Nat} {s : St} {a0 : Int} {P9 : Shp} {n9 : Nat} {s9 : St} {Ls : List (Nat × Nat)} (h : fX4_init P n s a0 = some (P9, n9, s9)) (hL : ShpC P n Ls) : ShpC P9 n9 (Ls ++ (plS.tail)) := by
  unfold fX4_init at h
  obtain ⟨_, h⟩ := mkA_p h
  replace hL := hL.al (k := 10) (l := (6 : Int).toNat)
  obtain ⟨_, h⟩ := pR_p h
  obtain ⟨_, h⟩ := mkA_p h
  replace hL := hL.al (k := 10) (l := (6 : Int).toNat)
  obtain ⟨_, h⟩ := pR_p h
  obtain ⟨_, h⟩ := mkA_p h
  replace hL := hL.al (k := 10) (l := (6 : Int).toNat)
  obtain ⟨_, h⟩ := pR_p h
  obtain ⟨_, h⟩ := mkA_p h
  replace hL := hL.al (k := 10) (l := (30 : Int).toNat)
  obtain ⟨_, h⟩ := pR_p h
  obtain ⟨_, h⟩ := mkA_p h
  replace hL := hL.al (k := 10) (l := (8 : Int).toNat)
  obtain ⟨_, h⟩ := pR_p h
  obtain ⟨_, h⟩ := mkA_p h
  replace hL := hL.al (k := 10) (l := (8 : Int).toNat)
  obtain ⟨_, h⟩ := pR_p h
  obtain ⟨_, h⟩ := mkA_p h
  replace hL := hL.al (k := 10) (l := (12 : Int).toNat)
  obtain ⟨_, h⟩ := pR_p h
  obtain ⟨_, h⟩ := mkA_p h
  replace hL := hL.al (k := 10) (l := (12 : Int).toNat)
  obtain ⟨_, h⟩ := pR_p h
  obtain ⟨_, h⟩ := mkA_p h
  replace hL := hL.al (k := 10) (l := (12 : Int).toNat)
  obtain ⟨_, h⟩ := pR_p h
  have h := onO_p h
  obtain ⟨_, _, h⟩ := cl_of h
  cases h
  exact hL.to (by simp [hsS, plS, stS, List.append_assoc])
theorem gX5_init {P : Shp} {n : Nat} {s : St} {a0 : Int} {P9 : Shp} {n9 : Nat} {s9 : St} {Ls : List (Nat × Nat)} (h : fX5_init P n s a0 = some (P9, n9, s9)) (hL : ShpC P n Ls) : ShpC P9 n9 (Ls ++ ([(9, 600)] ++ plS ++ [(11, 6), (11, 8), (11, 12)])) := by
  unfold fX5_init at h
  obtain ⟨_, h⟩ := mkA_p h
  replace hL := hL.al (k := 9) (l := (600 : Int).toNat)
  obtain ⟨_, h⟩ := pR_p h
  obtain ⟨_, h⟩ := mkO_p h
  replace hL := hL.al (k := 4) (l := 0)
  obtain ⟨⟨_, _, _⟩, hc, h⟩ := cl_of h
  replace hL := gX4_init hc hL
  clear hc
  obtain ⟨_, h⟩ := pR_p h
  obtain ⟨_, h⟩ := mkA_p h
  replace hL := hL.al (k := 11) (l := (6 : Int).toNat)
  obtain ⟨_, h⟩ := pR_p h
  obtain ⟨_, h⟩ := mkA_p h
  replace hL := hL.al (k := 11) (l := (8 : Int).toNat)
  obtain ⟨_, h⟩ := pR_p h
  obtain ⟨_, h⟩ := mkA_p h
  replace hL := hL.al (k := 11) (l := (12 : Int).toNat)
  obtain ⟨_, h⟩ := pR_p h
  cases h
  exact hL.to (by simp [hsS, plS, stS, List.append_assoc])
theorem gX0_init {P : Shp} {n : Nat} {s : St} {a0 : Int} {P9 : Shp} {n9 : Nat} {s9 : St} {Ls : List (Nat × Nat)} (h : fX0_init P n s a0 = some (P9, n9, s9)) (hL : ShpC P n Ls) : ShpC P9 n9 (Ls ++ ([(10, 8), (10, 96), (10, 96), (10, 32), (10, 32)])) := by
  unfold fX0_init at h
  obtain ⟨_, h⟩ := mkA_p h
  replace hL := hL.al (k := 10) (l := (8 : Int).toNat)
  obtain ⟨_, h⟩ := pR_p h
  obtain ⟨_, h⟩ := mkA_p h
  replace hL := hL.al (k := 10) (l := (96 : Int).toNat)
  obtain ⟨_, h⟩ := pR_p h
  obtain ⟨_, h⟩ := mkA_p h
  replace hL := hL.al (k := 10) (l := (96 : Int).toNat)
  obtain ⟨_, h⟩ := pR_p h
  obtain ⟨_, h⟩ := mkA_p h
  replace hL := hL.al (k := 10) (l := (32 : Int).toNat)
  obtain ⟨_, h⟩ := pR_p h
  obtain ⟨_, h⟩ := mkA_p h
  replace hL := hL.al (k := 10) (l := (32 : Int).toNat)
  obtain ⟨_, h⟩ := pR_p h
  cases h
  exact hL.to (by simp [hsS, plS, stS, List.append_assoc])
theorem gX3_init {P : Shp} {n : Nat} {s : St} {a0 : Int} {P9 : Shp} {n9 : Nat} {s9 : St} {Ls : List (Nat × Nat)} (h : fX3_init P n s a0 = some (P9, n9, s9)) (hL : ShpC P n Ls) : ShpC P9 n9 (Ls ++ ([(10, 24), (10, 24), (10, 24), (10, 10)])) := by
  unfold fX3_init at h
  obtain ⟨_, h⟩ := mkA_p h
  replace hL := hL.al (k := 10) (l := (24 : Int).toNat)
  obtain ⟨_, h⟩ := pR_p h
  obtain ⟨_, h⟩ := mkA_p h
  replace hL := hL.al (k := 10) (l := (24 : Int).toNat)
  obtain ⟨_, h⟩ := pR_p h
  obtain ⟨_, h⟩ := mkA_p h
  replace hL := hL.al (k := 10) (l := (24 : Int).toNat)
  obtain ⟨_, h⟩ := pR_p h
  obtain ⟨_, h⟩ := mkA_p h
  replace hL := hL.al (k := 10) (l := (10 : Int).toNat)
  obtain ⟨_, h⟩ := pR_p h
  cases h
  exact hL.to (by simp [hsS, plS, stS, List.append_assoc])
theorem gX6_init {P : Shp} {n : Nat} {s : St} {a0 : Int} {P9 : Shp} {n9 : Nat} {s9 : St} {Ls : List (Nat × Nat)} (h : fX6_init P n s a0 = some (P9, n9, s9)) (hL : ShpC P n Ls) : ShpC P9 n9 (Ls ++ (stS.tail)) := by
  unfold fX6_init at h
  obtain ⟨_, h⟩ := mkA_p h
  replace hL := hL.al (k := 10) (l := (8 : Int).toNat)
  obtain ⟨_, h⟩ := pR_p h
  obtain ⟨_, h⟩ := mkA_p h
  replace hL := hL.al (k := 10) (l := (8 : Int).toNat)
  obtain ⟨_, h⟩ := pR_p h
  obtain ⟨_, h⟩ := mkA_p h
  replace hL := hL.al (k := 10) (l := (12 : Int).toNat)
  obtain ⟨_, h⟩ := pR_p h
  obtain ⟨_, h⟩ := mkA_p h
  replace hL := hL.al (k := 10) (l := (12 : Int).toNat)
  obtain ⟨_, h⟩ := pR_p h
  obtain ⟨_, h⟩ := mkA_p h
  replace hL := hL.al (k := 10) (l := (12 : Int).toNat)
  obtain ⟨_, h⟩ := pR_p h
  obtain ⟨_, h⟩ := mkA_p h
  replace hL := hL.al (k := 11) (l := (12 : Int).toNat)
  obtain ⟨_, h⟩ := pR_p h
  obtain ⟨_, h⟩ := mkO_p h
  replace hL := hL.al (k := 0) (l := 0)
  obtain ⟨⟨_, _, _⟩, hc, h⟩ := cl_of h
  replace hL := gX0_init hc hL
  clear hc
  obtain ⟨_, h⟩ := pR_p h
  obtain ⟨_, h⟩ := mkO_p h
  replace hL := hL.al (k := 3) (l := 0)
  obtain ⟨⟨_, _, _⟩, hc, h⟩ := cl_of h
  replace hL := gX3_init hc hL
  clear hc
  obtain ⟨_, h⟩ := pR_p h
  cases h
  exact hL.to (by simp [hsS, plS, stS, List.append_assoc])
theorem gX2_init {P : Shp} {n : Nat} {s : St} {a0 : Int} {P9 : Shp} {n9 : Nat} {s9 : St} {Ls : List (Nat × Nat)} (h : fX2_init P n s a0 = some (P9, n9, s9)) (hL : ShpC P n Ls) : ShpC P9 n9 (Ls ++ (plS ++ stS)) := by
  unfold fX2_init at h
  obtain ⟨_, h⟩ := mkO_p h
  replace hL := hL.al (k := 4) (l := 0)
  obtain ⟨⟨_, _, _⟩, hc, h⟩ := cl_of h
  replace hL := gX4_init hc hL
  clear hc
  obtain ⟨_, h⟩ := pR_p h
  obtain ⟨_, h⟩ := mkO_p h
  replace hL := hL.al (k := 6) (l := 0)
  obtain ⟨⟨_, _, _⟩, hc, h⟩ := cl_of h
  replace hL := gX6_init hc hL
  clear hc
  obtain ⟨_, h⟩ := pR_p h
  obtain ⟨_, h⟩ := gR_p h
  obtain ⟨_, h⟩ := gR_p h
  obtain ⟨_, h⟩ := gF_p h
  obtain ⟨_, h⟩ := pF_p h
  cases h
  exact hL.to (by simp [hsS, plS, stS, List.append_assoc])
theorem gX1_init_L15 {c0 : Int} {kE : Shp → Nat → St → Option Hs} {r : Hs} : ∀ (j f : Nat) (p : Int) (P : Shp) (n : Nat) (s : St) (Ls : List (Nat × Nat)), p = 10 - (j : Int) → fX1_init_L15 c0 kE f p P n s = some r → ShpC P n Ls → ∃ P' n' s', kE P' n' s' = some r ∧ ShpC P' n' (Ls ++ (List.replicate j stS).flatten) := by
  intro j f
  induction f generalizing j with
  | zero => intro p P n s Ls _ h _; cases h
  | succ f ih =>
    intro p P n s Ls hp h hL
    unfold fX1_init_L15 at h
    rcases jge_p h with ⟨hc, h⟩ | ⟨hc, h⟩
    · have hj : j = 0 := by omega
      subst hj
      exact ⟨P, n, s, h, hL.to (by simp)⟩
    · obtain ⟨j2, rfl⟩ : ∃ j2, j = j2 + 1 := ⟨j - 1, by omega⟩
      obtain ⟨x1, h⟩ := gR_p h
      obtain ⟨s2, h⟩ := mkO_p h
      obtain ⟨⟨P3, n3, s3⟩, h3, h⟩ := cl_of h
      obtain ⟨s4, h⟩ := sR_p h
      obtain ⟨P', n', s', k1, k2⟩ := ih j2 _ _ _ _ _ (by push_cast at hp; omega) h (gX6_init h3 hL.al)
      exact ⟨P', n', s', k1, k2.to (by rw [List.replicate_succ, List.flatten_cons]; simp [stS, List.append_assoc])⟩
set_option maxRecDepth 100000 in
theorem gX1_init {P : Shp} {n : Nat} {s : St} {a0 : Int} {P9 : Shp} {n9 : Nat} {s9 : St} {Ls : List (Nat × Nat)} (h : fX1_init P n s a0 = some (P9, n9, s9)) (hL : ShpC P n Ls) : ShpC P9 n9 (Ls ++ (hsS.tail)) := by
  unfold fX1_init at h
  obtain ⟨_, h⟩ := mkA_p h
  replace hL := hL.al (k := 13) (l := (10 : Int).toNat)
  obtain ⟨_, h⟩ := pR_p h
  obtain ⟨_, _, _, h, hL⟩ := gX1_init_L15 10 1000 0 _ _ _ _ rfl h hL
  cases h
  exact hL.to (by simp only [List.append_assoc]; rfl)
theorem gX7_init_L54 {c0 : Int} {kE : Shp → Nat → St → Option Hs} {r : Hs} : ∀ (j f : Nat) (p : Int) (P : Shp) (n : Nat) (s : St) (Ls : List (Nat × Nat)), p = 2 - (j : Int) → fX7_init_L54 c0 kE f p P n s = some r → ShpC P n Ls → ∃ P' n' s', kE P' n' s' = some r ∧ ShpC P' n' (Ls ++ (List.replicate j stS).flatten) := by
  intro j f
  induction f generalizing j with
  | zero => intro p P n s Ls _ h _; cases h
  | succ f ih =>
    intro p P n s Ls hp h hL
    unfold fX7_init_L54 at h
    rcases jge_p h with ⟨hc, h⟩ | ⟨hc, h⟩
    · have hj : j = 0 := by omega
      subst hj
      exact ⟨P, n, s, h, hL.to (by simp)⟩
    · obtain ⟨j2, rfl⟩ : ∃ j2, j = j2 + 1 := ⟨j - 1, by omega⟩
      obtain ⟨x1, h⟩ := gR_p h
      obtain ⟨s2, h⟩ := mkO_p h
      obtain ⟨⟨P3, n3, s3⟩, h3, h⟩ := cl_of h
      obtain ⟨s4, h⟩ := sR_p h
      obtain ⟨P', n', s', k1, k2⟩ := ih j2 _ _ _ _ _ (by push_cast at hp; omega) h (gX6_init h3 hL.al)
      exact ⟨P', n', s', k1, k2.to (by rw [List.replicate_succ, List.flatten_cons]; simp [stS, List.append_assoc])⟩
set_option maxRecDepth 100000 in
theorem gX7_init {P : Shp} {n : Nat} {s : St} {a0 : Int} {P9 : Shp} {n9 : Nat} {s9 : St} {Ls : List (Nat × Nat)} (h : fX7_init P n s a0 = some (P9, n9, s9)) (hL : ShpC P n Ls) : ShpC P9 n9 (Ls ++ ([(5, 0), (9, 600)] ++ plS ++ [(11, 6), (11, 8), (11, 12), (2, 0)] ++ plS ++ stS ++ hsS ++ [(13, 2), (12, 2)] ++ (List.replicate 2 stS).flatten)) := by
  unfold fX7_init at h
  obtain ⟨_, h⟩ := mkO_p h
  replace hL := hL.al (k := 5) (l := 0)
  obtain ⟨⟨_, _, _⟩, hc, h⟩ := cl_of h
  replace hL := gX5_init hc hL
  clear hc
  obtain ⟨_, h⟩ := pR_p h
  obtain ⟨_, h⟩ := mkO_p h
  replace hL := hL.al (k := 2) (l := 0)
  obtain ⟨⟨_, _, _⟩, hc, h⟩ := cl_of h
  replace hL := gX2_init hc hL
  clear hc
  obtain ⟨_, h⟩ := pR_p h
  obtain ⟨_, h⟩ := mkO_p h
  replace hL := hL.al (k := 1) (l := 0)
  obtain ⟨⟨_, _, _⟩, hc, h⟩ := cl_of h
  replace hL := gX1_init hc hL
  clear hc
  obtain ⟨_, h⟩ := pR_p h
  obtain ⟨_, h⟩ := mkA_p h
  replace hL := hL.al (k := 13) (l := (2 : Int).toNat)
  obtain ⟨_, h⟩ := pR_p h
  obtain ⟨_, h⟩ := mkA_p h
  replace hL := hL.al (k := 12) (l := (2 : Int).toNat)
  obtain ⟨_, h⟩ := pR_p h
  obtain ⟨_, _, _, h, hL⟩ := gX7_init_L54 2 1000 0 _ _ _ _ rfl h hL
  cases h
  exact hL.to (by simp only [List.append_assoc]; rfl)
/-- the class's own objects lie where they lie, whatever is made behind them -/
def ShpIs (P : Shp) (n : Nat) (Ls : List (Nat × Nat)) : Prop := ∀ (z : Nat) (q : Nat × Nat), Ls[z]? = some q → P (z : Int) = some q
theorem ShpIs.of {P : Shp} {n m : Nat} {Ls Ms : List (Nat × Nat)} (h : ShpC P n (Ls ++ Ms)) : ShpIs P m Ls := fun z q e => by
  rw [h.2 z, List.getElem?_append_left (List.getElem?_eq_some_iff.mp e).1]
  exact e
theorem ShpIs.alN {P : Shp} {n m k l : Nat} (h : ShpIs P m PL) (hn : 265 ≤ n) : ShpIs (al P n k l) m PL := fun z q e => by
  have hz : z < 265 := by
    have := (List.getElem?_eq_some_iff.mp e).1
    have e9 : PL.length = 265 := by decide +kernel
    omega
  show (if (z : Int) = (n : Int) then some (k, l) else P (z : Int)) = some q
  rw [if_neg (by omega)]
  exact h z q e
