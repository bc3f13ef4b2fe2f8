/-! TOKENS of a text that is known as a list. -/
section ZQ3
variable {f g : Int → Int} {e k h i j x y z v c N s : Int} {n : Nat} {A B R w sp T : List Int}
def At (f : Int → Int) (N e : Int) (R : List Int) : Prop := 0 ≤ e ∧ N = e + (R.length : Int) ∧ ∀ i, 0 ≤ i → i < (R.length : Int) → f (e + i) = gL R i
theorem At.cut (h : At f N e (A ++ R)) : At f N (e + (A.length : Int)) R ∧ ∀ i, 0 ≤ i → i < (A.length : Int) → f (e + i) = gL A i := by
  obtain ⟨h0, h1, h2⟩ := h
  rw [List.length_append] at h1 h2
  refine ⟨⟨by omega, by push_cast at h1; omega, fun i i0 i1 => ?_⟩, fun i i0 i1 => ?_⟩
  · have := h2 ((A.length : Int) + i) (by omega) (by push_cast; omega)
    rw [gL_app _ _ _ (by omega), if_neg (by omega), show (A.length : Int) + i - (A.length : Int) = i by omega] at this
    rw [← this]
    congr 1
    omega
  · have := h2 i i0 (by push_cast; omega)
    rw [gL_app _ _ _ i0, if_pos i1] at this
    exact this
theorem skp_k {c : Int → Bool} : ∀ (n : Nat) (i : Int), (∀ j, i ≤ j → j < i + (n : Int) → c j = true) → i + (n : Int) ≤ N → (i + (n : Int) < N → c (i + (n : Int)) = false) → skp c N i = i + (n : Int)
  | 0, i, _, h2, h3 => by
    rw [skp_u]
    rw [show i + ((0 : Nat) : Int) = i by simp] at *
    rw [if_neg]
    rintro ⟨a, b⟩
    rw [h3 a] at b
    cases b
  | n + 1, i, h1, h2, h3 => by
    rw [skp_u, if_pos ⟨by push_cast at h2; omega, h1 i (by omega) (by push_cast; omega)⟩]
    have e : i + ((n + 1 : Nat) : Int) = i + 1 + (n : Int) := by push_cast; omega
    rw [e] at h1 h2 h3 ⊢
    exact skp_k n (i + 1) (fun j j0 j1 => h1 j (by omega) j1) h2 h3
/-- spaces ahead -/
def spc (sp : List Int) : Prop := sp = [] ∨ sp = [32]
theorem at_s (h : At f N e (sp ++ R)) (hs : spc sp) (hR : ¬ (gL R 0 = 32 ∨ gL R 0 = 10)) : tS f N e = e + (sp.length : Int) ∧ At f N (e + (sp.length : Int)) R := by
  obtain ⟨h1, h2⟩ := h.cut
  refine ⟨?_, h1⟩
  unfold tS
  obtain ⟨a0, a1, a2⟩ := h1
  refine skp_k sp.length e (fun j j0 j1 => ?_) (by omega) (fun q => ?_)
  · rcases hs with rfl | rfl
    · simp only [List.length_nil] at j1; omega
    · have := h2 0 (by omega) (by simp)
      have j2 : j = e + 0 := by simp only [List.length_cons, List.length_nil] at j1; push_cast at j1; omega
      rw [j2]
      exact decide_eq_true (Or.inl (by rw [this]; rfl))
  · have := a2 0 (by omega) (by omega)
    rw [Int.add_zero] at this
    exact decide_eq_false (by rw [this]; exact hR)
def isLt (c : Int) : Prop := 97 ≤ c ∧ c ≤ 122
def isDg (c : Int) : Prop := 48 ≤ c ∧ c ≤ 57
def wdL (w : List Int) (z : Int) : Bool := decide ((w.length : Int) = lnZ z) && eqF (gL w) 0 z (lnZ z).toNat 0
theorem eqF_c : ∀ (n : Nat) (k : Int), (∀ i, k ≤ i → i < k + (n : Int) → f (s + i) = g (0 + i)) → eqF f s z n k = eqF g 0 z n k
  | 0, _, _ => rfl
  | n + 1, k, h => by
    unfold eqF
    rw [h k (by omega) (by push_cast; omega), eqF_c n (k + 1) fun i i0 i1 => h i (by omega) (by push_cast; omega)]
/-- a word -/
theorem tk_w (h : At f N e (sp ++ (w ++ R))) (hs : spc sp) (hw : ∀ i, 0 ≤ i → i < (w.length : Int) → isLt (gL w i)) (h1 : 1 ≤ w.length) (h8 : w.length ≤ 8) (hR : ¬ isLt (gL R 0)) :
    tT f N e = 1 ∧ At f N (tE f N e) R ∧ (∀ z, wdB f N e z = wdL w z) ∧ tV f N e = vlF f 27 96 (e + (sp.length : Int)) w.length ∧ (∀ i, 0 ≤ i → i < (w.length : Int) → f (e + (sp.length : Int) + i) = gL w i) := by
  have g0 : gL (w ++ R) 0 = gL w 0 := by rw [gL_app _ _ _ (by omega), if_pos (by omega)]
  have l0 := hw 0 (by omega) (by omega)
  unfold isLt at l0 hR
  obtain ⟨s1, a1⟩ := at_s h hs (by rw [g0]; omega)
  obtain ⟨b1, b2⟩ := a1.cut
  obtain ⟨c0, c1, c2⟩ := b1
  have hlt : tS f N e < N := by omega
  have f0 : ltB f (tS f N e) = true := by
    rw [s1]
    have := b2 0 (by omega) (by omega)
    rw [Int.add_zero] at this
    exact decide_eq_true (by rw [this]; exact l0)
  have hE : tE f N e = e + (sp.length : Int) + (w.length : Int) := by
    unfold tE
    rw [if_pos hlt, if_pos f0, s1]
    refine skp_k w.length _ (fun j j0 j1 => ?_) (by omega) (fun q => ?_)
    · have := b2 (j - (e + (sp.length : Int))) (by omega) (by omega)
      rw [show e + (sp.length : Int) + (j - (e + (sp.length : Int))) = j by omega] at this
      exact decide_eq_true (by rw [this]; exact hw _ (by omega) (by omega))
    · have := c2 0 (by omega) (by omega)
      rw [Int.add_zero] at this
      exact decide_eq_false (by rw [this]; exact hR)
  have hT : tT f N e = 1 := by
    unfold tT
    rw [if_pos hlt, if_pos f0, if_pos (by omega)]
  refine ⟨hT, by rw [hE]; exact ⟨c0, c1, c2⟩, fun z => ?_, ?_, b2⟩
  · unfold wdB wdL
    rw [hT, hE, s1, show e + (sp.length : Int) + (w.length : Int) - (e + (sp.length : Int)) = (w.length : Int) by omega]
    rw [decide_eq_true (show (1 : Int) = 1 from rfl), Bool.true_and]
    by_cases q : (w.length : Int) = lnZ z
    · rw [decide_eq_true q, Bool.true_and, Bool.true_and]
      refine eqF_c _ _ fun i i0 i1 => ?_
      rw [Int.zero_add]
      exact b2 i i0 (by omega)
    · rw [decide_eq_false q, Bool.false_and, Bool.false_and]
  · unfold tV
    rw [if_pos f0, hE, s1]
    congr 1
    omega
/-- a number -/
theorem tk_n (h : At f N e (sp ++ (numT v ++ R))) (hs : spc sp) (h0 : 0 ≤ v) (h1 : v < 100) (hR : ¬ isDg (gL R 0)) :
    tT f N e = 2 ∧ At f N (tE f N e) R ∧ tV f N e = v := by
  have hw : ∀ i, 0 ≤ i → i < ((numT v).length : Int) → isDg (gL (numT v) i) := by
    intro i i0 i1
    unfold numT at i1 ⊢
    unfold isDg
    by_cases c : v < 10
    · rw [if_pos c] at i1 ⊢
      simp only [List.length_cons, List.length_nil] at i1
      have : i = 0 := by push_cast at i1; omega
      subst this
      show 48 ≤ 48 + v ∧ 48 + v ≤ 57
      omega
    · rw [if_neg c] at i1 ⊢
      simp only [List.length_cons, List.length_nil] at i1
      have : i = 0 ∨ i = 1 := by push_cast at i1; omega
      rcases this with rfl | rfl
      · show 48 ≤ 48 + v / 10 ∧ 48 + v / 10 ≤ 57
        omega
      · show 48 ≤ 48 + v % 10 ∧ 48 + v % 10 ≤ 57
        omega
  have hl : (numT v).length = if v < 10 then 1 else 2 := by unfold numT; split <;> rfl
  have hl1 : 1 ≤ (numT v).length ∧ (numT v).length ≤ 2 := by rw [hl]; split <;> omega
  have g0 : gL (numT v ++ R) 0 = gL (numT v) 0 := by rw [gL_app _ _ _ (by omega), if_pos (by omega)]
  have l0 := hw 0 (by omega) (by omega)
  unfold isDg at l0 hR
  obtain ⟨s1, a1⟩ := at_s h hs (by rw [g0]; omega)
  obtain ⟨b1, b2⟩ := a1.cut
  obtain ⟨c0, c1, c2⟩ := b1
  have hlt : tS f N e < N := by omega
  have ff := b2 0 (by omega) (by omega)
  rw [Int.add_zero] at ff
  have f0 : dgB f (tS f N e) = true := by rw [s1]; exact decide_eq_true (by rw [ff]; exact l0)
  have f1 : ¬ (ltB f (tS f N e) = true) := by rw [s1]; exact fun q => by have := of_decide_eq_true q; rw [ff] at this; omega
  have hE : tE f N e = e + (sp.length : Int) + ((numT v).length : Int) := by
    unfold tE
    rw [if_pos hlt, if_neg f1, if_pos f0, s1]
    refine skp_k (numT v).length _ (fun j j0 j1 => ?_) (by omega) (fun q => ?_)
    · have := b2 (j - (e + (sp.length : Int))) (by omega) (by omega)
      rw [show e + (sp.length : Int) + (j - (e + (sp.length : Int))) = j by omega] at this
      exact decide_eq_true (by rw [this]; exact hw _ (by omega) (by omega))
    · have := c2 0 (by omega) (by omega)
      rw [Int.add_zero] at this
      exact decide_eq_false (by rw [this]; exact hR)
  refine ⟨by unfold tT; rw [if_pos hlt, if_neg f1, if_pos f0, if_pos (by omega)], by rw [hE]; exact ⟨c0, c1, c2⟩, ?_⟩
  unfold tV
  rw [if_neg f1, hE, s1, show (e + (sp.length : Int) + ((numT v).length : Int) - (e + (sp.length : Int))).toNat = (numT v).length by omega]
  generalize e + (sp.length : Int) = q at *
  by_cases c : v < 10
  · rw [hl, if_pos c]
    show 0 * 10 + (f (q + ((0 : Nat) : Int)) - 48) = v
    rw [show q + ((0 : Nat) : Int) = q by simp, ff]
    unfold numT
    rw [if_pos c]
    show 0 * 10 + (48 + v - 48) = v
    omega
  · rw [hl, if_neg c]
    have f2 := b2 1 (by omega) (by rw [hl, if_neg c]; omega)
    show (0 * 10 + (f (q + ((0 : Nat) : Int)) - 48)) * 10 + (f (q + ((1 : Nat) : Int)) - 48) = v
    rw [show q + ((0 : Nat) : Int) = q by simp, show q + ((1 : Nat) : Int) = q + 1 by simp, ff, f2]
    unfold numT
    rw [if_neg c]
    show (0 * 10 + (48 + v / 10 - 48)) * 10 + (48 + v % 10 - 48) = v
    omega
/-- a semicolon -/
theorem tk_s (h : At f N e ([59] ++ R)) : tT f N e = 3 ∧ At f N (tE f N e) R := by
  obtain ⟨s1, a1⟩ := at_s (sp := []) (R := [59] ++ R) (by simpa using h) (Or.inl rfl) (by rw [gL_app _ _ _ (by omega), if_pos (by simp)]; decide)
  rw [show e + (([] : List Int).length : Int) = e by simp] at s1 a1
  obtain ⟨b1, b2⟩ := h.cut
  obtain ⟨c0, c1, c2⟩ := b1
  have ff := b2 0 (by omega) (by simp)
  rw [Int.add_zero] at ff
  have f59 : f e = 59 := ff
  have hl : (([59] : List Int).length : Int) = 1 := rfl
  rw [hl] at c0 c1 c2
  have hlt : tS f N e < N := by omega
  have f0 : ¬ (dgB f (tS f N e) = true) := by rw [s1]; exact fun q => by have := of_decide_eq_true q; omega
  have f1 : ¬ (ltB f (tS f N e) = true) := by rw [s1]; exact fun q => by have := of_decide_eq_true q; omega
  have hE : tE f N e = e + 1 := by unfold tE; rw [if_pos hlt, if_neg f1, if_neg f0, s1]
  exact ⟨by unfold tT; rw [if_pos hlt, if_neg f1, if_neg f0, s1, if_pos f59], by rw [hE]; exact ⟨c0, c1, c2⟩⟩
/-- the end -/
theorem tk_e (h : At f N e []) : tT f N e = 0 := by
  obtain ⟨h0, h1, _⟩ := h
  simp only [List.length_nil] at h1
  have : ¬ (tS f N e < N) := by
    unfold tS
    rw [skp_u, if_neg (by omega)]
    omega
  unfold tT
  rw [if_neg this]
end ZQ3
