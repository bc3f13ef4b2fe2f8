/-! MORE OF THE REFERENCE'S WRITERS. -/
section ZI
variable {P : Shp} {σ σ' : St} {t f f' g : Int → Int} {B : Int} {d k p kind who m h j c x y : Int}
theorem fstI_in {p : Int → Bool} : ∀ (n : Nat) (k : Int), fstI p n k = -1 ∨ (k ≤ fstI p n k ∧ fstI p n k < k + (n : Int) ∧ p (fstI p n k) = true)
  | 0, _ => Or.inl rfl
  | n + 1, k => by
    unfold fstI
    by_cases h : p k = true
    · rw [if_pos h]; exact Or.inr ⟨Int.le_refl _, by push_cast; omega, h⟩
    · rw [if_neg h]
      rcases fstI_in (p := p) n (k + 1) with e | ⟨e1, e2, e3⟩
      · exact Or.inl e
      · exact Or.inr ⟨by omega, by push_cast; omega, e3⟩
theorem fstI_no {p : Int → Bool} : ∀ (n : Nat) (k : Int), 0 ≤ k → fstI p n k = -1 → ∀ j, k ≤ j → j < k + (n : Int) → p j = false
  | 0, k, _, _, j, h1, h2 => absurd h2 (by push_cast; omega)
  | n + 1, k, h0, h, j, h1, h2 => by
    unfold fstI at h
    by_cases c : p k = true
    · rw [if_pos c] at h; omega
    · rw [if_neg c] at h
      by_cases e : j = k
      · subst e; simpa using c
      · exact fstI_no n (k + 1) (by omega) h j (by omega) (by push_cast at h2; omega)
theorem fstI_lt {p : Int → Bool} : ∀ (n : Nat) (k : Int) (j : Int), 0 ≤ k → k ≤ j → j < fstI p n k → p j = false
  | 0, k, j, h0, h1, h2 => absurd h2 (by unfold fstI; omega)
  | n + 1, k, j, h0, h1, h2 => by
    unfold fstI at h2
    by_cases c : p k = true
    · rw [if_pos c] at h2; omega
    · rw [if_neg c] at h2
      by_cases e : j = k
      · subst e; simpa using c
      · exact fstI_lt n (k + 1) j (by omega) (by omega) h2
theorem couK_in (h : 0 ≤ f 13) : couK f c = f 13 ∨ (0 ≤ couK f c ∧ couK f c < f 13 ∧ f (274 + 2 * couK f c) = c) := by
  unfold couK
  have h2 := fstI_in (p := fun k => decide (f (274 + 2 * k) = c)) (f 13).toNat 0
  split
  · exact Or.inl rfl
  · rename_i e
    rcases h2 with h2 | ⟨h2, h3, h4⟩
    · exact absurd h2 e
    · exact Or.inr ⟨h2, by omega, of_decide_eq_true h4⟩
theorem couK_no (h : 0 ≤ f 13) (e : couK f c = f 13) (h0 : 0 ≤ k) (h1 : k < f 13) : f (274 + 2 * k) ≠ c := by
  have h2 := fstI_in (p := fun k => decide (f (274 + 2 * k) = c)) (f 13).toNat 0
  have h3 : fstI (fun k => decide (f (274 + 2 * k) = c)) (f 13).toNat 0 = -1 := by
    unfold couK at e
    split at e
    · assumption
    · omega
  exact of_decide_eq_false (fstI_no (p := fun k => decide (f (274 + 2 * k) = c)) (f 13).toNat 0 (Int.le_refl _) h3 k h0 (by omega))
theorem couK_lt (h : 0 ≤ f 13) (h0 : 0 ≤ j) (h1 : j < couK f c) : f (274 + 2 * j) ≠ c := by
  by_cases e : couK f c = f 13
  · exact couK_no h e h0 (by omega)
  · have h2 : couK f c = fstI (fun k => decide (f (274 + 2 * k) = c)) (f 13).toNat 0 := by
      unfold couK at e ⊢
      split
      · rename_i e2; rw [if_pos e2] at e; exact absurd rfl e
      · rfl
    rw [h2] at h1
    exact of_decide_eq_false (fstI_lt (p := fun k => decide (f (274 + 2 * k) = c)) (f 13).toNat 0 j (Int.le_refl _) h0 h1)
theorem couK_is (h : 0 ≤ f 13) (h0 : 0 ≤ k) (h1 : k < f 13) (e : f (274 + 2 * k) = c) (hn : ∀ j, 0 ≤ j → j < k → f (274 + 2 * j) ≠ c) : couK f c = k := by
  rcases couK_in (c := c) h with q | ⟨q0, q1, q2⟩
  · exact absurd e (couK_no h q h0 h1)
  · rcases Int.lt_trichotomy (couK f c) k with z | z | z
    · exact absurd q2 (hn _ q0 z)
    · exact z
    · exact absurd e (couK_lt h h0 z)
theorem couK_nn (h : 0 ≤ f 13) (hn : ∀ j, 0 ≤ j → j < f 13 → f (274 + 2 * j) ≠ c) : couK f c = f 13 := by
  rcases couK_in (c := c) h with q | ⟨q0, q1, q2⟩
  · exact q
  · exact absurd q2 (hn _ q0 q1)
theorem couK_c (h : 0 ≤ f 13) (h13 : f' 13 = f 13) (hj : ∀ j, 0 ≤ j → j < f 13 → f' (274 + 2 * j) = f (274 + 2 * j)) : couK f' c = couK f c := by
  rcases couK_in (c := c) h with q | ⟨q0, q1, q2⟩
  · rw [q, ← h13]
    exact couK_nn (by omega) fun j j0 j1 => by rw [hj j j0 (by omega)]; exact couK_no h q j0 (by omega)
  · exact couK_is (by omega) q0 (by omega) (by rw [hj _ q0 q1]; exact q2) fun j j0 j1 => by rw [hj j j0 (by omega)]; exact couK_lt h j0 j1
def CV (f : Int → Int) : Prop :=
  (0 ≤ f 13) ∧
  (forI (fun c a => a + (if couK f c = f 13 then 0 else 1)) 32 0 = f 13) ∧
  (∀ k, 0 ≤ k → k < f 13 → 0 ≤ f (274 + 2 * k) ∧ f (274 + 2 * k) < 32 ∧ 1 ≤ f (274 + 2 * k + 1)) ∧
  (∀ k, 0 ≤ k → k < f 13 → couK f (f (274 + 2 * k)) = k)
theorem CV.c0 {f : Int → Int} (h : CV f) : 0 ≤ f 13 := h.1
theorem CV.cn {f : Int → Int} (h : CV f) : forI (fun c a => a + (if couK f c = f 13 then 0 else 1)) 32 0 = f 13 := h.2.1
theorem CV.cr {f : Int → Int} (h : CV f) : ∀ k, 0 ≤ k → k < f 13 → 0 ≤ f (274 + 2 * k) ∧ f (274 + 2 * k) < 32 ∧ 1 ≤ f (274 + 2 * k + 1) := h.2.2.1
theorem CV.cd {f : Int → Int} (h : CV f) : ∀ k, 0 ≤ k → k < f 13 → couK f (f (274 + 2 * k)) = k := h.2.2.2
theorem cnt_le (q : Int → Int) (hq : ∀ c, 0 ≤ q c ∧ q c ≤ 1) : ∀ n : Nat, 0 ≤ forI (fun c a => a + q c) n 0 ∧ forI (fun c a => a + q c) n 0 ≤ (n : Int)
  | 0 => ⟨Int.le_refl _, Int.le_refl _⟩
  | n + 1 => by
    have i1 := cnt_le q hq n
    have := hq (n : Int)
    show 0 ≤ _ + _ ∧ _ + _ ≤ _
    push_cast
    omega
theorem cnt_in (q q' : Int → Int) (c : Int) (h1 : q' c = q c + 1) (h2 : ∀ x, x ≠ c → q' x = q x) (h0 : 0 ≤ c) : ∀ n : Nat, forI (fun c a => a + q' c) n 0 = forI (fun c a => a + q c) n 0 + (if c < (n : Int) then 1 else 0)
  | 0 => by show (0 : Int) = 0 + _; rw [if_neg (by push_cast; omega)]; rfl
  | n + 1 => by
    have i1 := cnt_in q q' c h1 h2 h0 n
    show forI (fun c a => a + q' c) n 0 + q' (n : Int) = forI (fun c a => a + q c) n 0 + q (n : Int) + _
    rw [i1]
    by_cases e : (n : Int) = c
    · rw [e, h1, if_neg (by omega), if_pos (by push_cast; omega)]; omega
    · rw [h2 _ e]
      by_cases e2 : c < (n : Int)
      · rw [if_pos e2, if_pos (by push_cast; omega)]; omega
      · rw [if_neg e2, if_neg (by push_cast; omega)]; omega
theorem CV.le (h : CV f) : f 13 ≤ 32 := by
  have := cnt_le (fun c => if couK f c = f 13 then 0 else 1) (fun c => by split <;> omega) 32
  rw [h.cn] at this
  exact this.2
theorem CV.lt (h : CV f) (h0 : 0 ≤ c) (h1 : c < 32) (e : couK f c = f 13) : f 13 < 32 := by
  have h2 := cnt_in (fun x => if couK f x = f 13 then 0 else 1) (fun x => if x = c then 1 else if couK f x = f 13 then 0 else 1) c (by simp [e]) (fun x hx => if_neg hx) h0 32
  have h3 := cnt_le (fun x => if x = c then 1 else if couK f x = f 13 then 0 else 1) (fun x => by repeat' split <;> omega) 32
  rw [h.cn, if_pos (by push_cast; omega)] at h2
  omega
theorem CV.to (h : CV f) (hf : ∀ j, j = 13 ∨ (274 ≤ j ∧ j < 338) → f' j = f j) : CV f' := by
  have h13 := hf 13 (Or.inl rfl)
  have c0 := h.c0
  have cl := h.le
  have hk : ∀ c, couK f' c = couK f c := fun c => couK_c c0 h13 fun j j0 j1 => hf _ (Or.inr ⟨by omega, by omega⟩)
  refine ⟨by omega, ?_, fun k k0 k1 => ?_, fun k k0 k1 => ?_⟩
  · simp only [hk, h13]; exact h.cn
  · rw [h13] at k1; rw [hf _ (Or.inr ⟨by omega, by omega⟩), hf (274 + 2 * k + 1) (Or.inr ⟨by omega, by omega⟩)]; exact h.cr k k0 k1
  · rw [h13] at k1; rw [hf _ (Or.inr ⟨by omega, by omega⟩), hk]; exact h.cd k k0 k1
theorem CV.cou (h : CV f) (h0 : 0 ≤ c) (h1 : c < 32) : CV (couF f c) := by
  have c0 := h.c0
  have cl := h.le
  by_cases e : couK f c = f 13
  · have n32 := h.lt h0 h1 e
    have ht : couF f c = couP (zu (zu (zu f (274 + 2 * f 13) c) (274 + 2 * f 13 + 1) 0) 13 (f 13 + 1)) (f 13) := by unfold couF; rw [if_pos e, e]
    generalize hg : couF f c = f2 at ht ⊢
    have a13 : f2 13 = f 13 + 1 := by rw [ht]; unfold couP; simp (disch := omega) only [zu_s, zu_n]
    have ae : ∀ j, 0 ≤ j → j < f 13 → f2 (274 + 2 * j) = f (274 + 2 * j) := by intro j j0 j1; rw [ht]; unfold couP; simp (disch := omega) only [zu_s, zu_n]
    have ao : ∀ j, 0 ≤ j → j < f 13 → f2 (274 + 2 * j + 1) = f (274 + 2 * j + 1) := by intro j j0 j1; rw [ht]; unfold couP; simp (disch := omega) only [zu_s, zu_n]
    have an : f2 (274 + 2 * f 13) = c := by rw [ht]; unfold couP; simp (disch := omega) only [zu_s, zu_n]
    have am : f2 (274 + 2 * f 13 + 1) = 1 := by rw [ht]; unfold couP; simp (disch := omega) only [zu_s, zu_n]; rfl
    clear ht hg
    have kc : couK f2 c = f 13 := couK_is (by omega) c0 (by omega) an fun j j0 j1 => by rw [ae j j0 j1]; exact couK_no c0 e j0 j1
    have ko : ∀ x, x ≠ c → (couK f2 x = f 13 + 1 ↔ couK f x = f 13) := by
      intro x hx
      rcases couK_in (c := x) c0 with q | ⟨q0, q1, q2⟩
      · refine ⟨fun _ => q, fun _ => ?_⟩
        rw [← a13]
        refine couK_nn (by omega) fun j j0 j1 => ?_
        by_cases z : j = f 13
        · subst z; rw [an]; exact fun w => hx w.symm
        · rw [ae j j0 (by omega)]; exact couK_no c0 q j0 (by omega)
      · have : couK f2 x = couK f x := couK_is (by omega) q0 (by omega) (by rw [ae _ q0 q1]; exact q2) fun j j0 j1 => by rw [ae j j0 (by omega)]; exact couK_lt c0 j0 j1
        omega
    refine ⟨by omega, ?_, fun k k0 k1 => ?_, fun k k0 k1 => ?_⟩
    · rw [a13]
      have h2 := cnt_in (fun x => if couK f x = f 13 then 0 else 1) (fun x => if couK f2 x = f 13 + 1 then 0 else 1) c (by rw [kc, if_neg (by omega), if_pos e]; rfl) (fun x hx => by by_cases z : couK f x = f 13 <;> simp only [ko x hx, z, if_true, if_false]) h0 32
      rw [h.cn, if_pos (by push_cast; omega)] at h2
      exact h2
    · by_cases z : k = f 13
      · subst z; rw [an, am]; omega
      · rw [ae k k0 (by omega), ao k k0 (by omega)]; exact h.cr k k0 (by omega)
    · by_cases z : k = f 13
      · subst z; rw [an]; exact kc
      · rw [ae k k0 (by omega)]
        have q := h.cd k k0 (by omega)
        exact couK_is (by omega) k0 (by omega) (ae k k0 (by omega)) fun j j0 j1 => by rw [ae j j0 (by omega)]; exact couK_lt c0 j0 (by omega)
  · have q := couK_in (c := c) c0
    have ht : couF f c = couP f (couK f c) := by unfold couF; rw [if_neg e]
    generalize couK f c = x at q e ht
    generalize hg : couF f c = f2 at ht ⊢
    have a13 : f2 13 = f 13 := by rw [ht]; unfold couP; simp (disch := omega) only [zu_s, zu_n]
    have ae : ∀ j, 0 ≤ j → j < f 13 → f2 (274 + 2 * j) = f (274 + 2 * j) := by intro j j0 j1; rw [ht]; unfold couP; simp (disch := omega) only [zu_s, zu_n]
    have ao : ∀ j, 0 ≤ j → j < f 13 → f (274 + 2 * j + 1) ≤ f2 (274 + 2 * j + 1) := by
      intro j j0 j1; rw [ht]; unfold couP
      by_cases z : j = x
      · subst z; simp (disch := omega) only [zu_s, zu_n]; omega
      · simp (disch := omega) only [zu_s, zu_n]; omega
    clear ht hg
    have hk : ∀ c, couK f2 c = couK f c := fun c => couK_c c0 a13 ae
    refine ⟨by omega, ?_, fun k k0 k1 => ?_, fun k k0 k1 => ?_⟩
    · simp only [hk, a13]; exact h.cn
    · rw [a13] at k1; have := h.cr k k0 k1; have := ao k k0 k1; rw [ae k k0 k1]; omega
    · rw [a13] at k1; rw [ae k k0 k1, hk]; exact h.cd k k0 k1
theorem bl_zu {i v : Int} (h : ∀ j, -1 ≤ f j ∧ f j ≤ B) (hv : -1 ≤ v ∧ v ≤ B) : ∀ j, -1 ≤ zu f i v j ∧ zu f i v j ≤ B := by
  intro j
  unfold zu
  split
  · exact hv
  · exact h j
theorem FV.cou (F : FV B t f g) (T : TV t) (C : CV f) (h0 : 0 ≤ c) (h1 : c < 32) (h4 : 100 ≤ B) (hB : B < 2000000000) : FV (B + 1) t (couF f c) g := by
  have n1 := T.n1
  have n2 := T.n2
  have b0 := F.b0
  have c0 := C.c0
  have cl := C.le
  have q := couK_in (c := c) c0
  have key : ∀ j, (j < 11 ∨ j = 12 ∨ (14 ≤ j ∧ j < 274)) → couF f c j = f j := by
    intro j hj
    unfold couF couP
    by_cases e : couK f c = f 13
    · rw [if_pos e]; simp (disch := omega) only [zu_n]
    · rw [if_neg e]; simp (disch := omega) only [zu_n]
  refine ⟨by omega, fun j => ?_, fun j => ?_, ?_, ?_, ?_, ?_, ?_, ?_, ?_, ?_, ?_⟩
  · have q2 := F.bl 13
    have w0 : ∀ j, -1 ≤ f j ∧ f j ≤ B + 1 := fun j => by have := F.bl j; omega
    have w1 : ∃ f1, (∀ j, -1 ≤ f1 j ∧ f1 j ≤ B + 1) ∧ f1 11 = f 11 ∧ (f1 (274 + 2 * couK f c + 1) = 0 ∨ f1 (274 + 2 * couK f c + 1) = f (274 + 2 * couK f c + 1)) ∧ couF f c = couP f1 (couK f c) := by
      unfold couF
      by_cases e : couK f c = f 13
      · rw [if_pos e]
        refine ⟨_, bl_zu (bl_zu (bl_zu w0 (by omega)) (by omega)) (by omega), ?_, Or.inl ?_, rfl⟩
        · simp (disch := omega) only [zu_n]
        · simp (disch := omega) only [zu_n, zu_s]
      · rw [if_neg e]
        exact ⟨f, w0, rfl, Or.inr rfl, rfl⟩
    obtain ⟨f1, w2, w3, w4, w5⟩ := w1
    have q3 := F.bl 11
    have q4 := F.bl (274 + 2 * couK f c + 1)
    rw [w5]
    unfold couP
    rw [w3]
    exact bl_zu (bl_zu w2 (by omega)) (by omega) j
  · have := F.bg j; omega
  · rw [key 0 (by omega), key 3 (by omega), key 4 (by omega)]; exact F.tq
  · rw [key _ (by omega)]; exact F.ev
  · intro d d0 d1; have := F.al d d0 d1; simp (disch := omega) only [key]; exact this
  · intro d d0 d1; have := F.un d d0 d1; simp (disch := omega) only [key]; exact this
  · intro d d0 d1; have := F.si d d0 d1; simp (disch := omega) only [key]; exact this
  · intro d d0 d1; have := F.mn d d0 d1; simp (disch := omega) only [key]; exact this
  · intro d d0 d1; have := F.mo d d0 d1; simp (disch := omega) only [key]; exact this
  · intro d d0 d1; have := F.ho d d0 d1; simp (disch := omega) only [key]; exact this
  · intro d d0 d1; have := F.dn d d0 d1; simp (disch := omega) only [key]; exact this
end ZI
