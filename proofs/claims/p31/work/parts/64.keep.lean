/-! A CHANGE IS REMEMBERED on both sides. -/
def PP (σ : St) (p : Int) : Prop :=
  (σ p 7 = p + 1) ∧
  (σ p 8 = p + 2) ∧
  (σ p 9 = p + 3) ∧
  (σ p 10 = p + 4) ∧
  (σ p 11 = p + 5) ∧
  (σ p 12 = p + 6) ∧
  (σ p 13 = p + 7) ∧
  (σ p 14 = p + 8) ∧
  (σ p 15 = p + 9)
theorem PP.r7 {σ : St} {p : Int} (h : PP σ p) : σ p 7 = p + 1 := h.1
theorem PP.r8 {σ : St} {p : Int} (h : PP σ p) : σ p 8 = p + 2 := h.2.1
theorem PP.r9 {σ : St} {p : Int} (h : PP σ p) : σ p 9 = p + 3 := h.2.2.1
theorem PP.r10 {σ : St} {p : Int} (h : PP σ p) : σ p 10 = p + 4 := h.2.2.2.1
theorem PP.r11 {σ : St} {p : Int} (h : PP σ p) : σ p 11 = p + 5 := h.2.2.2.2.1
theorem PP.r12 {σ : St} {p : Int} (h : PP σ p) : σ p 12 = p + 6 := h.2.2.2.2.2.1
theorem PP.r13 {σ : St} {p : Int} (h : PP σ p) : σ p 13 = p + 7 := h.2.2.2.2.2.2.1
theorem PP.r14 {σ : St} {p : Int} (h : PP σ p) : σ p 14 = p + 8 := h.2.2.2.2.2.2.2.1
theorem PP.r15 {σ : St} {p : Int} (h : PP σ p) : σ p 15 = p + 9 := h.2.2.2.2.2.2.2.2
section ZY
variable {P : Shp} {σ σ' σ1 σ2 : St} {t f f' f2 g g' : Int → Int} {B B' : Int} {a b b' d k p q kind who m h j c x y i v w part N K D : Int} {n : Nat}
theorem isB_27 : isB 27 := ⟨27, by decide, rfl⟩
theorem isB_h (h0 : 0 ≤ i) (h1 : i < 10) : isB (47 + 18 * i) := by
  have h : i = 0 ∨ i = 1 ∨ i = 2 ∨ i = 3 ∨ i = 4 ∨ i = 5 ∨ i = 6 ∨ i = 7 ∨ i = 8 ∨ i = 9 := by omega
  rcases h with rfl | rfl | rfl | rfl | rfl | rfl | rfl | rfl | rfl | rfl
  · exact ⟨47, by decide, rfl⟩
  · exact ⟨65, by decide, rfl⟩
  · exact ⟨83, by decide, rfl⟩
  · exact ⟨101, by decide, rfl⟩
  · exact ⟨119, by decide, rfl⟩
  · exact ⟨137, by decide, rfl⟩
  · exact ⟨155, by decide, rfl⟩
  · exact ⟨173, by decide, rfl⟩
  · exact ⟨191, by decide, rfl⟩
  · exact ⟨209, by decide, rfl⟩
theorem isB_s (h0 : 0 ≤ i) (h1 : i < 2) : isB (229 + 18 * i) := by
  have h : i = 0 ∨ i = 1 := by omega
  rcases h with rfl | rfl
  · exact ⟨229, by decide, rfl⟩
  · exact ⟨247, by decide, rfl⟩
/-- the class remembers -/
def KC (σ σ2 : St) (t f g : Int → Int) : Prop :=
  (∀ o, o ≠ 45 → (o < 27 ∨ 44 < o) → (o < 47 + 18 * σ 45 2 ∨ 47 + 18 * σ 45 2 + 17 < o) → σ2 o = σ o) ∧
  (σ2 45 0 = 46) ∧
  (σ2 45 1 = if σ 45 1 = 10 then 10 else σ 45 1 + 1) ∧
  (σ2 45 2 = (σ 45 2 + 1) % 10) ∧
  (SR σ2 (47 + 18 * σ 45 2) t f g)
theorem KC.o {σ σ2 : St} {t f g : Int → Int} (h : KC σ σ2 t f g) : ∀ o, o ≠ 45 → (o < 27 ∨ 44 < o) → (o < 47 + 18 * σ 45 2 ∨ 47 + 18 * σ 45 2 + 17 < o) → σ2 o = σ o := h.1
theorem KC.a0 {σ σ2 : St} {t f g : Int → Int} (h : KC σ σ2 t f g) : σ2 45 0 = 46 := h.2.1
theorem KC.a1 {σ σ2 : St} {t f g : Int → Int} (h : KC σ σ2 t f g) : σ2 45 1 = if σ 45 1 = 10 then 10 else σ 45 1 + 1 := h.2.2.1
theorem KC.a2 {σ σ2 : St} {t f g : Int → Int} (h : KC σ σ2 t f g) : σ2 45 2 = (σ 45 2 + 1) % 10 := h.2.2.2.1
theorem KC.s {σ σ2 : St} {t f g : Int → Int} (h : KC σ σ2 t f g) : SR σ2 (47 + 18 * σ 45 2) t f g := h.2.2.2.2
theorem SR.fr (S : SR σ b t f g) (e : ∀ o, b ≤ o → o ≤ b + 17 → σ' o = σ o) : SR σ' b t f g := by
  unfold SR at S ⊢
  rw [e b (by omega) (by omega), e (b + 1) (by omega) (by omega), e (b + 2) (by omega) (by omega), e (b + 3) (by omega) (by omega), e (b + 4) (by omega) (by omega), e (b + 5) (by omega) (by omega), e (b + 6) (by omega) (by omega), e (b + 7) (by omega) (by omega), e (b + 8) (by omega) (by omega), e (b + 9) (by omega) (by omega), e (b + 10) (by omega) (by omega), e (b + 11) (by omega) (by omega), e (b + 12) (by omega) (by omega), e (b + 13) (by omega) (by omega), e (b + 14) (by omega) (by omega), e (b + 15) (by omega) (by omega), e (b + 16) (by omega) (by omega), e (b + 17) (by omega) (by omega)]
  exact S
theorem KC.fr (h : KC σ σ1 t f g) (hn : 0 ≤ σ 45 2 ∧ σ 45 2 < 10) (q : Fr σ1 σ2) : KC σ σ2 t f g :=
  ⟨fun o h1 h2 h3 => (q o h2).trans (h.o o h1 h2 h3), by rw [q 45 (by omega)]; exact h.a0, by rw [q 45 (by omega)]; exact h.a1, by rw [q 45 (by omega)]; exact h.a2, h.s.fr fun o h1 h2 => q o (by omega)⟩
end ZY
