/-! THE CLASS AND THE NUMBERS. -/
def PR (σ : St) (p : Int) (t : Int → Int) : Prop :=
  (p = 3 ∨ p = 17) ∧
  (σ p 7 = p + 1) ∧
  (σ p 8 = p + 2) ∧
  (σ p 9 = p + 3) ∧
  (σ p 10 = p + 4) ∧
  (σ p 11 = p + 5) ∧
  (σ p 12 = p + 6) ∧
  (σ p 13 = p + 7) ∧
  (σ p 14 = p + 8) ∧
  (σ p 15 = p + 9) ∧
  (σ p 0 = t 3) ∧
  (σ p 1 = t 4) ∧
  (σ p 2 = t 5) ∧
  (σ p 3 = t 6) ∧
  (σ p 4 = t 0) ∧
  (σ p 5 = t 1) ∧
  (σ p 6 = t 2) ∧
  (∀ i, 0 ≤ i → i < t 0 → σ (p + 1) i = t (7 + 8 * i)) ∧
  (∀ i, 0 ≤ i → i < t 0 → σ (p + 2) i = t (7 + 8 * i + 1)) ∧
  (∀ i, 0 ≤ i → i < t 0 → σ (p + 3) i = t (7 + 8 * i + 2)) ∧
  (∀ i j, 0 ≤ i → i < t 0 → 0 ≤ j → j < t (7 + 8 * i + 2) → σ (p + 4) (i * 5 + j) = t (7 + 8 * i + 3 + j)) ∧
  (∀ d, 0 ≤ d → d < t 1 → σ (p + 5) d = t (55 + d)) ∧
  (∀ d, 0 ≤ d → d < t 1 → σ (p + 6) d = t (63 + d)) ∧
  (∀ k, 0 ≤ k → k < t 2 → σ (p + 7) k = t (71 + 3 * k)) ∧
  (∀ k, 0 ≤ k → k < t 2 → σ (p + 8) k = t (71 + 3 * k + 1)) ∧
  (∀ k, 0 ≤ k → k < t 2 → σ (p + 9) k = t (71 + 3 * k + 2))
theorem PR.hp {σ : St} {p : Int} {t : Int → Int} (h : PR σ p t) : p = 3 ∨ p = 17 := h.1
theorem PR.r7 {σ : St} {p : Int} {t : Int → Int} (h : PR σ p t) : σ p 7 = p + 1 := h.2.1
theorem PR.r8 {σ : St} {p : Int} {t : Int → Int} (h : PR σ p t) : σ p 8 = p + 2 := h.2.2.1
theorem PR.r9 {σ : St} {p : Int} {t : Int → Int} (h : PR σ p t) : σ p 9 = p + 3 := h.2.2.2.1
theorem PR.r10 {σ : St} {p : Int} {t : Int → Int} (h : PR σ p t) : σ p 10 = p + 4 := h.2.2.2.2.1
theorem PR.r11 {σ : St} {p : Int} {t : Int → Int} (h : PR σ p t) : σ p 11 = p + 5 := h.2.2.2.2.2.1
theorem PR.r12 {σ : St} {p : Int} {t : Int → Int} (h : PR σ p t) : σ p 12 = p + 6 := h.2.2.2.2.2.2.1
theorem PR.r13 {σ : St} {p : Int} {t : Int → Int} (h : PR σ p t) : σ p 13 = p + 7 := h.2.2.2.2.2.2.2.1
theorem PR.r14 {σ : St} {p : Int} {t : Int → Int} (h : PR σ p t) : σ p 14 = p + 8 := h.2.2.2.2.2.2.2.2.1
theorem PR.r15 {σ : St} {p : Int} {t : Int → Int} (h : PR σ p t) : σ p 15 = p + 9 := h.2.2.2.2.2.2.2.2.2.1
theorem PR.v0 {σ : St} {p : Int} {t : Int → Int} (h : PR σ p t) : σ p 0 = t 3 := h.2.2.2.2.2.2.2.2.2.2.1
theorem PR.v1 {σ : St} {p : Int} {t : Int → Int} (h : PR σ p t) : σ p 1 = t 4 := h.2.2.2.2.2.2.2.2.2.2.2.1
theorem PR.v2 {σ : St} {p : Int} {t : Int → Int} (h : PR σ p t) : σ p 2 = t 5 := h.2.2.2.2.2.2.2.2.2.2.2.2.1
theorem PR.v3 {σ : St} {p : Int} {t : Int → Int} (h : PR σ p t) : σ p 3 = t 6 := h.2.2.2.2.2.2.2.2.2.2.2.2.2.1
theorem PR.v4 {σ : St} {p : Int} {t : Int → Int} (h : PR σ p t) : σ p 4 = t 0 := h.2.2.2.2.2.2.2.2.2.2.2.2.2.2.1
theorem PR.v5 {σ : St} {p : Int} {t : Int → Int} (h : PR σ p t) : σ p 5 = t 1 := h.2.2.2.2.2.2.2.2.2.2.2.2.2.2.2.1
theorem PR.v6 {σ : St} {p : Int} {t : Int → Int} (h : PR σ p t) : σ p 6 = t 2 := h.2.2.2.2.2.2.2.2.2.2.2.2.2.2.2.2.1
theorem PR.we {σ : St} {p : Int} {t : Int → Int} (h : PR σ p t) : ∀ i, 0 ≤ i → i < t 0 → σ (p + 1) i = t (7 + 8 * i) := h.2.2.2.2.2.2.2.2.2.2.2.2.2.2.2.2.2.1
theorem PR.wi {σ : St} {p : Int} {t : Int → Int} (h : PR σ p t) : ∀ i, 0 ≤ i → i < t 0 → σ (p + 2) i = t (7 + 8 * i + 1) := h.2.2.2.2.2.2.2.2.2.2.2.2.2.2.2.2.2.2.1
theorem PR.pe {σ : St} {p : Int} {t : Int → Int} (h : PR σ p t) : ∀ i, 0 ≤ i → i < t 0 → σ (p + 3) i = t (7 + 8 * i + 2) := h.2.2.2.2.2.2.2.2.2.2.2.2.2.2.2.2.2.2.2.1
theorem PR.pk {σ : St} {p : Int} {t : Int → Int} (h : PR σ p t) : ∀ i j, 0 ≤ i → i < t 0 → 0 ≤ j → j < t (7 + 8 * i + 2) → σ (p + 4) (i * 5 + j) = t (7 + 8 * i + 3 + j) := h.2.2.2.2.2.2.2.2.2.2.2.2.2.2.2.2.2.2.2.2.1
theorem PR.fp {σ : St} {p : Int} {t : Int → Int} (h : PR σ p t) : ∀ d, 0 ≤ d → d < t 1 → σ (p + 5) d = t (55 + d) := h.2.2.2.2.2.2.2.2.2.2.2.2.2.2.2.2.2.2.2.2.2.1
theorem PR.he {σ : St} {p : Int} {t : Int → Int} (h : PR σ p t) : ∀ d, 0 ≤ d → d < t 1 → σ (p + 6) d = t (63 + d) := h.2.2.2.2.2.2.2.2.2.2.2.2.2.2.2.2.2.2.2.2.2.2.1
theorem PR.ho {σ : St} {p : Int} {t : Int → Int} (h : PR σ p t) : ∀ k, 0 ≤ k → k < t 2 → σ (p + 7) k = t (71 + 3 * k) := h.2.2.2.2.2.2.2.2.2.2.2.2.2.2.2.2.2.2.2.2.2.2.2.1
theorem PR.ra {σ : St} {p : Int} {t : Int → Int} (h : PR σ p t) : ∀ k, 0 ≤ k → k < t 2 → σ (p + 8) k = t (71 + 3 * k + 1) := h.2.2.2.2.2.2.2.2.2.2.2.2.2.2.2.2.2.2.2.2.2.2.2.2.1
theorem PR.pa {σ : St} {p : Int} {t : Int → Int} (h : PR σ p t) : ∀ k, 0 ≤ k → k < t 2 → σ (p + 9) k = t (71 + 3 * k + 2) := h.2.2.2.2.2.2.2.2.2.2.2.2.2.2.2.2.2.2.2.2.2.2.2.2.2
def SR (σ : St) (b : Int) (t f g : Int → Int) : Prop :=
  (σ b 2 = (b + 1)) ∧
  (σ b 3 = (b + 2)) ∧
  (σ b 4 = (b + 3)) ∧
  (σ b 5 = (b + 4)) ∧
  (σ b 6 = (b + 5)) ∧
  (σ b 7 = (b + 6)) ∧
  (σ b 8 = (b + 7)) ∧
  (σ b 9 = (b + 13)) ∧
  (σ (b + 7) 0 = (b + 8)) ∧
  (σ (b + 7) 1 = (b + 9)) ∧
  (σ (b + 7) 2 = (b + 10)) ∧
  (σ (b + 7) 4 = (b + 11)) ∧
  (σ (b + 7) 5 = (b + 12)) ∧
  (σ (b + 13) 2 = (b + 14)) ∧
  (σ (b + 13) 3 = (b + 15)) ∧
  (σ (b + 13) 4 = (b + 16)) ∧
  (σ (b + 13) 5 = (b + 17)) ∧
  (σ b 0 = f 0) ∧
  (σ b 1 = f 1) ∧
  (∀ d, 0 ≤ d → d < t 1 → σ (b + 1) d = f (14 + 28 * d + 0)) ∧
  (∀ d, 0 ≤ d → d < t 1 → σ (b + 2) d = if f (14 + 28 * d + 1) = 0 then -1 else f (14 + 28 * d + 2)) ∧
  (∀ k, 0 ≤ k → k < t 2 → σ (b + 3) k = f (238 + 3 * k + 1)) ∧
  (∀ k, 0 ≤ k → k < t 2 → σ (b + 4) k = f (238 + 3 * k)) ∧
  (∀ k, 0 ≤ k → k < t 2 → σ (b + 5) k = f (238 + 3 * k + 2)) ∧
  (∀ k, 0 ≤ k → k < t 2 → σ (b + 6) k = g k) ∧
  (∀ d, 0 ≤ d → d < t 1 → σ (b + 8) d = f (14 + 28 * d + 3)) ∧
  (∀ d k, 0 ≤ d → d < t 1 → 0 ≤ k → k < f (14 + 28 * d + 3) → σ (b + 9) (d * 12 + k) = f (14 + 28 * d + 4 + 2 * k)) ∧
  (∀ d k, 0 ≤ d → d < t 1 → 0 ≤ k → k < f (14 + 28 * d + 3) → σ (b + 10) (d * 12 + k) = f (14 + 28 * d + 4 + 2 * k + 1)) ∧
  (σ (b + 7) 3 = f 13) ∧
  (∀ k, 0 ≤ k → k < f 13 → σ (b + 11) k = f (274 + 2 * k)) ∧
  (∀ c, 0 ≤ c → c < 32 → σ (b + 12) c = if couK f c = f 13 then 0 else f (274 + 2 * couK f c + 1)) ∧
  (σ (b + 13) 0 = if f 12 < 24 then f 12 else 24) ∧
  (0 ≤ σ (b + 13) 1 ∧ σ (b + 13) 1 ≤ 24 ∧ σ (b + 13) 1 % 24 = f 12 % 24) ∧
  (∀ j, 0 ≤ j → j < 24 → j < f 12 → σ (b + 14) j = f (338 + 3 * j)) ∧
  (∀ j, 0 ≤ j → j < 24 → j < f 12 → σ (b + 15) j = f (338 + 3 * j + 1)) ∧
  (∀ j, 0 ≤ j → j < 24 → j < f 12 → σ (b + 16) j = f (338 + 3 * j + 2)) ∧
  (∀ j, 0 ≤ j → j < 10 → σ (b + 17) j = f (2 + j))
theorem SR.p2 {σ : St} {b : Int} {t f g : Int → Int} (h : SR σ b t f g) : σ b 2 = (b + 1) := h.1
theorem SR.p3 {σ : St} {b : Int} {t f g : Int → Int} (h : SR σ b t f g) : σ b 3 = (b + 2) := h.2.1
theorem SR.p4 {σ : St} {b : Int} {t f g : Int → Int} (h : SR σ b t f g) : σ b 4 = (b + 3) := h.2.2.1
theorem SR.p5 {σ : St} {b : Int} {t f g : Int → Int} (h : SR σ b t f g) : σ b 5 = (b + 4) := h.2.2.2.1
theorem SR.p6 {σ : St} {b : Int} {t f g : Int → Int} (h : SR σ b t f g) : σ b 6 = (b + 5) := h.2.2.2.2.1
theorem SR.p7 {σ : St} {b : Int} {t f g : Int → Int} (h : SR σ b t f g) : σ b 7 = (b + 6) := h.2.2.2.2.2.1
theorem SR.p8 {σ : St} {b : Int} {t f g : Int → Int} (h : SR σ b t f g) : σ b 8 = (b + 7) := h.2.2.2.2.2.2.1
theorem SR.p9 {σ : St} {b : Int} {t f g : Int → Int} (h : SR σ b t f g) : σ b 9 = (b + 13) := h.2.2.2.2.2.2.2.1
theorem SR.e0 {σ : St} {b : Int} {t f g : Int → Int} (h : SR σ b t f g) : σ (b + 7) 0 = (b + 8) := h.2.2.2.2.2.2.2.2.1
theorem SR.e1 {σ : St} {b : Int} {t f g : Int → Int} (h : SR σ b t f g) : σ (b + 7) 1 = (b + 9) := h.2.2.2.2.2.2.2.2.2.1
theorem SR.e2 {σ : St} {b : Int} {t f g : Int → Int} (h : SR σ b t f g) : σ (b + 7) 2 = (b + 10) := h.2.2.2.2.2.2.2.2.2.2.1
theorem SR.e4 {σ : St} {b : Int} {t f g : Int → Int} (h : SR σ b t f g) : σ (b + 7) 4 = (b + 11) := h.2.2.2.2.2.2.2.2.2.2.2.1
theorem SR.e5 {σ : St} {b : Int} {t f g : Int → Int} (h : SR σ b t f g) : σ (b + 7) 5 = (b + 12) := h.2.2.2.2.2.2.2.2.2.2.2.2.1
theorem SR.l2 {σ : St} {b : Int} {t f g : Int → Int} (h : SR σ b t f g) : σ (b + 13) 2 = (b + 14) := h.2.2.2.2.2.2.2.2.2.2.2.2.2.1
theorem SR.l3 {σ : St} {b : Int} {t f g : Int → Int} (h : SR σ b t f g) : σ (b + 13) 3 = (b + 15) := h.2.2.2.2.2.2.2.2.2.2.2.2.2.2.1
theorem SR.l4 {σ : St} {b : Int} {t f g : Int → Int} (h : SR σ b t f g) : σ (b + 13) 4 = (b + 16) := h.2.2.2.2.2.2.2.2.2.2.2.2.2.2.2.1
theorem SR.l5 {σ : St} {b : Int} {t f g : Int → Int} (h : SR σ b t f g) : σ (b + 13) 5 = (b + 17) := h.2.2.2.2.2.2.2.2.2.2.2.2.2.2.2.2.1
theorem SR.tm {σ : St} {b : Int} {t f g : Int → Int} (h : SR σ b t f g) : σ b 0 = f 0 := h.2.2.2.2.2.2.2.2.2.2.2.2.2.2.2.2.2.1
theorem SR.sc {σ : St} {b : Int} {t f g : Int → Int} (h : SR σ b t f g) : σ b 1 = f 1 := h.2.2.2.2.2.2.2.2.2.2.2.2.2.2.2.2.2.2.1
theorem SR.po {σ : St} {b : Int} {t f g : Int → Int} (h : SR σ b t f g) : ∀ d, 0 ≤ d → d < t 1 → σ (b + 1) d = f (14 + 28 * d + 0) := h.2.2.2.2.2.2.2.2.2.2.2.2.2.2.2.2.2.2.2.1
theorem SR.al {σ : St} {b : Int} {t f g : Int → Int} (h : SR σ b t f g) : ∀ d, 0 ≤ d → d < t 1 → σ (b + 2) d = if f (14 + 28 * d + 1) = 0 then -1 else f (14 + 28 * d + 2) := h.2.2.2.2.2.2.2.2.2.2.2.2.2.2.2.2.2.2.2.2.1
theorem SR.ho {σ : St} {b : Int} {t f g : Int → Int} (h : SR σ b t f g) : ∀ k, 0 ≤ k → k < t 2 → σ (b + 3) k = f (238 + 3 * k + 1) := h.2.2.2.2.2.2.2.2.2.2.2.2.2.2.2.2.2.2.2.2.2.1
theorem SR.mo {σ : St} {b : Int} {t f g : Int → Int} (h : SR σ b t f g) : ∀ k, 0 ≤ k → k < t 2 → σ (b + 4) k = f (238 + 3 * k) := h.2.2.2.2.2.2.2.2.2.2.2.2.2.2.2.2.2.2.2.2.2.2.1
theorem SR.dn {σ : St} {b : Int} {t f g : Int → Int} (h : SR σ b t f g) : ∀ k, 0 ≤ k → k < t 2 → σ (b + 5) k = f (238 + 3 * k + 2) := h.2.2.2.2.2.2.2.2.2.2.2.2.2.2.2.2.2.2.2.2.2.2.2.1
theorem SR.se {σ : St} {b : Int} {t f g : Int → Int} (h : SR σ b t f g) : ∀ k, 0 ≤ k → k < t 2 → σ (b + 6) k = g k := h.2.2.2.2.2.2.2.2.2.2.2.2.2.2.2.2.2.2.2.2.2.2.2.2.1
theorem SR.ke {σ : St} {b : Int} {t f g : Int → Int} (h : SR σ b t f g) : ∀ d, 0 ≤ d → d < t 1 → σ (b + 8) d = f (14 + 28 * d + 3) := h.2.2.2.2.2.2.2.2.2.2.2.2.2.2.2.2.2.2.2.2.2.2.2.2.2.1
theorem SR.ki {σ : St} {b : Int} {t f g : Int → Int} (h : SR σ b t f g) : ∀ d k, 0 ≤ d → d < t 1 → 0 ≤ k → k < f (14 + 28 * d + 3) → σ (b + 9) (d * 12 + k) = f (14 + 28 * d + 4 + 2 * k) := h.2.2.2.2.2.2.2.2.2.2.2.2.2.2.2.2.2.2.2.2.2.2.2.2.2.2.1
theorem SR.ti {σ : St} {b : Int} {t f g : Int → Int} (h : SR σ b t f g) : ∀ d k, 0 ≤ d → d < t 1 → 0 ≤ k → k < f (14 + 28 * d + 3) → σ (b + 10) (d * 12 + k) = f (14 + 28 * d + 4 + 2 * k + 1) := h.2.2.2.2.2.2.2.2.2.2.2.2.2.2.2.2.2.2.2.2.2.2.2.2.2.2.2.1
theorem SR.ca {σ : St} {b : Int} {t f g : Int → Int} (h : SR σ b t f g) : σ (b + 7) 3 = f 13 := h.2.2.2.2.2.2.2.2.2.2.2.2.2.2.2.2.2.2.2.2.2.2.2.2.2.2.2.2.1
theorem SR.co {σ : St} {b : Int} {t f g : Int → Int} (h : SR σ b t f g) : ∀ k, 0 ≤ k → k < f 13 → σ (b + 11) k = f (274 + 2 * k) := h.2.2.2.2.2.2.2.2.2.2.2.2.2.2.2.2.2.2.2.2.2.2.2.2.2.2.2.2.2.1
theorem SR.ct {σ : St} {b : Int} {t f g : Int → Int} (h : SR σ b t f g) : ∀ c, 0 ≤ c → c < 32 → σ (b + 12) c = if couK f c = f 13 then 0 else f (274 + 2 * couK f c + 1) := h.2.2.2.2.2.2.2.2.2.2.2.2.2.2.2.2.2.2.2.2.2.2.2.2.2.2.2.2.2.2.1
theorem SR.lk {σ : St} {b : Int} {t f g : Int → Int} (h : SR σ b t f g) : σ (b + 13) 0 = if f 12 < 24 then f 12 else 24 := h.2.2.2.2.2.2.2.2.2.2.2.2.2.2.2.2.2.2.2.2.2.2.2.2.2.2.2.2.2.2.2.1
theorem SR.ln {σ : St} {b : Int} {t f g : Int → Int} (h : SR σ b t f g) : 0 ≤ σ (b + 13) 1 ∧ σ (b + 13) 1 ≤ 24 ∧ σ (b + 13) 1 % 24 = f 12 % 24 := h.2.2.2.2.2.2.2.2.2.2.2.2.2.2.2.2.2.2.2.2.2.2.2.2.2.2.2.2.2.2.2.2.1
theorem SR.lq {σ : St} {b : Int} {t f g : Int → Int} (h : SR σ b t f g) : ∀ j, 0 ≤ j → j < 24 → j < f 12 → σ (b + 14) j = f (338 + 3 * j) := h.2.2.2.2.2.2.2.2.2.2.2.2.2.2.2.2.2.2.2.2.2.2.2.2.2.2.2.2.2.2.2.2.2.1
theorem SR.li {σ : St} {b : Int} {t f g : Int → Int} (h : SR σ b t f g) : ∀ j, 0 ≤ j → j < 24 → j < f 12 → σ (b + 15) j = f (338 + 3 * j + 1) := h.2.2.2.2.2.2.2.2.2.2.2.2.2.2.2.2.2.2.2.2.2.2.2.2.2.2.2.2.2.2.2.2.2.2.1
theorem SR.lt {σ : St} {b : Int} {t f g : Int → Int} (h : SR σ b t f g) : ∀ j, 0 ≤ j → j < 24 → j < f 12 → σ (b + 16) j = f (338 + 3 * j + 2) := h.2.2.2.2.2.2.2.2.2.2.2.2.2.2.2.2.2.2.2.2.2.2.2.2.2.2.2.2.2.2.2.2.2.2.2.1
theorem SR.to {σ : St} {b : Int} {t f g : Int → Int} (h : SR σ b t f g) : ∀ j, 0 ≤ j → j < 10 → σ (b + 17) j = f (2 + j) := h.2.2.2.2.2.2.2.2.2.2.2.2.2.2.2.2.2.2.2.2.2.2.2.2.2.2.2.2.2.2.2.2.2.2.2.2
def CR (P : Shp) (σ : St) (p : Int) (t f g : Int → Int) : Prop :=
  (ShpIs P 279 PL) ∧
  (σ 16 0 = p) ∧
  (σ 16 1 = 27) ∧
  (PR σ p t) ∧
  (SR σ 27 t f g)
theorem CR.sh {P : Shp} {σ : St} {p : Int} {t f g : Int → Int} (h : CR P σ p t f g) : ShpIs P 279 PL := h.1
theorem CR.h0 {P : Shp} {σ : St} {p : Int} {t f g : Int → Int} (h : CR P σ p t f g) : σ 16 0 = p := h.2.1
theorem CR.h1 {P : Shp} {σ : St} {p : Int} {t f g : Int → Int} (h : CR P σ p t f g) : σ 16 1 = 27 := h.2.2.1
theorem CR.pr {P : Shp} {σ : St} {p : Int} {t f g : Int → Int} (h : CR P σ p t f g) : PR σ p t := h.2.2.2.1
theorem CR.s {P : Shp} {σ : St} {p : Int} {t f g : Int → Int} (h : CR P σ p t f g) : SR σ 27 t f g := h.2.2.2.2
section ZK
variable {P : Shp} {σ σ' : St} {t f f' g : Int → Int} {B : Int} {d k p kind who m h j c x y i : Int} {n : Nat}
theorem CR.p2 (C : CR P σ p t f g) : σ 27 2 = 28 := C.s.p2
theorem CR.p3 (C : CR P σ p t f g) : σ 27 3 = 29 := C.s.p3
theorem CR.p4 (C : CR P σ p t f g) : σ 27 4 = 30 := C.s.p4
theorem CR.p5 (C : CR P σ p t f g) : σ 27 5 = 31 := C.s.p5
theorem CR.p6 (C : CR P σ p t f g) : σ 27 6 = 32 := C.s.p6
theorem CR.p7 (C : CR P σ p t f g) : σ 27 7 = 33 := C.s.p7
theorem CR.p8 (C : CR P σ p t f g) : σ 27 8 = 34 := C.s.p8
theorem CR.p9 (C : CR P σ p t f g) : σ 27 9 = 40 := C.s.p9
theorem CR.e0 (C : CR P σ p t f g) : σ 34 0 = 35 := C.s.e0
theorem CR.e1 (C : CR P σ p t f g) : σ 34 1 = 36 := C.s.e1
theorem CR.e2 (C : CR P σ p t f g) : σ 34 2 = 37 := C.s.e2
theorem CR.e4 (C : CR P σ p t f g) : σ 34 4 = 38 := C.s.e4
theorem CR.e5 (C : CR P σ p t f g) : σ 34 5 = 39 := C.s.e5
theorem CR.l2 (C : CR P σ p t f g) : σ 40 2 = 41 := C.s.l2
theorem CR.l3 (C : CR P σ p t f g) : σ 40 3 = 42 := C.s.l3
theorem CR.l4 (C : CR P σ p t f g) : σ 40 4 = 43 := C.s.l4
theorem CR.l5 (C : CR P σ p t f g) : σ 40 5 = 44 := C.s.l5
theorem CR.tm (C : CR P σ p t f g) : σ 27 0 = f 0 := C.s.tm
theorem CR.sc (C : CR P σ p t f g) : σ 27 1 = f 1 := C.s.sc
theorem CR.po (C : CR P σ p t f g) : ∀ d, 0 ≤ d → d < t 1 → σ 28 d = f (14 + 28 * d + 0) := C.s.po
theorem CR.al (C : CR P σ p t f g) : ∀ d, 0 ≤ d → d < t 1 → σ 29 d = if f (14 + 28 * d + 1) = 0 then -1 else f (14 + 28 * d + 2) := C.s.al
theorem CR.ho (C : CR P σ p t f g) : ∀ k, 0 ≤ k → k < t 2 → σ 30 k = f (238 + 3 * k + 1) := C.s.ho
theorem CR.mo (C : CR P σ p t f g) : ∀ k, 0 ≤ k → k < t 2 → σ 31 k = f (238 + 3 * k) := C.s.mo
theorem CR.dn (C : CR P σ p t f g) : ∀ k, 0 ≤ k → k < t 2 → σ 32 k = f (238 + 3 * k + 2) := C.s.dn
theorem CR.se (C : CR P σ p t f g) : ∀ k, 0 ≤ k → k < t 2 → σ 33 k = g k := C.s.se
theorem CR.ke (C : CR P σ p t f g) : ∀ d, 0 ≤ d → d < t 1 → σ 35 d = f (14 + 28 * d + 3) := C.s.ke
theorem CR.ki (C : CR P σ p t f g) : ∀ d k, 0 ≤ d → d < t 1 → 0 ≤ k → k < f (14 + 28 * d + 3) → σ 36 (d * 12 + k) = f (14 + 28 * d + 4 + 2 * k) := C.s.ki
theorem CR.ti (C : CR P σ p t f g) : ∀ d k, 0 ≤ d → d < t 1 → 0 ≤ k → k < f (14 + 28 * d + 3) → σ 37 (d * 12 + k) = f (14 + 28 * d + 4 + 2 * k + 1) := C.s.ti
theorem CR.ca (C : CR P σ p t f g) : σ 34 3 = f 13 := C.s.ca
theorem CR.co (C : CR P σ p t f g) : ∀ k, 0 ≤ k → k < f 13 → σ 38 k = f (274 + 2 * k) := C.s.co
theorem CR.ct (C : CR P σ p t f g) : ∀ c, 0 ≤ c → c < 32 → σ 39 c = if couK f c = f 13 then 0 else f (274 + 2 * couK f c + 1) := C.s.ct
theorem CR.lk (C : CR P σ p t f g) : σ 40 0 = if f 12 < 24 then f 12 else 24 := C.s.lk
theorem CR.ln (C : CR P σ p t f g) : 0 ≤ σ 40 1 ∧ σ 40 1 ≤ 24 ∧ σ 40 1 % 24 = f 12 % 24 := C.s.ln
theorem CR.lq (C : CR P σ p t f g) : ∀ j, 0 ≤ j → j < 24 → j < f 12 → σ 41 j = f (338 + 3 * j) := C.s.lq
theorem CR.li (C : CR P σ p t f g) : ∀ j, 0 ≤ j → j < 24 → j < f 12 → σ 42 j = f (338 + 3 * j + 1) := C.s.li
theorem CR.lt (C : CR P σ p t f g) : ∀ j, 0 ≤ j → j < 24 → j < f 12 → σ 43 j = f (338 + 3 * j + 2) := C.s.lt
theorem CR.to (C : CR P σ p t f g) : ∀ j, 0 ≤ j → j < 10 → σ 44 j = f (2 + j) := C.s.to
theorem pO (h : ShpIs P n PL) (hp : p = 3 ∨ p = 17) : okO P 4 p = true := by
  rcases hp with rfl | rfl
  · exact sO3 h
  · exact sO17 h
theorem pA1 (h : ShpIs P n PL) (hp : p = 3 ∨ p = 17) (h0 : 0 ≤ i) (h1 : i < 6) : okA P 10 (p + 1) i = true := by
  rcases hp with rfl | rfl
  · exact sA4 h h0 h1
  · exact sA18 h h0 h1
theorem pA2 (h : ShpIs P n PL) (hp : p = 3 ∨ p = 17) (h0 : 0 ≤ i) (h1 : i < 6) : okA P 10 (p + 2) i = true := by
  rcases hp with rfl | rfl
  · exact sA5 h h0 h1
  · exact sA19 h h0 h1
theorem pA3 (h : ShpIs P n PL) (hp : p = 3 ∨ p = 17) (h0 : 0 ≤ i) (h1 : i < 6) : okA P 10 (p + 3) i = true := by
  rcases hp with rfl | rfl
  · exact sA6 h h0 h1
  · exact sA20 h h0 h1
theorem pA4 (h : ShpIs P n PL) (hp : p = 3 ∨ p = 17) (h0 : 0 ≤ i) (h1 : i < 30) : okA P 10 (p + 4) i = true := by
  rcases hp with rfl | rfl
  · exact sA7 h h0 h1
  · exact sA21 h h0 h1
theorem pA5 (h : ShpIs P n PL) (hp : p = 3 ∨ p = 17) (h0 : 0 ≤ i) (h1 : i < 8) : okA P 10 (p + 5) i = true := by
  rcases hp with rfl | rfl
  · exact sA8 h h0 h1
  · exact sA22 h h0 h1
theorem pA6 (h : ShpIs P n PL) (hp : p = 3 ∨ p = 17) (h0 : 0 ≤ i) (h1 : i < 8) : okA P 10 (p + 6) i = true := by
  rcases hp with rfl | rfl
  · exact sA9 h h0 h1
  · exact sA23 h h0 h1
theorem pA7 (h : ShpIs P n PL) (hp : p = 3 ∨ p = 17) (h0 : 0 ≤ i) (h1 : i < 12) : okA P 10 (p + 7) i = true := by
  rcases hp with rfl | rfl
  · exact sA10 h h0 h1
  · exact sA24 h h0 h1
theorem pA8 (h : ShpIs P n PL) (hp : p = 3 ∨ p = 17) (h0 : 0 ≤ i) (h1 : i < 12) : okA P 10 (p + 8) i = true := by
  rcases hp with rfl | rfl
  · exact sA11 h h0 h1
  · exact sA25 h h0 h1
theorem pA9 (h : ShpIs P n PL) (hp : p = 3 ∨ p = 17) (h0 : 0 ≤ i) (h1 : i < 12) : okA P 10 (p + 9) i = true := by
  rcases hp with rfl | rfl
  · exact sA12 h h0 h1
  · exact sA26 h h0 h1
theorem pN (hp : p = 3 ∨ p = 17) (h : 0 ≤ c) : (p + c = -1) = False := eq_false (by omega)
theorem pN0 (hp : p = 3 ∨ p = 17) : (p = -1) = False := eq_false (by omega)
/-- a call whose arguments are not yet reckoned -/
theorem e_g {α β : Type} {F F' : Option β} {r : β} {K : β → Option α} (h : F = some r) (e : F' = F) : cl F' K = K r := by rw [e, h]; rfl
/-- what the hub does not touch -/
def Fr (σ σ' : St) : Prop := ∀ o, (o < 27 ∨ 44 < o) → σ' o = σ o
theorem Fr.rf : Fr σ σ := fun _ _ => rfl
theorem Fr.tr {σ'' : St} (h : Fr σ σ') (h2 : Fr σ' σ'') : Fr σ σ'' := fun o ho => (h2 o ho).trans (h o ho)
theorem PR.fr (h : PR σ p t) (q : Fr σ σ') : PR σ' p t := by
  have hp := h.hp
  obtain ⟨h0, h⟩ := h
  refine ⟨h0, ?_⟩
  rw [q p (by omega), q (p + 1) (by omega), q (p + 2) (by omega), q (p + 3) (by omega), q (p + 4) (by omega), q (p + 5) (by omega), q (p + 6) (by omega), q (p + 7) (by omega), q (p + 8) (by omega), q (p + 9) (by omega)]
  exact h
theorem PR.ag (h : PR σ p t) (e : ∀ o, p ≤ o → o ≤ p + 9 → σ' o = σ o) : PR σ' p t := by
  have hp := h.hp
  obtain ⟨h0, h⟩ := h
  refine ⟨h0, ?_⟩
  rw [e p (by omega) (by omega), e (p + 1) (by omega) (by omega), e (p + 2) (by omega) (by omega), e (p + 3) (by omega) (by omega), e (p + 4) (by omega) (by omega), e (p + 5) (by omega) (by omega), e (p + 6) (by omega) (by omega), e (p + 7) (by omega) (by omega), e (p + 8) (by omega) (by omega), e (p + 9) (by omega) (by omega)]
  exact h
theorem CR.fr {g' : Int → Int} (C : CR P σ p t f g) (q : Fr σ σ') (s : SR σ' 27 t f' g') : CR P σ' p t f' g' := ⟨C.sh, by rw [q 16 (by omega)]; exact C.h0, by rw [q 16 (by omega)]; exact C.h1, C.pr.fr q, s⟩
theorem c_isDevice (C : CR P σ p t f g) (T : TV t) (hd : iR d = true) : fX2_isDevice P σ 16 d = some (if 0 ≤ d ∧ d ≤ t 1 - 1 then 1 else 0) := by
  have n1 := T.n1
  by_cases c1 : d < 0
  · have c2 : ¬ (0 ≤ d) := by omega
    simp (disch := first | omega | assumption) only [fX2_isDevice, ↓z_lt, ↓z_ge, ↓z_gt, ↓z_le, ↓z_eq, ↓z_ne, ↓z_mx, ↓z_mn, ↓z_dv, ↓z_rm, ↓z_i2l, ↓z_lc, ↓z_sw, ↓z_sf, ↓z_sn, ↓z_bd, ↓z_nt, z_b0, z_b1, z_bi, z_bj, ↓z_gF, ↓z_gR, ↓z_pF, ↓z_pZ, ↓z_pR, ↓z_aI, ↓z_aR, ↓z_sI, ↓z_sZ, ↓z_on, z_cl, ↓reduceIte, Int.reduceEq, Int.reduceNeg, Int.reduceLT, Int.reduceLE, Int.reduceAdd, Int.reduceSub, Int.reduceMul, true_and, and_true, or_true, true_or, eq_self, C.h0, C.h1, C.p2, C.p3, C.p4, C.p5, C.p6, C.p7, C.p8, C.p9, C.e0, C.e1, C.e2, C.e4, C.e5, C.l2, C.l3, C.l4, C.l5, C.pr.r7, C.pr.r8, C.pr.r9, C.pr.r10, C.pr.r11, C.pr.r12, C.pr.r13, C.pr.r14, C.pr.r15, C.pr.v0, C.pr.v1, C.pr.v2, C.pr.v3, C.pr.v4, C.pr.v5, C.pr.v6, C.pr.we, C.pr.wi, C.pr.pe, C.pr.fp, C.pr.he, C.pr.ho, C.pr.ra, C.pr.pa, C.tm, C.sc, C.po, C.al, C.ho, C.mo, C.dn, C.se, C.ke, C.ca, C.co, sO16 C.sh, sO27 C.sh, sO34 C.sh, sO40 C.sh, sA28 C.sh, sA29 C.sh, sA30 C.sh, sA31 C.sh, sA32 C.sh, sA33 C.sh, sA35 C.sh, sA36 C.sh, sA37 C.sh, sA38 C.sh, sA39 C.sh, sA41 C.sh, sA42 C.sh, sA43 C.sh, sA44 C.sh, pO C.sh C.pr.hp, pA1 C.sh C.pr.hp, pA2 C.sh C.pr.hp, pA3 C.sh C.pr.hp, pA4 C.sh C.pr.hp, pA5 C.sh C.pr.hp, pA6 C.sh C.pr.hp, pA7 C.sh C.pr.hp, pA8 C.sh C.pr.hp, pA9 C.sh C.pr.hp, pN C.pr.hp, pN0 C.pr.hp, iR_t, Int.reduceAdd, hd, c1, c2, false_and]
  · by_cases c2 : t 1 ≤ d
    · have c3 : ¬ (d ≤ t 1 - 1) := by omega
      simp (disch := first | omega | assumption) only [fX2_isDevice, ↓z_lt, ↓z_ge, ↓z_gt, ↓z_le, ↓z_eq, ↓z_ne, ↓z_mx, ↓z_mn, ↓z_dv, ↓z_rm, ↓z_i2l, ↓z_lc, ↓z_sw, ↓z_sf, ↓z_sn, ↓z_bd, ↓z_nt, z_b0, z_b1, z_bi, z_bj, ↓z_gF, ↓z_gR, ↓z_pF, ↓z_pZ, ↓z_pR, ↓z_aI, ↓z_aR, ↓z_sI, ↓z_sZ, ↓z_on, z_cl, ↓reduceIte, Int.reduceEq, Int.reduceNeg, Int.reduceLT, Int.reduceLE, Int.reduceAdd, Int.reduceSub, Int.reduceMul, true_and, and_true, or_true, true_or, eq_self, C.h0, C.h1, C.p2, C.p3, C.p4, C.p5, C.p6, C.p7, C.p8, C.p9, C.e0, C.e1, C.e2, C.e4, C.e5, C.l2, C.l3, C.l4, C.l5, C.pr.r7, C.pr.r8, C.pr.r9, C.pr.r10, C.pr.r11, C.pr.r12, C.pr.r13, C.pr.r14, C.pr.r15, C.pr.v0, C.pr.v1, C.pr.v2, C.pr.v3, C.pr.v4, C.pr.v5, C.pr.v6, C.pr.we, C.pr.wi, C.pr.pe, C.pr.fp, C.pr.he, C.pr.ho, C.pr.ra, C.pr.pa, C.tm, C.sc, C.po, C.al, C.ho, C.mo, C.dn, C.se, C.ke, C.ca, C.co, sO16 C.sh, sO27 C.sh, sO34 C.sh, sO40 C.sh, sA28 C.sh, sA29 C.sh, sA30 C.sh, sA31 C.sh, sA32 C.sh, sA33 C.sh, sA35 C.sh, sA36 C.sh, sA37 C.sh, sA38 C.sh, sA39 C.sh, sA41 C.sh, sA42 C.sh, sA43 C.sh, sA44 C.sh, pO C.sh C.pr.hp, pA1 C.sh C.pr.hp, pA2 C.sh C.pr.hp, pA3 C.sh C.pr.hp, pA4 C.sh C.pr.hp, pA5 C.sh C.pr.hp, pA6 C.sh C.pr.hp, pA7 C.sh C.pr.hp, pA8 C.sh C.pr.hp, pA9 C.sh C.pr.hp, pN C.pr.hp, pN0 C.pr.hp, iR_t, Int.reduceAdd, hd, c1, c2, c3, T.vr, and_false]
    · have c3 : d ≤ t 1 - 1 := by omega
      have c4 : 0 ≤ d := by omega
      have c5 : ¬ (8 ≤ d) := by omega
      simp (disch := first | omega | assumption) only [fX2_isDevice, ↓z_lt, ↓z_ge, ↓z_gt, ↓z_le, ↓z_eq, ↓z_ne, ↓z_mx, ↓z_mn, ↓z_dv, ↓z_rm, ↓z_i2l, ↓z_lc, ↓z_sw, ↓z_sf, ↓z_sn, ↓z_bd, ↓z_nt, z_b0, z_b1, z_bi, z_bj, ↓z_gF, ↓z_gR, ↓z_pF, ↓z_pZ, ↓z_pR, ↓z_aI, ↓z_aR, ↓z_sI, ↓z_sZ, ↓z_on, z_cl, ↓reduceIte, Int.reduceEq, Int.reduceNeg, Int.reduceLT, Int.reduceLE, Int.reduceAdd, Int.reduceSub, Int.reduceMul, true_and, and_true, or_true, true_or, eq_self, C.h0, C.h1, C.p2, C.p3, C.p4, C.p5, C.p6, C.p7, C.p8, C.p9, C.e0, C.e1, C.e2, C.e4, C.e5, C.l2, C.l3, C.l4, C.l5, C.pr.r7, C.pr.r8, C.pr.r9, C.pr.r10, C.pr.r11, C.pr.r12, C.pr.r13, C.pr.r14, C.pr.r15, C.pr.v0, C.pr.v1, C.pr.v2, C.pr.v3, C.pr.v4, C.pr.v5, C.pr.v6, C.pr.we, C.pr.wi, C.pr.pe, C.pr.fp, C.pr.he, C.pr.ho, C.pr.ra, C.pr.pa, C.tm, C.sc, C.po, C.al, C.ho, C.mo, C.dn, C.se, C.ke, C.ca, C.co, sO16 C.sh, sO27 C.sh, sO34 C.sh, sO40 C.sh, sA28 C.sh, sA29 C.sh, sA30 C.sh, sA31 C.sh, sA32 C.sh, sA33 C.sh, sA35 C.sh, sA36 C.sh, sA37 C.sh, sA38 C.sh, sA39 C.sh, sA41 C.sh, sA42 C.sh, sA43 C.sh, sA44 C.sh, pO C.sh C.pr.hp, pA1 C.sh C.pr.hp, pA2 C.sh C.pr.hp, pA3 C.sh C.pr.hp, pA4 C.sh C.pr.hp, pA5 C.sh C.pr.hp, pA6 C.sh C.pr.hp, pA7 C.sh C.pr.hp, pA8 C.sh C.pr.hp, pA9 C.sh C.pr.hp, pN C.pr.hp, pN0 C.pr.hp, iR_t, Int.reduceAdd, hd, c1, c2, c3, c4, c5, T.vr, and_self]
theorem c_isDevice' {ω : Type} {K : _ → Option ω} (C : CR P σ p t f g) (T : TV t) (hd : iR d = true) : cl (fX2_isDevice P σ 16 d) K = K ((if 0 ≤ d ∧ d ≤ t 1 - 1 then 1 else 0)) := e_cl (c_isDevice C T hd)
theorem c_dev' {ω : Type} {K : _ → Option ω} (C : CR P σ p t f g) (T : TV t) (h0 : 0 ≤ d) (h1 : d < t 1) : cl (fX2_isDevice P σ 16 d) K = K 1 := by
  have n1 := T.n1
  rw [c_isDevice' C T (iR_t (by omega) (by omega)), if_pos ⟨h0, by omega⟩]
theorem c_ndev' {ω : Type} {K : _ → Option ω} (C : CR P σ p t f g) (T : TV t) : cl (fX2_isDevice P σ 16 (-1)) K = K 0 := by
  rw [c_isDevice' C T rfl, if_neg (by omega)]
theorem c_isPluggedIn (C : CR P σ p t f g) (T : TV t) (F : FV B t f g) (h0 : 0 ≤ d) (h1 : d < t 1) : fX2_isPluggedIn P σ 16 d = some (if f (14 + 28 * d + 0) = -1 then 0 else 1) := by
  have n1 := T.n1
  by_cases c : f (14 + 28 * d + 0) = -1 <;> simp (disch := first | omega | assumption) only [fX2_isPluggedIn, ↓z_lt, ↓z_ge, ↓z_gt, ↓z_le, ↓z_eq, ↓z_ne, ↓z_mx, ↓z_mn, ↓z_dv, ↓z_rm, ↓z_i2l, ↓z_lc, ↓z_sw, ↓z_sf, ↓z_sn, ↓z_bd, ↓z_nt, z_b0, z_b1, z_bi, z_bj, ↓z_gF, ↓z_gR, ↓z_pF, ↓z_pZ, ↓z_pR, ↓z_aI, ↓z_aR, ↓z_sI, ↓z_sZ, ↓z_on, z_cl, ↓reduceIte, Int.reduceEq, Int.reduceNeg, Int.reduceLT, Int.reduceLE, Int.reduceAdd, Int.reduceSub, Int.reduceMul, true_and, and_true, or_true, true_or, eq_self, C.h0, C.h1, C.p2, C.p3, C.p4, C.p5, C.p6, C.p7, C.p8, C.p9, C.e0, C.e1, C.e2, C.e4, C.e5, C.l2, C.l3, C.l4, C.l5, C.pr.r7, C.pr.r8, C.pr.r9, C.pr.r10, C.pr.r11, C.pr.r12, C.pr.r13, C.pr.r14, C.pr.r15, C.pr.v0, C.pr.v1, C.pr.v2, C.pr.v3, C.pr.v4, C.pr.v5, C.pr.v6, C.pr.we, C.pr.wi, C.pr.pe, C.pr.fp, C.pr.he, C.pr.ho, C.pr.ra, C.pr.pa, C.tm, C.sc, C.po, C.al, C.ho, C.mo, C.dn, C.se, C.ke, C.ca, C.co, sO16 C.sh, sO27 C.sh, sO34 C.sh, sO40 C.sh, sA28 C.sh, sA29 C.sh, sA30 C.sh, sA31 C.sh, sA32 C.sh, sA33 C.sh, sA35 C.sh, sA36 C.sh, sA37 C.sh, sA38 C.sh, sA39 C.sh, sA41 C.sh, sA42 C.sh, sA43 C.sh, sA44 C.sh, pO C.sh C.pr.hp, pA1 C.sh C.pr.hp, pA2 C.sh C.pr.hp, pA3 C.sh C.pr.hp, pA4 C.sh C.pr.hp, pA5 C.sh C.pr.hp, pA6 C.sh C.pr.hp, pA7 C.sh C.pr.hp, pA8 C.sh C.pr.hp, pA9 C.sh C.pr.hp, pN C.pr.hp, pN0 C.pr.hp, iR_t, Int.reduceAdd, ↓c_dev' C T, F.vr, c]
theorem c_isPluggedIn' {ω : Type} {K : _ → Option ω} (C : CR P σ p t f g) (T : TV t) (F : FV B t f g) (h0 : 0 ≤ d) (h1 : d < t 1) : cl (fX2_isPluggedIn P σ 16 d) K = K ((if f (14 + 28 * d + 0) = -1 then 0 else 1)) := e_cl (c_isPluggedIn C T F h0 h1)
theorem since_ne (F : FV B t f g) (h0 : 0 ≤ d) (h1 : d < t 1) (h : f (14 + 28 * d + 1) ≠ 0) : ¬ (f (14 + 28 * d + 2) = -1) := by have := F.si d h0 h1; omega
theorem c_inAlarm (C : CR P σ p t f g) (T : TV t) (F : FV B t f g) (h0 : 0 ≤ d) (h1 : d < t 1) : fX2_inAlarm P σ 16 d = some (if f (14 + 28 * d + 1) = 1 then 1 else 0) := by
  have n1 := T.n1
  rcases F.al d h0 h1 with c | c
  · simp (disch := first | omega | assumption) only [fX2_inAlarm, ↓z_lt, ↓z_ge, ↓z_gt, ↓z_le, ↓z_eq, ↓z_ne, ↓z_mx, ↓z_mn, ↓z_dv, ↓z_rm, ↓z_i2l, ↓z_lc, ↓z_sw, ↓z_sf, ↓z_sn, ↓z_bd, ↓z_nt, z_b0, z_b1, z_bi, z_bj, ↓z_gF, ↓z_gR, ↓z_pF, ↓z_pZ, ↓z_pR, ↓z_aI, ↓z_aR, ↓z_sI, ↓z_sZ, ↓z_on, z_cl, ↓reduceIte, Int.reduceEq, Int.reduceNeg, Int.reduceLT, Int.reduceLE, Int.reduceAdd, Int.reduceSub, Int.reduceMul, true_and, and_true, or_true, true_or, eq_self, C.h0, C.h1, C.p2, C.p3, C.p4, C.p5, C.p6, C.p7, C.p8, C.p9, C.e0, C.e1, C.e2, C.e4, C.e5, C.l2, C.l3, C.l4, C.l5, C.pr.r7, C.pr.r8, C.pr.r9, C.pr.r10, C.pr.r11, C.pr.r12, C.pr.r13, C.pr.r14, C.pr.r15, C.pr.v0, C.pr.v1, C.pr.v2, C.pr.v3, C.pr.v4, C.pr.v5, C.pr.v6, C.pr.we, C.pr.wi, C.pr.pe, C.pr.fp, C.pr.he, C.pr.ho, C.pr.ra, C.pr.pa, C.tm, C.sc, C.po, C.al, C.ho, C.mo, C.dn, C.se, C.ke, C.ca, C.co, sO16 C.sh, sO27 C.sh, sO34 C.sh, sO40 C.sh, sA28 C.sh, sA29 C.sh, sA30 C.sh, sA31 C.sh, sA32 C.sh, sA33 C.sh, sA35 C.sh, sA36 C.sh, sA37 C.sh, sA38 C.sh, sA39 C.sh, sA41 C.sh, sA42 C.sh, sA43 C.sh, sA44 C.sh, pO C.sh C.pr.hp, pA1 C.sh C.pr.hp, pA2 C.sh C.pr.hp, pA3 C.sh C.pr.hp, pA4 C.sh C.pr.hp, pA5 C.sh C.pr.hp, pA6 C.sh C.pr.hp, pA7 C.sh C.pr.hp, pA8 C.sh C.pr.hp, pA9 C.sh C.pr.hp, pN C.pr.hp, pN0 C.pr.hp, iR_t, Int.reduceAdd, ↓c_dev' C T, F.vr, c]
  · have c2 := since_ne F h0 h1 (by omega)
    simp (disch := first | omega | assumption) only [fX2_inAlarm, ↓z_lt, ↓z_ge, ↓z_gt, ↓z_le, ↓z_eq, ↓z_ne, ↓z_mx, ↓z_mn, ↓z_dv, ↓z_rm, ↓z_i2l, ↓z_lc, ↓z_sw, ↓z_sf, ↓z_sn, ↓z_bd, ↓z_nt, z_b0, z_b1, z_bi, z_bj, ↓z_gF, ↓z_gR, ↓z_pF, ↓z_pZ, ↓z_pR, ↓z_aI, ↓z_aR, ↓z_sI, ↓z_sZ, ↓z_on, z_cl, ↓reduceIte, Int.reduceEq, Int.reduceNeg, Int.reduceLT, Int.reduceLE, Int.reduceAdd, Int.reduceSub, Int.reduceMul, true_and, and_true, or_true, true_or, eq_self, C.h0, C.h1, C.p2, C.p3, C.p4, C.p5, C.p6, C.p7, C.p8, C.p9, C.e0, C.e1, C.e2, C.e4, C.e5, C.l2, C.l3, C.l4, C.l5, C.pr.r7, C.pr.r8, C.pr.r9, C.pr.r10, C.pr.r11, C.pr.r12, C.pr.r13, C.pr.r14, C.pr.r15, C.pr.v0, C.pr.v1, C.pr.v2, C.pr.v3, C.pr.v4, C.pr.v5, C.pr.v6, C.pr.we, C.pr.wi, C.pr.pe, C.pr.fp, C.pr.he, C.pr.ho, C.pr.ra, C.pr.pa, C.tm, C.sc, C.po, C.al, C.ho, C.mo, C.dn, C.se, C.ke, C.ca, C.co, sO16 C.sh, sO27 C.sh, sO34 C.sh, sO40 C.sh, sA28 C.sh, sA29 C.sh, sA30 C.sh, sA31 C.sh, sA32 C.sh, sA33 C.sh, sA35 C.sh, sA36 C.sh, sA37 C.sh, sA38 C.sh, sA39 C.sh, sA41 C.sh, sA42 C.sh, sA43 C.sh, sA44 C.sh, pO C.sh C.pr.hp, pA1 C.sh C.pr.hp, pA2 C.sh C.pr.hp, pA3 C.sh C.pr.hp, pA4 C.sh C.pr.hp, pA5 C.sh C.pr.hp, pA6 C.sh C.pr.hp, pA7 C.sh C.pr.hp, pA8 C.sh C.pr.hp, pA9 C.sh C.pr.hp, pN C.pr.hp, pN0 C.pr.hp, iR_t, Int.reduceAdd, ↓c_dev' C T, F.vr, c, c2]
theorem c_inAlarm' {ω : Type} {K : _ → Option ω} (C : CR P σ p t f g) (T : TV t) (F : FV B t f g) (h0 : 0 ≤ d) (h1 : d < t 1) : cl (fX2_inAlarm P σ 16 d) K = K ((if f (14 + 28 * d + 1) = 1 then 1 else 0)) := e_cl (c_inAlarm C T F h0 h1)
theorem c_canHold (C : CR P σ p t f g) (T : TV t) (F : FV B t f g) (h0 : 0 ≤ d) (h1 : d < t 1) : fX2_canHold P σ 16 d = some (if gdF f d = true then 1 else 0) := by
  have n1 := T.n1
  by_cases c0 : f (14 + 28 * d + 0) = -1
  · simp (disch := first | omega | assumption) only [fX2_canHold, gdF, ↓z_lt, ↓z_ge, ↓z_gt, ↓z_le, ↓z_eq, ↓z_ne, ↓z_mx, ↓z_mn, ↓z_dv, ↓z_rm, ↓z_i2l, ↓z_lc, ↓z_sw, ↓z_sf, ↓z_sn, ↓z_bd, ↓z_nt, z_b0, z_b1, z_bi, z_bj, ↓z_gF, ↓z_gR, ↓z_pF, ↓z_pZ, ↓z_pR, ↓z_aI, ↓z_aR, ↓z_sI, ↓z_sZ, ↓z_on, z_cl, ↓reduceIte, Int.reduceEq, Int.reduceNeg, Int.reduceLT, Int.reduceLE, Int.reduceAdd, Int.reduceSub, Int.reduceMul, true_and, and_true, or_true, true_or, eq_self, C.h0, C.h1, C.p2, C.p3, C.p4, C.p5, C.p6, C.p7, C.p8, C.p9, C.e0, C.e1, C.e2, C.e4, C.e5, C.l2, C.l3, C.l4, C.l5, C.pr.r7, C.pr.r8, C.pr.r9, C.pr.r10, C.pr.r11, C.pr.r12, C.pr.r13, C.pr.r14, C.pr.r15, C.pr.v0, C.pr.v1, C.pr.v2, C.pr.v3, C.pr.v4, C.pr.v5, C.pr.v6, C.pr.we, C.pr.wi, C.pr.pe, C.pr.fp, C.pr.he, C.pr.ho, C.pr.ra, C.pr.pa, C.tm, C.sc, C.po, C.al, C.ho, C.mo, C.dn, C.se, C.ke, C.ca, C.co, sO16 C.sh, sO27 C.sh, sO34 C.sh, sO40 C.sh, sA28 C.sh, sA29 C.sh, sA30 C.sh, sA31 C.sh, sA32 C.sh, sA33 C.sh, sA35 C.sh, sA36 C.sh, sA37 C.sh, sA38 C.sh, sA39 C.sh, sA41 C.sh, sA42 C.sh, sA43 C.sh, sA44 C.sh, pO C.sh C.pr.hp, pA1 C.sh C.pr.hp, pA2 C.sh C.pr.hp, pA3 C.sh C.pr.hp, pA4 C.sh C.pr.hp, pA5 C.sh C.pr.hp, pA6 C.sh C.pr.hp, pA7 C.sh C.pr.hp, pA8 C.sh C.pr.hp, pA9 C.sh C.pr.hp, pN C.pr.hp, pN0 C.pr.hp, iR_t, Int.reduceAdd, ↓c_dev' C T, F.vr, c0, and_self, and_true, true_and, and_false, false_and, or_true, true_or, or_false, false_or, ne_eq, not_true, not_false_eq_true, decide_false, Bool.false_eq_true]
  · rcases F.al d h0 h1 with c | c
    · simp (disch := first | omega | assumption) only [fX2_canHold, gdF, ↓z_lt, ↓z_ge, ↓z_gt, ↓z_le, ↓z_eq, ↓z_ne, ↓z_mx, ↓z_mn, ↓z_dv, ↓z_rm, ↓z_i2l, ↓z_lc, ↓z_sw, ↓z_sf, ↓z_sn, ↓z_bd, ↓z_nt, z_b0, z_b1, z_bi, z_bj, ↓z_gF, ↓z_gR, ↓z_pF, ↓z_pZ, ↓z_pR, ↓z_aI, ↓z_aR, ↓z_sI, ↓z_sZ, ↓z_on, z_cl, ↓reduceIte, Int.reduceEq, Int.reduceNeg, Int.reduceLT, Int.reduceLE, Int.reduceAdd, Int.reduceSub, Int.reduceMul, true_and, and_true, or_true, true_or, eq_self, C.h0, C.h1, C.p2, C.p3, C.p4, C.p5, C.p6, C.p7, C.p8, C.p9, C.e0, C.e1, C.e2, C.e4, C.e5, C.l2, C.l3, C.l4, C.l5, C.pr.r7, C.pr.r8, C.pr.r9, C.pr.r10, C.pr.r11, C.pr.r12, C.pr.r13, C.pr.r14, C.pr.r15, C.pr.v0, C.pr.v1, C.pr.v2, C.pr.v3, C.pr.v4, C.pr.v5, C.pr.v6, C.pr.we, C.pr.wi, C.pr.pe, C.pr.fp, C.pr.he, C.pr.ho, C.pr.ra, C.pr.pa, C.tm, C.sc, C.po, C.al, C.ho, C.mo, C.dn, C.se, C.ke, C.ca, C.co, sO16 C.sh, sO27 C.sh, sO34 C.sh, sO40 C.sh, sA28 C.sh, sA29 C.sh, sA30 C.sh, sA31 C.sh, sA32 C.sh, sA33 C.sh, sA35 C.sh, sA36 C.sh, sA37 C.sh, sA38 C.sh, sA39 C.sh, sA41 C.sh, sA42 C.sh, sA43 C.sh, sA44 C.sh, pO C.sh C.pr.hp, pA1 C.sh C.pr.hp, pA2 C.sh C.pr.hp, pA3 C.sh C.pr.hp, pA4 C.sh C.pr.hp, pA5 C.sh C.pr.hp, pA6 C.sh C.pr.hp, pA7 C.sh C.pr.hp, pA8 C.sh C.pr.hp, pA9 C.sh C.pr.hp, pN C.pr.hp, pN0 C.pr.hp, iR_t, Int.reduceAdd, ↓c_dev' C T, F.vr, c0, c, and_self, and_true, true_and, and_false, false_and, or_true, true_or, or_false, false_or, ne_eq, not_true, not_false_eq_true, decide_true]
    · have c2 := since_ne F h0 h1 (by omega)
      simp (disch := first | omega | assumption) only [fX2_canHold, gdF, ↓z_lt, ↓z_ge, ↓z_gt, ↓z_le, ↓z_eq, ↓z_ne, ↓z_mx, ↓z_mn, ↓z_dv, ↓z_rm, ↓z_i2l, ↓z_lc, ↓z_sw, ↓z_sf, ↓z_sn, ↓z_bd, ↓z_nt, z_b0, z_b1, z_bi, z_bj, ↓z_gF, ↓z_gR, ↓z_pF, ↓z_pZ, ↓z_pR, ↓z_aI, ↓z_aR, ↓z_sI, ↓z_sZ, ↓z_on, z_cl, ↓reduceIte, Int.reduceEq, Int.reduceNeg, Int.reduceLT, Int.reduceLE, Int.reduceAdd, Int.reduceSub, Int.reduceMul, true_and, and_true, or_true, true_or, eq_self, C.h0, C.h1, C.p2, C.p3, C.p4, C.p5, C.p6, C.p7, C.p8, C.p9, C.e0, C.e1, C.e2, C.e4, C.e5, C.l2, C.l3, C.l4, C.l5, C.pr.r7, C.pr.r8, C.pr.r9, C.pr.r10, C.pr.r11, C.pr.r12, C.pr.r13, C.pr.r14, C.pr.r15, C.pr.v0, C.pr.v1, C.pr.v2, C.pr.v3, C.pr.v4, C.pr.v5, C.pr.v6, C.pr.we, C.pr.wi, C.pr.pe, C.pr.fp, C.pr.he, C.pr.ho, C.pr.ra, C.pr.pa, C.tm, C.sc, C.po, C.al, C.ho, C.mo, C.dn, C.se, C.ke, C.ca, C.co, sO16 C.sh, sO27 C.sh, sO34 C.sh, sO40 C.sh, sA28 C.sh, sA29 C.sh, sA30 C.sh, sA31 C.sh, sA32 C.sh, sA33 C.sh, sA35 C.sh, sA36 C.sh, sA37 C.sh, sA38 C.sh, sA39 C.sh, sA41 C.sh, sA42 C.sh, sA43 C.sh, sA44 C.sh, pO C.sh C.pr.hp, pA1 C.sh C.pr.hp, pA2 C.sh C.pr.hp, pA3 C.sh C.pr.hp, pA4 C.sh C.pr.hp, pA5 C.sh C.pr.hp, pA6 C.sh C.pr.hp, pA7 C.sh C.pr.hp, pA8 C.sh C.pr.hp, pA9 C.sh C.pr.hp, pN C.pr.hp, pN0 C.pr.hp, iR_t, Int.reduceAdd, ↓c_dev' C T, F.vr, c0, c, c2, and_self, and_true, true_and, and_false, false_and, or_true, true_or, or_false, false_or, ne_eq, not_true, not_false_eq_true, decide_false, Bool.false_eq_true]
theorem c_canHold' {ω : Type} {K : _ → Option ω} (C : CR P σ p t f g) (T : TV t) (F : FV B t f g) (h0 : 0 ≤ d) (h1 : d < t 1) : cl (fX2_canHold P σ 16 d) K = K ((if gdF f d = true then 1 else 0)) := e_cl (c_canHold C T F h0 h1)
theorem c_ncanHold' {ω : Type} {K : _ → Option ω} (C : CR P σ p t f g) (T : TV t) : cl (fX2_canHold P σ 16 (-1)) K = K 0 := by
  simp (disch := first | omega | assumption) only [fX2_canHold, ↓z_lt, ↓z_ge, ↓z_gt, ↓z_le, ↓z_eq, ↓z_ne, ↓z_mx, ↓z_mn, ↓z_dv, ↓z_rm, ↓z_i2l, ↓z_lc, ↓z_sw, ↓z_sf, ↓z_sn, ↓z_bd, ↓z_nt, z_b0, z_b1, z_bi, z_bj, ↓z_gF, ↓z_gR, ↓z_pF, ↓z_pZ, ↓z_pR, ↓z_aI, ↓z_aR, ↓z_sI, ↓z_sZ, ↓z_on, z_cl, ↓reduceIte, Int.reduceEq, Int.reduceNeg, Int.reduceLT, Int.reduceLE, Int.reduceAdd, Int.reduceSub, Int.reduceMul, true_and, and_true, or_true, true_or, eq_self, C.h0, C.h1, C.p2, C.p3, C.p4, C.p5, C.p6, C.p7, C.p8, C.p9, C.e0, C.e1, C.e2, C.e4, C.e5, C.l2, C.l3, C.l4, C.l5, C.pr.r7, C.pr.r8, C.pr.r9, C.pr.r10, C.pr.r11, C.pr.r12, C.pr.r13, C.pr.r14, C.pr.r15, C.pr.v0, C.pr.v1, C.pr.v2, C.pr.v3, C.pr.v4, C.pr.v5, C.pr.v6, C.pr.we, C.pr.wi, C.pr.pe, C.pr.fp, C.pr.he, C.pr.ho, C.pr.ra, C.pr.pa, C.tm, C.sc, C.po, C.al, C.ho, C.mo, C.dn, C.se, C.ke, C.ca, C.co, sO16 C.sh, sO27 C.sh, sO34 C.sh, sO40 C.sh, sA28 C.sh, sA29 C.sh, sA30 C.sh, sA31 C.sh, sA32 C.sh, sA33 C.sh, sA35 C.sh, sA36 C.sh, sA37 C.sh, sA38 C.sh, sA39 C.sh, sA41 C.sh, sA42 C.sh, sA43 C.sh, sA44 C.sh, pO C.sh C.pr.hp, pA1 C.sh C.pr.hp, pA2 C.sh C.pr.hp, pA3 C.sh C.pr.hp, pA4 C.sh C.pr.hp, pA5 C.sh C.pr.hp, pA6 C.sh C.pr.hp, pA7 C.sh C.pr.hp, pA8 C.sh C.pr.hp, pA9 C.sh C.pr.hp, pN C.pr.hp, pN0 C.pr.hp, iR_t, Int.reduceAdd, ↓c_ndev' C T]
theorem c_heirOfHome (C : CR P σ p t f g) (T : TV t) (h0 : 0 ≤ k) (h1 : k < t 2) : fX2_heirOfHome P σ 16 k = some (t (63 + t (71 + 3 * k))) := by
  have n1 := T.n1
  have n2 := T.n2
  have a1 := T.ho k h0 h1
  simp (disch := first | omega | assumption) only [fX2_heirOfHome, ↓z_lt, ↓z_ge, ↓z_gt, ↓z_le, ↓z_eq, ↓z_ne, ↓z_mx, ↓z_mn, ↓z_dv, ↓z_rm, ↓z_i2l, ↓z_lc, ↓z_sw, ↓z_sf, ↓z_sn, ↓z_bd, ↓z_nt, z_b0, z_b1, z_bi, z_bj, ↓z_gF, ↓z_gR, ↓z_pF, ↓z_pZ, ↓z_pR, ↓z_aI, ↓z_aR, ↓z_sI, ↓z_sZ, ↓z_on, z_cl, ↓reduceIte, Int.reduceEq, Int.reduceNeg, Int.reduceLT, Int.reduceLE, Int.reduceAdd, Int.reduceSub, Int.reduceMul, true_and, and_true, or_true, true_or, eq_self, C.h0, C.h1, C.p2, C.p3, C.p4, C.p5, C.p6, C.p7, C.p8, C.p9, C.e0, C.e1, C.e2, C.e4, C.e5, C.l2, C.l3, C.l4, C.l5, C.pr.r7, C.pr.r8, C.pr.r9, C.pr.r10, C.pr.r11, C.pr.r12, C.pr.r13, C.pr.r14, C.pr.r15, C.pr.v0, C.pr.v1, C.pr.v2, C.pr.v3, C.pr.v4, C.pr.v5, C.pr.v6, C.pr.we, C.pr.wi, C.pr.pe, C.pr.fp, C.pr.he, C.pr.ho, C.pr.ra, C.pr.pa, C.tm, C.sc, C.po, C.al, C.ho, C.mo, C.dn, C.se, C.ke, C.ca, C.co, sO16 C.sh, sO27 C.sh, sO34 C.sh, sO40 C.sh, sA28 C.sh, sA29 C.sh, sA30 C.sh, sA31 C.sh, sA32 C.sh, sA33 C.sh, sA35 C.sh, sA36 C.sh, sA37 C.sh, sA38 C.sh, sA39 C.sh, sA41 C.sh, sA42 C.sh, sA43 C.sh, sA44 C.sh, pO C.sh C.pr.hp, pA1 C.sh C.pr.hp, pA2 C.sh C.pr.hp, pA3 C.sh C.pr.hp, pA4 C.sh C.pr.hp, pA5 C.sh C.pr.hp, pA6 C.sh C.pr.hp, pA7 C.sh C.pr.hp, pA8 C.sh C.pr.hp, pA9 C.sh C.pr.hp, pN C.pr.hp, pN0 C.pr.hp, iR_t, Int.reduceAdd, ↓c_dev' C T a1.1 a1.2]
theorem c_heirOfHome' {ω : Type} {K : _ → Option ω} (C : CR P σ p t f g) (T : TV t) (h0 : 0 ≤ k) (h1 : k < t 2) : cl (fX2_heirOfHome P σ 16 k) K = K ((t (63 + t (71 + 3 * k)))) := e_cl (c_heirOfHome C T h0 h1)
theorem c_wantedHolder (C : CR P σ p t f g) (T : TV t) (F : FV B t f g) (h0 : 0 ≤ k) (h1 : k < t 2) : fX2_wantedHolder P σ 16 k = some (wantF t f k) := by
  have n2 := T.n2
  have n1 := T.n1
  have a1 := T.ho k h0 h1
  have a2 := T.he (t (71 + 3 * k)) a1.1 a1.2
  by_cases c1 : gdF f (t (71 + 3 * k)) = true
  · simp (disch := first | omega | assumption) only [fX2_wantedHolder, wantF, ↓z_lt, ↓z_ge, ↓z_gt, ↓z_le, ↓z_eq, ↓z_ne, ↓z_mx, ↓z_mn, ↓z_dv, ↓z_rm, ↓z_i2l, ↓z_lc, ↓z_sw, ↓z_sf, ↓z_sn, ↓z_bd, ↓z_nt, z_b0, z_b1, z_bi, z_bj, ↓z_gF, ↓z_gR, ↓z_pF, ↓z_pZ, ↓z_pR, ↓z_aI, ↓z_aR, ↓z_sI, ↓z_sZ, ↓z_on, z_cl, ↓reduceIte, Int.reduceEq, Int.reduceNeg, Int.reduceLT, Int.reduceLE, Int.reduceAdd, Int.reduceSub, Int.reduceMul, true_and, and_true, or_true, true_or, eq_self, C.h0, C.h1, C.p2, C.p3, C.p4, C.p5, C.p6, C.p7, C.p8, C.p9, C.e0, C.e1, C.e2, C.e4, C.e5, C.l2, C.l3, C.l4, C.l5, C.pr.r7, C.pr.r8, C.pr.r9, C.pr.r10, C.pr.r11, C.pr.r12, C.pr.r13, C.pr.r14, C.pr.r15, C.pr.v0, C.pr.v1, C.pr.v2, C.pr.v3, C.pr.v4, C.pr.v5, C.pr.v6, C.pr.we, C.pr.wi, C.pr.pe, C.pr.fp, C.pr.he, C.pr.ho, C.pr.ra, C.pr.pa, C.tm, C.sc, C.po, C.al, C.ho, C.mo, C.dn, C.se, C.ke, C.ca, C.co, sO16 C.sh, sO27 C.sh, sO34 C.sh, sO40 C.sh, sA28 C.sh, sA29 C.sh, sA30 C.sh, sA31 C.sh, sA32 C.sh, sA33 C.sh, sA35 C.sh, sA36 C.sh, sA37 C.sh, sA38 C.sh, sA39 C.sh, sA41 C.sh, sA42 C.sh, sA43 C.sh, sA44 C.sh, pO C.sh C.pr.hp, pA1 C.sh C.pr.hp, pA2 C.sh C.pr.hp, pA3 C.sh C.pr.hp, pA4 C.sh C.pr.hp, pA5 C.sh C.pr.hp, pA6 C.sh C.pr.hp, pA7 C.sh C.pr.hp, pA8 C.sh C.pr.hp, pA9 C.sh C.pr.hp, pN C.pr.hp, pN0 C.pr.hp, iR_t, Int.reduceAdd, ↓c_canHold' C T F, c1]
  · by_cases c2 : t (63 + t (71 + 3 * k)) = -1
    · simp (disch := first | omega | assumption) only [fX2_wantedHolder, wantF, ↓z_lt, ↓z_ge, ↓z_gt, ↓z_le, ↓z_eq, ↓z_ne, ↓z_mx, ↓z_mn, ↓z_dv, ↓z_rm, ↓z_i2l, ↓z_lc, ↓z_sw, ↓z_sf, ↓z_sn, ↓z_bd, ↓z_nt, z_b0, z_b1, z_bi, z_bj, ↓z_gF, ↓z_gR, ↓z_pF, ↓z_pZ, ↓z_pR, ↓z_aI, ↓z_aR, ↓z_sI, ↓z_sZ, ↓z_on, z_cl, ↓reduceIte, Int.reduceEq, Int.reduceNeg, Int.reduceLT, Int.reduceLE, Int.reduceAdd, Int.reduceSub, Int.reduceMul, true_and, and_true, or_true, true_or, eq_self, C.h0, C.h1, C.p2, C.p3, C.p4, C.p5, C.p6, C.p7, C.p8, C.p9, C.e0, C.e1, C.e2, C.e4, C.e5, C.l2, C.l3, C.l4, C.l5, C.pr.r7, C.pr.r8, C.pr.r9, C.pr.r10, C.pr.r11, C.pr.r12, C.pr.r13, C.pr.r14, C.pr.r15, C.pr.v0, C.pr.v1, C.pr.v2, C.pr.v3, C.pr.v4, C.pr.v5, C.pr.v6, C.pr.we, C.pr.wi, C.pr.pe, C.pr.fp, C.pr.he, C.pr.ho, C.pr.ra, C.pr.pa, C.tm, C.sc, C.po, C.al, C.ho, C.mo, C.dn, C.se, C.ke, C.ca, C.co, sO16 C.sh, sO27 C.sh, sO34 C.sh, sO40 C.sh, sA28 C.sh, sA29 C.sh, sA30 C.sh, sA31 C.sh, sA32 C.sh, sA33 C.sh, sA35 C.sh, sA36 C.sh, sA37 C.sh, sA38 C.sh, sA39 C.sh, sA41 C.sh, sA42 C.sh, sA43 C.sh, sA44 C.sh, pO C.sh C.pr.hp, pA1 C.sh C.pr.hp, pA2 C.sh C.pr.hp, pA3 C.sh C.pr.hp, pA4 C.sh C.pr.hp, pA5 C.sh C.pr.hp, pA6 C.sh C.pr.hp, pA7 C.sh C.pr.hp, pA8 C.sh C.pr.hp, pA9 C.sh C.pr.hp, pN C.pr.hp, pN0 C.pr.hp, iR_t, Int.reduceAdd, ↓c_canHold' C T F, ↓c_heirOfHome' C T, c1, c2, ↓c_ncanHold' C T, Bool.false_eq_true]
    · by_cases c3 : gdF f (t (63 + t (71 + 3 * k))) = true
      · simp (disch := first | omega | assumption) only [fX2_wantedHolder, wantF, ↓z_lt, ↓z_ge, ↓z_gt, ↓z_le, ↓z_eq, ↓z_ne, ↓z_mx, ↓z_mn, ↓z_dv, ↓z_rm, ↓z_i2l, ↓z_lc, ↓z_sw, ↓z_sf, ↓z_sn, ↓z_bd, ↓z_nt, z_b0, z_b1, z_bi, z_bj, ↓z_gF, ↓z_gR, ↓z_pF, ↓z_pZ, ↓z_pR, ↓z_aI, ↓z_aR, ↓z_sI, ↓z_sZ, ↓z_on, z_cl, ↓reduceIte, Int.reduceEq, Int.reduceNeg, Int.reduceLT, Int.reduceLE, Int.reduceAdd, Int.reduceSub, Int.reduceMul, true_and, and_true, or_true, true_or, eq_self, C.h0, C.h1, C.p2, C.p3, C.p4, C.p5, C.p6, C.p7, C.p8, C.p9, C.e0, C.e1, C.e2, C.e4, C.e5, C.l2, C.l3, C.l4, C.l5, C.pr.r7, C.pr.r8, C.pr.r9, C.pr.r10, C.pr.r11, C.pr.r12, C.pr.r13, C.pr.r14, C.pr.r15, C.pr.v0, C.pr.v1, C.pr.v2, C.pr.v3, C.pr.v4, C.pr.v5, C.pr.v6, C.pr.we, C.pr.wi, C.pr.pe, C.pr.fp, C.pr.he, C.pr.ho, C.pr.ra, C.pr.pa, C.tm, C.sc, C.po, C.al, C.ho, C.mo, C.dn, C.se, C.ke, C.ca, C.co, sO16 C.sh, sO27 C.sh, sO34 C.sh, sO40 C.sh, sA28 C.sh, sA29 C.sh, sA30 C.sh, sA31 C.sh, sA32 C.sh, sA33 C.sh, sA35 C.sh, sA36 C.sh, sA37 C.sh, sA38 C.sh, sA39 C.sh, sA41 C.sh, sA42 C.sh, sA43 C.sh, sA44 C.sh, pO C.sh C.pr.hp, pA1 C.sh C.pr.hp, pA2 C.sh C.pr.hp, pA3 C.sh C.pr.hp, pA4 C.sh C.pr.hp, pA5 C.sh C.pr.hp, pA6 C.sh C.pr.hp, pA7 C.sh C.pr.hp, pA8 C.sh C.pr.hp, pA9 C.sh C.pr.hp, pN C.pr.hp, pN0 C.pr.hp, iR_t, Int.reduceAdd, ↓c_canHold' C T F, ↓c_heirOfHome' C T, c1, c2, c3, Bool.false_eq_true]
      · simp (disch := first | omega | assumption) only [fX2_wantedHolder, wantF, ↓z_lt, ↓z_ge, ↓z_gt, ↓z_le, ↓z_eq, ↓z_ne, ↓z_mx, ↓z_mn, ↓z_dv, ↓z_rm, ↓z_i2l, ↓z_lc, ↓z_sw, ↓z_sf, ↓z_sn, ↓z_bd, ↓z_nt, z_b0, z_b1, z_bi, z_bj, ↓z_gF, ↓z_gR, ↓z_pF, ↓z_pZ, ↓z_pR, ↓z_aI, ↓z_aR, ↓z_sI, ↓z_sZ, ↓z_on, z_cl, ↓reduceIte, Int.reduceEq, Int.reduceNeg, Int.reduceLT, Int.reduceLE, Int.reduceAdd, Int.reduceSub, Int.reduceMul, true_and, and_true, or_true, true_or, eq_self, C.h0, C.h1, C.p2, C.p3, C.p4, C.p5, C.p6, C.p7, C.p8, C.p9, C.e0, C.e1, C.e2, C.e4, C.e5, C.l2, C.l3, C.l4, C.l5, C.pr.r7, C.pr.r8, C.pr.r9, C.pr.r10, C.pr.r11, C.pr.r12, C.pr.r13, C.pr.r14, C.pr.r15, C.pr.v0, C.pr.v1, C.pr.v2, C.pr.v3, C.pr.v4, C.pr.v5, C.pr.v6, C.pr.we, C.pr.wi, C.pr.pe, C.pr.fp, C.pr.he, C.pr.ho, C.pr.ra, C.pr.pa, C.tm, C.sc, C.po, C.al, C.ho, C.mo, C.dn, C.se, C.ke, C.ca, C.co, sO16 C.sh, sO27 C.sh, sO34 C.sh, sO40 C.sh, sA28 C.sh, sA29 C.sh, sA30 C.sh, sA31 C.sh, sA32 C.sh, sA33 C.sh, sA35 C.sh, sA36 C.sh, sA37 C.sh, sA38 C.sh, sA39 C.sh, sA41 C.sh, sA42 C.sh, sA43 C.sh, sA44 C.sh, pO C.sh C.pr.hp, pA1 C.sh C.pr.hp, pA2 C.sh C.pr.hp, pA3 C.sh C.pr.hp, pA4 C.sh C.pr.hp, pA5 C.sh C.pr.hp, pA6 C.sh C.pr.hp, pA7 C.sh C.pr.hp, pA8 C.sh C.pr.hp, pA9 C.sh C.pr.hp, pN C.pr.hp, pN0 C.pr.hp, iR_t, Int.reduceAdd, ↓c_canHold' C T F, ↓c_heirOfHome' C T, c1, c2, c3, Bool.false_eq_true]
theorem c_wantedHolder' {ω : Type} {K : _ → Option ω} (C : CR P σ p t f g) (T : TV t) (F : FV B t f g) (h0 : 0 ≤ k) (h1 : k < t 2) : cl (fX2_wantedHolder P σ 16 k) K = K ((wantF t f k)) := e_cl (c_wantedHolder C T F h0 h1)
theorem c_reserved (C : CR P σ p t f g) (T : TV t) (F : FV B t f g) : fX2_reserved P σ 16 = some (resvF t f) := by
  have n2 := T.n2
  have hN := T.n2N
  unfold fX2_reserved resvF
  refine (loop_v (fun m k a => fX2_reserved_L4 P σ 16 (fun x9 => some x9) m a k) (fun a => some a) (t 2).toNat _ (fun _ _ => True) (fun k m a hk _ => ⟨?_, trivial⟩) (fun m a _ => ?_) (by omega) trivial).1
  · have hk2 : ¬ (t 2 ≤ (k : Int)) := by omega
    by_cases c : f (238 + 3 * (k : Int)) = 0
    · simp (disch := first | omega | assumption) only [fX2_reserved_L4, ↓z_lt, ↓z_ge, ↓z_gt, ↓z_le, ↓z_eq, ↓z_ne, ↓z_mx, ↓z_mn, ↓z_dv, ↓z_rm, ↓z_i2l, ↓z_lc, ↓z_sw, ↓z_sf, ↓z_sn, ↓z_bd, ↓z_nt, z_b0, z_b1, z_bi, z_bj, ↓z_gF, ↓z_gR, ↓z_pF, ↓z_pZ, ↓z_pR, ↓z_aI, ↓z_aR, ↓z_sI, ↓z_sZ, ↓z_on, z_cl, ↓reduceIte, Int.reduceEq, Int.reduceNeg, Int.reduceLT, Int.reduceLE, Int.reduceAdd, Int.reduceSub, Int.reduceMul, true_and, and_true, or_true, true_or, eq_self, C.h0, C.h1, C.p2, C.p3, C.p4, C.p5, C.p6, C.p7, C.p8, C.p9, C.e0, C.e1, C.e2, C.e4, C.e5, C.l2, C.l3, C.l4, C.l5, C.pr.r7, C.pr.r8, C.pr.r9, C.pr.r10, C.pr.r11, C.pr.r12, C.pr.r13, C.pr.r14, C.pr.r15, C.pr.v0, C.pr.v1, C.pr.v2, C.pr.v3, C.pr.v4, C.pr.v5, C.pr.v6, C.pr.we, C.pr.wi, C.pr.pe, C.pr.fp, C.pr.he, C.pr.ho, C.pr.ra, C.pr.pa, C.tm, C.sc, C.po, C.al, C.ho, C.mo, C.dn, C.se, C.ke, C.ca, C.co, sO16 C.sh, sO27 C.sh, sO34 C.sh, sO40 C.sh, sA28 C.sh, sA29 C.sh, sA30 C.sh, sA31 C.sh, sA32 C.sh, sA33 C.sh, sA35 C.sh, sA36 C.sh, sA37 C.sh, sA38 C.sh, sA39 C.sh, sA41 C.sh, sA42 C.sh, sA43 C.sh, sA44 C.sh, pO C.sh C.pr.hp, pA1 C.sh C.pr.hp, pA2 C.sh C.pr.hp, pA3 C.sh C.pr.hp, pA4 C.sh C.pr.hp, pA5 C.sh C.pr.hp, pA6 C.sh C.pr.hp, pA7 C.sh C.pr.hp, pA8 C.sh C.pr.hp, pA9 C.sh C.pr.hp, pN C.pr.hp, pN0 C.pr.hp, iR_t, Int.reduceAdd, hk2, c, T.vr, F.vr, Int.add_zero]
    · simp (disch := first | omega | assumption) only [fX2_reserved_L4, ↓z_lt, ↓z_ge, ↓z_gt, ↓z_le, ↓z_eq, ↓z_ne, ↓z_mx, ↓z_mn, ↓z_dv, ↓z_rm, ↓z_i2l, ↓z_lc, ↓z_sw, ↓z_sf, ↓z_sn, ↓z_bd, ↓z_nt, z_b0, z_b1, z_bi, z_bj, ↓z_gF, ↓z_gR, ↓z_pF, ↓z_pZ, ↓z_pR, ↓z_aI, ↓z_aR, ↓z_sI, ↓z_sZ, ↓z_on, z_cl, ↓reduceIte, Int.reduceEq, Int.reduceNeg, Int.reduceLT, Int.reduceLE, Int.reduceAdd, Int.reduceSub, Int.reduceMul, true_and, and_true, or_true, true_or, eq_self, C.h0, C.h1, C.p2, C.p3, C.p4, C.p5, C.p6, C.p7, C.p8, C.p9, C.e0, C.e1, C.e2, C.e4, C.e5, C.l2, C.l3, C.l4, C.l5, C.pr.r7, C.pr.r8, C.pr.r9, C.pr.r10, C.pr.r11, C.pr.r12, C.pr.r13, C.pr.r14, C.pr.r15, C.pr.v0, C.pr.v1, C.pr.v2, C.pr.v3, C.pr.v4, C.pr.v5, C.pr.v6, C.pr.we, C.pr.wi, C.pr.pe, C.pr.fp, C.pr.he, C.pr.ho, C.pr.ra, C.pr.pa, C.tm, C.sc, C.po, C.al, C.ho, C.mo, C.dn, C.se, C.ke, C.ca, C.co, sO16 C.sh, sO27 C.sh, sO34 C.sh, sO40 C.sh, sA28 C.sh, sA29 C.sh, sA30 C.sh, sA31 C.sh, sA32 C.sh, sA33 C.sh, sA35 C.sh, sA36 C.sh, sA37 C.sh, sA38 C.sh, sA39 C.sh, sA41 C.sh, sA42 C.sh, sA43 C.sh, sA44 C.sh, pO C.sh C.pr.hp, pA1 C.sh C.pr.hp, pA2 C.sh C.pr.hp, pA3 C.sh C.pr.hp, pA4 C.sh C.pr.hp, pA5 C.sh C.pr.hp, pA6 C.sh C.pr.hp, pA7 C.sh C.pr.hp, pA8 C.sh C.pr.hp, pA9 C.sh C.pr.hp, pN C.pr.hp, pN0 C.pr.hp, iR_t, Int.reduceAdd, hk2, c, T.vr, F.vr]
  · simp (disch := first | omega | assumption) only [fX2_reserved_L4, ↓z_lt, ↓z_ge, ↓z_gt, ↓z_le, ↓z_eq, ↓z_ne, ↓z_mx, ↓z_mn, ↓z_dv, ↓z_rm, ↓z_i2l, ↓z_lc, ↓z_sw, ↓z_sf, ↓z_sn, ↓z_bd, ↓z_nt, z_b0, z_b1, z_bi, z_bj, ↓z_gF, ↓z_gR, ↓z_pF, ↓z_pZ, ↓z_pR, ↓z_aI, ↓z_aR, ↓z_sI, ↓z_sZ, ↓z_on, z_cl, ↓reduceIte, Int.reduceEq, Int.reduceNeg, Int.reduceLT, Int.reduceLE, Int.reduceAdd, Int.reduceSub, Int.reduceMul, true_and, and_true, or_true, true_or, eq_self, C.h0, C.h1, C.p2, C.p3, C.p4, C.p5, C.p6, C.p7, C.p8, C.p9, C.e0, C.e1, C.e2, C.e4, C.e5, C.l2, C.l3, C.l4, C.l5, C.pr.r7, C.pr.r8, C.pr.r9, C.pr.r10, C.pr.r11, C.pr.r12, C.pr.r13, C.pr.r14, C.pr.r15, C.pr.v0, C.pr.v1, C.pr.v2, C.pr.v3, C.pr.v4, C.pr.v5, C.pr.v6, C.pr.we, C.pr.wi, C.pr.pe, C.pr.fp, C.pr.he, C.pr.ho, C.pr.ra, C.pr.pa, C.tm, C.sc, C.po, C.al, C.ho, C.mo, C.dn, C.se, C.ke, C.ca, C.co, sO16 C.sh, sO27 C.sh, sO34 C.sh, sO40 C.sh, sA28 C.sh, sA29 C.sh, sA30 C.sh, sA31 C.sh, sA32 C.sh, sA33 C.sh, sA35 C.sh, sA36 C.sh, sA37 C.sh, sA38 C.sh, sA39 C.sh, sA41 C.sh, sA42 C.sh, sA43 C.sh, sA44 C.sh, pO C.sh C.pr.hp, pA1 C.sh C.pr.hp, pA2 C.sh C.pr.hp, pA3 C.sh C.pr.hp, pA4 C.sh C.pr.hp, pA5 C.sh C.pr.hp, pA6 C.sh C.pr.hp, pA7 C.sh C.pr.hp, pA8 C.sh C.pr.hp, pA9 C.sh C.pr.hp, pN C.pr.hp, pN0 C.pr.hp, iR_t, Int.reduceAdd, hN, Int.le_refl, T.vr]
theorem c_reserved' {ω : Type} {K : _ → Option ω} (C : CR P σ p t f g) (T : TV t) (F : FV B t f g) : cl (fX2_reserved P σ 16) K = K ((resvF t f)) := e_cl (c_reserved C T F)
end ZK
