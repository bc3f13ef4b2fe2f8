/-! THE REFERENCE'S READERS as functions of its numbers. -/
def TV (t : Int → Int) : Prop :=
  (∀ j, -1 ≤ t j ∧ t j ≤ 9999) ∧
  (0 ≤ t 0 ∧ t 0 ≤ 6) ∧
  (0 ≤ t 1 ∧ t 1 ≤ 8) ∧
  (0 ≤ t 2 ∧ t 2 ≤ 12) ∧
  (1 ≤ t 4 ∧ t 4 ≤ 8) ∧
  (∀ p, 0 ≤ p → p < t 0 → 1 ≤ t (7 + 8 * p + 2) ∧ t (7 + 8 * p + 2) ≤ 5) ∧
  (∀ d, 0 ≤ d → d < t 1 → -1 ≤ t (63 + d) ∧ t (63 + d) < t 1) ∧
  (∀ k, 0 ≤ k → k < t 2 → 0 ≤ t (71 + 3 * k) ∧ t (71 + 3 * k) < t 1) ∧
  (∀ k, 0 ≤ k → k < t 2 → 1 ≤ t (71 + 3 * k + 1) ∧ t (71 + 3 * k + 1) ≤ 999) ∧
  (∀ k, 0 ≤ k → k < t 2 → 1 ≤ t (71 + 3 * k + 2)) ∧
  (∀ p, 0 ≤ p → p < t 0 → 1 ≤ t (7 + 8 * p + 1)) ∧
  (∀ p, 0 ≤ p → p < t 0 → 1 ≤ t (7 + 8 * p))
theorem TV.b {t : Int → Int} (h : TV t) : ∀ j, -1 ≤ t j ∧ t j ≤ 9999 := h.1
theorem TV.n0 {t : Int → Int} (h : TV t) : 0 ≤ t 0 ∧ t 0 ≤ 6 := h.2.1
theorem TV.n1 {t : Int → Int} (h : TV t) : 0 ≤ t 1 ∧ t 1 ≤ 8 := h.2.2.1
theorem TV.n2 {t : Int → Int} (h : TV t) : 0 ≤ t 2 ∧ t 2 ≤ 12 := h.2.2.2.1
theorem TV.n4 {t : Int → Int} (h : TV t) : 1 ≤ t 4 ∧ t 4 ≤ 8 := h.2.2.2.2.1
theorem TV.pe {t : Int → Int} (h : TV t) : ∀ p, 0 ≤ p → p < t 0 → 1 ≤ t (7 + 8 * p + 2) ∧ t (7 + 8 * p + 2) ≤ 5 := h.2.2.2.2.2.1
theorem TV.he {t : Int → Int} (h : TV t) : ∀ d, 0 ≤ d → d < t 1 → -1 ≤ t (63 + d) ∧ t (63 + d) < t 1 := h.2.2.2.2.2.2.1
theorem TV.ho {t : Int → Int} (h : TV t) : ∀ k, 0 ≤ k → k < t 2 → 0 ≤ t (71 + 3 * k) ∧ t (71 + 3 * k) < t 1 := h.2.2.2.2.2.2.2.1
theorem TV.ra {t : Int → Int} (h : TV t) : ∀ k, 0 ≤ k → k < t 2 → 1 ≤ t (71 + 3 * k + 1) ∧ t (71 + 3 * k + 1) ≤ 999 := h.2.2.2.2.2.2.2.2.1
theorem TV.pa {t : Int → Int} (h : TV t) : ∀ k, 0 ≤ k → k < t 2 → 1 ≤ t (71 + 3 * k + 2) := h.2.2.2.2.2.2.2.2.2.1
theorem TV.wi {t : Int → Int} (h : TV t) : ∀ p, 0 ≤ p → p < t 0 → 1 ≤ t (7 + 8 * p + 1) := h.2.2.2.2.2.2.2.2.2.2.1
theorem TV.we {t : Int → Int} (h : TV t) : ∀ p, 0 ≤ p → p < t 0 → 1 ≤ t (7 + 8 * p) := h.2.2.2.2.2.2.2.2.2.2.2
def FV (B : Int) (t f g : Int → Int) : Prop :=
  (0 ≤ B ∧ B ≤ 2000000000) ∧
  (∀ j, -1 ≤ f j ∧ f j ≤ B) ∧
  (∀ j, 0 ≤ g j ∧ g j ≤ 10000 * B) ∧
  (0 ≤ f 0 ∧ 0 ≤ f 3 ∧ 0 ≤ f 4) ∧
  (0 ≤ f 12) ∧
  (∀ d, 0 ≤ d → d < t 1 → f (14 + 28 * d + 1) = 0 ∨ f (14 + 28 * d + 1) = 1) ∧
  (∀ d, 0 ≤ d → d < t 1 → f (14 + 28 * d + 0) = -1 → f (14 + 28 * d + 1) = 0 ∧ f (14 + 28 * d + 3) = 0) ∧
  (∀ d, 0 ≤ d → d < t 1 → 0 ≤ f (14 + 28 * d + 2)) ∧
  (∀ d, 0 ≤ d → d < t 1 → 0 ≤ f (14 + 28 * d + 3) ∧ f (14 + 28 * d + 3) ≤ 12) ∧
  (∀ k, 0 ≤ k → k < t 2 → f (238 + 3 * k) = 0 ∨ f (238 + 3 * k) = 1 ∨ f (238 + 3 * k) = 2) ∧
  (∀ k, 0 ≤ k → k < t 2 → (f (238 + 3 * k) = 0 ∧ f (238 + 3 * k + 1) = -1) ∨ (f (238 + 3 * k) ≠ 0 ∧ 0 ≤ f (238 + 3 * k + 1) ∧ f (238 + 3 * k + 1) < t 1)) ∧
  (∀ k, 0 ≤ k → k < t 2 → 0 ≤ f (238 + 3 * k + 2) ∧ f (238 + 3 * k + 2) < t (71 + 3 * k + 2))
theorem FV.b0 {B : Int} {t f g : Int → Int} (h : FV B t f g) : 0 ≤ B ∧ B ≤ 2000000000 := h.1
theorem FV.bl {B : Int} {t f g : Int → Int} (h : FV B t f g) : ∀ j, -1 ≤ f j ∧ f j ≤ B := h.2.1
theorem FV.bg {B : Int} {t f g : Int → Int} (h : FV B t f g) : ∀ j, 0 ≤ g j ∧ g j ≤ 10000 * B := h.2.2.1
theorem FV.tq {B : Int} {t f g : Int → Int} (h : FV B t f g) : 0 ≤ f 0 ∧ 0 ≤ f 3 ∧ 0 ≤ f 4 := h.2.2.2.1
theorem FV.ev {B : Int} {t f g : Int → Int} (h : FV B t f g) : 0 ≤ f 12 := h.2.2.2.2.1
theorem FV.al {B : Int} {t f g : Int → Int} (h : FV B t f g) : ∀ d, 0 ≤ d → d < t 1 → f (14 + 28 * d + 1) = 0 ∨ f (14 + 28 * d + 1) = 1 := h.2.2.2.2.2.1
theorem FV.un {B : Int} {t f g : Int → Int} (h : FV B t f g) : ∀ d, 0 ≤ d → d < t 1 → f (14 + 28 * d + 0) = -1 → f (14 + 28 * d + 1) = 0 ∧ f (14 + 28 * d + 3) = 0 := h.2.2.2.2.2.2.1
theorem FV.si {B : Int} {t f g : Int → Int} (h : FV B t f g) : ∀ d, 0 ≤ d → d < t 1 → 0 ≤ f (14 + 28 * d + 2) := h.2.2.2.2.2.2.2.1
theorem FV.mn {B : Int} {t f g : Int → Int} (h : FV B t f g) : ∀ d, 0 ≤ d → d < t 1 → 0 ≤ f (14 + 28 * d + 3) ∧ f (14 + 28 * d + 3) ≤ 12 := h.2.2.2.2.2.2.2.2.1
theorem FV.mo {B : Int} {t f g : Int → Int} (h : FV B t f g) : ∀ k, 0 ≤ k → k < t 2 → f (238 + 3 * k) = 0 ∨ f (238 + 3 * k) = 1 ∨ f (238 + 3 * k) = 2 := h.2.2.2.2.2.2.2.2.2.1
theorem FV.ho {B : Int} {t f g : Int → Int} (h : FV B t f g) : ∀ k, 0 ≤ k → k < t 2 → (f (238 + 3 * k) = 0 ∧ f (238 + 3 * k + 1) = -1) ∨ (f (238 + 3 * k) ≠ 0 ∧ 0 ≤ f (238 + 3 * k + 1) ∧ f (238 + 3 * k + 1) < t 1) := h.2.2.2.2.2.2.2.2.2.2.1
theorem FV.dn {B : Int} {t f g : Int → Int} (h : FV B t f g) : ∀ k, 0 ≤ k → k < t 2 → 0 ≤ f (238 + 3 * k + 2) ∧ f (238 + 3 * k + 2) < t (71 + 3 * k + 2) := h.2.2.2.2.2.2.2.2.2.2.2
section ZC
variable {P : Shp} {σ : St} {t f g : Int → Int} {B : Int} {d k : Int}
theorem FV.tm (F : FV B t f g) : 0 ≤ f 0 := F.tq.1
theorem FV.vr (F : FV B t f g) (j : Int) : iR (f j) = true := by have h := F.bl j; have h2 := F.b0; exact iR_t (by omega) (by omega)
theorem TV.vr (T : TV t) (j : Int) : iR (t j) = true := by have h := T.b j; exact iR_t (by omega) (by omega)
def gdF (f : Int → Int) (d : Int) : Bool := decide (f (14 + 28 * d + 0) ≠ -1 ∧ f (14 + 28 * d + 1) ≠ 1)
end ZC
