/-! A CHANGE IS REMEMBERED on both sides. -/
def PP (σ : St) (p : Int) : Prop :=
  (σ p 7 = p + 1) ∧
  (σ p 8 = p + 2) ∧
  (σ p 9 = p + 3) ∧
  (σ p 10 = p + 4) ∧
  (σ p 11 = p + 5) ∧
  (σ p 12 = p + 6) ∧
  (σ p 13 = p + 7) ∧
  (σ p 14 = p + 8) ∧
  (σ p 15 = p + 9)
theorem PP.r7 {σ : St} {p : Int} (h : PP σ p) : σ p 7 = p + 1 := h.1
theorem PP.r8 {σ : St} {p : Int} (h : PP σ p) : σ p 8 = p + 2 := h.2.1
theorem PP.r9 {σ : St} {p : Int} (h : PP σ p) : σ p 9 = p + 3 := h.2.2.1
theorem PP.r10 {σ : St} {p : Int} (h : PP σ p) : σ p 10 = p + 4 := h.2.2.2.1
theorem PP.r11 {σ : St} {p : Int} (h : PP σ p) : σ p 11 = p + 5 := h.2.2.2.2.1
theorem PP.r12 {σ : St} {p : Int} (h : PP σ p) : σ p 12 = p + 6 := h.2.2.2.2.2.1
theorem PP.r13 {σ : St} {p : Int} (h : PP σ p) : σ p 13 = p + 7 := h.2.2.2.2.2.2.1
theorem PP.r14 {σ : St} {p : Int} (h : PP σ p) : σ p 14 = p + 8 := h.2.2.2.2.2.2.2.1
theorem PP.r15 {σ : St} {p : Int} (h : PP σ p) : σ p 15 = p + 9 := h.2.2.2.2.2.2.2.2
def GR (P : Shp) (σ : St) (p : Int) (t : Int → Int) (B : Int) : Prop :=
  (CR P σ p t (σ 270) (σ 271)) ∧
  (MP P σ t) ∧
  (TV t) ∧
  (FV B t (σ 270) (σ 271)) ∧
  (CV (σ 270)) ∧
  (σ 0 0 = 1) ∧
  (σ 0 1 = 16) ∧
  (σ 0 2 = 45) ∧
  (σ 0 3 = 227) ∧
  (σ 0 4 = 228) ∧
  (σ 1 0 = 2) ∧
  (σ 1 9 = 20 - p) ∧
  (σ 1 11 = 13) ∧
  (σ 1 12 = 14) ∧
  (σ 1 13 = 15) ∧
  (PP σ (20 - p)) ∧
  (σ 45 0 = 46) ∧
  (0 ≤ σ 45 2 ∧ σ 45 2 < 10) ∧
  (0 ≤ σ 45 1 ∧ σ 45 1 ≤ 10) ∧
  (σ 265 18 = σ 45 1) ∧
  (∀ i, 0 ≤ i → i < 10 → σ 46 i = 47 + 18 * i ∧ SP σ (47 + 18 * i)) ∧
  (∀ j, 0 ≤ j → j < σ 45 1 → KS σ (47 + 18 * ((σ 45 2 - 1 - j) % 10)) B t (cuF (σ 272) (σ 45 1 - 1 - j)) (cuG (σ 273) (σ 45 1 - 1 - j))) ∧
  (∀ i, 0 ≤ i → i < 2 → σ 227 i = 229 + 18 * i ∧ SP σ (229 + 18 * i)) ∧
  (∀ i, 0 ≤ i → i < 2 → (σ 228 i = 0 ∨ σ 228 i = 1) ∧ σ 276 i = σ 228 i ∧ (σ 228 i = 1 → KS σ (229 + 18 * i) B t (cuF (σ 274) i) (cuG (σ 275) i))) ∧
  (0 ≤ σ 1 1 ∧ σ 1 1 ≤ 600 ∧ σ 265 2 = σ 1 1) ∧
  (∀ i, 0 ≤ i → i < σ 1 1 → σ 2 i = σ 266 i ∧ -128 ≤ σ 2 i ∧ σ 2 i ≤ 127)
theorem GR.cr {P : Shp} {σ : St} {p : Int} {t : Int → Int} {B : Int} (h : GR P σ p t B) : CR P σ p t (σ 270) (σ 271) := h.1
theorem GR.mp {P : Shp} {σ : St} {p : Int} {t : Int → Int} {B : Int} (h : GR P σ p t B) : MP P σ t := h.2.1
theorem GR.tv {P : Shp} {σ : St} {p : Int} {t : Int → Int} {B : Int} (h : GR P σ p t B) : TV t := h.2.2.1
theorem GR.fv {P : Shp} {σ : St} {p : Int} {t : Int → Int} {B : Int} (h : GR P σ p t B) : FV B t (σ 270) (σ 271) := h.2.2.2.1
theorem GR.cv {P : Shp} {σ : St} {p : Int} {t : Int → Int} {B : Int} (h : GR P σ p t B) : CV (σ 270) := h.2.2.2.2.1
theorem GR.x0 {P : Shp} {σ : St} {p : Int} {t : Int → Int} {B : Int} (h : GR P σ p t B) : σ 0 0 = 1 := h.2.2.2.2.2.1
theorem GR.x1 {P : Shp} {σ : St} {p : Int} {t : Int → Int} {B : Int} (h : GR P σ p t B) : σ 0 1 = 16 := h.2.2.2.2.2.2.1
theorem GR.x2 {P : Shp} {σ : St} {p : Int} {t : Int → Int} {B : Int} (h : GR P σ p t B) : σ 0 2 = 45 := h.2.2.2.2.2.2.2.1
theorem GR.x3 {P : Shp} {σ : St} {p : Int} {t : Int → Int} {B : Int} (h : GR P σ p t B) : σ 0 3 = 227 := h.2.2.2.2.2.2.2.2.1
theorem GR.x4 {P : Shp} {σ : St} {p : Int} {t : Int → Int} {B : Int} (h : GR P σ p t B) : σ 0 4 = 228 := h.2.2.2.2.2.2.2.2.2.1
theorem GR.r0 {P : Shp} {σ : St} {p : Int} {t : Int → Int} {B : Int} (h : GR P σ p t B) : σ 1 0 = 2 := h.2.2.2.2.2.2.2.2.2.2.1
theorem GR.r9 {P : Shp} {σ : St} {p : Int} {t : Int → Int} {B : Int} (h : GR P σ p t B) : σ 1 9 = 20 - p := h.2.2.2.2.2.2.2.2.2.2.2.1
theorem GR.r11 {P : Shp} {σ : St} {p : Int} {t : Int → Int} {B : Int} (h : GR P σ p t B) : σ 1 11 = 13 := h.2.2.2.2.2.2.2.2.2.2.2.2.1
theorem GR.r12 {P : Shp} {σ : St} {p : Int} {t : Int → Int} {B : Int} (h : GR P σ p t B) : σ 1 12 = 14 := h.2.2.2.2.2.2.2.2.2.2.2.2.2.1
theorem GR.r13 {P : Shp} {σ : St} {p : Int} {t : Int → Int} {B : Int} (h : GR P σ p t B) : σ 1 13 = 15 := h.2.2.2.2.2.2.2.2.2.2.2.2.2.2.1
theorem GR.rq {P : Shp} {σ : St} {p : Int} {t : Int → Int} {B : Int} (h : GR P σ p t B) : PP σ (20 - p) := h.2.2.2.2.2.2.2.2.2.2.2.2.2.2.2.1
theorem GR.h0 {P : Shp} {σ : St} {p : Int} {t : Int → Int} {B : Int} (h : GR P σ p t B) : σ 45 0 = 46 := h.2.2.2.2.2.2.2.2.2.2.2.2.2.2.2.2.1
theorem GR.hn {P : Shp} {σ : St} {p : Int} {t : Int → Int} {B : Int} (h : GR P σ p t B) : 0 ≤ σ 45 2 ∧ σ 45 2 < 10 := h.2.2.2.2.2.2.2.2.2.2.2.2.2.2.2.2.2.1
theorem GR.hk {P : Shp} {σ : St} {p : Int} {t : Int → Int} {B : Int} (h : GR P σ p t B) : 0 ≤ σ 45 1 ∧ σ 45 1 ≤ 10 := h.2.2.2.2.2.2.2.2.2.2.2.2.2.2.2.2.2.2.1
theorem GR.hd {P : Shp} {σ : St} {p : Int} {t : Int → Int} {B : Int} (h : GR P σ p t B) : σ 265 18 = σ 45 1 := h.2.2.2.2.2.2.2.2.2.2.2.2.2.2.2.2.2.2.2.1
theorem GR.hs {P : Shp} {σ : St} {p : Int} {t : Int → Int} {B : Int} (h : GR P σ p t B) : ∀ i, 0 ≤ i → i < 10 → σ 46 i = 47 + 18 * i ∧ SP σ (47 + 18 * i) := h.2.2.2.2.2.2.2.2.2.2.2.2.2.2.2.2.2.2.2.2.1
theorem GR.hr {P : Shp} {σ : St} {p : Int} {t : Int → Int} {B : Int} (h : GR P σ p t B) : ∀ j, 0 ≤ j → j < σ 45 1 → KS σ (47 + 18 * ((σ 45 2 - 1 - j) % 10)) B t (cuF (σ 272) (σ 45 1 - 1 - j)) (cuG (σ 273) (σ 45 1 - 1 - j)) := h.2.2.2.2.2.2.2.2.2.2.2.2.2.2.2.2.2.2.2.2.2.1
theorem GR.ss {P : Shp} {σ : St} {p : Int} {t : Int → Int} {B : Int} (h : GR P σ p t B) : ∀ i, 0 ≤ i → i < 2 → σ 227 i = 229 + 18 * i ∧ SP σ (229 + 18 * i) := h.2.2.2.2.2.2.2.2.2.2.2.2.2.2.2.2.2.2.2.2.2.2.1
theorem GR.st {P : Shp} {σ : St} {p : Int} {t : Int → Int} {B : Int} (h : GR P σ p t B) : ∀ i, 0 ≤ i → i < 2 → (σ 228 i = 0 ∨ σ 228 i = 1) ∧ σ 276 i = σ 228 i ∧ (σ 228 i = 1 → KS σ (229 + 18 * i) B t (cuF (σ 274) i) (cuG (σ 275) i)) := h.2.2.2.2.2.2.2.2.2.2.2.2.2.2.2.2.2.2.2.2.2.2.2.1
theorem GR.bf {P : Shp} {σ : St} {p : Int} {t : Int → Int} {B : Int} (h : GR P σ p t B) : 0 ≤ σ 1 1 ∧ σ 1 1 ≤ 600 ∧ σ 265 2 = σ 1 1 := h.2.2.2.2.2.2.2.2.2.2.2.2.2.2.2.2.2.2.2.2.2.2.2.2.1
theorem GR.bb {P : Shp} {σ : St} {p : Int} {t : Int → Int} {B : Int} (h : GR P σ p t B) : ∀ i, 0 ≤ i → i < σ 1 1 → σ 2 i = σ 266 i ∧ -128 ≤ σ 2 i ∧ σ 2 i ≤ 127 := h.2.2.2.2.2.2.2.2.2.2.2.2.2.2.2.2.2.2.2.2.2.2.2.2.2
section ZY
variable {P : Shp} {σ σ' σ1 σ2 : St} {t f f' f2 g g' : Int → Int} {B B' : Int} {a b b' d k p q kind who m h j c x y i v w part N K D : Int} {n : Nat}
theorem isB_27 : isB 27 := ⟨27, by decide, rfl⟩
theorem isB_h (h0 : 0 ≤ i) (h1 : i < 10) : isB (47 + 18 * i) := by
  have h : i = 0 ∨ i = 1 ∨ i = 2 ∨ i = 3 ∨ i = 4 ∨ i = 5 ∨ i = 6 ∨ i = 7 ∨ i = 8 ∨ i = 9 := by omega
  rcases h with rfl | rfl | rfl | rfl | rfl | rfl | rfl | rfl | rfl | rfl
  · exact ⟨47, by decide, rfl⟩
  · exact ⟨65, by decide, rfl⟩
  · exact ⟨83, by decide, rfl⟩
  · exact ⟨101, by decide, rfl⟩
  · exact ⟨119, by decide, rfl⟩
  · exact ⟨137, by decide, rfl⟩
  · exact ⟨155, by decide, rfl⟩
  · exact ⟨173, by decide, rfl⟩
  · exact ⟨191, by decide, rfl⟩
  · exact ⟨209, by decide, rfl⟩
theorem isB_s (h0 : 0 ≤ i) (h1 : i < 2) : isB (229 + 18 * i) := by
  have h : i = 0 ∨ i = 1 := by omega
  rcases h with rfl | rfl
  · exact ⟨229, by decide, rfl⟩
  · exact ⟨247, by decide, rfl⟩
/-- the class remembers -/
def KC (σ σ2 : St) (t f g : Int → Int) : Prop :=
  (∀ o, o ≠ 45 → (o < 27 ∨ 44 < o) → (o < 47 + 18 * σ 45 2 ∨ 47 + 18 * σ 45 2 + 17 < o) → σ2 o = σ o) ∧
  (σ2 45 0 = 46) ∧
  (σ2 45 1 = if σ 45 1 = 10 then 10 else σ 45 1 + 1) ∧
  (σ2 45 2 = (σ 45 2 + 1) % 10) ∧
  (SR σ2 (47 + 18 * σ 45 2) t f g)
theorem KC.o {σ σ2 : St} {t f g : Int → Int} (h : KC σ σ2 t f g) : ∀ o, o ≠ 45 → (o < 27 ∨ 44 < o) → (o < 47 + 18 * σ 45 2 ∨ 47 + 18 * σ 45 2 + 17 < o) → σ2 o = σ o := h.1
theorem KC.a0 {σ σ2 : St} {t f g : Int → Int} (h : KC σ σ2 t f g) : σ2 45 0 = 46 := h.2.1
theorem KC.a1 {σ σ2 : St} {t f g : Int → Int} (h : KC σ σ2 t f g) : σ2 45 1 = if σ 45 1 = 10 then 10 else σ 45 1 + 1 := h.2.2.1
theorem KC.a2 {σ σ2 : St} {t f g : Int → Int} (h : KC σ σ2 t f g) : σ2 45 2 = (σ 45 2 + 1) % 10 := h.2.2.2.1
theorem KC.s {σ σ2 : St} {t f g : Int → Int} (h : KC σ σ2 t f g) : SR σ2 (47 + 18 * σ 45 2) t f g := h.2.2.2.2
theorem SR.fr (S : SR σ b t f g) (e : ∀ o, b ≤ o → o ≤ b + 17 → σ' o = σ o) : SR σ' b t f g := by
  unfold SR at S ⊢
  rw [e b (by omega) (by omega), e (b + 1) (by omega) (by omega), e (b + 2) (by omega) (by omega), e (b + 3) (by omega) (by omega), e (b + 4) (by omega) (by omega), e (b + 5) (by omega) (by omega), e (b + 6) (by omega) (by omega), e (b + 7) (by omega) (by omega), e (b + 8) (by omega) (by omega), e (b + 9) (by omega) (by omega), e (b + 10) (by omega) (by omega), e (b + 11) (by omega) (by omega), e (b + 12) (by omega) (by omega), e (b + 13) (by omega) (by omega), e (b + 14) (by omega) (by omega), e (b + 15) (by omega) (by omega), e (b + 16) (by omega) (by omega), e (b + 17) (by omega) (by omega)]
  exact S
theorem KC.fr (h : KC σ σ1 t f g) (hn : 0 ≤ σ 45 2 ∧ σ 45 2 < 10) (q : Fr σ1 σ2) : KC σ σ2 t f g :=
  ⟨fun o h1 h2 h3 => (q o h2).trans (h.o o h1 h2 h3), by rw [q 45 (by omega)]; exact h.a0, by rw [q 45 (by omega)]; exact h.a1, by rw [q 45 (by omega)]; exact h.a2, h.s.fr fun o h1 h2 => q o (by omega)⟩
theorem c_remember (G : GR P σ p t B) : ∃ σ1, fX1_remember P σ 45 27 = some σ1 ∧ KC σ σ1 t (σ 270) (σ 271) ∧ CR P σ1 p t (σ 270) (σ 271) := by
  have hn := G.hn
  have hk := G.hk
  have C := G.cr
  have M := G.mp
  have hs := G.hs (σ 45 2) hn.1 hn.2
  have hb := isB_h hn.1 hn.2
  have hne : (27 : Int) ≠ 47 + 18 * σ 45 2 := by omega
  have e := c_copyFrom C.sh isB_27 hb hne C.s.sp hs.2
  have S2 := cpB_SR isB_27 hb hne G.tv G.fv G.cv C.s hs.2
  have fo : ∀ o, (o < 47 + 18 * σ 45 2 ∨ 47 + 18 * σ 45 2 + 17 < o) → cpB σ 27 (47 + 18 * σ 45 2) o = σ o := fun o ho => cpB_o ho
  have r1 : ¬ (σ 45 2 < 0) := by omega
  have r2 : ¬ (47 + 18 * σ 45 2 = -1) := by omega
  have q0 : cpB σ 27 (47 + 18 * σ 45 2) 45 2 = σ 45 2 := by rw [fo 45 (by omega)]
  have q1 : cpB σ 27 (47 + 18 * σ 45 2) 45 1 = σ 45 1 := by rw [fo 45 (by omega)]
  have q2 : cpB σ 27 (47 + 18 * σ 45 2) 45 0 = 46 := by rw [fo 45 (by omega)]; exact G.h0
  refine ⟨wr (wr (cpB σ 27 (47 + 18 * σ 45 2)) 45 2 ((σ 45 2 + 1) % 10)) 45 1 (if 10 < σ 45 1 + 1 then 10 else σ 45 1 + 1), ?_, ?_, ?_⟩
  · simp (disch := first | omega | assumption | (simp (disch := omega) only [ G.h0, hs.1 ]; done) | fail) only [fX1_remember, ↓z_lt, ↓z_ge, ↓z_gt, ↓z_le, ↓z_eq, ↓z_ne, ↓z_mx, ↓z_mn, ↓z_dv, ↓z_rm, ↓z_i2l, ↓z_lc, ↓z_sw, ↓z_sf, ↓z_sn, ↓z_bd, ↓z_nt, z_b0, z_b1, z_bi, z_bj, ↓z_gF, ↓z_gR, ↓z_pF, ↓z_pZ, ↓z_pR, ↓z_aI, ↓z_aR, ↓z_sI, ↓z_sZ, ↓z_on, z_cl, ↓reduceIte, Int.reduceEq, Int.reduceNeg, Int.reduceLT, Int.reduceLE, Int.reduceAdd, Int.reduceSub, Int.reduceMul, true_and, and_true, or_true, true_or, eq_self, sO45 C.sh, sA46 C.sh, G.h0, hs.1, hn.2, r1, r2, hb.O0 C.sh, ↓e_g e, q0, q1, iR_t, tmod_nn, wr_n, wr_i]
  · refine ⟨fun o h1 h2 h3 => ?_, ?_, ?_, ?_, ?_⟩
    · simp (disch := omega) only [wr_o]; exact fo o h3
    · simp (disch := omega) only [wr_i]; exact q2
    · rw [wr_s]; split <;> split <;> omega
    · simp (disch := omega) only [wr_i, wr_s]
    · exact S2.fr fun o h1 h2 => by simp (disch := omega) only [wr_o]
  · refine ⟨C.sh, ?_, ?_, ?_, ?_⟩
    · simp (disch := omega) only [wr_n]; rw [fo 16 (by omega)]; exact C.h0
    · simp (disch := omega) only [wr_n]; rw [fo 16 (by omega)]; exact C.h1
    · have hp := C.pr.hp
      exact C.pr.ag fun o _ _ => by rw [wr_o (by omega), wr_o (by omega)]; exact fo o (by omega)
    · exact C.s.fr fun o h1 h2 => by simp (disch := omega) only [wr_o, fo]
end ZY
