/-! THE CLASS's GOOD STATE, and what every change keeps of it. -/
def GR (P : Shp) (σ : St) (p : Int) (t f g : Int → Int) (B : Int) : Prop :=
  (CR P σ p t f g) ∧
  (TV t) ∧
  (FV B t f g) ∧
  (CV f) ∧
  (σ 0 0 = 1) ∧
  (σ 0 1 = 16) ∧
  (σ 0 2 = 45) ∧
  (σ 0 3 = 227) ∧
  (σ 0 4 = 228) ∧
  (σ 45 0 = 46) ∧
  (0 ≤ σ 45 2 ∧ σ 45 2 < 10) ∧
  (0 ≤ σ 45 1 ∧ σ 45 1 ≤ 10) ∧
  (∀ i, 0 ≤ i → i < 10 → σ 46 i = 47 + 18 * i ∧ SP σ (47 + 18 * i)) ∧
  (∀ i, 0 ≤ i → i < 2 → σ 227 i = 229 + 18 * i ∧ SP σ (229 + 18 * i))
theorem GR.cr {P : Shp} {σ : St} {p : Int} {t f g : Int → Int} {B : Int} (h : GR P σ p t f g B) : CR P σ p t f g := h.1
theorem GR.tv {P : Shp} {σ : St} {p : Int} {t f g : Int → Int} {B : Int} (h : GR P σ p t f g B) : TV t := h.2.1
theorem GR.fv {P : Shp} {σ : St} {p : Int} {t f g : Int → Int} {B : Int} (h : GR P σ p t f g B) : FV B t f g := h.2.2.1
theorem GR.cv {P : Shp} {σ : St} {p : Int} {t f g : Int → Int} {B : Int} (h : GR P σ p t f g B) : CV f := h.2.2.2.1
theorem GR.x0 {P : Shp} {σ : St} {p : Int} {t f g : Int → Int} {B : Int} (h : GR P σ p t f g B) : σ 0 0 = 1 := h.2.2.2.2.1
theorem GR.x1 {P : Shp} {σ : St} {p : Int} {t f g : Int → Int} {B : Int} (h : GR P σ p t f g B) : σ 0 1 = 16 := h.2.2.2.2.2.1
theorem GR.x2 {P : Shp} {σ : St} {p : Int} {t f g : Int → Int} {B : Int} (h : GR P σ p t f g B) : σ 0 2 = 45 := h.2.2.2.2.2.2.1
theorem GR.x3 {P : Shp} {σ : St} {p : Int} {t f g : Int → Int} {B : Int} (h : GR P σ p t f g B) : σ 0 3 = 227 := h.2.2.2.2.2.2.2.1
theorem GR.x4 {P : Shp} {σ : St} {p : Int} {t f g : Int → Int} {B : Int} (h : GR P σ p t f g B) : σ 0 4 = 228 := h.2.2.2.2.2.2.2.2.1
theorem GR.h0 {P : Shp} {σ : St} {p : Int} {t f g : Int → Int} {B : Int} (h : GR P σ p t f g B) : σ 45 0 = 46 := h.2.2.2.2.2.2.2.2.2.1
theorem GR.hn {P : Shp} {σ : St} {p : Int} {t f g : Int → Int} {B : Int} (h : GR P σ p t f g B) : 0 ≤ σ 45 2 ∧ σ 45 2 < 10 := h.2.2.2.2.2.2.2.2.2.2.1
theorem GR.hk {P : Shp} {σ : St} {p : Int} {t f g : Int → Int} {B : Int} (h : GR P σ p t f g B) : 0 ≤ σ 45 1 ∧ σ 45 1 ≤ 10 := h.2.2.2.2.2.2.2.2.2.2.2.1
theorem GR.hs {P : Shp} {σ : St} {p : Int} {t f g : Int → Int} {B : Int} (h : GR P σ p t f g B) : ∀ i, 0 ≤ i → i < 10 → σ 46 i = 47 + 18 * i ∧ SP σ (47 + 18 * i) := h.2.2.2.2.2.2.2.2.2.2.2.2.1
theorem GR.ss {P : Shp} {σ : St} {p : Int} {t f g : Int → Int} {B : Int} (h : GR P σ p t f g B) : ∀ i, 0 ≤ i → i < 2 → σ 227 i = 229 + 18 * i ∧ SP σ (229 + 18 * i) := h.2.2.2.2.2.2.2.2.2.2.2.2.2
section ZZ2
variable {P : Shp} {σ σ' σ1 σ2 σ3 σ4 σ5 s : St} {t f f' f2 g g' : Int → Int} {B B' : Int} {a b b' d k p q kind who m h j c x y i v w part N K D : Int} {n : Nat}
theorem c_remember (G : GR P σ p t f g B) : ∃ σ1, fX1_remember P σ 45 27 = some σ1 ∧ KC σ σ1 t f g ∧ CR P σ1 p t f g := by
  have hn := G.hn
  have hk := G.hk
  have C := G.cr
  have hs := G.hs (σ 45 2) hn.1 hn.2
  have hb := isB_h hn.1 hn.2
  have hne : (27 : Int) ≠ 47 + 18 * σ 45 2 := by omega
  have e := c_copyFrom C.sh isB_27 hb hne C.s.sp hs.2
  have S2 := cpB_SR isB_27 hb hne G.tv G.fv G.cv C.s hs.2
  have fo : ∀ o, (o < 47 + 18 * σ 45 2 ∨ 47 + 18 * σ 45 2 + 17 < o) → cpB σ 27 (47 + 18 * σ 45 2) o = σ o := fun o ho => cpB_o ho
  have r1 : ¬ (σ 45 2 < 0) := by omega
  have r2 : ¬ (47 + 18 * σ 45 2 = -1) := by omega
  have q0 : cpB σ 27 (47 + 18 * σ 45 2) 45 2 = σ 45 2 := by rw [fo 45 (by omega)]
  have q1 : cpB σ 27 (47 + 18 * σ 45 2) 45 1 = σ 45 1 := by rw [fo 45 (by omega)]
  have q2 : cpB σ 27 (47 + 18 * σ 45 2) 45 0 = 46 := by rw [fo 45 (by omega)]; exact G.h0
  refine ⟨wr (wr (cpB σ 27 (47 + 18 * σ 45 2)) 45 2 ((σ 45 2 + 1) % 10)) 45 1 (if 10 < σ 45 1 + 1 then 10 else σ 45 1 + 1), ?_, ?_, ?_⟩
  · simp (disch := first | omega | assumption | (simp (disch := omega) only [ G.h0, hs.1 ]; done) | fail) only [fX1_remember, ↓z_lt, ↓z_ge, ↓z_gt, ↓z_le, ↓z_eq, ↓z_ne, ↓z_mx, ↓z_mn, ↓z_dv, ↓z_rm, ↓z_i2l, ↓z_lc, ↓z_sw, ↓z_sf, ↓z_sn, ↓z_bd, ↓z_nt, z_b0, z_b1, z_bi, z_bj, ↓z_gF, ↓z_gR, ↓z_pF, ↓z_pZ, ↓z_pR, ↓z_aI, ↓z_aR, ↓z_sI, ↓z_sZ, ↓z_on, z_cl, ↓reduceIte, Int.reduceEq, Int.reduceNeg, Int.reduceLT, Int.reduceLE, Int.reduceAdd, Int.reduceSub, Int.reduceMul, true_and, and_true, or_true, true_or, eq_self, sO45 C.sh, sA46 C.sh, G.h0, hs.1, hn.2, r1, r2, hb.O0 C.sh, ↓e_g e, q0, q1, iR_t, tmod_nn, wr_n, wr_i]
  · refine ⟨fun o h1 h2 h3 => ?_, ?_, ?_, ?_, ?_⟩
    · simp (disch := omega) only [wr_o]; exact fo o h3
    · simp (disch := omega) only [wr_i]; exact q2
    · rw [wr_s]; split <;> split <;> omega
    · simp (disch := omega) only [wr_i, wr_s]
    · exact S2.fr fun o h1 h2 => by simp (disch := omega) only [wr_o]
  · refine ⟨C.sh, ?_, ?_, ?_, ?_⟩
    · simp (disch := omega) only [wr_n]; rw [fo 16 (by omega)]; exact C.h0
    · simp (disch := omega) only [wr_n]; rw [fo 16 (by omega)]; exact C.h1
    · have hp := C.pr.hp
      exact C.pr.ag fun o _ _ => by rw [wr_o (by omega), wr_o (by omega)]; exact fo o (by omega)
    · exact C.s.fr fun o h1 h2 => by simp (disch := omega) only [wr_o, fo]
theorem GR.chg (G : GR P σ p t f g B) (kc : KC σ σ2 t f g) (C2 : CR P σ2 p t f' g') (F5 : FV B' t f' g') (V5 : CV f') : GR P σ2 p t f' g' B' := by
  have hn := G.hn
  have hk := G.hk
  have e0 : σ2 0 = σ 0 := kc.o 0 (by omega) (by omega) (by omega)
  have e46 : σ2 46 = σ 46 := kc.o 46 (by omega) (by omega) (by omega)
  have e227 : σ2 227 = σ 227 := kc.o 227 (by omega) (by omega) (by omega)
  refine ⟨C2, G.tv, F5, V5, by rw [e0]; exact G.x0, by rw [e0]; exact G.x1, by rw [e0]; exact G.x2, by rw [e0]; exact G.x3, by rw [e0]; exact G.x4, kc.a0, ?_, ?_, ?_, ?_⟩
  · rw [kc.a2]; omega
  · rw [kc.a1]; split <;> omega
  · intro i i0 i1
    refine ⟨by rw [e46]; exact (G.hs i i0 i1).1, ?_⟩
    by_cases h : i = σ 45 2
    · subst h; exact kc.s.sp
    · exact (G.hs i i0 i1).2.fr fun o h1 h2 => kc.o o (by omega) (by omega) (by omega)
  · intro i i0 i1
    refine ⟨by rw [e227]; exact (G.ss i i0 i1).1, (G.ss i i0 i1).2.fr fun o h1 h2 => kc.o o (by omega) (by omega) (by omega)⟩
theorem kc_01 (kc : KC σ σ1 t f g) (G : GR P σ p t f g B) : σ1 0 1 = 16 ∧ σ1 0 2 = 45 := by
  have hn := G.hn
  rw [kc.o 0 (by omega) (by omega) (by omega)]
  exact ⟨G.x1, G.x2⟩
/-- what a change leaves of the snapshots -/
theorem kc_sn (kc : KC σ σ1 t f g) (G : GR P σ p t f g B) (h0 : 227 ≤ j) (h1 : j < 265) : σ1 j = σ j := by
  have hn := G.hn
  exact kc.o j (by omega) (by omega) (by omega)
end ZZ2
