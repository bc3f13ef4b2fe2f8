/-! THE RELATION AT THE START. -/
def spC (σ : St) (b : Int) : Bool := decide ((σ b 2 = b + 1) ∧ (σ b 3 = b + 2) ∧ (σ b 4 = b + 3) ∧ (σ b 5 = b + 4) ∧ (σ b 6 = b + 5) ∧ (σ b 7 = b + 6) ∧ (σ b 8 = b + 7) ∧ (σ b 9 = b + 13) ∧ (σ (b + 7) 0 = b + 8) ∧ (σ (b + 7) 1 = b + 9) ∧ (σ (b + 7) 2 = b + 10) ∧ (σ (b + 7) 4 = b + 11) ∧ (σ (b + 7) 5 = b + 12) ∧ (σ (b + 13) 2 = b + 14) ∧ (σ (b + 13) 3 = b + 15) ∧ (σ (b + 13) 4 = b + 16) ∧ (σ (b + 13) 5 = b + 17))
def ppC (σ : St) (p : Int) : Bool := decide ((σ p 7 = p + 1) ∧ (σ p 8 = p + 2) ∧ (σ p 9 = p + 3) ∧ (σ p 10 = p + 4) ∧ (σ p 11 = p + 5) ∧ (σ p 12 = p + 6) ∧ (σ p 13 = p + 7) ∧ (σ p 14 = p + 8) ∧ (σ p 15 = p + 9))
def zrC (g : Int → Int) (n : Nat) : Bool := (List.range n).all fun i => decide (g (i : Int) = 0)
def rnC (σ : St) (a b : Int) (n : Nat) : Bool := (List.range n).all fun i => decide (σ a (i : Int) = b + 18 * (i : Int)) && spC σ (b + 18 * (i : Int))
def scC (σ : St) : Bool := decide ((σ 0 0 = 1 ∧ σ 0 1 = 16 ∧ σ 0 2 = 45 ∧ σ 0 3 = 227 ∧ σ 0 4 = 228) ∧ (σ 1 0 = 2 ∧ σ 1 9 = 3 ∧ σ 1 11 = 13 ∧ σ 1 12 = 14 ∧ σ 1 13 = 15 ∧ σ 1 1 = 0) ∧ (σ 45 0 = 46 ∧ σ 45 1 = 0 ∧ σ 45 2 = 0) ∧ (σ 228 0 = 0 ∧ σ 228 1 = 0 ∧ σ 276 0 = 0 ∧ σ 276 1 = 0) ∧ (σ 16 0 = 17 ∧ σ 16 1 = 27) ∧ (σ 17 0 = 1 ∧ σ 17 1 = 1 ∧ σ 17 2 = 10 ∧ σ 17 3 = 5 ∧ σ 17 4 = 0 ∧ σ 17 5 = 0 ∧ σ 17 6 = 0) ∧ (σ 27 0 = 0 ∧ σ 27 1 = 10 ∧ σ 34 3 = 0 ∧ σ 40 0 = 0 ∧ σ 40 1 = 0))
def mdC (σ : St) : Bool := decide (σ 265 1 = 266 ∧ σ 265 10 = 267 ∧ σ 265 11 = 268 ∧ σ 265 12 = 269 ∧ σ 265 14 = 270 ∧ σ 265 15 = 271 ∧ σ 265 16 = 272 ∧ σ 265 17 = 273 ∧ σ 265 19 = 274 ∧ σ 265 20 = 275 ∧ σ 265 21 = 276 ∧ σ 265 22 = 277 ∧ σ 265 2 = 0 ∧ σ 265 18 = 0)
def chC (σ : St) : Bool := spC σ 27 && ppC σ 3 && ppC σ 17 && zrC (σ 39) 32 && zrC (σ 44) 10 && rnC σ 46 47 10 && rnC σ 227 229 2 && scC σ && mdC σ
set_option maxRecDepth 1000000 in
theorem iCh_chk : (iCh.map fun q => chC q.2.2.1) = some true := by decide +kernel
theorem map_of {α β : Type} {c : Option α} {f : α → β} {q : α} {b : β} (h1 : c.map f = some b) (h2 : c = some q) : f q = b := by
  subst h2
  exact Option.some.inj h1
section ZZA9
variable {P P9 : Shp} {σ σ' s s3 s9 τ τ' : St} {t f g d : Int → Int} {i j k o v x a b : Int} {n n9 kk : Nat}
theorem zrC_of (h : zrC g n = true) (h0 : 0 ≤ i) (h1 : i < (n : Int)) : g i = 0 := by
  unfold zrC at h
  have := List.all_eq_true.mp h i.toNat (List.mem_range.mpr (by omega))
  have := of_decide_eq_true this
  rw [show ((i.toNat : Nat) : Int) = i by omega] at this
  exact this
theorem spC_of (h : spC σ b = true) : SP σ b := by
  unfold spC at h
  have := of_decide_eq_true h
  exact this
theorem ppC_of (h : ppC σ b = true) : PP σ b := by
  unfold ppC at h
  have := of_decide_eq_true h
  exact this
theorem rnC_of (h : rnC σ a b n = true) (h0 : 0 ≤ i) (h1 : i < (n : Int)) : σ a i = b + 18 * i ∧ SP σ (b + 18 * i) := by
  unfold rnC at h
  have := List.all_eq_true.mp h i.toNat (List.mem_range.mpr (by omega))
  rw [show ((i.toNat : Nat) : Int) = i by omega, Bool.and_eq_true] at this
  exact ⟨of_decide_eq_true this.1, spC_of this.2⟩
theorem nwA_e (h : o = (n : Int)) : nwA σ n v o = fun _ => v := by
  subst h; exact nwA_q
set_option maxRecDepth 100000 in
theorem i8_P (h : fX8_init P n s 265 = some (P9, n9, s9)) (hL : ShpIs P n (PL.take 266)) : s9 268 = dF ∧ s9 270 = frF dF (fun _ => 0) ∧ s9 271 = frG (fun _ => 0) := by
  have hn : n = 266 := hL.1.trans (by decide +kernel)
  subst hn
  unfold fX8_init at h
  have h := pR_e (mkA_e h)
  replace hL := hL.al (k := 9) (l := (600 : Int).toNat)
  have h := pR_e (mkA_e h)
  replace hL := hL.al (k := 10) (l := (107 : Int).toNat)
  have h := pR_e (mkA_e h)
  replace hL := hL.al (k := 10) (l := (107 : Int).toNat)
  have h := pR_e (mkA_e h)
  replace hL := hL.al (k := 9) (l := (288 : Int).toNat)
  have h := pR_e (mkA_e h)
  replace hL := hL.al (k := 10) (l := (410 : Int).toNat)
  have h := pR_e (mkA_e h)
  replace hL := hL.al (k := 11) (l := (12 : Int).toNat)
  have h := pR_e (mkA_e h)
  replace hL := hL.al (k := 10) (l := (4100 : Int).toNat)
  have h := pR_e (mkA_e h)
  replace hL := hL.al (k := 11) (l := (120 : Int).toNat)
  have h := pR_e (mkA_e h)
  replace hL := hL.al (k := 10) (l := (820 : Int).toNat)
  have h := pR_e (mkA_e h)
  replace hL := hL.al (k := 11) (l := (24 : Int).toNat)
  have h := pR_e (mkA_e h)
  replace hL := hL.al (k := 12) (l := (2 : Int).toNat)
  have h := pR_e (mkA_e h)
  replace hL := hL.al (k := 10) (l := (28 : Int).toNat)
  have h := onO_p h
  obtain ⟨s1, h1, h⟩ := cl_of h
  have h := onO_p h
  obtain ⟨s2, h2, h⟩ := cl_of h
  have e9 : s2 = s9 := by
    cases h; rfl
  clear h
  subst e9
  generalize al _ _ _ _ = P1 at *
  have H : HS P1 := by
    have q265 : P1 265 = some (8, 0) := (hL.2 265).trans (by decide +kernel)
    have q267 : P1 267 = some (10, 107) := (hL.2 267).trans (by decide +kernel)
    have q268 : P1 268 = some (10, 107) := (hL.2 268).trans (by decide +kernel)
    have q270 : P1 270 = some (10, 410) := (hL.2 270).trans (by decide +kernel)
    have q271 : P1 271 = some (11, 12) := (hL.2 271).trans (by decide +kernel)
    have q276 : P1 276 = some (12, 2) := (hL.2 276).trans (by decide +kernel)
    exact ⟨okO_i q265, fun i i0 i1 => okA_i q267 i0 i1, fun i i0 i1 => okA_i q268 i0 i1, fun i i0 i1 => okA_i q270 i0 i1, fun i i0 i1 => okA_i q271 i0 i1, fun i i0 i1 => okA_i q276 i0 i1⟩
  clear hL
  have F : ∀ S, fX8_setDefaults P1 S 265 = some s1 → S 265 10 = 267 → S 265 11 = 268 → S 265 14 = 270 → S 265 15 = 271 → S 265 21 = 276 → (S 268 = fun _ => 0) → (S 270 = fun _ => 0) → (S 271 = fun _ => 0) → s2 268 = dF ∧ s2 270 = frF dF (fun _ => 0) ∧ s2 271 = frG (fun _ => 0) := by
    intro S hS c10 c11 c14 c15 c21 z8 z0 z1
    obtain ⟨τ', u, o1, j1, d1⟩ := st_def H c10
    have e1 : τ' = s1 := Option.some.inj (u.symm.trans hS)
    subst e1
    obtain ⟨τ2, u2, r8, r0, r1⟩ := st_take H ((j1 10 (by omega)).trans c10) ((j1 11 (by omega)).trans c11) ((j1 14 (by omega)).trans c14) ((j1 15 (by omega)).trans c15) ((j1 21 (by omega)).trans c21) d1 ((o1 268 (by omega) (by omega)).trans z8) ((o1 270 (by omega) (by omega)).trans z0) ((o1 271 (by omega) (by omega)).trans z1)
    have e2 : τ2 = s2 := Option.some.inj (u2.symm.trans h2)
    subst e2
    exact ⟨r8, r0, r1⟩
  refine F _ h1 ?_ ?_ ?_ ?_ ?_ ?_ ?_ ?_
  · simp (disch := omega) only [wr_i, nwA_o]; exact wr_s
  · simp (disch := omega) only [wr_i, nwA_o]; exact wr_s
  · simp (disch := omega) only [wr_i, nwA_o]; exact wr_s
  · simp (disch := omega) only [wr_i, nwA_o]; exact wr_s
  · simp (disch := omega) only [wr_i, nwA_o]; exact wr_s
  · simp (disch := omega) only [wr_o, nwA_o]; rw [nwA_e (by omega)]; rfl
  · simp (disch := omega) only [wr_o, nwA_o]; rw [nwA_e (by omega)]; rfl
  · simp (disch := omega) only [wr_o, nwA_o]; rw [nwA_e (by omega)]; rfl
theorem iCh_M (h : iCh = some (P, 279, σ, 0, 265, 278)) : σ 268 = dF ∧ σ 270 = frF dF (fun _ => 0) ∧ σ 271 = frG (fun _ => 0) := by
  unfold iCh at h
  have h0 : ShpIs (fun _ => none) 0 [] := ⟨rfl, fun z => rfl⟩
  have h := mkO_e h
  obtain ⟨⟨P1, n1, s1⟩, hc, h⟩ := cl_of h
  have hL := gX7_init hc (h0.al (k := 7) (l := 0))
  clear hc
  have h := mkO_e h
  obtain ⟨⟨P2, n2, s2⟩, hd, h⟩ := cl_of h
  have n265 : n1 = 265 := hL.1.trans (by decide +kernel)
  subst n265
  have hL8 := (hL.al (k := 8) (l := 0)).to (Ms := PL.take 266) (by decide +kernel)
  have R := i8_P hd hL8
  have h := Option.some.inj (mkA_e h)
  simp only [Prod.mk.injEq] at h
  obtain ⟨_, hN, hs, _, _, _⟩ := h
  have hN2 : n2 = 278 := by omega
  subst hN2
  rw [← hs, nwA_o (by omega), nwA_o (by omega), nwA_o (by omega)]
  exact R
theorem start_SR (S : SP σ 27) (c1 : σ 27 0 = 0) (c2 : σ 27 1 = 10) (c3 : σ 34 3 = 0) (c4 : σ 40 0 = 0) (c5 : σ 40 1 = 0) (z39 : ∀ i, 0 ≤ i → i < 32 → σ 39 i = 0) (z44 : ∀ i, 0 ≤ i → i < 10 → σ 44 i = 0) : SR σ 27 dF (frF dF (fun _ => 0)) (frG (fun _ => 0)) := by
  have T := dF_TV
  have d1 : dF 1 = 0 := rfl
  have d2 : dF 2 = 0 := rfl
  have f13 : frF dF (fun _ => 0) 13 = 0 := frF_s T (by omega) (by omega)
  have f12 : frF dF (fun _ => 0) 12 = 0 := frF_s T (by omega) (by omega)
  refine ⟨S.p2, S.p3, S.p4, S.p5, S.p6, S.p7, S.p8, S.p9, S.e0, S.e1, S.e2, S.e4, S.e5, S.l2, S.l3, S.l4, S.l5, ?_, ?_, ?_, ?_, ?_, ?_, ?_, ?_, ?_, ?_, ?_, ?_, ?_, ?_, ?_, ?_, ?_, ?_, ?_, ?_⟩
  · rw [c1, frF_z]
  · rw [c2, frF_1]; rfl
  · intro k k0 k1; omega
  · intro k k0 k1; omega
  · intro k k0 k1; omega
  · intro k k0 k1; omega
  · intro k k0 k1; omega
  · intro k k0 k1; omega
  · intro k k0 k1; omega
  · intro k u k0 k1; omega
  · intro k u k0 k1; omega
  · show σ 34 3 = _
    rw [c3, f13]
  · intro k k0 k1; omega
  · intro k k0 k1
    show σ 39 k = _
    rw [z39 k k0 k1, couK_0 f13, if_pos rfl]
  · show σ 40 0 = _
    rw [c4, f12]; rfl
  · show 0 ≤ σ 40 1 ∧ σ 40 1 ≤ 24 ∧ σ 40 1 % 24 = _
    rw [c5, f12]; omega
  · intro k k0 k1 k2; omega
  · intro k k0 k1 k2; omega
  · intro k k0 k1 k2; omega
  · intro k k0 k1
    show σ 44 k = _
    rw [z44 k k0 k1, frF_s T (by omega) (by omega)]
theorem start_RR (h : iCh = some (P, 279, σ, 0, 265, 278)) (sh : ShpIs P 279 PL) : RR P 0 σ := by
  have ck0 := map_of iCh_chk h
  have ck : chC σ = true := ck0
  clear ck0
  obtain ⟨e8, e0, e1⟩ := iCh_M h
  clear h
  unfold chC at ck
  simp only [Bool.and_eq_true] at ck
  obtain ⟨⟨⟨⟨⟨⟨⟨⟨q27, q3⟩, q17⟩, q39⟩, q44⟩, qh⟩, qs⟩, qc⟩, qm⟩ := ck
  unfold scC at qc
  have qc := of_decide_eq_true qc
  obtain ⟨⟨x0, x1, x2, x3, x4⟩, ⟨r0, r9, r11, r12, r13, r1⟩, ⟨h0, hk, hn⟩, ⟨a0, a1, b0, b1⟩, ⟨c0, c1⟩, hv, ⟨d1, d2, d3, d4, d5⟩⟩ := qc
  unfold mdC at qm
  have qm := of_decide_eq_true qm
  obtain ⟨m1, m10, m11, m12, m14, m15, m16, m17, m19, m20, m21, m22, m2, m18⟩ := qm
  have T := dF_TV
  have z1 : dF 1 = 0 := rfl
  have z5 : dF 5 = 10 := rfl
  have B0 : (100000 : Int) + 200000 * ((0 : Nat) : Int) = 100000 := by omega
  refine ⟨17, dF, ?_⟩
  rw [B0]
  refine ⟨?_, ⟨sh, m1, m10, m11, m12, m14, m15, m16, m17, m19, m20, m21, m22, e8⟩, T, ?_, ?_, x0, x1, x2, x3, x4, r0, by rw [r9]; rfl, r11, r12, r13, ?_, h0, by omega, by omega, by omega, ?_, ?_, ?_, ?_, by omega, ?_⟩
  · rw [e0, e1]
    exact ⟨sh, c0, c1, dF_PR (by omega) (ppC_of q17) hv, start_SR (spC_of q27) d1 d2 d3 d4 d5 (fun i i0 i1 => zrC_of q39 i0 i1) (fun i i0 i1 => zrC_of q44 i0 i1)⟩
  · rw [e0, e1]
    exact frF_FV T ⟨by omega, by omega⟩ (fun j => by omega) (fun j => by omega) (by omega) (by omega) (fun k k0 k1 => by omega)
  · rw [e0]
    exact CV_0 (frF_s T (by omega) (by omega))
  · exact ppC_of q3
  · intro i i0 i1
    exact rnC_of qh i0 i1
  · intro j j0 j1
    omega
  · intro i i0 i1
    exact rnC_of qs i0 i1
  · intro i i0 i1
    have : i = 0 ∨ i = 1 := by omega
    rcases this with rfl | rfl
    · rw [a0, b0]
      exact ⟨Or.inl rfl, rfl, fun y => absurd y (by omega)⟩
    · rw [a1, b1]
      exact ⟨Or.inl rfl, rfl, fun y => absurd y (by omega)⟩
  · intro i i0 i1
    omega
end ZZA9
