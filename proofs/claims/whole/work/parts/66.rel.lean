/-! THE RELATION after a change, an undoing, a saving, a restoring. -/
section ZZ2
variable {P : Shp} {σ σ' σ1 σ2 σ3 σ4 σ5 s : St} {t f f' f2 g g' : Int → Int} {B B' : Int} {a b b' d k p q kind who m h j c x y i v w part N K D : Int} {n : Nat}
theorem GR.chg (G : GR P σ p t B) (kc : KC σ σ2 t (σ 270) (σ 271)) (C2 : CR P σ2 p t f' g') (km : KM (wr (wr σ2 278 0 v) 265 0 0) σ4 (σ 270) (σ 271)) (F5 : FV B' t f' g') (V5 : CV f') (hB : B ≤ B') : GR P (st2 σ4 f' g') p t B' := by
  have hp := G.cr.pr.hp
  have hn := G.hn
  have hk := G.hk
  have hd := G.hd
  have hB2 := F5.b0
  have eA : ∀ o, o < 265 → st2 σ4 f' g' o = σ2 o := fun o ho => by
    rw [st2_o (by omega) (by omega), km.o o (by omega) (by omega) (by omega), wr_o (by omega), wr_o (by omega)]
  have eK : ∀ o, o ≠ 45 → (o < 27 ∨ 44 < o) → (o < 47 + 18 * σ 45 2 ∨ 47 + 18 * σ 45 2 + 17 < o) → o < 265 → st2 σ4 f' g' o = σ o := fun o h1 h2 h3 h4 => (eA o h4).trans (kc.o o h1 h2 h3)
  have eM : ∀ o, 265 < o → o < 277 → o ≠ 270 → o ≠ 271 → o ≠ 272 → o ≠ 273 → st2 σ4 f' g' o = σ o := fun o h1 h2 h3 h4 h5 h6 => by
    rw [st2_o h3 h4, km.o o (by omega) h5 h6, wr_o (by omega), wr_o (by omega)]; exact kc.o o (by omega) (by omega) (by omega)
  have eP : ∀ j, j ≠ 0 → j ≠ 18 → st2 σ4 f' g' 265 j = σ 265 j := fun j h1 h2 => by
    rw [st2_o (by omega) (by omega), km.a j h2, wr_i h1, wr_n (by omega), kc.o 265 (by omega) (by omega) (by omega)]
  have ed : (wr (wr σ2 278 0 v) 265 0 0) 265 18 = σ 45 1 := by rw [wr_i (by omega), wr_n (by omega), kc.o 265 (by omega) (by omega) (by omega)]; exact hd
  have e18 : σ4 265 18 = if σ 45 1 = 10 then 10 else σ 45 1 + 1 := by rw [km.d, ed]
  have n1 : (st2 σ4 f' g') 45 1 = if σ 45 1 = 10 then 10 else σ 45 1 + 1 := by rw [eA 45 (by omega)]; exact kc.a1
  have n2 : (st2 σ4 f' g') 45 2 = (σ 45 2 + 1) % 10 := by rw [eA 45 (by omega)]; exact kc.a2
  have m272 : ∀ x, (wr (wr σ2 278 0 v) 265 0 0) 272 x = σ 272 x := fun x => by rw [wr_n (by omega), wr_n (by omega), kc.o 272 (by omega) (by omega) (by omega)]
  have m273 : ∀ x, (wr (wr σ2 278 0 v) 265 0 0) 273 x = σ 273 x := fun x => by rw [wr_n (by omega), wr_n (by omega), kc.o 273 (by omega) (by omega) (by omega)]
  refine ⟨?_, ?_, G.tv, F5, V5, ?_, ?_, ?_, ?_, ?_, ?_, ?_, ?_, ?_, ?_, ?_, ?_, ?_, ?_, ?_, ?_, ?_, ?_, ?_, ?_, ?_⟩
  · rw [st2_f, st2_g]
    refine ⟨C2.sh, ?_, ?_, ?_, C2.s.fr fun o _ _ => eA o (by omega)⟩
    · rw [eA 16 (by omega)]; exact C2.h0
    · rw [eA 16 (by omega)]; exact C2.h1
    · exact C2.pr.ag fun o _ _ => eA o (by omega)
  · exact G.mp.to2 (fun j j0 j1 => eP j (by omega) (by omega)) (eM 268 (by omega) (by omega) (by omega) (by omega) (by omega) (by omega))
  · rw [eK 0 (by omega) (by omega) (by omega) (by omega)]; exact G.x0
  · rw [eK 0 (by omega) (by omega) (by omega) (by omega)]; exact G.x1
  · rw [eK 0 (by omega) (by omega) (by omega) (by omega)]; exact G.x2
  · rw [eK 0 (by omega) (by omega) (by omega) (by omega)]; exact G.x3
  · rw [eK 0 (by omega) (by omega) (by omega) (by omega)]; exact G.x4
  · rw [eK 1 (by omega) (by omega) (by omega) (by omega)]; exact G.r0
  · rw [eK 1 (by omega) (by omega) (by omega) (by omega)]; exact G.r9
  · rw [eK 1 (by omega) (by omega) (by omega) (by omega)]; exact G.r11
  · rw [eK 1 (by omega) (by omega) (by omega) (by omega)]; exact G.r12
  · rw [eK 1 (by omega) (by omega) (by omega) (by omega)]; exact G.r13
  · exact G.rq.fr (eK (20 - p) (by omega) (by omega) (by omega) (by omega))
  · rw [eA 45 (by omega)]; exact kc.a0
  · rw [n2]; omega
  · rw [n1]; split <;> omega
  · rw [n1, st2_o (by omega) (by omega)]; exact e18
  · intro i i0 i1
    have q := G.hs i i0 i1
    rw [eK 46 (by omega) (by omega) (by omega) (by omega)]
    refine ⟨q.1, ?_⟩
    by_cases z : i = σ 45 2
    · subst z; exact (kc.s.sp).fr fun o _ _ => eA o (by omega)
    · exact q.2.fr fun o _ _ => eK o (by omega) (by omega) (by omega) (by omega)
  · intro j j0 j1
    rw [n1] at j1
    rw [n1, n2, ← e18]
    rw [← e18] at j1
    by_cases z : j = 0
    · subst z
      rw [show ((σ 45 2 + 1) % 10 - 1 - 0) % 10 = σ 45 2 by omega, Int.sub_zero]
      have ks : KS (st2 σ4 f' g') (47 + 18 * σ 45 2) B' t (σ 270) (σ 271) := (KS.mono ⟨kc.s, G.fv, G.cv⟩ hB hB2.2 : KS σ2 _ B' t (σ 270) (σ 271)).fr fun o _ _ => eA o (by omega)
      refine ks.cut G.tv (fun i i0 i1 => ?_) (fun i i0 i1 => ?_)
      · rw [st2_o (by omega) (by omega)]; exact km.f1 i i0 i1
      · rw [st2_o (by omega) (by omega)]; exact km.g1 i i0 i1
    · have hr := G.hr (j - 1) (by omega) (by rw [e18] at j1; split at j1 <;> omega)
      have es : ((σ 45 2 + 1) % 10 - 1 - j) % 10 = (σ 45 2 - 1 - (j - 1)) % 10 := by omega
      have ne : (σ 45 2 - 1 - (j - 1)) % 10 ≠ σ 45 2 := by rw [e18] at j1; split at j1 <;> omega
      rw [es]
      have ks : KS (st2 σ4 f' g') (47 + 18 * ((σ 45 2 - 1 - (j - 1)) % 10)) B' t (cuF (σ 272) (σ 45 1 - 1 - (j - 1))) (cuG (σ 273) (σ 45 1 - 1 - (j - 1))) := (hr.mono hB hB2.2).fr fun o _ _ => eK o (by omega) (by omega) (by omega) (by omega)
      have eo : σ4 265 18 - 1 - j + (if σ 45 1 = 10 then 1 else 0) = σ 45 1 - 1 - (j - 1) := by rw [e18]; split <;> omega
      refine ks.cut G.tv (fun i i0 i1 => ?_) (fun i i0 i1 => ?_)
      · rw [st2_o (by omega) (by omega), cuF_s i0 i1]
        have q := km.f2 (σ4 265 18 - 1 - j) i (by omega) (by omega) i0 i1
        rw [ed, m272, eo] at q
        exact q
      · rw [st2_o (by omega) (by omega), cuG_s i0 i1]
        have q := km.g2 (σ4 265 18 - 1 - j) i (by omega) (by omega) i0 i1
        rw [ed, m273, eo] at q
        exact q
  · intro i i0 i1
    have q := G.ss i i0 i1
    rw [eK 227 (by omega) (by omega) (by omega) (by omega)]
    exact ⟨q.1, q.2.fr fun o _ _ => eK o (by omega) (by omega) (by omega) (by omega)⟩
  · intro i i0 i1
    have q := G.st i i0 i1
    rw [eK 228 (by omega) (by omega) (by omega) (by omega), eM 276 (by omega) (by omega) (by omega) (by omega) (by omega) (by omega), eM 274 (by omega) (by omega) (by omega) (by omega) (by omega) (by omega), eM 275 (by omega) (by omega) (by omega) (by omega) (by omega) (by omega)]
    exact ⟨q.1, q.2.1, fun z => ((q.2.2 z).mono hB hB2.2).fr fun o _ _ => eK o (by omega) (by omega) (by omega) (by omega)⟩
  · rw [eK 1 (by omega) (by omega) (by omega) (by omega), eP 2 (by omega) (by omega)]; exact G.bf
  · rw [eK 1 (by omega) (by omega) (by omega) (by omega), eK 2 (by omega) (by omega) (by omega) (by omega), eM 266 (by omega) (by omega) (by omega) (by omega) (by omega) (by omega)]; exact G.bb
/-- a kept state comes back; the history is what the last premise says -/
theorem GR.back {ar ag : Int → Int} (G : GR P σ p t B) (ks : KS σ b B t (cuF ar k) (cuG ag k)) (e : ∀ o, o ≠ 45 → (o < 27 ∨ 44 < o) → o ≠ 265 → o ≠ 270 → o ≠ 271 → o ≠ 277 → o ≠ 278 → σ5 o = σ o) (a0 : σ5 45 0 = 46) (a1 : 0 ≤ σ5 45 1 ∧ σ5 45 1 ≤ 10) (a2 : 0 ≤ σ5 45 2 ∧ σ5 45 2 < 10)
    (e5 : ∀ j, 0 < j → (j < 3 ∨ 9 < j) → j ≠ 18 → σ5 265 j = σ 265 j) (d5 : σ5 265 18 = σ5 45 1) (s5 : SR σ5 27 t (mxF ar k (σ 270)) (mxG ag k (σ 271))) (f5 : σ5 270 = mxF ar k (σ 270)) (g5 : σ5 271 = mxG ag k (σ 271))
    (hr : ∀ j, 0 ≤ j → j < σ5 45 1 → KS σ (47 + 18 * ((σ5 45 2 - 1 - j) % 10)) B t (cuF (σ 272) (σ5 45 1 - 1 - j)) (cuG (σ 273) (σ5 45 1 - 1 - j))) : GR P σ5 p t B := by
  have hp := G.cr.pr.hp
  have mx := ks.mx G.tv G.fv
  have eo : ∀ o, o ≠ 45 → (o < 27 ∨ 44 < o) → o < 265 → σ5 o = σ o := fun o h1 h2 h3 => e o h1 h2 (by omega) (by omega) (by omega) (by omega) (by omega)
  have eM : ∀ o, 265 < o → o < 277 → o ≠ 270 → o ≠ 271 → σ5 o = σ o := fun o h1 h2 h3 h4 => e o (by omega) (by omega) (by omega) h3 h4 (by omega) (by omega)
  refine ⟨?_, ?_, G.tv, ?_, ?_, ?_, ?_, ?_, ?_, ?_, ?_, ?_, ?_, ?_, ?_, ?_, a0, a2, a1, d5, ?_, ?_, ?_, ?_, ?_, ?_⟩
  · rw [f5, g5]
    refine ⟨G.cr.sh, ?_, ?_, ?_, s5⟩
    · rw [eo 16 (by omega) (by omega) (by omega)]; exact G.cr.h0
    · rw [eo 16 (by omega) (by omega) (by omega)]; exact G.cr.h1
    · exact G.cr.pr.ag fun o _ _ => eo o (by omega) (by omega) (by omega)
  · exact G.mp.to2 (fun j j0 j1 => e5 j (by omega) (by omega) (by omega)) (eM 268 (by omega) (by omega) (by omega) (by omega))
  · rw [f5, g5]; exact mx.2.1
  · rw [f5]; exact mx.2.2
  · rw [eo 0 (by omega) (by omega) (by omega)]; exact G.x0
  · rw [eo 0 (by omega) (by omega) (by omega)]; exact G.x1
  · rw [eo 0 (by omega) (by omega) (by omega)]; exact G.x2
  · rw [eo 0 (by omega) (by omega) (by omega)]; exact G.x3
  · rw [eo 0 (by omega) (by omega) (by omega)]; exact G.x4
  · rw [eo 1 (by omega) (by omega) (by omega)]; exact G.r0
  · rw [eo 1 (by omega) (by omega) (by omega)]; exact G.r9
  · rw [eo 1 (by omega) (by omega) (by omega)]; exact G.r11
  · rw [eo 1 (by omega) (by omega) (by omega)]; exact G.r12
  · rw [eo 1 (by omega) (by omega) (by omega)]; exact G.r13
  · exact G.rq.fr (eo (20 - p) (by omega) (by omega) (by omega))
  · intro i i0 i1
    have q := G.hs i i0 i1
    rw [eo 46 (by omega) (by omega) (by omega)]
    exact ⟨q.1, q.2.fr fun o _ _ => eo o (by omega) (by omega) (by omega)⟩
  · intro j j0 j1
    rw [eM 272 (by omega) (by omega) (by omega) (by omega), eM 273 (by omega) (by omega) (by omega) (by omega)]
    exact (hr j j0 j1).fr fun o _ _ => eo o (by omega) (by omega) (by omega)
  · intro i i0 i1
    have q := G.ss i i0 i1
    rw [eo 227 (by omega) (by omega) (by omega)]
    exact ⟨q.1, q.2.fr fun o _ _ => eo o (by omega) (by omega) (by omega)⟩
  · intro i i0 i1
    have q := G.st i i0 i1
    rw [eo 228 (by omega) (by omega) (by omega), eM 276 (by omega) (by omega) (by omega) (by omega), eM 274 (by omega) (by omega) (by omega) (by omega), eM 275 (by omega) (by omega) (by omega) (by omega)]
    exact ⟨q.1, q.2.1, fun z => (q.2.2 z).fr fun o _ _ => eo o (by omega) (by omega) (by omega)⟩
  · rw [eo 1 (by omega) (by omega) (by omega), e5 2 (by omega) (by omega) (by omega)]; exact G.bf
  · rw [eo 1 (by omega) (by omega) (by omega), eo 2 (by omega) (by omega) (by omega), eM 266 (by omega) (by omega) (by omega) (by omega)]; exact G.bb
end ZZ2
