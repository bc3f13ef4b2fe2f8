/-! BOTH READERS at one place of the text, and what has been read. -/
def QQ (P : Shp) (σ τ : St) (f : Int → Int) (N e q : Int) (d : Int → Int) : Prop :=
  (CT P σ f N e) ∧
  (MT P τ f N e) ∧
  (PR σ q d) ∧
  (TV d) ∧
  (σ 1 9 = q) ∧
  (σ 1 11 = 13) ∧
  (σ 1 12 = 14) ∧
  (σ 1 13 = 15) ∧
  (σ 1 10 = τ 265 13) ∧
  (τ 265 13 = 0 ∨ τ 265 13 = 1) ∧
  (τ 265 10 = 267) ∧
  (τ 265 12 = 269) ∧
  (∀ j, 0 ≤ j → j < 107 → τ 267 j = d j) ∧
  (NM (σ 13) (τ 269) 0 (d 0)) ∧
  (NM (σ 14) (τ 269) 96 (d 1)) ∧
  (NM (σ 15) (τ 269) 192 (d 2)) ∧
  (0 ≤ d 3 ∧ 0 ≤ d 5 ∧ 0 ≤ d 6) ∧
  (d 3 ≤ 999 ∧ ∀ k, 0 ≤ k → k < d 1 → 0 ≤ d (55 + k) ∧ d (55 + k) < d 4)
theorem QQ.ct {P : Shp} {σ τ : St} {f : Int → Int} {N e q : Int} {d : Int → Int} (h : QQ P σ τ f N e q d) : CT P σ f N e := h.1
theorem QQ.mt {P : Shp} {σ τ : St} {f : Int → Int} {N e q : Int} {d : Int → Int} (h : QQ P σ τ f N e q d) : MT P τ f N e := h.2.1
theorem QQ.pr {P : Shp} {σ τ : St} {f : Int → Int} {N e q : Int} {d : Int → Int} (h : QQ P σ τ f N e q d) : PR σ q d := h.2.2.1
theorem QQ.tv {P : Shp} {σ τ : St} {f : Int → Int} {N e q : Int} {d : Int → Int} (h : QQ P σ τ f N e q d) : TV d := h.2.2.2.1
theorem QQ.pl {P : Shp} {σ τ : St} {f : Int → Int} {N e q : Int} {d : Int → Int} (h : QQ P σ τ f N e q d) : σ 1 9 = q := h.2.2.2.2.1
theorem QQ.n11 {P : Shp} {σ τ : St} {f : Int → Int} {N e q : Int} {d : Int → Int} (h : QQ P σ τ f N e q d) : σ 1 11 = 13 := h.2.2.2.2.2.1
theorem QQ.n12 {P : Shp} {σ τ : St} {f : Int → Int} {N e q : Int} {d : Int → Int} (h : QQ P σ τ f N e q d) : σ 1 12 = 14 := h.2.2.2.2.2.2.1
theorem QQ.n13 {P : Shp} {σ τ : St} {f : Int → Int} {N e q : Int} {d : Int → Int} (h : QQ P σ τ f N e q d) : σ 1 13 = 15 := h.2.2.2.2.2.2.2.1
theorem QQ.al {P : Shp} {σ τ : St} {f : Int → Int} {N e q : Int} {d : Int → Int} (h : QQ P σ τ f N e q d) : σ 1 10 = τ 265 13 := h.2.2.2.2.2.2.2.2.1
theorem QQ.al2 {P : Shp} {σ τ : St} {f : Int → Int} {N e q : Int} {d : Int → Int} (h : QQ P σ τ f N e q d) : τ 265 13 = 0 ∨ τ 265 13 = 1 := h.2.2.2.2.2.2.2.2.2.1
theorem QQ.m10 {P : Shp} {σ τ : St} {f : Int → Int} {N e q : Int} {d : Int → Int} (h : QQ P σ τ f N e q d) : τ 265 10 = 267 := h.2.2.2.2.2.2.2.2.2.2.1
theorem QQ.m12 {P : Shp} {σ τ : St} {f : Int → Int} {N e q : Int} {d : Int → Int} (h : QQ P σ τ f N e q d) : τ 265 12 = 269 := h.2.2.2.2.2.2.2.2.2.2.2.1
theorem QQ.dd {P : Shp} {σ τ : St} {f : Int → Int} {N e q : Int} {d : Int → Int} (h : QQ P σ τ f N e q d) : ∀ j, 0 ≤ j → j < 107 → τ 267 j = d j := h.2.2.2.2.2.2.2.2.2.2.2.2.1
theorem QQ.na0 {P : Shp} {σ τ : St} {f : Int → Int} {N e q : Int} {d : Int → Int} (h : QQ P σ τ f N e q d) : NM (σ 13) (τ 269) 0 (d 0) := h.2.2.2.2.2.2.2.2.2.2.2.2.2.1
theorem QQ.na1 {P : Shp} {σ τ : St} {f : Int → Int} {N e q : Int} {d : Int → Int} (h : QQ P σ τ f N e q d) : NM (σ 14) (τ 269) 96 (d 1) := h.2.2.2.2.2.2.2.2.2.2.2.2.2.2.1
theorem QQ.na2 {P : Shp} {σ τ : St} {f : Int → Int} {N e q : Int} {d : Int → Int} (h : QQ P σ τ f N e q d) : NM (σ 15) (τ 269) 192 (d 2) := h.2.2.2.2.2.2.2.2.2.2.2.2.2.2.2.1
theorem QQ.nn3 {P : Shp} {σ τ : St} {f : Int → Int} {N e q : Int} {d : Int → Int} (h : QQ P σ τ f N e q d) : 0 ≤ d 3 ∧ 0 ≤ d 5 ∧ 0 ≤ d 6 := h.2.2.2.2.2.2.2.2.2.2.2.2.2.2.2.2.1
theorem QQ.np {P : Shp} {σ τ : St} {f : Int → Int} {N e q : Int} {d : Int → Int} (h : QQ P σ τ f N e q d) : d 3 ≤ 999 ∧ ∀ k, 0 ≤ k → k < d 1 → 0 ≤ d (55 + k) ∧ d (55 + k) < d 4 := h.2.2.2.2.2.2.2.2.2.2.2.2.2.2.2.2.2
def CFr (q : Int) (σ σ' : St) : Prop :=
  (∀ o, o ≠ 1 → (o < q ∨ q + 9 < o) → (o < 13 ∨ 15 < o) → σ' o = σ o) ∧
  (∀ j, (j < 2 ∨ 8 < j) → j ≠ 10 → σ' 1 j = σ 1 j) ∧
  (∀ j, 7 ≤ j → σ' q j = σ q j) ∧
  (σ 1 3 ≤ σ' 1 3)
theorem CFr.oo {q : Int} {σ σ' : St} (h : CFr q σ σ') : ∀ o, o ≠ 1 → (o < q ∨ q + 9 < o) → (o < 13 ∨ 15 < o) → σ' o = σ o := h.1
theorem CFr.jj {q : Int} {σ σ' : St} (h : CFr q σ σ') : ∀ j, (j < 2 ∨ 8 < j) → j ≠ 10 → σ' 1 j = σ 1 j := h.2.1
theorem CFr.qq {q : Int} {σ σ' : St} (h : CFr q σ σ') : ∀ j, 7 ≤ j → σ' q j = σ q j := h.2.2.1
theorem CFr.ps {q : Int} {σ σ' : St} (h : CFr q σ σ') : σ 1 3 ≤ σ' 1 3 := h.2.2.2
def MFr (τ τ' : St) : Prop :=
  (∀ o, o ≠ 265 → o ≠ 267 → o ≠ 269 → τ' o = τ o) ∧
  (∀ j, (j < 4 ∨ 9 < j) → j ≠ 13 → τ' 265 j = τ 265 j)
theorem MFr.oo {τ τ' : St} (h : MFr τ τ') : ∀ o, o ≠ 265 → o ≠ 267 → o ≠ 269 → τ' o = τ o := h.1
theorem MFr.jj {τ τ' : St} (h : MFr τ τ') : ∀ j, (j < 4 ∨ 9 < j) → j ≠ 13 → τ' 265 j = τ 265 j := h.2
def BAD (q : Int) (σ τ σ' τ' : St) : Prop :=
  (CFr q σ σ') ∧
  (MFr τ τ') ∧
  (1 ≤ τ' 265 8 ∧ τ' 265 8 ≤ 5) ∧
  (σ' 1 8 = τ' 265 8) ∧
  (σ' 1 7 = τ' 265 9) ∧
  (0 ≤ τ' 265 9 ∧ τ' 265 9 ≤ 600) ∧
  (0 ≤ τ' 265 6 ∧ τ' 265 6 ≤ 4)
theorem BAD.cf {q : Int} {σ τ σ' τ' : St} (h : BAD q σ τ σ' τ') : CFr q σ σ' := h.1
theorem BAD.mf {q : Int} {σ τ σ' τ' : St} (h : BAD q σ τ σ' τ') : MFr τ τ' := h.2.1
theorem BAD.k1 {q : Int} {σ τ σ' τ' : St} (h : BAD q σ τ σ' τ') : 1 ≤ τ' 265 8 ∧ τ' 265 8 ≤ 5 := h.2.2.1
theorem BAD.k2 {q : Int} {σ τ σ' τ' : St} (h : BAD q σ τ σ' τ') : σ' 1 8 = τ' 265 8 := h.2.2.2.1
theorem BAD.k3 {q : Int} {σ τ σ' τ' : St} (h : BAD q σ τ σ' τ') : σ' 1 7 = τ' 265 9 := h.2.2.2.2.1
theorem BAD.k4 {q : Int} {σ τ σ' τ' : St} (h : BAD q σ τ σ' τ') : 0 ≤ τ' 265 9 ∧ τ' 265 9 ≤ 600 := h.2.2.2.2.2.1
theorem BAD.k5 {q : Int} {σ τ σ' τ' : St} (h : BAD q σ τ σ' τ') : 0 ≤ τ' 265 6 ∧ τ' 265 6 ≤ 4 := h.2.2.2.2.2.2
section ZZK
variable {P : Shp} {σ σ' σ1 σ2 s τ τ' τ1 τ2 : St} {f g h B d d' : Int → Int} {a b c e k i j x y z v w N q L kd cnt : Int} {n m r : Nat}
theorem CT.le (C : CT P σ f N e) (C' : CT P σ' f N (tE f N e)) : σ 1 3 ≤ σ' 1 3 := by
  have := tok_in (f := f) C'.e0 C'.e1
  rw [C.ee, C'.ee]; omega
theorem CFr.rf : CFr q σ σ := ⟨fun _ _ _ _ => rfl, fun _ _ _ => rfl, fun _ _ => rfl, Int.le_refl _⟩
theorem MFr.rf : MFr τ τ := ⟨fun _ _ _ _ => rfl, fun _ _ _ => rfl⟩
theorem CFr.tr (h1 : CFr q σ σ1) (h2 : CFr q σ1 σ2) : CFr q σ σ2 :=
  ⟨fun o a b c => (h2.oo o a b c).trans (h1.oo o a b c), fun j a b => (h2.jj j a b).trans (h1.jj j a b), fun j a => (h2.qq j a).trans (h1.qq j a), Int.le_trans h1.ps h2.ps⟩
theorem MFr.tr (h1 : MFr τ τ1) (h2 : MFr τ1 τ2) : MFr τ τ2 :=
  ⟨fun o a b c => (h2.oo o a b c).trans (h1.oo o a b c), fun j a b => (h2.jj j a b).trans (h1.jj j a b)⟩
theorem CFr.w1 (hj : (4 ≤ j ∧ j ≤ 8) ∨ j = 10) (hq : q = 3 ∨ q = 17) : CFr q σ (wr σ 1 j v) :=
  ⟨fun o a _ _ => wr_o a, fun i a b => wr_i (by omega), fun i _ => wr_n (by omega), Int.le_of_eq (wr_i (by omega)).symm⟩
theorem CFr.wq (hj : j < 7) (hq : q = 3 ∨ q = 17) : CFr q σ (wr σ q j v) :=
  ⟨fun o _ a _ => wr_o (by omega), fun i a b => wr_n (by omega), fun i a => wr_i (by omega), Int.le_of_eq (wr_n (by omega)).symm⟩
theorem CFr.wo (hc : (q + 1 ≤ c ∧ c ≤ q + 9) ∨ (13 ≤ c ∧ c ≤ 15)) (hq : q = 3 ∨ q = 17) : CFr q σ (wr σ c j v) :=
  ⟨fun o _ a b => wr_o (by omega), fun i a b => wr_n (by omega), fun i a => wr_n (by omega), Int.le_of_eq (wr_n (by omega)).symm⟩
theorem CFr.ad (h1 : ∀ o, o ≠ 1 → σ' o = σ o) (h2 : ∀ j, (j < 3 ∨ 6 < j) → σ' 1 j = σ 1 j) (hq : q = 3 ∨ q = 17) (h3 : σ 1 3 ≤ σ' 1 3) : CFr q σ σ' :=
  ⟨fun o a _ _ => h1 o a, fun j a b => h2 j (by omega), fun j _ => by rw [h1 q (by omega)], h3⟩
theorem CFr.flt (hq : q = 3 ∨ q = 17) : CFr q σ (clt σ k) := (CFr.w1 (by omega) hq).tr (CFr.w1 (by omega) hq)
theorem MFr.wm (hj : (4 ≤ j ∧ j ≤ 9) ∨ j = 13) : MFr τ (wr τ 265 j v) :=
  ⟨fun o a _ _ => wr_o a, fun i a b => wr_i (by omega)⟩
theorem MFr.wo (hc : c = 267 ∨ c = 269) : MFr τ (wr τ c j v) :=
  ⟨fun o _ a b => wr_o (by omega), fun i a b => wr_n (by omega)⟩
theorem MFr.ad (h1 : ∀ o, o ≠ 265 → τ' o = τ o) (h2 : ∀ j, (j < 4 ∨ 7 < j) → τ' 265 j = τ 265 j) : MFr τ τ' :=
  ⟨fun o a _ _ => h1 o a, fun j a b => h2 j (by omega)⟩
theorem MFr.flt : MFr τ (mlt τ k) := (MFr.wm (by omega)).tr (MFr.wm (by omega))
theorem PR.sca (h : PR σ q d) (p7 : ∀ j, 7 ≤ j → s q j = σ q j) (eo : ∀ o, q + 1 ≤ o → o ≤ q + 9 → s o = σ o) (v0 : s q 0 = d' 3) (v1 : s q 1 = d' 4) (v2 : s q 2 = d' 5) (v3 : s q 3 = d' 6) (v4 : s q 4 = σ q 4) (v5 : s q 5 = σ q 5) (v6 : s q 6 = σ q 6) (hd : ∀ j, (j < 3 ∨ 6 < j) → d' j = d j) : PR s q d' := by
  have hp := h.hp
  refine ⟨h.hp, ?_, ?_, ?_, ?_, ?_, ?_, ?_, ?_, ?_, v0, v1, v2, v3, ?_, ?_, ?_, ?_, ?_, ?_, ?_, ?_, ?_, ?_, ?_, ?_⟩
  · rw [p7 7 (by omega)]; exact h.r7
  · rw [p7 8 (by omega)]; exact h.r8
  · rw [p7 9 (by omega)]; exact h.r9
  · rw [p7 10 (by omega)]; exact h.r10
  · rw [p7 11 (by omega)]; exact h.r11
  · rw [p7 12 (by omega)]; exact h.r12
  · rw [p7 13 (by omega)]; exact h.r13
  · rw [p7 14 (by omega)]; exact h.r14
  · rw [p7 15 (by omega)]; exact h.r15
  · rw [v4, hd 0 (by omega)]; exact h.v4
  · rw [v5, hd 1 (by omega)]; exact h.v5
  · rw [v6, hd 2 (by omega)]; exact h.v6
  · intro i i0 i1; rw [hd 0 (by omega)] at i1; rw [eo (q + 1) (by omega) (by omega), hd _ (by omega)]; exact h.we i i0 i1
  · intro i i0 i1; rw [hd 0 (by omega)] at i1; rw [eo (q + 2) (by omega) (by omega), hd _ (by omega)]; exact h.wi i i0 i1
  · intro i i0 i1; rw [hd 0 (by omega)] at i1; rw [eo (q + 3) (by omega) (by omega), hd _ (by omega)]; exact h.pe i i0 i1
  · intro i j i0 i1 j0 j1; rw [hd 0 (by omega)] at i1; rw [hd _ (by omega)] at j1; rw [eo (q + 4) (by omega) (by omega), hd _ (by omega)]; exact h.pk i j i0 i1 j0 j1
  · intro i i0 i1; rw [hd 1 (by omega)] at i1; rw [eo (q + 5) (by omega) (by omega), hd _ (by omega)]; exact h.fp i i0 i1
  · intro i i0 i1; rw [hd 1 (by omega)] at i1; rw [eo (q + 6) (by omega) (by omega), hd _ (by omega)]; exact h.he i i0 i1
  · intro i i0 i1; rw [hd 2 (by omega)] at i1; rw [eo (q + 7) (by omega) (by omega), hd _ (by omega)]; exact h.ho i i0 i1
  · intro i i0 i1; rw [hd 2 (by omega)] at i1; rw [eo (q + 8) (by omega) (by omega), hd _ (by omega)]; exact h.ra i i0 i1
  · intro i i0 i1; rw [hd 2 (by omega)] at i1; rw [eo (q + 9) (by omega) (by omega), hd _ (by omega)]; exact h.pa i i0 i1
theorem TV.sca (T : TV d) (hd : ∀ j, (j < 3 ∨ 6 < j) → d' j = d j) (h3 : 0 ≤ d' 3 ∧ d' 3 ≤ 9999) (h4 : 1 ≤ d' 4 ∧ d' 4 ≤ 8) (h5 : 0 ≤ d' 5 ∧ d' 5 ≤ 9999) (h6 : 0 ≤ d' 6 ∧ d' 6 ≤ 9999) : TV d' := by
  have e0 := hd 0 (by omega)
  have e1 := hd 1 (by omega)
  have e2 := hd 2 (by omega)
  refine ⟨fun j => ?_, by rw [e0]; exact T.n0, by rw [e1]; exact T.n1, by rw [e2]; exact T.n2, h4, ?_, ?_, ?_, ?_, ?_, ?_, ?_⟩
  · by_cases c : j < 3 ∨ 6 < j
    · rw [hd j c]; exact T.b j
    · have : j = 3 ∨ j = 4 ∨ j = 5 ∨ j = 6 := by omega
      rcases this with rfl | rfl | rfl | rfl <;> omega
  · intro p p0 p1; rw [e0] at p1; rw [hd _ (by omega)]; exact T.pe p p0 p1
  · intro p p0 p1; rw [e1] at p1 ⊢; rw [hd _ (by omega)]; exact T.he p p0 p1
  · intro p p0 p1; rw [e2] at p1; rw [e1, hd _ (by omega)]; exact T.ho p p0 p1
  · intro p p0 p1; rw [e2] at p1; rw [hd _ (by omega)]; exact T.ra p p0 p1
  · intro p p0 p1; rw [e2] at p1; rw [hd _ (by omega)]; exact T.pa p p0 p1
  · intro p p0 p1; rw [e0] at p1; rw [hd _ (by omega)]; exact T.wi p p0 p1
  · intro p p0 p1; rw [e0] at p1; rw [hd _ (by omega)]; exact T.we p p0 p1
end ZZK
