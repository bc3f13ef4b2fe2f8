/-! THE READER at a place of the text that is known. -/
def LPp (P : Shp) (σ : St) (f : Int → Int) (N e : Int) (R : List Int) (μ : St) : Prop :=
  (CT P σ f N e) ∧
  (At f N e R) ∧
  (σ 1 9 = 3) ∧
  (σ 1 11 = 13) ∧
  (σ 1 12 = 14) ∧
  (σ 1 13 = 15) ∧
  (∀ o, o ≠ 1 → σ o = μ o)
theorem LPp.ct {P : Shp} {σ : St} {f : Int → Int} {N e : Int} {R : List Int} {μ : St} (h : LPp P σ f N e R μ) : CT P σ f N e := h.1
theorem LPp.at' {P : Shp} {σ : St} {f : Int → Int} {N e : Int} {R : List Int} {μ : St} (h : LPp P σ f N e R μ) : At f N e R := h.2.1
theorem LPp.p9 {P : Shp} {σ : St} {f : Int → Int} {N e : Int} {R : List Int} {μ : St} (h : LPp P σ f N e R μ) : σ 1 9 = 3 := h.2.2.1
theorem LPp.n11 {P : Shp} {σ : St} {f : Int → Int} {N e : Int} {R : List Int} {μ : St} (h : LPp P σ f N e R μ) : σ 1 11 = 13 := h.2.2.2.1
theorem LPp.n12 {P : Shp} {σ : St} {f : Int → Int} {N e : Int} {R : List Int} {μ : St} (h : LPp P σ f N e R μ) : σ 1 12 = 14 := h.2.2.2.2.1
theorem LPp.n13 {P : Shp} {σ : St} {f : Int → Int} {N e : Int} {R : List Int} {μ : St} (h : LPp P σ f N e R μ) : σ 1 13 = 15 := h.2.2.2.2.2.1
theorem LPp.mm {P : Shp} {σ : St} {f : Int → Int} {N e : Int} {R : List Int} {μ : St} (h : LPp P σ f N e R μ) : ∀ o, o ≠ 1 → σ o = μ o := h.2.2.2.2.2.2
def PQ (μ : St) (t : Int → Int) (a b c : Int) : Prop :=
  (PP μ 3) ∧
  (μ 3 4 = a) ∧
  (μ 3 5 = b) ∧
  (μ 3 6 = c) ∧
  (μ 3 0 = t 3) ∧
  (μ 3 1 = 5) ∧
  (∀ i, 0 ≤ i → i < a → μ 4 i = t (7 + 8 * i) ∧ μ 5 i = t (7 + 8 * i + 1) ∧ μ 6 i = t (7 + 8 * i + 2) ∧ ∀ j, 0 ≤ j → j < t (7 + 8 * i + 2) → μ 7 (5 * i + j) = t (7 + 8 * i + 3 + j)) ∧
  (∀ i, 0 ≤ i → i < b → μ 8 i = t (55 + i) ∧ μ 9 i = t (63 + i)) ∧
  (∀ i, 0 ≤ i → i < c → μ 10 i = t (71 + 3 * i) ∧ μ 11 i = t (71 + 3 * i + 1) ∧ μ 12 i = t (71 + 3 * i + 2)) ∧
  (∀ i, 0 ≤ i → i < a → μ 13 i = 433 + i) ∧
  (∀ i, 0 ≤ i → i < b → μ 14 i = 109 + i) ∧
  (∀ i, 0 ≤ i → i < c → μ 15 i = 514 + i) ∧
  (∀ i, 0 ≤ i → i < a → t (7 + 8 * i + 2) ≤ 5)
theorem PQ.pp {μ : St} {t : Int → Int} {a b c : Int} (h : PQ μ t a b c) : PP μ 3 := h.1
theorem PQ.v4 {μ : St} {t : Int → Int} {a b c : Int} (h : PQ μ t a b c) : μ 3 4 = a := h.2.1
theorem PQ.v5 {μ : St} {t : Int → Int} {a b c : Int} (h : PQ μ t a b c) : μ 3 5 = b := h.2.2.1
theorem PQ.v6 {μ : St} {t : Int → Int} {a b c : Int} (h : PQ μ t a b c) : μ 3 6 = c := h.2.2.2.1
theorem PQ.v0 {μ : St} {t : Int → Int} {a b c : Int} (h : PQ μ t a b c) : μ 3 0 = t 3 := h.2.2.2.2.1
theorem PQ.v1 {μ : St} {t : Int → Int} {a b c : Int} (h : PQ μ t a b c) : μ 3 1 = 5 := h.2.2.2.2.2.1
theorem PQ.we {μ : St} {t : Int → Int} {a b c : Int} (h : PQ μ t a b c) : ∀ i, 0 ≤ i → i < a → μ 4 i = t (7 + 8 * i) ∧ μ 5 i = t (7 + 8 * i + 1) ∧ μ 6 i = t (7 + 8 * i + 2) ∧ ∀ j, 0 ≤ j → j < t (7 + 8 * i + 2) → μ 7 (5 * i + j) = t (7 + 8 * i + 3 + j) := h.2.2.2.2.2.2.1
theorem PQ.de {μ : St} {t : Int → Int} {a b c : Int} (h : PQ μ t a b c) : ∀ i, 0 ≤ i → i < b → μ 8 i = t (55 + i) ∧ μ 9 i = t (63 + i) := h.2.2.2.2.2.2.2.1
theorem PQ.st {μ : St} {t : Int → Int} {a b c : Int} (h : PQ μ t a b c) : ∀ i, 0 ≤ i → i < c → μ 10 i = t (71 + 3 * i) ∧ μ 11 i = t (71 + 3 * i + 1) ∧ μ 12 i = t (71 + 3 * i + 2) := h.2.2.2.2.2.2.2.2.1
theorem PQ.na {μ : St} {t : Int → Int} {a b c : Int} (h : PQ μ t a b c) : ∀ i, 0 ≤ i → i < a → μ 13 i = 433 + i := h.2.2.2.2.2.2.2.2.2.1
theorem PQ.nb {μ : St} {t : Int → Int} {a b c : Int} (h : PQ μ t a b c) : ∀ i, 0 ≤ i → i < b → μ 14 i = 109 + i := h.2.2.2.2.2.2.2.2.2.2.1
theorem PQ.nc {μ : St} {t : Int → Int} {a b c : Int} (h : PQ μ t a b c) : ∀ i, 0 ≤ i → i < c → μ 15 i = 514 + i := h.2.2.2.2.2.2.2.2.2.2.2.1
theorem PQ.p5 {μ : St} {t : Int → Int} {a b c : Int} (h : PQ μ t a b c) : ∀ i, 0 ≤ i → i < a → t (7 + 8 * i + 2) ≤ 5 := h.2.2.2.2.2.2.2.2.2.2.2.2
section ZR1
variable {P : Shp} {σ σ' σ1 σ2 s μ μ' : St} {f t g : Int → Int} {a b c d e i j k x y z v N cnt kd o : Int} {R w sp T : List Int} {n m r : Nat}
theorem LPp.sh (L : LPp P σ f N e R μ) : ShpIs P 279 PL := L.ct.rb.sh
theorem LPp.fm (L : LPp P σ f N e R μ) (h : ∀ j, (0 ≤ j ∧ j ≤ 6) ∨ j = 9 ∨ j = 11 ∨ j = 12 ∨ j = 13 → s 1 j = σ 1 j) (h2 : s 2 = σ 2) (hm : ∀ o, o ≠ 1 → s o = μ' o) : LPp P s f N e R μ' :=
  ⟨L.ct.fr (fun j a b => h j (by omega)) h2, L.at', by rw [h 9 (by omega)]; exact L.p9, by rw [h 11 (by omega)]; exact L.n11, by rw [h 12 (by omega)]; exact L.n12, by rw [h 13 (by omega)]; exact L.n13, hm⟩
theorem LPp.wrt (L : LPp P σ f N e R μ) (h1 : o ≠ 1) (h2 : o ≠ 2) : LPp P (wr σ o i v) f N e R (wr μ o i v) :=
  L.fm (fun j _ => wr_n (by omega)) (wr_o (by omega)) fun q hq => by
    by_cases c : q = o
    · subst c
      funext j
      by_cases w : j = i
      · subst w; rw [wr_s, wr_s]
      · rw [wr_i w, wr_i w, L.mm q hq]
    · rw [wr_o c, wr_o c]; exact L.mm q hq
theorem LPp.w10 (L : LPp P σ f N e R μ) : LPp P (wr σ 1 10 v) f N e R μ :=
  L.fm (fun j hj => wr_i (by omega)) (wr_o (by omega)) fun q hq => by rw [wr_o hq]; exact L.mm q hq
theorem LPp.adv (L : LPp P σ f N e R μ) (h : At f N (tE f N e) T) : ∃ σ', fX5_advance P σ 1 = some σ' ∧ LPp P σ' f N (tE f N e) T μ ∧ (∀ j, (j < 3 ∨ 6 < j) → σ' 1 j = σ 1 j) := by
  obtain ⟨σ', r, C, o2, j2⟩ := c_adv L.ct
  exact ⟨σ', r, ⟨C, h, by rw [j2 9 (by omega)]; exact L.p9, by rw [j2 11 (by omega)]; exact L.n11, by rw [j2 12 (by omega)]; exact L.n12, by rw [j2 13 (by omega)]; exact L.n13, fun o ho => by rw [o2 o ho]; exact L.mm o ho⟩, j2⟩
theorem LPp.semi (L : LPp P σ f N e ([59] ++ R) μ) : ∃ σ', fX5_takeSemicolon P σ 1 = some (1, σ') ∧ LPp P σ' f N (tE f N e) R μ ∧ (∀ j, (j < 3 ∨ 6 < j) → σ' 1 j = σ 1 j) := by
  obtain ⟨ht, ha⟩ := tk_s L.at'
  obtain ⟨σ', r, C, o2, j2⟩ := c_semi L.ct ht
  exact ⟨σ', r, ⟨C, ha, by rw [j2 9 (by omega)]; exact L.p9, by rw [j2 11 (by omega)]; exact L.n11, by rw [j2 12 (by omega)]; exact L.n12, by rw [j2 13 (by omega)]; exact L.n13, fun o ho => by rw [o2 o ho]; exact L.mm o ho⟩, j2⟩
theorem LPp.num (L : LPp P σ f N e (sp ++ (numT v ++ R)) μ) (hs : spc sp) (h0 : 0 ≤ v) (h1 : v < 100) (hR : ¬ isDg (gL R 0)) (hb : iR b = true) (ha : iR a = true) (h2 : a ≤ v) (h3 : v ≤ b) : fX5_isNumberWithin P σ 1 a b = some (1, σ) ∧ σ 1 6 = v ∧ At f N (tE f N e) R := by
  obtain ⟨q1, q2, q3⟩ := tk_n L.at' hs h0 h1 hR
  exact ⟨c_num1 L.ct q1 ha hb (by omega) (by omega), by rw [L.ct.vv (Or.inr q1), q3], q2⟩
theorem LPp.word (L : LPp P σ f N e (sp ++ (w ++ R)) μ) (hs : spc sp) (hw : ∀ i, 0 ≤ i → i < (w.length : Int) → isLt (gL w i)) (h1 : 1 ≤ w.length) (h8 : w.length ≤ 8) (hR : ¬ isLt (gL R 0)) : (∀ z, 0 ≤ -2 - z ∧ -2 - z < 10 → fX5_isWord P σ 1 z = some (if wdL w z = true then 1 else 0)) ∧ At f N (tE f N e) R ∧ tT f N e = 1 := by
  obtain ⟨q1, q2, q3, q4, q5⟩ := tk_w L.at' hs hw h1 h8 hR
  exact ⟨fun z hz => by rw [← q3 z]; exact c_isWord L.ct hz, q2, q1⟩
/-- a token that is no word -/
theorem LPp.nword (L : LPp P σ f N e R μ) (h : tT f N e ≠ 1) (hz : 0 ≤ -2 - z ∧ -2 - z < 10) : fX5_isWord P σ 1 z = some 0 := by
  have q := c_isWord L.ct hz
  rw [q]
  unfold wdB
  rw [decide_eq_false h, Bool.false_and, Bool.false_and]
  rfl
theorem fdI_no (h : ∀ j, 0 ≤ j → j < cnt → g j ≠ v) (h0 : 0 ≤ cnt) : fdI g v cnt = -1 := by
  rcases fdI_in (h := g) (v := v) h0 with q | q
  · exact q.1
  · exact absurd q.2.2 (h _ q.1 q.2.1)
theorem fdI_is (h0 : 0 ≤ x) (h1 : x < cnt) (h : ∀ j, 0 ≤ j → j < cnt → g j = y + j) : fdI g (y + x) cnt = x := by
  rcases fdI_in (h := g) (v := y + x) (show 0 ≤ cnt by omega) with q | q
  · exact absurd (h x h0 h1) (q.2 x h0 h1)
  · have := h _ q.1 q.2.1
    omega
/-- a name: its letter, and a letter more -/
def nmT (c k : Int) : List Int := [c, 97 + k]
theorem nm_lt (hc : isLt c) (h0 : 0 ≤ k) (h1 : k < 26) : ∀ i, 0 ≤ i → i < ((nmT c k).length : Int) → isLt (gL (nmT c k) i) := fun i i0 i1 => by
  have : i = 0 ∨ i = 1 := by
    have e : ((nmT c k).length : Int) = 2 := rfl
    omega
  rcases this with rfl | rfl
  · exact hc
  · show isLt (97 + k)
    unfold isLt
    omega
theorem nm_val (hc : isLt c) (h0 : 0 ≤ k) (h1 : k < 26) (hs : spc sp) (hR : ¬ isLt (gL R 0)) (h : At f N e (sp ++ (nmT c k ++ R))) : tT f N e = 1 ∧ tV f N e = 27 * (c - 96) + 1 + k ∧ At f N (tE f N e) R := by
  obtain ⟨q1, q2, q3, q4, q5⟩ := tk_w h hs (nm_lt hc h0 h1) (by show 1 ≤ 2; omega) (by show 2 ≤ 8; omega) hR
  refine ⟨q1, ?_, q2⟩
  rw [q4]
  have f0 := q5 0 (by omega) (by show (0 : Int) < 2; omega)
  have f1 := q5 1 (by omega) (by show (1 : Int) < 2; omega)
  show (0 * 27 + (f (e + (sp.length : Int) + ((0 : Nat) : Int)) - 96)) * 27 + (f (e + (sp.length : Int) + ((1 : Nat) : Int)) - 96) = _
  rw [show e + (sp.length : Int) + ((0 : Nat) : Int) = e + (sp.length : Int) + 0 from rfl, show e + (sp.length : Int) + ((1 : Nat) : Int) = e + (sp.length : Int) + 1 from rfl, f0, f1]
  show (0 * 27 + (c - 96)) * 27 + (97 + k - 96) = _
  omega
theorem LPp.newName (L : LPp P σ f N e (sp ++ (nmT c k ++ R)) μ) (hs : spc sp) (hc : isLt c) (hR : ¬ isLt (gL R 0)) (ho : o = 13 + kd) (hk : kd = 0 ∨ kd = 1 ∨ kd = 2) (h0 : 0 ≤ k) (h1 : k < 6) (hn : ∀ j, 0 ≤ j → j < k → μ o j = 27 * (c - 96) + 1 + j) : ∃ σ', fX5_takeNewName P σ 1 o k = some (1, σ') ∧ LPp P σ' f N (tE f N e) R (wr μ o k (27 * (c - 96) + 1 + k)) ∧ (∀ j, (j < 3 ∨ 6 < j) → σ' 1 j = σ 1 j) := by
  subst ho
  obtain ⟨q1, q2, q3⟩ := nm_val hc h0 (by omega) hs hR L.at'
  have sh := L.sh
  have hcc := hc
  unfold isLt at hcc
  have c6 : k < cpN kd := by unfold cpN; repeat' split <;> omega
  have mm := L.mm (13 + kd) (by omega)
  have vL : iL (tV f N e) = true := by rw [q2]; exact iL_t (by omega) (by omega)
  have ix := c_index (a := 13 + kd) (cnt := k) L.ct q1 hk rfl h0 (by omega) vL (fun j j0 j1 => by rw [mm, hn j j0 j1]; exact iL_t (by omega) (by omega))
  rw [fdI_no (fun j j0 j1 => by rw [mm, hn j j0 j1, q2]; omega) h0] at ix
  have s4 : σ 1 4 = 1 := by rw [L.ct.tt, q1]
  have s6 : σ 1 6 = 27 * (c - 96) + 1 + k := by rw [L.ct.vv (Or.inl q1), q2]
  have W := L.wrt (o := 13 + kd) (i := k) (v := 27 * (c - 96) + 1 + k) (by omega) (by omega)
  obtain ⟨σ', r, L2, j2⟩ := W.adv q3
  have hA : okA P 11 (13 + kd) k = true := nA sh hk h0 c6
  have hB : ∀ {β : Type} (K : Int → Option β), aL P 11 (13 + kd) K = K (cpN kd) := fun K => nL sh hk
  have r1 : ¬ (k < 0) := by omega
  have r2 : ¬ (cpN kd ≤ k) := by omega
  have r3 : iR (cpN kd) = true := by rcases hk with rfl | rfl | rfl <;> rfl
  refine ⟨σ', ?_, L2, fun j hj => by rw [j2 j hj, wr_n (by omega)]⟩
  simp (disch := first | omega | assumption | with_reducible rfl | fail) only [fX5_takeNewName, ↓z_lt, ↓z_ge, ↓z_gt, ↓z_le, ↓z_eq, ↓z_ne, ↓z_mx, ↓z_mn, ↓z_dv, ↓z_rm, ↓z_i2l, ↓z_lc, ↓z_sw, ↓z_sf, ↓z_sn, ↓z_bd, ↓z_nt, z_b0, z_b1, z_bi, z_bj, ↓z_gF, ↓z_gR, ↓z_pF, ↓z_pZ, ↓z_pR, ↓z_aI, ↓z_aR, ↓z_sI, ↓z_sZ, ↓z_on, z_cl, ↓reduceIte, Int.reduceEq, Int.reduceNeg, Int.reduceLT, Int.reduceLE, Int.reduceAdd, Int.reduceSub, Int.reduceMul, true_and, and_true, or_true, true_or, eq_self, iR_t, sO1 sh, s4, ↓e_g ix, r1, ↓hB, r2, r3, s6, hA, ↓e_g r]
theorem LPp.known (L : LPp P σ f N e (sp ++ (nmT 100 x ++ R)) μ) (hs : spc sp) (hR : ¬ isLt (gL R 0)) (h0 : 0 ≤ x) (h1 : x < b) (h8 : b ≤ 8) (hn : ∀ j, 0 ≤ j → j < b → μ 14 j = 109 + j) : fX5_indexOfWord P σ 1 14 b = some x ∧ At f N (tE f N e) R ∧ (μ 3 5 = b → fX5_isKnownDevice P σ 1 = some (1, σ)) := by
  have hc : isLt 100 := by unfold isLt; omega
  obtain ⟨q1, q2, q3⟩ := nm_val hc h0 (by omega) hs hR L.at'
  have sh := L.sh
  have mm := L.mm 14 (by omega)
  have vL : iL (tV f N e) = true := by rw [q2]; exact iL_t (by omega) (by omega)
  have ix := c_index (kd := 1) (a := 14) (cnt := b) L.ct q1 (by omega) rfl (by omega) (by show b ≤ 8; omega) vL (fun j j0 j1 => by rw [mm, hn j j0 j1]; exact iL_t (by omega) (by omega))
  rw [q2, show (27 : Int) * (100 - 96) + 1 + x = 109 + x by omega, fdI_is h0 h1 (fun j j0 j1 => by rw [mm]; exact hn j j0 j1)] at ix
  have s4 : σ 1 4 = 1 := by rw [L.ct.tt, q1]
  have p9 := L.p9
  have p12 := L.n12
  have x1 : ¬ (x = -1) := by omega
  refine ⟨ix, q3, fun h5 => ?_⟩
  have s35 : σ 3 5 = b := by rw [L.mm 3 (by omega)]; exact h5
  simp (disch := first | omega | assumption | (simp (disch := omega) only [ p9, p12, s35 ]; done) | fail) only [fX5_isKnownDevice, ↓z_lt, ↓z_ge, ↓z_gt, ↓z_le, ↓z_eq, ↓z_ne, ↓z_mx, ↓z_mn, ↓z_dv, ↓z_rm, ↓z_i2l, ↓z_lc, ↓z_sw, ↓z_sf, ↓z_sn, ↓z_bd, ↓z_nt, z_b0, z_b1, z_bi, z_bj, ↓z_gF, ↓z_gR, ↓z_pF, ↓z_pZ, ↓z_pR, ↓z_aI, ↓z_aR, ↓z_sI, ↓z_sZ, ↓z_on, z_cl, ↓reduceIte, Int.reduceEq, Int.reduceNeg, Int.reduceLT, Int.reduceLE, Int.reduceAdd, Int.reduceSub, Int.reduceMul, true_and, and_true, or_true, true_or, eq_self, iR_t, sO1 sh, sO3 sh, s4, p9, p12, s35, ↓e_g ix, x1]
end ZR1
